/-! more questions -/
theorem fin_l {M M0 : fw_M} (h : Inv M) {cl : Option (Int32 × fw_M)} {mo : fw_M → Option (Int32 × fw_M)} (v : Int32) (h0 : sm M M0) (hc : cl = some (nI 0, fw_up M0 386 0 v)) (hm : ∀ M2, sm M M2 → ∃ M6, mo M2 = some (v, M6) ∧ M6 378 6 = nI 0 ∧ sm M2 M6 ∧ M6 386 = M2 386) : ∃ M1, (bd_p cl fun k1 M2 => bd_p (mo M2) fun r5 M6 => bd_x (F_X9_thrown M6) fun r8 => if r8 = k1 then (if k1 = 0 then (if (lg_cmp ((M6 386 0).toInt64) ((r5 : Int32).toInt64)) = 0 then (some M6) else (none)) else (some M6)) else (none)) = some M1 ∧ Inv M1 := by
  have h1 : sm M (fw_up M0 386 0 v) := sm_386 h0
  obtain ⟨M6, a1, a2, a3, a4⟩ := hm _ h1
  rw [hc, bp_s, a1, bp_s]
  unfold F_X9_thrown
  rw [bx_s, a2, if_pos rfl, if_pos (show nI 0 = 0 from rfl), a4, up_e rfl rfl, if_pos (lc_0 rfl)]
  exact ⟨M6, rfl, h.sm (sm_t h1 a3)⟩
theorem fin_e {M M0 : fw_M} (h : Inv M) {cl : Option (Int32 × fw_M)} {mo : fw_M → Option (Int32 × fw_M)} (t : Nat) (ht : 0 < t ∧ t < 9) (h0 : sm M M0) (hc : cl = some (nI t, M0)) (hm : ∀ M2, sm M M2 → ∃ r M6, mo M2 = some (r, M6) ∧ M6 378 6 = nI t ∧ sm M2 M6) : ∃ M1, (bd_p cl fun k1 M2 => bd_p (mo M2) fun r5 M6 => bd_x (F_X9_thrown M6) fun r8 => if r8 = k1 then (if k1 = 0 then (if (lg_cmp ((M6 386 0).toInt64) ((r5 : Int32).toInt64)) = 0 then (some M6) else (none)) else (some M6)) else (none)) = some M1 ∧ Inv M1 := by
  obtain ⟨r, M6, a1, a2, a3⟩ := hm _ h0
  rw [hc, bp_s, a1, bp_s]
  unfold F_X9_thrown
  rw [bx_s, a2, if_pos rfl, if_neg (nI_ne0 ht.1 (by omega))]
  exact ⟨M6, rfl, h.sm (sm_t h0 a3)⟩
theorem fib_l {M M0 : fw_M} (h : Inv M) {cl : Option (Int32 × fw_M)} {mo : fw_M → Option (Int32 × fw_M)} (v : Nat) (hv : v = 0 ∨ v = 1) (h0 : sm M M0) (hc : cl = some (nI 0, fw_up M0 386 0 (nI v))) (hm : ∀ M2, sm M M2 → ∃ M6, mo M2 = some (nI v, M6) ∧ M6 378 6 = nI 0 ∧ sm M2 M6 ∧ M6 386 = M2 386) : ∃ M1, (bd_p cl fun k1 M2 => bd_p (mo M2) fun r5 M6 => bd_x (F_X9_thrown M6) fun r8 => if r8 = k1 then (if k1 = 0 then (if r5 = 0 then (if (lg_cmp ((M6 386 0).toInt64) ((0 : Int32).toInt64)) = 0 then (some M6) else (none)) else (if (lg_cmp ((M6 386 0).toInt64) ((1 : Int32).toInt64)) = 0 then (some M6) else (none))) else (some M6)) else (none)) = some M1 ∧ Inv M1 := by
  have h1 : sm M (fw_up M0 386 0 (nI v)) := sm_386 h0
  obtain ⟨M6, a1, a2, a3, a4⟩ := hm _ h1
  rw [hc, bp_s, a1, bp_s]
  unfold F_X9_thrown
  rw [bx_s, a2, if_pos rfl, if_pos (show nI 0 = 0 from rfl), a4, up_e rfl rfl]
  rcases hv with rfl | rfl
  · rw [if_pos (show nI 0 = 0 from rfl), if_pos (lc_0 (show nI 0 = 0 from rfl))]
    exact ⟨M6, rfl, h.sm (sm_t h1 a3)⟩
  · rw [if_neg (show ¬ nI 1 = 0 by decide), if_pos (lc_0 (show nI 1 = 1 from rfl))]
    exact ⟨M6, rfl, h.sm (sm_t h1 a3)⟩
theorem fib_e {M M0 : fw_M} (h : Inv M) {cl : Option (Int32 × fw_M)} {mo : fw_M → Option (Int32 × fw_M)} (t : Nat) (ht : 0 < t ∧ t < 9) (h0 : sm M M0) (hc : cl = some (nI t, M0)) (hm : ∀ M2, sm M M2 → ∃ r M6, mo M2 = some (r, M6) ∧ M6 378 6 = nI t ∧ sm M2 M6) : ∃ M1, (bd_p cl fun k1 M2 => bd_p (mo M2) fun r5 M6 => bd_x (F_X9_thrown M6) fun r8 => if r8 = k1 then (if k1 = 0 then (if r5 = 0 then (if (lg_cmp ((M6 386 0).toInt64) ((0 : Int32).toInt64)) = 0 then (some M6) else (none)) else (if (lg_cmp ((M6 386 0).toInt64) ((1 : Int32).toInt64)) = 0 then (some M6) else (none))) else (some M6)) else (none)) = some M1 ∧ Inv M1 := by
  obtain ⟨r, M6, a1, a2, a3⟩ := hm _ h0
  rw [hc, bp_s, a1, bp_s]
  unfold F_X9_thrown
  rw [bx_s, a2, if_pos rfl, if_neg (nI_ne0 ht.1 (by omega))]
  exact ⟨M6, rfl, h.sm (sm_t h0 a3)⟩
theorem Sm.sm {M M1 : fw_M} {s : Nat → Int32} (h : Sm M s) (q : sm M M1) : Sm M1 s := fun j hj => (q.2.2.2.1 j hj).trans (h j hj)
theorem Sm.u {M : fw_M} {s : Nat → Int32} {k j : Nat} {x : Int32} (h : Sm M s) (hk : k ≠ 379) : Sm (fw_up M k j x) s := fun i hi => (congrFun (up_n1 (Ne.symm hk)) i).trans (h i hi)
theorem th_1 {M : fw_M} : F_X9_isThere M (nI 1) = some (nI 1, fw_up M 378 6 (nI 0)) := rfl
theorem th_0 {M : fw_M} : F_X9_isThere M (nI 0) = some (nI 0, fw_up M 378 6 (nI 1)) := rfl
theorem wb_1 {M : fw_M} {es : List Nat} {v : Nat} (h : v = 0 ∨ v = 1) : wr_b (some (.inl (nI v), M)) es = some (nI 0, fw_up M 386 0 (nI v)) := by
  rcases h with rfl | rfl <;> rfl
theorem b01 {v : Nat} (h : v = 0 ∨ v = 1) : nI v = 0 ∨ nI v = 1 := by
  rcases h with rfl | rfl
  · exact Or.inl rfl
  · exact Or.inr rfl
/-- what a question of the model leaves -/
theorem lv_0 {M : fw_M} {v : Int32} : ∃ M6, some (v, fw_up M 378 6 (nI 0)) = some (v, M6) ∧ M6 378 6 = nI 0 ∧ sm M M6 ∧ M6 386 = M 386 := ⟨_, rfl, up_e rfl rfl, sm_378 sm_0, up_n1 (by omega)⟩
theorem lv_e {M : fw_M} {v : Int32} {t : Nat} : ∃ r M6, some (v, fw_up M 378 6 (nI t)) = some (r, M6) ∧ M6 378 6 = nI t ∧ sm M M6 := ⟨v, _, rfl, up_e rfl rfl, sm_378 sm_0⟩
theorem q_5 {M : fw_M} (h : Inv M) (xs : Nat → Int32) (i : Int32) : ∃ M1, F_cs_5 M xs i = some M1 ∧ Inv M1 := by
  have hI := h
  obtain ⟨⟨s, hk, hR, hS⟩, -⟩ := h
  have hk0 := hk
  obtain ⟨⟨⟨c0, b0⟩, ⟨c1, b1⟩, ⟨c2, b2⟩, ⟨c3, b3⟩, c4, b4⟩, oz, ol, os, od, ot, op, oq⟩ := hk
  obtain ⟨⟨r0, -⟩, -⟩ := R0 hR
  unfold F_cs_5
  generalize xs (i + 1).toNatClampNeg = a
  rcases px_o a (n := sv s 0) (by omega) with ⟨k, hkk, rfl⟩ | ho
  · obtain ⟨e, q1, q2, q3⟩ := ie_c hk0 hR (a := nI k)
    refine fib_l hI e q2 sm_0 ?_ (fun M2 h2 => ?_)
    · unfold F_L_isTerminus F_X8_isTerminus
      rw [rt_Stop hkk (by omega) (r0.trans c0), bt_l, q1, bx_s, if_pos (b01 q2), wb_1 q2]
    · have hS2 := hS.sm h2
      obtain ⟨e1, w1, w2, w3⟩ := ie_m (M := fw_up M2 378 6 (nI 0)) hk0 (fun j hj => (hS2.u (by omega)) j (by omega)) (a := nI k)
      have ee := bool_eq w2 w3 q2 q3
      rw [ee] at w1
      unfold F_X9_isTerminus
      rw [it_Stop hkk (by omega) ((hS2 0 (by omega)).trans c0), bx_s, th_1, bp_s, if_neg (show ¬ nI 1 = 0 by decide), w1, bx_s]
      rcases q2 with rfl | rfl
      · rw [if_pos (show nI 0 = 0 from rfl)]
        exact lv_0
      · rw [if_neg (show ¬ nI 1 = 0 by decide)]
        exact lv_0
  · refine fib_e hI 1 (by omega) sm_0 ?_ (fun M2 h2 => ?_)
    · unfold F_L_isTerminus F_X8_isTerminus
      rw [rq_Stop ho (r0.trans c0)]
      rfl
    · unfold F_X9_isTerminus
      rw [is_Stop ho (by omega) (((hS.sm h2) 0 (by omega)).trans c0), bx_s, th_0, bp_s, if_pos (show nI 0 = 0 from rfl)]
      exact lv_e
theorem q_8 {M : fw_M} (h : Inv M) (xs : Nat → Int32) (i : Int32) : ∃ M1, F_cs_8 M xs i = some M1 ∧ Inv M1 := by
  have hI := h
  obtain ⟨⟨s, hk, hR, hS⟩, -⟩ := h
  have hk0 := hk
  obtain ⟨⟨⟨c0, b0⟩, ⟨c1, b1⟩, ⟨c2, b2⟩, ⟨c3, b3⟩, c4, b4⟩, oz, ol, os, od, ot, op, oq⟩ := hk
  obtain ⟨⟨r0, r1, -⟩, -, rl, rs, -⟩ := R0 hR
  unfold F_cs_8
  generalize xs (i + 1).toNatClampNeg = a
  generalize xs (i + 2).toNatClampNeg = b
  rcases px_o a (n := sv s 1) (by omega) with ⟨l, hl, rfl⟩ | ho
  · obtain ⟨l1, l6, -⟩ := ol l (by omega)
    have g1 : fw_ri M 3 (nI l) = nI (sv s (16 + 7 * l)) := by rw [fw_ri, nI_clamp (by omega)]; exact (rl l (by omega)).1.trans l1
    rcases px_o b (n := sv s (16 + 7 * l)) (by omega) with ⟨p, hp, rfl⟩ | hob
    · have g2 : fw_ri M (1 + 4 + (nI l).toNatClampNeg) (nI p) = s (16 + 7 * l + 1 + p) := by
        rw [fw_ri, nI_clamp (by omega), nI_clamp (by omega)]
        exact rs l p (by omega) (by omega)
      refine fin_l hI (s (16 + 7 * l + 1 + p)) sm_0 ?_ (fun M2 h2 => ?_)
      · unfold F_L_stopAt F_X8_stopAt
        rw [rt_Line hl (by omega) (r1.trans c1), bt_l, if_neg (show ¬ nI p < 0 from nI_pos (by omega)), if_pos (nI_in (by omega) (by omega)), g1, if_pos (nI_lt hp (by omega)), if_pos (nI_in (by omega) (by omega)), g2, wl_s]
      · have hS2 := hS.sm h2
        unfold F_X9_stopAt
        have e1 : F_X9_in M2 (nI p) 0 (nI (sv s (16 + 7 * l)) - 1) = some (nI 1) := by
          unfold F_X9_in
          rw [show nI (sv s (16 + 7 * l)) - 1 = nI (sv s (16 + 7 * l) - 1) from pk_sub (a := sv s (16 + 7 * l)) (b := 1) (by omega), if_neg (show ¬ nI p < 0 from nI_pos (by omega)), if_neg (nI_nlt (by omega) (by omega))]
          rfl
        rw [it_Line hl (by omega) ((hS2 1 (by omega)).trans c1), bx_s, if_pos (show ¬ nI 1 = 0 by decide), lenM hk0 hS2 (by omega), bx_s, e1, bx_s, if_neg (show ¬ nI 1 = 0 by decide), lx_s, up_e rfl rfl, if_pos (show (0 : Int32) ≤ 0 by decide), stM (hS2.u (by omega)) (by omega) (by omega), bx_s]
        exact lv_0
    · refine fin_e hI 2 (by omega) sm_0 ?_ (fun M2 h2 => ?_)
      · unfold F_L_stopAt F_X8_stopAt
        rw [rt_Line hl (by omega) (r1.trans c1), bt_l]
        rcases hob with hob | hob
        · rw [if_pos (show b < 0 from hob)]
          rfl
        · by_cases hb0 : b < 0
          · rw [if_pos hb0]
            rfl
          · have hnl : ¬ b < nI (sv s (16 + 7 * l)) := fun q => by
              rw [Int32.lt_iff_toInt_lt] at q
              rw [Int32.le_iff_toInt_le] at hob
              omega
            rw [if_neg hb0, if_pos (nI_in (by omega) (by omega)), g1, if_neg hnl]
            rfl
      · have hS2 := hS.sm h2
        unfold F_X9_stopAt
        have e1 : F_X9_in M2 b 0 (nI (sv s (16 + 7 * l)) - 1) = some (nI 0) := in_f hob (by omega) rfl rfl
        rw [it_Line hl (by omega) ((hS2 1 (by omega)).trans c1), bx_s, if_pos (show ¬ nI 1 = 0 by decide), lenM hk0 hS2 (by omega), bx_s, e1, bx_s, if_pos (show nI 0 = 0 from rfl), lx_s, up_e rfl rfl, if_neg (show ¬ (2 : Int32) ≤ 0 by decide)]
        exact lv_e
  · refine fin_e hI 1 (by omega) sm_0 ?_ (fun M2 h2 => ?_)
    · unfold F_L_stopAt F_X8_stopAt
      rw [rq_Line ho (r1.trans c1)]
      rfl
    · unfold F_X9_stopAt F_X9_fails
      rw [is_Line ho (by omega) (((hS.sm h2) 1 (by omega)).trans c1), bx_s, if_neg (show ¬ ¬ nI 0 = 0 from fun q => q rfl), lx_s, bp_s]
      exact lv_e
/-! common stops: two ways to count -/
theorem bcn_ct : ∀ m, m < 1024 → F_J6_bitCount_0f7a4 fz (nI m) = some (nI (fb_ct (fun i => m.testBit i) 10)) := by decide +kernel
theorem bcn_eq {m : Nat} (h : m < 1024) : bcn m = nI (fb_ct (fun i => m.testBit i) 10) := by
  unfold bcn
  rw [bcn_ct m h]
  rfl
theorem ct_bs {f : Nat → Nat} {m : Nat} : ∀ n, (∀ p, p < n → f p < 10) → (∀ p q, p < q → q < n → f p ≠ f q) → fb_ct (fun i => (bs f n &&& m).testBit i) 10 = fb_ct (fun p => m.testBit (f p)) n := by
  intro n
  induction n with
  | zero =>
    intro _ _
    show fb_ct (fun i => (0 &&& m).testBit i) 10 = 0
    rw [fb_ct_zero]
    intro k _
    rw [Nat.zero_and, Nat.zero_testBit]
  | succ n ih =>
    intro h1 h2
    have ih := ih (fun p hp => h1 p (by omega)) (fun p q hp hq => h2 p q hp (by omega))
    have hno : (bs f n &&& m).testBit (f n) = false := by
      rw [Nat.testBit_and, Bool.and_eq_false_iff]
      left
      rw [Bool.eq_false_iff]
      intro q
      obtain ⟨k, hk, e⟩ := (bs_mem f (f n) n).mp q
      exact h2 k n hk (by omega) e
    have h3 := fb_ct_upd (fun i => (bs f n &&& m).testBit i) (m.testBit (f n)) (i := f n) (n := 10) (h1 n (by omega))
    have h4 : fb_ct (fun i => (bs f (n + 1) &&& m).testBit i) 10 = fb_ct (fun k => if k = f n then m.testBit (f n) else (bs f n &&& m).testBit k) 10 := fb_ct_cong (fun k hk => by
      show ((bs f n ||| 2 ^ f n) &&& m).testBit k = _
      rw [Nat.testBit_and, Nat.testBit_or, Nat.testBit_two_pow]
      by_cases e : k = f n
      · subst e
        rw [if_pos rfl, decide_eq_true rfl, Bool.or_true, Bool.true_and]
      · rw [if_neg e, Nat.testBit_and, decide_eq_false (fun q => e q.symm), Bool.or_false])
    rw [fb_ct_succ (fun p => m.testBit (f p)) n, ← ih, h4]
    simp only [hno, Bool.false_eq_true, if_false, Nat.add_zero] at h3
    exact h3
theorem cst_33 {M : fw_M} {s : Nat → Int32} (hk : ok s) (hS : Sm M s) {l l2 : Nat} (hl : l < 5) (hl2 : l2 < 5) : ∀ (r n p c : Nat), p + r = sv s (16 + 7 * l) → r < n → c = fb_ct (fun q => (lset s l2).testBit (sv s (16 + 7 * l + 1 + q))) p → F_X9_commonStops_33 (nI l) (nI l2) n (nI c) (nI p) M = some (nI (fb_ct (fun q => (lset s l2).testBit (sv s (16 + 7 * l + 1 + q))) (sv s (16 + 7 * l))), M) := by
  have l6 := (hk.2.2.1 l hl).2.1
  have b0 := hk.1.1.2
  intro r
  induction r with
  | zero =>
    intro n p c h1 h2 h3
    obtain ⟨n, rfl⟩ : ∃ x, n = x + 1 := ⟨n - 1, by omega⟩
    rw [F_X9_commonStops_33, lenM hk hS hl, bx_s, if_pos (nI_le (by omega) (by omega)), h3]
    obtain rfl : p = sv s (16 + 7 * l) := by omega
    rfl
  | succ r ih =>
    intro n p c h1 h2 h3
    obtain ⟨n, rfl⟩ : ∃ x, n = x + 1 := ⟨n - 1, by omega⟩
    obtain ⟨s1, s2⟩ := hk.2.2.2.1 l p hl (by omega)
    rw [F_X9_commonStops_33, lenM hk hS hl, bx_s, if_neg (nI_ge (by omega) (by omega)), stM hS hl (by omega), bx_s, s1, nI_1]
    rcases on_line hk (l := l2) (k := sv s (16 + 7 * l + 1 + p)) hl2 (by omega) with ⟨q, hq, e⟩ | hno
    · have e1 := pos_some hk hS hl2 hq
      have l62 := (hk.2.2.1 l2 hl2).2.1
      rw [e] at e1
      rw [e1, bx_s, if_neg (show ¬ nI q < 0 from nI_pos (by omega)), nI_1]
      refine ih n (p + 1) (c + 1) (by omega) (by omega) ?_
      rw [fb_ct_succ, ← h3, if_pos (lset_t.mpr ⟨q, hq, e⟩)]
    · rw [pos_none hk hS hl2 hno, bx_s, if_pos (show mI < 0 by decide), show (0 : Int32) = nI 0 from rfl, nI_add, Nat.add_zero]
      refine ih n (p + 1) c (by omega) (by omega) ?_
      rw [fb_ct_succ, ← h3, if_neg, Nat.add_zero]
      intro q
      obtain ⟨x, hx, e⟩ := lset_t.mp q
      have := (hk.2.2.2.1 l2 x hl2 hx).1
      rw [e] at this
      exact hno x hx this
theorem q_9 {M : fw_M} (h : Inv M) (xs : Nat → Int32) (i : Int32) : ∃ M1, F_cs_9 M xs i = some M1 ∧ Inv M1 := by
  have hI := h
  obtain ⟨⟨s, hk, hR, hS⟩, -⟩ := h
  have hk0 := hk
  obtain ⟨⟨⟨c0, b0⟩, ⟨c1, b1⟩, ⟨c2, b2⟩, ⟨c3, b3⟩, c4, b4⟩, oz, ol, os, od, ot, op, oq⟩ := hk
  obtain ⟨⟨r0, r1, -⟩, -, rl, rs, -⟩ := R0 hR
  unfold F_cs_9
  generalize xs (i + 1).toNatClampNeg = a
  generalize xs (i + 2).toNatClampNeg = b
  rcases px_o a (n := sv s 1) (by omega) with ⟨l, hl, rfl⟩ | ho
  · rcases px_o b (n := sv s 1) (by omega) with ⟨l2, hl2, rfl⟩ | hob
    · have g1 : fw_ri M 10 (nI l) = nI (lset s l) := by rw [fw_ri, nI_clamp (by omega)]; exact (rl l (by omega)).2
      have g2 : fw_ri M 10 (nI l2) = nI (lset s l2) := by rw [fw_ri, nI_clamp (by omega)]; exact (rl l2 (by omega)).2
      have b1024 : lset s l &&& lset s l2 < 1024 := Nat.lt_of_le_of_lt Nat.and_le_left (lset_lt hk0 (by omega))
      have hcount : bcn (lset s l &&& lset s l2) = nI (fb_ct (fun q => (lset s l2).testBit (sv s (16 + 7 * l + 1 + q))) (sv s (16 + 7 * l))) := by
        rw [bcn_eq b1024]
        congr 1
        exact ct_bs _ (fun p hp => by have := (os l p (by omega) hp).2; omega) (fun p q hp hq => od l p q (by omega) hp hq)
      refine fin_l hI (bcn (lset s l &&& lset s l2)) sm_0 ?_ (fun M2 h2 => ?_)
      · unfold F_L_commonStops F_X8_commonStops
        rw [rt_Line hl (by omega) (r1.trans c1), bt_l, rt_Line hl2 (by omega) (r1.trans c1), bt_l, if_pos (nI_in (by omega) (by omega)), if_pos (nI_in (by omega) (by omega)), g1, g2, fa_and, bc_c b1024, bx_s, wl_s]
      · have hS2 := hS.sm h2
        have w := cst_33 (M := fw_up M2 378 6 (nI 0)) hk0 (hS2.u (by omega)) (l := l) (l2 := l2) (by omega) (by omega) (sv s (16 + 7 * l)) 64 0 0 (by omega) (by have := (ol l (by omega)).2.1; omega) rfl
        have w' : F_X9_commonStops_33 (nI l) (nI l2) 64 0 0 (fw_up M2 378 6 (nI 0)) = some (bcn (lset s l &&& lset s l2), fw_up M2 378 6 (nI 0)) := by rw [hcount]; exact w
        unfold F_X9_commonStops
        rw [it_Line hl (by omega) ((hS2 1 (by omega)).trans c1), bx_s, if_neg (show ¬ nI 1 = 0 by decide), it_Line hl2 (by omega) ((hS2 1 (by omega)).trans c1), bx_s, if_neg (show ¬ nI 1 = 0 by decide), show (1 : Int32) = nI 1 from rfl, th_1, bp_s, if_neg (show ¬ nI 1 = 0 by decide), w']
        exact lv_0
    · refine fin_e hI 1 (by omega) sm_0 ?_ (fun M2 h2 => ?_)
      · unfold F_L_commonStops F_X8_commonStops
        rw [rt_Line hl (by omega) (r1.trans c1), bt_l, rq_Line hob (r1.trans c1)]
        rfl
      · have hS2 := hS.sm h2
        unfold F_X9_commonStops
        rw [it_Line hl (by omega) ((hS2 1 (by omega)).trans c1), bx_s, if_neg (show ¬ nI 1 = 0 by decide), is_Line hob (by omega) ((hS2 1 (by omega)).trans c1), bx_s, if_pos (show nI 0 = 0 from rfl), show (0 : Int32) = nI 0 from rfl, th_0, bp_s, if_pos (show nI 0 = nI 0 from rfl)]
        exact lv_e
  · refine fin_e hI 1 (by omega) sm_0 ?_ (fun M2 h2 => ?_)
    · unfold F_L_commonStops F_X8_commonStops
      rw [rq_Line ho (r1.trans c1)]
      rfl
    · have hS2 := hS.sm h2
      unfold F_X9_commonStops
      rw [is_Line ho (by omega) ((hS2 1 (by omega)).trans c1), bx_s, if_pos (show nI 0 = 0 from rfl), show (0 : Int32) = nI 0 from rfl, th_0, bp_s, if_pos (show nI 0 = nI 0 from rfl)]
      exact lv_e
/-! crowds -/
def cw (s : Nat → Int32) (a : Int32) (n : Nat) : Nat := fb_ct (fun p => decide (s (69 + 6 * p + 1) = a)) n
theorem cw_c {M : fw_M} {s : Nat → Int32} (hk : ok s) (hR : R M 0 s) (a : Int32) : F_X6_countOn M 15 a = some (nI (cw s a (sv s 3))) := by
  obtain ⟨c3, b3⟩ := hk.1.2.2.2.1
  obtain ⟨⟨-, -, -, r3, -⟩, -, -, -, -, -, rp, -⟩ := R0 hR
  have key : ∀ (r n p : Nat), p + r = sv s 3 → r < n → F_X6_countOn_4 M 15 a n (nI (cw s a p)) (nI p) = some (nI (cw s a (sv s 3))) := by
    intro r
    induction r with
    | zero =>
      intro n p h1 h2
      obtain ⟨n, rfl⟩ : ∃ x, n = x + 1 := ⟨n - 1, by omega⟩
      obtain rfl : p = sv s 3 := by omega
      rw [F_X6_countOn_4, r3, c3, if_pos (nI_le (by omega) (by omega))]
    | succ r ih =>
      intro n p h1 h2
      obtain ⟨n, rfl⟩ : ∃ x, n = x + 1 := ⟨n - 1, by omega⟩
      have g : fw_ri M (15 + 2) (nI p) = s (69 + 6 * p + 1) := by rw [fw_ri, nI_clamp (by omega)]; exact (rp p (by omega)).2.1
      have ih := ih n (p + 1) (by omega) (by omega)
      rw [F_X6_countOn_4, r3, c3, if_neg (nI_ge (by omega) (by omega)), if_pos (nI_in (by omega) (by omega)), g, nI_1, nI_1]
      by_cases e : s (69 + 6 * p + 1) = a
      · rw [if_neg (show ¬ ¬ s (69 + 6 * p + 1) = a from fun q => q e)]
        rw [show cw s a (p + 1) = cw s a p + 1 by unfold cw; rw [fb_ct_succ, if_pos (decide_eq_true e)]] at ih
        exact ih
      · rw [if_pos (show ¬ s (69 + 6 * p + 1) = a from e)]
        rw [show cw s a (p + 1) = cw s a p by unfold cw; rw [fb_ct_succ, if_neg (by rw [decide_eq_true_iff]; exact e), Nat.add_zero]] at ih
        exact ih
  exact key (sv s 3) 64 0 (by omega) (by omega)
