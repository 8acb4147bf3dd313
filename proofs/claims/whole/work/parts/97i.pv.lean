/-! what is written, and read -/
def ltx (s : Nat → Int32) (l : Nat) : Nat → Nat → wT → wT
  | 0, _, x => x
  | r + 1, p, x => ltx s l r (p + 1) (apn (if p = 0 then x else apc x 45) (sv s (16 + 7 * l + 1 + p)))
theorem ltx_c {s : Nat → Int32} (hk : ok s) {l : Nat} (hl : l < 5) : ∀ (r n p : Nat) (x : wT) (M : fw_M), p + r = sv s (16 + 7 * l) → r < n → R M 0 s → WC M x → x.2 ≤ 2 * p → ∃ M1, F_X8_writeLine_15 (nI l) n (nI p) M = some (.inl (nI (ltx s l r p x).2), M1) ∧ WC M1 (ltx s l r p x) ∧ fC M M1 ∧ (ltx s l r p x).2 ≤ 2 * sv s (16 + 7 * l) := by
  obtain ⟨l1, l6, -⟩ := hk.2.2.1 l hl
  have b0 := hk.1.1.2
  intro r
  induction r with
  | zero =>
    intro n p x M h1 h2 hR hW hx
    obtain ⟨n, rfl⟩ : ∃ x, n = x + 1 := ⟨n - 1, by omega⟩
    obtain ⟨-, -, rl, -⟩ := R0 hR
    have g : fw_ri M 3 (nI l) = nI (sv s (16 + 7 * l)) := by rw [fw_ri, nI_clamp (by omega)]; exact (rl l hl).1.trans l1
    rw [F_X8_writeLine_15, if_pos (nI_in hl (by omega)), g, if_pos (nI_le (by omega) (by omega))]
    unfold F_J4_length_8abf5 F_J5_length_8abf5
    rw [bx_s, bx_s, hW.2.2.2.2.2.1]
    exact ⟨M, rfl, hW, fun _ _ _ => rfl, by show x.2 ≤ _; omega⟩
  | succ r ih =>
    intro n p x M h1 h2 hR hW hx
    obtain ⟨n, rfl⟩ : ∃ x, n = x + 1 := ⟨n - 1, by omega⟩
    obtain ⟨-, -, rl, rs, -⟩ := R0 hR
    obtain ⟨s1, s2⟩ := hk.2.2.2.1 l p hl (by omega)
    have g : fw_ri M 3 (nI l) = nI (sv s (16 + 7 * l)) := by rw [fw_ri, nI_clamp (by omega)]; exact (rl l hl).1.trans l1
    have gs : ∀ M1, fC M M1 → fw_ri M1 (1 + 4 + (nI l).toNatClampNeg) (nI p) = nI (sv s (16 + 7 * l + 1 + p)) := fun M1 hC => by
      rw [fw_ri, nI_clamp (by omega), nI_clamp (by omega), hC _ (by omega) (by omega)]
      exact (rs l p hl (by omega)).trans s1
    rw [F_X8_writeLine_15, if_pos (nI_in hl (by omega)), g, if_neg (nI_ge (by omega) (by omega)), ltx]
    by_cases h0 : p = 0
    · subst h0
      rw [if_pos (show nI 0 ≤ 0 by decide), if_pos (nI_in (by omega) (by omega)), gs M (fun _ _ _ => rfl), if_pos rfl]
      obtain ⟨A, a1, a2, a3⟩ := apn_c hW (v := sv s (16 + 7 * l + 1 + 0)) (by omega) (by omega)
      have ha := (apn_2 (x := x) (v := sv s (16 + 7 * l + 1 + 0))).2.2 (by omega)
      rw [a1, bx_s, nI_1]
      obtain ⟨B, d1, d2, d3, d4⟩ := ih n (0 + 1) _ A (by omega) (by omega) (hR.cong (fun k _ h => a3 k (by omega) (by omega))) a2 (by omega)
      exact ⟨B, d1, d2, a3.t d3, d4⟩
    · rw [if_neg (show ¬ nI p ≤ 0 from nI_nle (by omega) (by omega)), if_neg h0]
      obtain ⟨A0, e1, e2, e3⟩ := apc_c hW (c := 45) (by omega) (by omega)
      have e1' : F_J4_append_cf468 M 45 = some A0 := e1
      rw [e1', bx_s, if_pos (nI_in (by omega) (by omega)), gs A0 e3]
      have ec : (apc x 45).2 = x.2 + 1 := rfl
      obtain ⟨A, a1, a2, a3⟩ := apn_c e2 (v := sv s (16 + 7 * l + 1 + p)) (by omega) (by omega)
      have ha := (apn_2 (x := apc x 45) (v := sv s (16 + 7 * l + 1 + p))).2.2 (by omega)
      rw [a1, bx_s, nI_1]
      obtain ⟨B, d1, d2, d3, d4⟩ := ih n (p + 1) _ A (by omega) (by omega) (hR.cong (fun k _ h => (e3.t a3) k (by omega) (by omega))) a2 (by omega)
      exact ⟨B, d1, d2, (e3.t a3).t d3, d4⟩
theorem ltx_m {s : Nat → Int32} (hk : ok s) {l : Nat} (hl : l < 5) : ∀ (r n p : Nat) (x : wT) (M : fw_M), p + r = sv s (16 + 7 * l) → r < n → Sm M s → WM M x → x.2 ≤ 2 * p → ∃ M1, F_X9_writeLine_21 (nI l) n (nI p) M = some (nI (ltx s l r p x).2, M1) ∧ WM M1 (ltx s l r p x) ∧ fM M M1 := by
  obtain ⟨l1, l6, -⟩ := hk.2.2.1 l hl
  have b0 := hk.1.1.2
  intro r
  induction r with
  | zero =>
    intro n p x M h1 h2 hS hW hx
    obtain ⟨n, rfl⟩ : ∃ x, n = x + 1 := ⟨n - 1, by omega⟩
    rw [F_X9_writeLine_21, lenM hk hS hl, bx_s, if_pos (nI_le (by omega) (by omega)), hW.1]
    exact ⟨M, rfl, hW, fM.r⟩
  | succ r ih =>
    intro n p x M h1 h2 hS hW hx
    obtain ⟨n, rfl⟩ : ∃ x, n = x + 1 := ⟨n - 1, by omega⟩
    obtain ⟨s1, s2⟩ := hk.2.2.2.1 l p hl (by omega)
    rw [F_X9_writeLine_21, lenM hk hS hl, bx_s, if_neg (nI_ge (by omega) (by omega)), ltx]
    by_cases h0 : p = 0
    · subst h0
      rw [if_pos (show nI 0 ≤ 0 by decide), stM hS hl (by omega), bx_s, s1, if_pos rfl]
      obtain ⟨A, a1, a2, a3⟩ := apn_m hW (v := sv s (16 + 7 * l + 1 + 0)) (by omega) (by omega)
      have ha := (apn_2 (x := x) (v := sv s (16 + 7 * l + 1 + 0))).2.2 (by omega)
      rw [a1, bx_s, nI_1]
      obtain ⟨B, d1, d2, d3⟩ := ih n (0 + 1) _ A (by omega) (by omega) (fun j hj => by rw [a3.1 379 (by omega) (by omega)]; exact hS j hj) a2 (by omega)
      exact ⟨B, d1, d2, a3.t d3⟩
    · rw [if_neg (show ¬ nI p ≤ 0 from nI_nle (by omega) (by omega)), if_neg h0]
      obtain ⟨A0, e1, e2, e3⟩ := apc_m hW (c := 45) (by omega) (by omega)
      have e1' : F_X9_says M 45 = some A0 := e1
      have hS0 : Sm A0 s := fun j hj => by rw [e3.1 379 (by omega) (by omega)]; exact hS j hj
      rw [e1', bx_s, stM hS0 hl (by omega), bx_s, s1]
      have ec : (apc x 45).2 = x.2 + 1 := rfl
      obtain ⟨A, a1, a2, a3⟩ := apn_m e2 (v := sv s (16 + 7 * l + 1 + p)) (by omega) (by omega)
      have ha := (apn_2 (x := apc x 45) (v := sv s (16 + 7 * l + 1 + p))).2.2 (by omega)
      rw [a1, bx_s, nI_1]
      obtain ⟨B, d1, d2, d3⟩ := ih n (p + 1) _ A (by omega) (by omega) (fun j hj => by rw [a3.1 379 (by omega) (by omega)]; exact hS0 j hj) a2 (by omega)
      exact ⟨B, d1, d2, (e3.t a3).t d3⟩
/-- only what is written has changed -/
theorem Inv.tx {M C : fw_M} (h : Inv M) (g : ∀ k, k ≠ 376 → k ≠ 377 → k ≠ 378 → k ≠ 383 → k ≠ 386 → C k = M k) (gj : ∀ j, j ≠ 6 → j ≠ 8 → C 378 j = M 378 j) (hw : Wr C) : Inv C := by
  obtain ⟨⟨s, hk, hR, hS⟩, hSv, hHi, hTx, hEr, hWr⟩ := h
  refine ⟨⟨s, hk, hR.cong (fun k _ h => g k (by omega) (by omega) (by omega) (by omega) (by omega)), fun j hj => by rw [g 379 (by omega) (by omega) (by omega) (by omega) (by omega)]; exact hS j hj⟩, ?_, ?_, ?_, ?_, hw⟩
  · exact hSv.cong (by rw [g 352 (by omega) (by omega) (by omega) (by omega) (by omega)]) (gj 3 (by omega) (by omega)) (fun k x y => g k (by omega) (by omega) (by omega) (by omega) (by omega)) (fun j _ => by rw [g 381 (by omega) (by omega) (by omega) (by omega) (by omega)])
  · exact hHi.cong (g 353 (by omega) (by omega) (by omega) (by omega) (by omega)) (fun k x y => g k (by omega) (by omega) (by omega) (by omega) (by omega)) (gj 5 (by omega) (by omega)) (g 382 (by omega) (by omega) (by omega) (by omega) (by omega))
  · exact hTx.cong (by rw [g 360 (by omega) (by omega) (by omega) (by omega) (by omega)]) (g 361 (by omega) (by omega) (by omega) (by omega) (by omega)) (gj 10 (by omega) (by omega)) (g 384 (by omega) (by omega) (by omega) (by omega) (by omega))
  · exact hEr.cong (by rw [g 352 (by omega) (by omega) (by omega) (by omega) (by omega)]) (by rw [g 352 (by omega) (by omega) (by omega) (by omega) (by omega)]) (gj 13 (by omega) (by omega)) (gj 14 (by omega) (by omega))
/-- both have written alike -/
theorem fin_w {M B : fw_M} (h : Inv M) {cl : Option (Int32 × fw_M)} {mo : fw_M → Option (Int32 × fw_M)} {x : wT} (hx : x.2 ≤ 40) (hB : WC B x) (hf : fC M B) (hc : cl = some (nI 0, fw_up B 386 0 (nI x.2))) (hm : ∀ M2, sm M (fw_up M 386 0 0) → (∀ k, k ≠ 376 → k ≠ 377 → k ≠ 386 → M2 k = M k) → ∃ M6, mo M2 = some (nI x.2, M6) ∧ WM M6 x ∧ M6 378 6 = nI 0 ∧ (∀ k, k ≠ 383 → k ≠ 378 → M6 k = M2 k) ∧ ∀ j, j ≠ 6 → j ≠ 8 → M6 378 j = M2 378 j) : ∃ M1, (bd_p cl fun k1 M2 => bd_p (mo M2) fun r5 M6 => bd_x (F_X9_thrown M6) fun r8 => if r8 = k1 then (if k1 = 0 then (if (lg_cmp ((M6 386 0).toInt64) ((r5 : Int32).toInt64)) = 0 then (some M6) else (none)) else (some M6)) else (none)) = some M1 ∧ Inv M1 := by
  obtain ⟨M2, e2⟩ : ∃ M2, M2 = fw_up B 386 0 (nI x.2) := ⟨_, rfl⟩
  have f2 : ∀ k, k ≠ 376 → k ≠ 377 → k ≠ 386 → M2 k = M k := fun k a b c => by rw [e2, up_n1 c, hf k a b]
  obtain ⟨M6, a1, a2, a3, a4, a5⟩ := hm M2 (sm_386 sm_0) f2
  rw [hc, bp_s, ← e2, a1, bp_s]
  unfold F_X9_thrown
  have e386 : M6 386 0 = nI x.2 := by rw [a4 386 (by omega) (by omega), e2, up_e rfl rfl]
  rw [bx_s, a3, if_pos rfl, if_pos (show nI 0 = 0 from rfl), e386, if_pos (lc_0 rfl)]
  refine ⟨M6, rfl, h.tx (fun k k1 k2 k3 k4 k5 => by rw [a4 k k4 k3, f2 k k1 k2 k5]) (fun j j1 j2 => by rw [a5 j j1 j2, f2 378 (by omega) (by omega) (by omega)]) (Wr.of hx (hB.cong ?_ ?_) a2)⟩
  · rw [a4 376 (by omega) (by omega), e2, up_n1 (by omega)]
  · rw [a4 377 (by omega) (by omega), e2, up_n1 (by omega)]
theorem q_44 {M : fw_M} (h : Inv M) (xs : Nat → Int32) (i : Int32) : ∃ M1, F_cs_44 M xs i = some M1 ∧ Inv M1 := by
  have hI := h
  obtain ⟨⟨s, hk, hR, hS⟩, -, -, -, -, hWr⟩ := h
  have hk0 := hk
  obtain ⟨⟨⟨c0, b0⟩, ⟨c1, b1⟩, ⟨c2, b2⟩, ⟨c3, b3⟩, c4, b4⟩, oz, ol, os, od, ot, op, oq⟩ := hk
  obtain ⟨⟨r0, r1, -⟩, -⟩ := R0 hR
  obtain ⟨x, hx, hxC, hxM⟩ := hWr.x
  unfold F_cs_44
  generalize xs (i + 1).toNatClampNeg = a
  rcases px_o a (n := sv s 1) (by omega) with ⟨l, hl, rfl⟩ | ho
  · have l6 := (ol l (by omega)).2.1
    obtain ⟨A, a1, a2, a3⟩ := set_0 hxC hx
    obtain ⟨B, d1, d2, d3, d4⟩ := ltx_c hk0 (l := l) (by omega) (sv s (16 + 7 * l)) 8 0 (x.1, 0) A (by omega) (by omega) (hR.cong (fun k _ h => a3 k (by omega) (by omega))) a2 (Nat.zero_le _)
    refine fin_w hI (x := ltx s l (sv s (16 + 7 * l)) 0 (x.1, 0)) (by omega) d2 (a3.t d3) ?_ (fun M2 _ h2 => ?_)
    · have d1' : F_X8_writeLine_15 (nI l) 8 0 A = some (.inl (nI (ltx s l (sv s (16 + 7 * l)) 0 (x.1, 0)).2), B) := d1
      unfold F_L_writeLine F_X8_writeLine
      rw [rt_Line hl (by omega) (r1.trans c1), bt_l, a1, bx_s, d1', wl_s]
    · have hS2 : Sm M2 s := fun j hj => by rw [h2 379 (by omega) (by omega) (by omega)]; exact hS j hj
      obtain ⟨C, hC⟩ : ∃ C, C = fw_up (fw_up M2 378 6 (nI 0)) 378 8 0 := ⟨_, rfl⟩
      have hSC : Sm C s := by rw [hC]; exact (hS2.u (by omega)).u (by omega)
      obtain ⟨D, w1, w2, w3⟩ := ltx_m hk0 (l := l) (by omega) (sv s (16 + 7 * l)) 64 0 (x.1, 0) C (by omega) (by omega) hSC ⟨by rw [hC, up_e rfl rfl]; rfl, fun j hj => absurd hj (Nat.not_lt_zero j)⟩ (Nat.zero_le _)
      have w1' : F_X9_writeLine_21 (nI l) 64 0 C = some (nI (ltx s l (sv s (16 + 7 * l)) 0 (x.1, 0)).2, D) := w1
      refine ⟨D, ?_, w2, ?_, fun k k1 k2 => ?_, fun j j1 j2 => ?_⟩
      · unfold F_X9_writeLine
        rw [it_Line hl (by omega) ((hS2 1 (by omega)).trans c1), bx_s, th_1, bp_s, if_pos (show ¬ nI 1 = 0 by decide), lx_s, ← hC, w1']
      · rw [w3.2 6 (by omega), hC, up_n2 (by omega), up_e rfl rfl]
      · rw [w3.1 k k1 k2, hC, up_n1 k2, up_n1 k2]
      · rw [w3.2 j j2, hC, up_n2 j2, up_n2 j1]
  · refine fin_e hI 1 (by omega) sm_0 ?_ (fun M2 h2 => ?_)
    · unfold F_L_writeLine F_X8_writeLine
      rw [rq_Line ho (r1.trans c1)]
      rfl
    · unfold F_X9_writeLine
      rw [is_Line ho (by omega) (((hS.sm h2) 1 (by omega)).trans c1), bx_s, th_0, bp_s, if_neg (show ¬ ¬ nI 0 = 0 from fun q => q rfl)]
      exact lv_e
def stx (s : Nat → Int32) (p : Nat) : Nat → Nat → wT → wT
  | 0, _, x => x
  | r + 1, q, x => stx s p r (q + 1) (if s (117 + 2 * q) = nI p then apn (apc x 115) q else x)
theorem stx_c {s : Nat → Int32} (hk : ok s) {p : Nat} : ∀ (r n q : Nat) (x : wT) (M : fw_M), q + r = sv s 4 → r < n → R M 0 s → WC M x → x.2 ≤ 6 + 2 * q → ∃ M1, F_X8_writePassenger_59 (nI p) n (nI q) M = some (.inl (nI (stx s p r q x).2), M1) ∧ WC M1 (stx s p r q x) ∧ fC M M1 ∧ (stx s p r q x).2 ≤ 18 := by
  obtain ⟨c4, b4⟩ := hk.1.2.2.2.2
  intro r
  induction r with
  | zero =>
    intro n q x M h1 h2 hR hW hx
    obtain ⟨n, rfl⟩ : ∃ x, n = x + 1 := ⟨n - 1, by omega⟩
    obtain ⟨⟨-, -, -, -, r4, -⟩, -⟩ := R0 hR
    rw [F_X8_writePassenger_59, r4, c4, if_pos (nI_le (by omega) (by omega))]
    unfold F_J4_length_8abf5 F_J5_length_8abf5
    rw [bx_s, bx_s, hW.2.2.2.2.2.1]
    exact ⟨M, rfl, hW, fun _ _ _ => rfl, by show x.2 ≤ 18; omega⟩
  | succ r ih =>
    intro n q x M h1 h2 hR hW hx
    obtain ⟨n, rfl⟩ : ∃ x, n = x + 1 := ⟨n - 1, by omega⟩
    obtain ⟨⟨-, -, -, -, r4, -⟩, -, -, -, -, -, -, rq⟩ := R0 hR
    have g : fw_ri M 23 (nI q) = s (117 + 2 * q) := by rw [fw_ri, nI_clamp (by omega)]; exact (rq q (by omega)).1
    rw [F_X8_writePassenger_59, r4, c4, if_neg (nI_ge (by omega) (by omega)), if_pos (nI_in (by omega) (by omega)), g, nI_1, stx]
    by_cases e : s (117 + 2 * q) = nI p
    · rw [if_neg (show ¬ ¬ s (117 + 2 * q) = nI p from fun y => y e), if_pos e]
      obtain ⟨A0, e1, e2, e3⟩ := apc_c hW (c := 115) (by omega) (by omega)
      have e1' : F_J4_append_cf468 M 115 = some A0 := e1
      have ec : (apc x 115).2 = x.2 + 1 := rfl
      obtain ⟨A, a1, a2, a3⟩ := apn_c e2 (v := q) (by omega) (by omega)
      have ha := (apn_2 (x := apc x 115) (v := q)).2.2 (by omega)
      rw [e1', bx_s, a1, bx_s]
      obtain ⟨B, d1, d2, d3, d4⟩ := ih n (q + 1) _ A (by omega) (by omega) (hR.cong (fun k _ h => (e3.t a3) k (by omega) (by omega))) a2 (by omega)
      exact ⟨B, d1, d2, (e3.t a3).t d3, d4⟩
    · rw [if_pos (show ¬ s (117 + 2 * q) = nI p from e), if_neg e]
      exact ih n (q + 1) x M (by omega) (by omega) hR hW (by omega)
theorem stx_m {s : Nat → Int32} (hk : ok s) {p : Nat} : ∀ (r n q : Nat) (x : wT) (M : fw_M), q + r = sv s 4 → r < n → Sm M s → WM M x → x.2 ≤ 6 + 2 * q → ∃ M1, F_X9_writePassenger_82 (nI p) n (nI q) M = some (nI (stx s p r q x).2, M1) ∧ WM M1 (stx s p r q x) ∧ fM M M1 := by
  obtain ⟨c4, b4⟩ := hk.1.2.2.2.2
  intro r
  induction r with
  | zero =>
    intro n q x M h1 h2 hS hW hx
    obtain ⟨n, rfl⟩ : ∃ x, n = x + 1 := ⟨n - 1, by omega⟩
    have g4 : fw_ri M 379 4 = nI (sv s 4) := (hS 4 (by omega)).trans c4
    rw [F_X9_writePassenger_82, if_pos (show ix_i 4 129 by decide), g4, if_pos (nI_le (by omega) (by omega)), hW.1]
    exact ⟨M, rfl, hW, fM.r⟩
  | succ r ih =>
    intro n q x M h1 h2 hS hW hx
    obtain ⟨n, rfl⟩ : ∃ x, n = x + 1 := ⟨n - 1, by omega⟩
    have g4 : fw_ri M 379 4 = nI (sv s 4) := (hS 4 (by omega)).trans c4
    have g : F_X9_carrier M (nI q) = some (s (117 + 2 * q)) := by
      have hS' : ∀ j, j < 129 → M 379 j = s j := hS
      unfold F_X9_carrier
      simp (disch := omega) only [ix_i, ↓pn_m, pn_l0, pn_l1, pn_l2, pn_l3, pn_l4, pn_l5, pn_l6, pn_l7, pn_l8, pn_l9, pn_l10, pn_l11, pn_l12, pn_l16, pn_l18, pn_l20, pn_l31, pn_l32, pn_l40, pn_l45, pn_l48, pn_l51, pn_l57, pn_l59, pn_l60, pn_l62, pn_l64, pn_l69, pn_l97, pn_l98, pn_l99, pn_l100, pn_l101, pn_l105, pn_l107, pn_l108, pn_l114, pn_l115, pn_l116, pn_l117, pn_l119, pn_l126, pn_l129, pn_l240, pn_l903, pn_l1032, nI_add, pk_mul, pk_sub, nI_clamp, nI_leI, nI_ltI, nI_eq, pm_1, pm_2, pm_3, pm_4, pm_5, pm_6, pm_7, pm_8, pn_lt, pn_nlt, pn_le, pn_nle, pn_ne, pn_eq, not_true_eq_false, not_false_eq_true, true_and, and_true, false_and, and_false, true_or, or_true, false_or, or_false, or_self, and_self, ne_eq, reduceIte, if_true, if_false, Nat.add_zero, Nat.zero_add, Nat.mul_zero, Nat.reduceAdd, Nat.reduceMul, fw_ri, hS']
    rw [F_X9_writePassenger_82, if_pos (show ix_i 4 129 by decide), g4, if_neg (nI_ge (by omega) (by omega)), g, bx_s, nI_1, stx]
    by_cases e : s (117 + 2 * q) = nI p
    · rw [if_neg (show ¬ ¬ s (117 + 2 * q) = nI p from fun y => y e), if_pos e]
      obtain ⟨A0, e1, e2, e3⟩ := apc_m hW (c := 115) (by omega) (by omega)
      have e1' : F_X9_says M 115 = some A0 := e1
      have ec : (apc x 115).2 = x.2 + 1 := rfl
      obtain ⟨A, a1, a2, a3⟩ := apn_m e2 (v := q) (by omega) (by omega)
      have ha := (apn_2 (x := apc x 115) (v := q)).2.2 (by omega)
      rw [e1', bx_s, a1, bx_s]
      obtain ⟨B, d1, d2, d3⟩ := ih n (q + 1) _ A (by omega) (by omega) (fun j hj => by rw [(e3.t a3).1 379 (by omega) (by omega)]; exact hS j hj) a2 (by omega)
      exact ⟨B, d1, d2, (e3.t a3).t d3⟩
    · rw [if_pos (show ¬ s (117 + 2 * q) = nI p from e), if_neg e]
      exact ih n (q + 1) x M (by omega) (by omega) hS hW (by omega)
theorem q_45 {M : fw_M} (h : Inv M) (xs : Nat → Int32) (i : Int32) : ∃ M1, F_cs_45 M xs i = some M1 ∧ Inv M1 := by
  have hI := h
  obtain ⟨⟨s, hk, hR, hS⟩, -, -, -, -, hWr⟩ := h
  have hk0 := hk
  obtain ⟨⟨⟨c0, b0⟩, ⟨c1, b1⟩, ⟨c2, b2⟩, ⟨c3, b3⟩, c4, b4⟩, oz, ol, os, od, ot, op, oq⟩ := hk
  obtain ⟨⟨r0, r1, r2, r3, r4, -⟩, -, -, -, -, -, rp, -⟩ := R0 hR
  obtain ⟨x, hx, hxC, hxM⟩ := hWr.x
  unfold F_cs_45
  generalize xs (i + 1).toNatClampNeg = a
  rcases px_o a (n := sv s 3) (by omega) with ⟨p, hp, rfl⟩ | ho
  · obtain ⟨p1, -, ⟨p3, p3b⟩, -⟩ := op p hp
    obtain ⟨A, a1, a2, a3⟩ := set_0 hxC hx
    obtain ⟨y1, hy1⟩ : ∃ y, y = apn (x.1, 0) p := ⟨_, rfl⟩
    have z1 : y1.2 = 1 := by rw [hy1]; exact (apn_2 (x := (x.1, 0)) (v := p)).2.2 (by omega)
    obtain ⟨B, d1, d2, d3⟩ := apn_c a2 (v := p) (by omega) (by show 0 ≤ 20; omega)
    rw [← hy1] at d2
    -- the place
    obtain ⟨k, v, hkv, hv, hON⟩ : ∃ k v, (k = 64 ∨ k = 62) ∧ v < 10 ∧ ((k = 64 ∧ s (69 + 6 * p + 1) = mI ∧ s (69 + 6 * p) = nI v) ∨ (k = 62 ∧ s (69 + 6 * p + 1) = nI v)) := by
      rcases p1 with ⟨u1, u2, u3⟩ | ⟨u1, u2⟩
      · exact ⟨64, sv s (69 + 6 * p), Or.inl rfl, by omega, Or.inl ⟨rfl, u1, u2⟩⟩
      · exact ⟨62, sv s (69 + 6 * p + 1), Or.inr rfl, by omega, Or.inr ⟨rfl, u1⟩⟩
    have hk128 : k < 128 := by omega
    obtain ⟨y2, hy2⟩ : ∃ y, y = apn (apc y1 k) v := ⟨_, rfl⟩
    have zc : (apc y1 k).2 = y1.2 + 1 := rfl
    have z2 : y2.2 = 3 := by rw [hy2, (apn_2 (x := apc y1 k) (v := v)).2.2 hv]; omega
    obtain ⟨C, e1, e2, e3⟩ := apc_c d2 hk128 (by omega)
    obtain ⟨D, f1, f2, f3⟩ := apn_c e2 (v := v) (by omega) (by omega)
    rw [← hy2] at f2
    obtain ⟨E, g1, g2, g3⟩ := apc_c f2 (c := 114) (by omega) (by omega)
    have zr : (apc y2 114).2 = y2.2 + 1 := rfl
    obtain ⟨y4, hy4⟩ : ∃ y, y = apn (apc y2 114) (sv s (69 + 6 * p + 3)) := ⟨_, rfl⟩
    have z4 : y4.2 ≤ 6 := by rw [hy4]; have := (apn_2 (x := apc y2 114) (v := sv s (69 + 6 * p + 3))).2.1; omega
    obtain ⟨F, i1, i2, i3⟩ := apn_c g2 (v := sv s (69 + 6 * p + 3)) (by omega) (by omega)
    rw [← hy4] at i2
    have fAll : fC M F := ((((a3.t d3).t e3).t f3).t g3).t i3
    obtain ⟨G, j1, j2, j3, j4⟩ := stx_c hk0 (p := p) (sv s 4) 8 0 y4 F (by omega) (by omega) (hR.cong (fun k _ h => fAll k (by omega) (by omega))) i2 (by omega)
    refine fin_w hI (x := stx s p (sv s 4) 0 y4) (by omega) j2 (fAll.t j3) ?_ (fun M2 _ h2 => ?_)
    · have fB : fC M B := a3.t d3
      have fC1 : fC M C := fB.t e3
      have t17 : fw_ri B 17 (nI p) = s (69 + 6 * p + 1) := by rw [fw_ri, nI_clamp (by omega), fB 17 (by omega) (by omega)]; exact (rp p (by omega)).2.1
      have hwp : F_X8_writePlace B (nI p) = some D := by
        unfold F_X8_writePlace
        rw [if_pos (nI_in (by omega) (by omega)), t17, show (-1 : Int32) = mI from rfl]
        rcases hON with ⟨rfl, u1, u2⟩ | ⟨rfl, u1⟩
        · have t16 : fw_ri C 16 (nI p) = nI v := by rw [fw_ri, nI_clamp (by omega), fC1 16 (by omega) (by omega)]; exact (rp p (by omega)).1.trans u2
          have e1' : F_J4_append_cf468 B 64 = some C := e1
          rw [if_neg (show ¬ ¬ s (69 + 6 * p + 1) = mI from fun q => q u1), e1', bx_s, t16, f1, bx_s]
        · have e1' : F_J4_append_cf468 B 62 = some C := e1
          rw [if_pos (fun q => by rw [u1, pm_1 (by omega)] at q; exact q), e1', bx_s, u1, f1, bx_s]
      have g1' : F_J4_append_cf468 D 114 = some E := g1
      have fE : fC M E := ((fC1.t f3).t g3)
      have t18 : fw_ri E 18 (nI p) = nI (sv s (69 + 6 * p + 3)) := by rw [fw_ri, nI_clamp (by omega), fE 18 (by omega) (by omega)]; exact (rp p (by omega)).2.2.2.1.trans p3
      have j1' : F_X8_writePassenger_59 (nI p) 8 0 F = some (.inl (nI (stx s p (sv s 4) 0 y4).2), G) := j1
      unfold F_L_writePassenger F_X8_writePassenger
      rw [rt_Passenger hp (by omega) (r3.trans c3), bt_l, a1, bx_s, d1, bx_s, hwp, bx_s, g1', bx_s, if_pos (nI_in (by omega) (by omega)), t18, i1, bx_s, j1', wl_s]
    · have hS2 : Sm M2 s := fun j hj => by rw [h2 379 (by omega) (by omega) (by omega)]; exact hS j hj
      have rd : ∀ (N : fw_M) (c : Nat), c < 6 → Sm N s → F_X9_ofPassenger N (nI p) (nI c) = some (s (69 + 6 * p + c)) := fun N c hc hN => by
        have hN' : ∀ j, j < 129 → N 379 j = s j := hN
        unfold F_X9_ofPassenger
        simp (disch := omega) only [ix_i, ↓pn_m, pn_l0, pn_l1, pn_l2, pn_l3, pn_l4, pn_l5, pn_l6, pn_l7, pn_l8, pn_l9, pn_l10, pn_l11, pn_l12, pn_l16, pn_l18, pn_l20, pn_l31, pn_l32, pn_l40, pn_l45, pn_l48, pn_l51, pn_l57, pn_l59, pn_l60, pn_l62, pn_l64, pn_l69, pn_l97, pn_l98, pn_l99, pn_l100, pn_l101, pn_l105, pn_l107, pn_l108, pn_l114, pn_l115, pn_l116, pn_l117, pn_l119, pn_l126, pn_l129, pn_l240, pn_l903, pn_l1032, nI_add, pk_mul, pk_sub, nI_clamp, nI_leI, nI_ltI, nI_eq, pm_1, pm_2, pm_3, pm_4, pm_5, pm_6, pm_7, pm_8, pn_lt, pn_nlt, pn_le, pn_nle, pn_ne, pn_eq, not_true_eq_false, not_false_eq_true, true_and, and_true, false_and, and_false, true_or, or_true, false_or, or_false, or_self, and_self, ne_eq, reduceIte, if_true, if_false, Nat.add_zero, Nat.zero_add, Nat.mul_zero, Nat.reduceAdd, Nat.reduceMul, fw_ri, hN']
      obtain ⟨C0, hC0⟩ : ∃ C, C = fw_up (fw_up M2 378 6 (nI 0)) 378 8 0 := ⟨_, rfl⟩
      have hSC : Sm C0 s := by rw [hC0]; exact (hS2.u (by omega)).u (by omega)
      have stp9 : ∀ {N N1 : fw_M}, Sm N s → fM N N1 → Sm N1 s := fun hN hf j hj => by rw [hf.1 379 (by omega) (by omega)]; exact hN j hj
      obtain ⟨B9, d91, d92, d93⟩ := apn_m (M := C0) (x := (x.1, 0)) ⟨by rw [hC0, up_e rfl rfl]; rfl, fun j hj => absurd hj (Nat.not_lt_zero j)⟩ (v := p) (by omega) (by show 0 ≤ 38; omega)
      rw [← hy1] at d92
      have hSB := stp9 hSC d93
      obtain ⟨C9, e91, e92, e93⟩ := apc_m d92 (c := k) (by omega) (by omega)
      have hSC9 := stp9 hSB e93
      obtain ⟨D9, f91, f92, f93⟩ := apn_m e92 (v := v) (by omega) (by omega)
      rw [← hy2] at f92
      have hSD := stp9 hSC9 f93
      obtain ⟨E9, g91, g92, g93⟩ := apc_m f92 (c := 114) (by omega) (by omega)
      have hSE := stp9 hSD g93
      obtain ⟨F9, i91, i92, i93⟩ := apn_m g92 (v := sv s (69 + 6 * p + 3)) (by omega) (by omega)
      rw [← hy4] at i92
      have hSF := stp9 hSE i93
      obtain ⟨G9, j91, j92, j93⟩ := stx_m hk0 (p := p) (sv s 4) 64 0 y4 F9 (by omega) (by omega) hSF i92 (by omega)
      have j91' : F_X9_writePassenger_82 (nI p) 64 0 F9 = some (nI (stx s p (sv s 4) 0 y4).2, G9) := j91
      have g91' : F_X9_says D9 114 = some E9 := g91
      have ff : fM C0 G9 := ((((d93.t e93).t f93).t g93).t i93).t j93
      refine ⟨G9, ?_, j92, ?_, fun k k1 k2 => ?_, fun j j1 j2 => ?_⟩
      · unfold F_X9_writePassenger
        rw [it_Passenger hp (by omega) ((hS2 3 (by omega)).trans c3), bx_s, th_1, bp_s, if_pos (show ¬ nI 1 = 0 by decide), lx_s, ← hC0, show (1 : Int32) = nI 1 from rfl, rd C0 1 (by omega) hSC, bx_s, d91, bx_s]
        unfold F_X9_writePassenger_46
        rcases hON with ⟨rfl, u1, u2⟩ | ⟨rfl, u1⟩
        · have e91' : F_X9_says B9 64 = some C9 := e91
          have q0 : F_X9_ofPassenger C9 (nI p) 0 = some (nI v) := (rd C9 0 (by omega) hSC9).trans (congrArg some u2)
          have q3 : F_X9_ofPassenger E9 (nI p) 3 = some (nI (sv s (69 + 6 * p + 3))) := (rd E9 3 (by omega) hSE).trans (congrArg some p3)
          rw [u1, if_neg (show ¬ (0 : Int32) ≤ mI by decide), e91', bx_s, if_neg (show ¬ (0 : Int32) ≤ mI by decide), q0, bx_s, f91, bx_s, g91', bx_s, q3, bx_s, i91, bx_s, j91']
        · have e91' : F_X9_says B9 62 = some C9 := e91
          have q3 : F_X9_ofPassenger E9 (nI p) 3 = some (nI (sv s (69 + 6 * p + 3))) := (rd E9 3 (by omega) hSE).trans (congrArg some p3)
          rw [u1, if_pos (show (0 : Int32) ≤ nI v from nI_pos' (by omega)), e91', bx_s, if_pos (show (0 : Int32) ≤ nI v from nI_pos' (by omega)), f91, bx_s, g91', bx_s, q3, bx_s, i91, bx_s, j91']
      · rw [ff.2 6 (by omega), hC0, up_n2 (by omega), up_e rfl rfl]
      · rw [ff.1 k k1 k2, hC0, up_n1 k2, up_n1 k2]
      · rw [ff.2 j j2, hC0, up_n2 j2, up_n2 j1]
  · refine fin_e hI 1 (by omega) sm_0 ?_ (fun M2 h2 => ?_)
    · unfold F_L_writePassenger F_X8_writePassenger
      rw [rq_Passenger ho (r3.trans c3)]
      rfl
    · unfold F_X9_writePassenger
      rw [is_Passenger ho (by omega) (((hS.sm h2) 3 (by omega)).trans c3), bx_s, th_0, bp_s, if_neg (show ¬ ¬ nI 0 = 0 from fun q => q rfl)]
      exact lv_e
theorem ch_255 : ∀ c, c < 128 → ((((nI c) &&& 255 : Int32)).toUInt32 % 65536).toInt32 = nI c := by decide +kernel
theorem q_46 {M : fw_M} (h : Inv M) (xs : Nat → Int32) (i : Int32) : ∃ M1, F_cs_46 M xs i = some M1 ∧ Inv M1 := by
  have hI := h
  obtain ⟨-, -, -, -, -, hWr⟩ := h
  obtain ⟨x, hx, hxC, hxM⟩ := hWr.x
  obtain ⟨h1, h2, h3, h4, h5, h6, h7⟩ := hxC
  unfold F_cs_46
  generalize xs (i + 1).toNatClampNeg = a
  rcases px_o a (n := x.2) (by omega) with ⟨k, hk, rfl⟩ | ho
  · obtain ⟨h8, h9⟩ := h7 k hk
    refine fin_l hI (nI (x.1 k)) sm_0 ?_ (fun M2 q => ?_)
    · have ec : Int32.ofNat (fw_cap M) = nI (fw_cap M) := rfl
      have z : M 376 1 &&& 31 = (0 : Int32) &&& 31 := by rw [h1]; rfl
      have e1 : F_J0_checkIndex_df160 M (nI k) (if nI (fw_cap M) < nI x.2 then nI (fw_cap M) else nI x.2) = some () := by
        unfold F_J0_checkIndex_df160 F_J3_checkIndex_8e157_n
        rw [if_neg (nI_nlt (by omega) (by omega)), if_neg (nI_pos (by omega)), if_pos (nI_lt hk (by omega)), bx_s]
      have e2 : fw_ri M 377 (nI k) = nI (x.1 k) := by rw [fw_ri, nI_clamp (by omega)]; exact h8
      have e3 : F_J5_charAt_5068e M (nI k) = some (nI (x.1 k)) := by
        unfold F_J5_charAt_5068e
        rw [ec, z, shr0 (by omega), h6, e1, bx_s, h1, if_neg (show ¬ ¬ nI 0 = 0 from fun q => q rfl), if_pos (nI_in (by omega) (by omega)), e2, ch_255 _ h9, if_pos (nc_ch (by omega))]
      unfold F_L_textAt F_X8_textAt F_J4_length_8abf5 F_J5_length_8abf5 F_J4_charAt_5068e
      rw [if_neg (show ¬ nI k < 0 from nI_pos (by omega)), bx_s, bx_s, h6, if_pos (nI_lt hk (by omega)), e3, bx_s, if_pos (nc_ch (by omega)), bx_s, if_pos (nc_ch (by omega)), wl_s]
    · have e1 : F_X9_in M2 (nI k) 0 (M2 378 8 - 1) = some (nI 1) := by
        rw [q.2.2.1 8 (by omega), hxM.1, show nI x.2 - 1 = nI (x.2 - 1) from pk_sub (a := x.2) (b := 1) (by omega)]
        unfold F_X9_in
        rw [if_neg (show ¬ nI k < 0 from nI_pos (by omega)), if_neg (nI_nlt (by omega) (by omega))]
        rfl
      have e2 : fw_ri (fw_up M2 378 6 (nI 0)) 383 (nI k) = nI (x.1 k) := by
        rw [fw_ri, nI_clamp (by omega), up_n1 (by omega), q.2.2.2.2 383 (by omega) (by omega)]
        exact hxM.2 k hk
      unfold F_X9_textAt
      rw [e1, bx_s, th_1, bp_s, if_neg (show ¬ nI 1 = 0 by decide), if_pos (nI_in (by omega) (by omega)), e2, if_pos (nc_ch (by omega))]
      exact lv_0
  · refine fin_e hI 1 (by omega) sm_0 ?_ (fun M2 q => ?_)
    · unfold F_L_textAt F_X8_textAt F_J4_length_8abf5 F_J5_length_8abf5
      rcases ho with ho | ho
      · rw [if_pos (show a < 0 from ho)]
        rfl
      · by_cases hb0 : a < 0
        · rw [if_pos hb0]
          rfl
        · have hnl : ¬ a < nI x.2 := fun q => by
            rw [Int32.lt_iff_toInt_lt] at q
            rw [Int32.le_iff_toInt_le] at ho
            omega
          rw [if_neg hb0, bx_s, bx_s, h6, if_neg hnl]
          rfl
    · have e1 : F_X9_in M2 a 0 (M2 378 8 - 1) = some (nI 0) := by
        rw [q.2.2.1 8 (by omega), hxM.1]
        exact in_f ho (by omega) rfl rfl
      unfold F_X9_textAt
      rw [e1, bx_s, th_0, bp_s, if_pos (show nI 0 = 0 from rfl)]
      exact lv_e
