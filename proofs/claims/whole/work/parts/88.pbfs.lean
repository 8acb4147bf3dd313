/-! the class's search over stops -/
theorem up_f {M : fw_M} {k j : Nat} {x : Int32} : fw_up M k j x k = upd (M k) j x := by
  unfold fw_up
  exact fw_w_s
theorem fill_1 {k1 n1 : Nat} {a : Int32} (hn : n1 < 60) : ∀ (r n j : Nat) (M : fw_M), j + r = n1 → r < n → ∃ M1, F_J7_fill_53178_5 k1 n1 a n (nI j) (nI n1) M = some M1 ∧ (∀ i, j ≤ i → i < n1 → M1 k1 i = a) ∧ (∀ i, i < j → M1 k1 i = M k1 i) ∧ (∀ c, c ≠ k1 → M1 c = M c) := by
  intro r
  induction r with
  | zero =>
    intro n j M h1 h2
    obtain ⟨n, rfl⟩ : ∃ x, n = x + 1 := ⟨n - 1, by omega⟩
    rw [F_J7_fill_53178_5, if_pos (nI_le (by omega) (by omega))]
    exact ⟨M, rfl, fun i h3 h4 => by omega, fun _ _ => rfl, fun _ _ => rfl⟩
  | succ r ih =>
    intro n j M h1 h2
    obtain ⟨n, rfl⟩ : ∃ x, n = x + 1 := ⟨n - 1, by omega⟩
    rw [F_J7_fill_53178_5, if_neg (nI_ge (by omega) (by omega)), if_pos (nI_in (by omega) (by omega)), lx_s, nI_1]
    obtain ⟨M1, q1, q2, q3, q4⟩ := ih n (j + 1) (fw_wi M k1 (nI j) a) (by omega) (by omega)
    refine ⟨M1, q1, fun i h3 h4 => ?_, fun i h3 => ?_, fun c hc => ?_⟩
    · by_cases e : i = j
      · subst e
        rw [q3 i (by omega), fw_wi, nI_clamp (by omega), up_e rfl rfl]
      · exact q2 i (by omega) h4
    · rw [q3 i (by omega), fw_wi, nI_clamp (by omega), up_n2 (by omega)]
    · rw [q4 c hc, fw_wi, up_n1 hc]
theorem fill_ok {k1 n1 : Nat} {a : Int32} {M : fw_M} (hn : n1 < 60) : ∃ M1, F_J7_fill_53178 M k1 n1 a = some M1 ∧ (∀ i, i < n1 → M1 k1 i = a) ∧ (∀ c, c ≠ k1 → M1 c = M c) := by
  obtain ⟨M1, q1, q2, -, q4⟩ := fill_1 (k1 := k1) (a := a) hn n1 64 0 M (by omega) (by omega)
  exact ⟨M1, q1, fun i hi => q2 i (by omega) hi, q4⟩
/-- the queue at M and n has grown to that at M1 and n1 -/
def xt (M M1 : fw_M) (n n1 : Nat) : Prop := n ≤ n1 ∧ (∀ i, i < n → sv (M1 357) i = sv (M 357) i ∧ sv (M1 356) (sv (M 357) i) = sv (M 356) (sv (M 357) i)) ∧ ∀ k, k ≠ 355 → k ≠ 356 → k ≠ 357 → M1 k = M k
theorem xt.refl {M : fw_M} {n : Nat} : xt M M n n := ⟨Nat.le_refl n, fun _ _ => ⟨rfl, rfl⟩, fun _ _ _ _ => rfl⟩
theorem xt.trans {M M1 M2 : fw_M} {n n1 n2 : Nat} (h : xt M M1 n n1) (q : xt M1 M2 n1 n2) : xt M M2 n n2 := by
  refine ⟨Nat.le_trans h.1 q.1, fun i hi => ?_, fun k a b c => (q.2.2 k a b c).trans (h.2.2 k a b c)⟩
  obtain ⟨a, b⟩ := h.2.1 i hi
  obtain ⟨c, d⟩ := q.2.1 i (Nat.lt_of_lt_of_le hi h.1)
  rw [a] at c d
  exact ⟨c, d.trans b⟩
theorem qd.xt {M M1 : fw_M} {n n1 v k : Nat} (h : qd (M 356) (M 357) n v k) (q : xt M M1 n n1) : qd (M1 356) (M1 357) n1 v k := by
  obtain ⟨⟨i, hi, rfl⟩, hk⟩ := h
  obtain ⟨a, b⟩ := q.2.1 i hi
  exact ⟨⟨i, Nat.lt_of_lt_of_le hi q.1, a⟩, by rw [b]; exact hk⟩
theorem rch_1 {A : Nat → Prop} {E : Nat → Nat → Prop} {M : fw_M} {n e w : Nat} (h : Bq A E 10 (M 356) (M 357) n) (hn : M 355 4 = nI n) (he : ∀ i, i < n → sv (M 356) (sv (M 357) i) ≤ e) (he2 : e < 16) (hw : w < 10) (hl : lev A E e w) : ∃ M1 n1, F_X5_reachStop M (nI w) (nI e) = some M1 ∧ Bq A E 10 (M1 356) (M1 357) n1 ∧ M1 355 4 = nI n1 ∧ (∀ i, i < n1 → sv (M1 356) (sv (M1 357) i) ≤ e) ∧ xt M M1 n n1 ∧ qd (M1 356) (M1 357) n1 w e := by
  unfold F_X5_reachStop
  rw [if_pos (nI_in hw (by omega))]
  have e1 : fw_ri M 356 (nI w) = M 356 w := by rw [fw_ri, nI_clamp (by omega)]
  rw [e1]
  rcases h.2.2.2 w hw with hm | ⟨i, hi, hq⟩
  · obtain ⟨p1, p2, p3, p4, p5⟩ := Bq.push (N := 10) (by omega) h he he2 hw hl hm
    rw [hm, if_neg (fun q => q rfl), hn, if_neg (show ¬ (10 : Int32) ≤ nI n from nI_ge (b := 10) (by omega) (by omega))]
    simp (disch := omega) only [ix_i, ↓pn_m, pn_l0, pn_l1, pn_l2, pn_l3, pn_l4, pn_l5, pn_l6, pn_l7, pn_l8, pn_l9, pn_l10, pn_l11, pn_l12, pn_l16, pn_l18, pn_l20, pn_l31, pn_l32, pn_l40, pn_l45, pn_l48, pn_l51, pn_l57, pn_l59, pn_l60, pn_l62, pn_l64, pn_l69, pn_l97, pn_l98, pn_l99, pn_l100, pn_l101, pn_l105, pn_l107, pn_l108, pn_l114, pn_l115, pn_l116, pn_l117, pn_l119, pn_l126, pn_l129, pn_l240, pn_l903, pn_l1032, nI_add, pk_mul, pk_sub, nI_clamp, nI_leI, nI_ltI, nI_eq, pm_1, pm_2, pm_3, pm_4, pm_5, pm_6, pm_7, pm_8, pn_lt, pn_nlt, pn_le, pn_nle, pn_ne, pn_eq, not_true_eq_false, not_false_eq_true, true_and, and_true, false_and, and_false, true_or, or_true, false_or, or_false, or_self, and_self, ne_eq, reduceIte, if_true, if_false, Nat.add_zero, Nat.zero_add, Nat.mul_zero, Nat.reduceAdd, Nat.reduceMul, lx_s, fw_wi, up_n1, hn]
    have f6 : (fw_up (fw_up (fw_up M 356 w (nI e)) 357 n (nI w)) 355 4 (nI (n + 1))) 356 = upd (M 356) w (nI e) := by rw [up_n1 (by omega), up_n1 (by omega), up_f]
    have f7 : (fw_up (fw_up (fw_up M 356 w (nI e)) 357 n (nI w)) 355 4 (nI (n + 1))) 357 = upd (M 357) n (nI w) := by rw [up_n1 (by omega), up_f, up_n1 (by omega)]
    refine ⟨_, n + 1, rfl, ?_, ?_, ?_, ⟨by omega, fun i hi => ?_, fun k a b c => ?_⟩, ?_⟩
    · rw [f6, f7]
      exact p2
    · rw [up_e rfl rfl]
    · rw [f6, f7]
      exact p3
    · rw [f6, f7]
      exact p4 i hi
    · rw [up_n1 a, up_n1 c, up_n1 b]
    · rw [f6, f7]
      exact p5
  · obtain ⟨a, b, c, d, f⟩ := h.2.1 i hi
    rw [hq] at c
    rw [c, if_pos (fun q => by rw [show (-1 : Int32) = mI from rfl, pm_1 (by rw [← hq]; omega)] at q; exact q)]
    exact ⟨M, n, rfl, h, hn, he, xt.refl, ⟨i, hi, hq⟩, by rw [← hq]; exact he i hi⟩
/-! the class's positionOn -/
theorem pon_1 {M : fw_M} {s : Nat → Int32} (hk : ok s) (hR : R M 0 s) {l : Nat} (hl : l < 5) {a : Int32} : ∀ (r n k p : Nat), k + r = p → r < n → p ≤ sv s (16 + 7 * l) → (∀ j, k ≤ j → j < p → s (16 + 7 * l + 1 + j) ≠ a) → ((p < sv s (16 + 7 * l) → s (16 + 7 * l + 1 + p) = a)) → F_X3_positionOn_2 M 1 (nI l) a n (nI k) = some (if p < sv s (16 + 7 * l) then nI p else mI) := by
  obtain ⟨-, -, rl, rs, -⟩ := R0 hR
  obtain ⟨l1, l6, -⟩ := hk.2.2.1 l hl
  intro r
  induction r with
  | zero =>
    intro n k p h1 h2 hp h3 h4
    obtain ⟨n, rfl⟩ : ∃ x, n = x + 1 := ⟨n - 1, by omega⟩
    obtain rfl : k = p := by omega
    rw [F_X3_positionOn_2]
    by_cases e : k < sv s (16 + 7 * l)
    · have h5 := h4 e
      have h6 := (rs l k hl (by omega)).trans h5
      simp (disch := omega) only [ix_i, ↓pn_m, pn_l0, pn_l1, pn_l2, pn_l3, pn_l4, pn_l5, pn_l6, pn_l7, pn_l8, pn_l9, pn_l10, pn_l11, pn_l12, pn_l16, pn_l18, pn_l20, pn_l31, pn_l32, pn_l40, pn_l45, pn_l48, pn_l51, pn_l57, pn_l59, pn_l60, pn_l62, pn_l64, pn_l69, pn_l97, pn_l98, pn_l99, pn_l100, pn_l101, pn_l105, pn_l107, pn_l108, pn_l114, pn_l115, pn_l116, pn_l117, pn_l119, pn_l126, pn_l129, pn_l240, pn_l903, pn_l1032, nI_add, pk_mul, pk_sub, nI_clamp, nI_leI, nI_ltI, nI_eq, pm_1, pm_2, pm_3, pm_4, pm_5, pm_6, pm_7, pm_8, pn_lt, pn_nlt, pn_le, pn_nle, pn_ne, pn_eq, not_true_eq_false, not_false_eq_true, true_and, and_true, false_and, and_false, true_or, or_true, false_or, or_false, or_self, and_self, ne_eq, reduceIte, if_true, if_false, Nat.add_zero, Nat.zero_add, Nat.mul_zero, Nat.reduceAdd, Nat.reduceMul, fw_ri, (rl l hl).1, l1, h6]
    · simp (disch := omega) only [ix_i, ↓pn_m, pn_l0, pn_l1, pn_l2, pn_l3, pn_l4, pn_l5, pn_l6, pn_l7, pn_l8, pn_l9, pn_l10, pn_l11, pn_l12, pn_l16, pn_l18, pn_l20, pn_l31, pn_l32, pn_l40, pn_l45, pn_l48, pn_l51, pn_l57, pn_l59, pn_l60, pn_l62, pn_l64, pn_l69, pn_l97, pn_l98, pn_l99, pn_l100, pn_l101, pn_l105, pn_l107, pn_l108, pn_l114, pn_l115, pn_l116, pn_l117, pn_l119, pn_l126, pn_l129, pn_l240, pn_l903, pn_l1032, nI_add, pk_mul, pk_sub, nI_clamp, nI_leI, nI_ltI, nI_eq, pm_1, pm_2, pm_3, pm_4, pm_5, pm_6, pm_7, pm_8, pn_lt, pn_nlt, pn_le, pn_nle, pn_ne, pn_eq, not_true_eq_false, not_false_eq_true, true_and, and_true, false_and, and_false, true_or, or_true, false_or, or_false, or_self, and_self, ne_eq, reduceIte, if_true, if_false, Nat.add_zero, Nat.zero_add, Nat.mul_zero, Nat.reduceAdd, Nat.reduceMul, fw_ri, (rl l hl).1, l1]
  | succ r ih =>
    intro n k p h1 h2 hp h3 h4
    obtain ⟨n, rfl⟩ : ∃ x, n = x + 1 := ⟨n - 1, by omega⟩
    have h6 : M (5 + l) k ≠ a := fun q => h3 k (by omega) (by omega) ((rs l k hl (by omega)).symm.trans q)
    have h7 : fw_ri M (1 + 4 + (nI l).toNatClampNeg) (nI k) ≠ a := by
      rw [fw_ri, nI_clamp (by omega), nI_clamp (by omega)]
      exact h6
    have h8 : fw_ri M (1 + 2) (nI l) = nI (sv s (16 + 7 * l)) := by
      rw [fw_ri, nI_clamp (by omega)]
      exact (rl l hl).1.trans l1
    rw [F_X3_positionOn_2, if_pos (nI_in (by omega) (by omega)), h8, if_neg (nI_ge (by omega) (by omega)), if_pos (nI_in (by omega) (by omega)), if_pos h7, nI_1]
    exact ih n (k + 1) p (by omega) (by omega) hp (fun j h9 h10 => h3 j (by omega) h10) h4
theorem pon_some {M : fw_M} {s : Nat → Int32} (hk : ok s) (hR : R M 0 s) {l p : Nat} (hl : l < 5) (hp : p < sv s (16 + 7 * l)) : F_X3_positionOn M 1 (nI l) (nI (sv s (16 + 7 * l + 1 + p))) = some (nI p) := by
  have l6 := (hk.2.2.1 l hl).2.1
  have hs := hk.2.2.2.1
  have b0 := hk.1.1.2
  have h := pon_1 hk hR hl (a := nI (sv s (16 + 7 * l + 1 + p))) p 64 0 p (by omega) (by omega) (by omega) (fun j h1 h2 e => by
    have e1 := hs l j hl (by omega)
    have e2 := hs l p hl hp
    rw [e1.1, nI_eq (by omega) (by omega)] at e
    exact hk.2.2.2.2.1 l j p hl h2 hp e) (fun _ => (hs l p hl hp).1)
  rw [if_pos hp] at h
  exact h
theorem pon_none {M : fw_M} {s : Nat → Int32} (hk : ok s) (hR : R M 0 s) {l : Nat} (hl : l < 5) {a : Int32} (h : ∀ j, j < sv s (16 + 7 * l) → s (16 + 7 * l + 1 + j) ≠ a) : F_X3_positionOn M 1 (nI l) a = some mI := by
  have l6 := (hk.2.2.1 l hl).2.1
  have h := pon_1 hk hR hl (a := a) (sv s (16 + 7 * l)) 64 0 (sv s (16 + 7 * l)) (by omega) (by omega) (by omega) (fun j h1 h2 => h j h2) (fun q => by omega)
  rw [if_neg (by omega)] at h
  exact h
section BF
variable {s : Nat → Int32} {A : Nat → Prop} {u e : Nat}
/-- one line's neighbours of the stop u -/
theorem rn_52 (hk : ok s) (hu : u < 10) (he : e + 1 < 16) {l p n : Nat} (hl : l < sv s 1) {M : fw_M} (hR : R M 0 s) (hp : p < sv s (16 + 7 * l)) (hup : sv s (16 + 7 * l + 1 + p) = u) (hlu : lev A (ed s 1) e u) (h : Bq A (ed s 1) 10 (M 356) (M 357) n) (hn : M 355 4 = nI n) (hd : ∀ i, i < n → sv (M 356) (sv (M 357) i) ≤ e + 1) (k12 : Int32 → Int32 → fw_M → Option fw_M) : ∃ M1 n1, F_X5_reachNeighbours_52 1 (nI u) k12 (nI (e + 1)) (nI l) (nI p) M = k12 (nI (e + 1)) (nI (l + 1)) M1 ∧ Bq A (ed s 1) 10 (M1 356) (M1 357) n1 ∧ M1 355 4 = nI n1 ∧ (∀ i, i < n1 → sv (M1 356) (sv (M1 357) i) ≤ e + 1) ∧ xt M M1 n n1 ∧ (p + 1 < sv s (16 + 7 * l) → qd (M1 356) (M1 357) n1 (sv s (16 + 7 * l + 1 + (p + 1))) (e + 1)) := by
  have b1 := hk.1.2.1.2
  have b0 := hk.1.1.2
  obtain ⟨-, -, rl, rs, -⟩ := R0 hR
  obtain ⟨l1, l6, -⟩ := hk.2.2.1 l (by omega)
  have h8 : fw_ri M (1 + 2) (nI l) = nI (sv s (16 + 7 * l)) := by
    rw [fw_ri, nI_clamp (by omega)]
    exact (rl l (by omega)).1.trans l1
  unfold F_X5_reachNeighbours_52
  rw [if_neg (fun q => by rw [show (-1 : Int32) = mI from rfl, pm_1 (by omega)] at q; exact q), if_pos (nI_in (by omega) (by omega)), h8, nI_1, nI_1]
  by_cases hc : p + 1 < sv s (16 + 7 * l)
  · have hs := hk.2.2.2.1 l (p + 1) (by omega) hc
    have h9 : fw_ri M (1 + 4 + (nI l).toNatClampNeg) (nI (p + 1)) = nI (sv s (16 + 7 * l + 1 + (p + 1))) := by
      rw [fw_ri, nI_clamp (by omega), nI_clamp (by omega)]
      exact (rs l (p + 1) (by omega) (by omega)).trans hs.1
    obtain ⟨M1, n1, q1, q2, q3, q4, q5, q6⟩ := rch_1 (e := e + 1) h hn hd he (w := sv s (16 + 7 * l + 1 + (p + 1))) (by omega) (Or.inr ⟨u, hlu, l, p, p + 1, hl, hp, hc, by omega, hup, rfl⟩)
    rw [if_neg (nI_ge (by omega) (by omega)), if_pos (nI_in (by omega) (by omega)), h9, q1, bx_s]
    exact ⟨M1, n1, rfl, q2, q3, q4, q5, fun _ => q6⟩
  · rw [if_pos (nI_le (by omega) (by omega))]
    exact ⟨M, n, rfl, h, hn, hd, xt.refl, fun q => absurd q hc⟩
theorem rn_12 (hk : ok s) (hu : u < 10) (he : e + 1 < 16) (hlu : lev A (ed s 1) e u) : ∀ (r k l n : Nat) (M : fw_M), l + r = sv s 1 → r < k → R M 0 s → Bq A (ed s 1) 10 (M 356) (M 357) n → M 355 4 = nI n → (∀ i, i < n → sv (M 356) (sv (M 357) i) ≤ e + 1) → ∃ M1 n1, F_X5_reachNeighbours_12 1 (nI u) k (nI (e + 1)) (nI l) M = some M1 ∧ Bq A (ed s 1) 10 (M1 356) (M1 357) n1 ∧ M1 355 4 = nI n1 ∧ (∀ i, i < n1 → sv (M1 356) (sv (M1 357) i) ≤ e + 1) ∧ xt M M1 n n1 ∧ (∀ l2 i j, l ≤ l2 → l2 < sv s 1 → i < sv s (16 + 7 * l2) → j < sv s (16 + 7 * l2) → (i = j + 1 ∨ j = i + 1) → sv s (16 + 7 * l2 + 1 + i) = u → qd (M1 356) (M1 357) n1 (sv s (16 + 7 * l2 + 1 + j)) (e + 1)) := by
  have b1 := hk.1.2.1
  have b0 := hk.1.1.2
  intro r
  induction r with
  | zero =>
    intro k l n M h1 h2 hR h hn hd
    obtain ⟨k, rfl⟩ : ∃ x, k = x + 1 := ⟨k - 1, by omega⟩
    obtain ⟨⟨-, r1, -⟩, -⟩ := R0 hR
    rw [F_X5_reachNeighbours_12, r1, b1.1, if_pos (nI_le (by omega) (by omega))]
    exact ⟨M, n, rfl, h, hn, hd, xt.refl, fun l2 i j h3 h4 => by omega⟩
  | succ r ih =>
    intro k l n M h1 h2 hR h hn hd
    obtain ⟨k, rfl⟩ : ∃ x, k = x + 1 := ⟨k - 1, by omega⟩
    obtain ⟨⟨-, r1, -⟩, -, -, rs, -⟩ := R0 hR
    have l6 := (hk.2.2.1 l (by omega)).2.1
    rw [F_X5_reachNeighbours_12, r1, b1.1, if_neg (nI_ge (by omega) (by omega))]
    rcases on_line hk (l := l) (k := u) (by omega) (by omega) with ⟨p, hp, hup⟩ | hno
    · have e1 := pon_some hk hR (l := l) (by omega) hp
      rw [hup] at e1
      rw [e1, bx_s]
      by_cases hp0 : p = 0
      · subst hp0
        rw [if_pos (by decide)]
        obtain ⟨M1, n1, q1, q2, q3, q4, q5, q6⟩ := rn_52 hk hu he (by omega) hR hp hup hlu h hn hd (fun x3 x4 M => F_X5_reachNeighbours_12 1 (nI u) k x3 x4 M)
        obtain ⟨M2, n2, w1, w2, w3, w4, w5, w6⟩ := ih k (l + 1) n1 M1 (by omega) (by omega) (hR.cong (fun c _ h => q5.2.2 c (by omega) (by omega) (by omega))) q2 q3 q4
        refine ⟨M2, n2, q1.trans w1, w2, w3, w4, q5.trans w5, fun l2 i j h3 h4 h5 h6 h7 h8 => ?_⟩
        by_cases el : l2 = l
        · subst el
          have ei : i = 0 := by
            refine Decidable.byContradiction (fun hne => hk.2.2.2.2.1 l2 0 i (by omega) (by omega) h5 (by rw [hup, h8]))
          subst ei
          obtain rfl : j = 0 + 1 := by omega
          exact (q6 h6).xt w5
        · exact w6 l2 i j (by omega) h4 h5 h6 h7 h8
      · have hs := hk.2.2.2.1 l (p - 1) (by omega) (by omega)
        have h9 : fw_ri M (1 + 4 + (nI l).toNatClampNeg) (nI p - 1) = nI (sv s (16 + 7 * l + 1 + (p - 1))) := by
          have e5 : nI p - 1 = nI (p - 1) := pk_sub (a := p) (b := 1) (by omega)
          rw [e5, fw_ri, nI_clamp (by omega), nI_clamp (by omega)]
          exact (rs l (p - 1) (by omega) (by omega)).trans hs.1
        have h10 : ix_i (nI p - 1) 6 := by
          have e5 : nI p - 1 = nI (p - 1) := pk_sub (a := p) (b := 1) (by omega)
          rw [e5]
          exact nI_in (by omega) (by omega)
        obtain ⟨M0, n0, v1, v2, v3, v4, v5, v6⟩ := rch_1 (e := e + 1) h hn hd he (w := sv s (16 + 7 * l + 1 + (p - 1))) (by omega) (Or.inr ⟨u, hlu, l, p, p - 1, by omega, hp, by omega, by omega, hup, rfl⟩)
        rw [if_neg (nI_nle (by omega) (by omega)), if_pos (nI_in (by omega) (by omega)), if_pos h10, h9, v1, bx_s]
        have hR0 : R M0 0 s := hR.cong (fun c _ h => v5.2.2 c (by omega) (by omega) (by omega))
        obtain ⟨M1, n1, q1, q2, q3, q4, q5, q6⟩ := rn_52 hk hu he (by omega) hR0 hp hup hlu v2 v3 v4 (fun x3 x4 M => F_X5_reachNeighbours_12 1 (nI u) k x3 x4 M)
        obtain ⟨M2, n2, w1, w2, w3, w4, w5, w6⟩ := ih k (l + 1) n1 M1 (by omega) (by omega) (hR0.cong (fun c _ h => q5.2.2 c (by omega) (by omega) (by omega))) q2 q3 q4
        refine ⟨M2, n2, q1.trans w1, w2, w3, w4, (v5.trans q5).trans w5, fun l2 i j h3 h4 h5 h6 h7 h8 => ?_⟩
        by_cases el : l2 = l
        · subst el
          have ei : i = p := by
            rcases Nat.lt_trichotomy i p with hlt | heq | hlt
            · exact absurd (h8.trans hup.symm) (hk.2.2.2.2.1 l2 i p (by omega) hlt hp)
            · exact heq
            · exact absurd (hup.trans h8.symm) (hk.2.2.2.2.1 l2 p i (by omega) hlt h5)
          subst ei
          rcases h7 with h7 | h7
          · have ej : j = i - 1 := by omega
            rw [ej]
            exact (v6.xt q5).xt w5
          · rw [h7]
            rw [h7] at h6
            exact (q6 h6).xt w5
        · exact w6 l2 i j (by omega) h4 h5 h6 h7 h8
    · rw [pon_none hk hR (l := l) (by omega) hno, bx_s, if_pos (by decide)]
      unfold F_X5_reachNeighbours_52
      rw [if_pos (show mI = -1 from rfl), nI_1]
      obtain ⟨M2, n2, w1, w2, w3, w4, w5, w6⟩ := ih k (l + 1) n M (by omega) (by omega) hR h hn hd
      refine ⟨M2, n2, w1, w2, w3, w4, w5, fun l2 i j h3 h4 h5 h6 h7 h8 => ?_⟩
      by_cases el : l2 = l
      · subst el
        have := (hk.2.2.2.1 l2 i (by omega) h5).1
        rw [h8] at this
        exact absurd this (hno i h5)
      · exact w6 l2 i j (by omega) h4 h5 h6 h7 h8
theorem sb_22 (hk : ok s) {t : Nat} (ht : t < 10) (a2 : Int32) : ∀ (r k h n : Nat) (M : fw_M), h + r = 10 → r < k → R M 0 s → Bq A (ed s 1) 10 (M 356) (M 357) n → M 355 4 = nI n → h ≤ n → (∀ v, A v → qd (M 356) (M 357) n v 0) → (∀ i v, i < h → ed s 1 (sv (M 357) i) v → qd (M 356) (M 357) n v (sv (M 356) (sv (M 357) i) + 1)) → (∀ i, i < h → sv (M 357) i ≠ t) → (∀ i, h < n → i < n → sv (M 356) (sv (M 357) i) ≤ sv (M 356) (sv (M 357) h) + 1) → (∀ k v, lev A (ed s 1) k v → lev A (ed s 1) 9 v) → ∃ x M1, F_X5_stepsBySearch_22 1 a2 (nI t) k (nI h) M = some (x, M1) ∧ Rs1 (fun k => lev A (ed s 1) k t) x ∧ (∀ c, c ≠ 355 → c ≠ 356 → c ≠ 357 → M1 c = M c) := by
  intro r
  induction r with
  | zero =>
    intro k h n M h1 h2 hR hB hn hhn h0 hd hnt hdp hfx
    obtain ⟨k, rfl⟩ : ∃ x, k = x + 1 := ⟨k - 1, by omega⟩
    have hn10 := hB.1
    rw [F_X5_stepsBySearch_22, hn, if_pos (nI_le (by omega) (by omega))]
    refine ⟨_, M, rfl, Or.inr ⟨rfl, fun q hq => ?_⟩, fun _ _ _ _ => rfl⟩
    obtain ⟨⟨i, hi, e⟩, -⟩ := Bq.done (h := h) h0 hd q (fun i hi _ => by omega) t hq
    exact hnt i (by omega) e
  | succ r ih =>
    intro k h n M h1 h2 hR hB hn hhn h0 hd hnt hdp hfx
    obtain ⟨k, rfl⟩ : ∃ x, k = x + 1 := ⟨k - 1, by omega⟩
    have hn10 := hB.1
    rw [F_X5_stepsBySearch_22, hn]
    by_cases hh : n ≤ h
    · rw [if_pos (nI_le hh (by omega))]
      refine ⟨_, M, rfl, Or.inr ⟨rfl, fun q hq => ?_⟩, fun _ _ _ _ => rfl⟩
      obtain ⟨⟨i, hi, e⟩, -⟩ := Bq.done (h := h) h0 hd q (fun i hi _ => by omega) t hq
      exact hnt i (by omega) e
    · obtain ⟨b1, b2, b3, b4, b5⟩ := hB.2.1 h (by omega)
      have e1 : fw_ri M 357 (nI h) = nI (sv (M 357) h) := by rw [fw_ri, nI_clamp (by omega)]; exact b1
      have hsort : ∀ j, j < n → sv (M 356) (sv (M 357) j) < sv (M 356) (sv (M 357) h) → j < h := fun j hj hlt => by
        rcases Nat.lt_trichotomy j h with q | q | q
        · exact q
        · rw [q] at hlt; omega
        · have := (hB.2.2.1 h j q hj).2
          omega
      rw [if_neg (nI_ge (by omega) (by omega)), if_neg (show ¬ (10 : Int32) ≤ nI h from nI_ge (b := 10) (by omega) (by omega)), if_pos (nI_in (by omega) (by omega)), e1]
      by_cases et : sv (M 357) h = t
      · rw [et] at b2 b3 b4 b5 hsort ⊢
        have e2 : fw_ri M 356 (nI t) = nI (sv (M 356) t) := by rw [fw_ri, nI_clamp (by omega)]; exact b3
        rw [if_neg (fun q => q rfl), if_pos (nI_in (by omega) (by omega)), e2]
        refine ⟨_, M, rfl, Or.inl ⟨sv (M 356) t, b4, rfl, b5, fun j hj hq => ?_⟩, fun _ _ _ _ => rfl⟩
        obtain ⟨-, hle⟩ := Bq.done (h := h) h0 hd j (fun i hi hlt => hsort i hi (by omega)) t hq
        omega
      · have hdl : sv (M 356) (sv (M 357) h) + 1 < 16 := by
          refine Decidable.byContradiction (fun hc => ?_)
          have h9 := hfx _ _ b5
          obtain ⟨-, hle⟩ := Bq.done (h := h) h0 hd 9 (fun i hi hlt => hsort i hi (by omega)) _ h9
          omega
        have e3 : (fw_ri M 356 (nI (sv (M 357) h)) + 1 : Int32) = nI (sv (M 356) (sv (M 357) h) + 1) := by
          rw [fw_ri, nI_clamp (by omega), b3, nI_1]
        obtain ⟨M1, n1, q1, q2, q3, q4, q5, q6⟩ := rn_12 hk b2 hdl b5 (sv s 1) 64 0 n M (by omega) (by have := hk.1.2.1.2; omega) hR hB hn (fun i hi => hdp i (by omega) hi)
        rw [if_pos (fun q => et ((nI_eq (by omega) (by omega)).mp q))]
        unfold F_X5_reachNeighbours
        rw [if_pos (nI_in (by omega) (by omega)), e3]
        have q1' : F_X5_reachNeighbours_12 1 (nI (sv (M 357) h)) 64 (nI (sv (M 356) (sv (M 357) h) + 1)) 0 M = some M1 := q1
        rw [q1', bx_s, nI_1]
        have hx : ∀ i, i < n → sv (M1 357) i = sv (M 357) i ∧ sv (M1 356) (sv (M 357) i) = sv (M 356) (sv (M 357) i) := q5.2.1
        have hle := q5.1
        obtain ⟨x, M2, w1, w2, w3⟩ := ih k (h + 1) n1 M1 (by omega) (by omega) (hR.cong (fun c _ h => q5.2.2 c (by omega) (by omega) (by omega))) q2 q3 (by omega) (fun v hv => (h0 v hv).xt q5) (fun i v hi hE => by
          obtain ⟨a1, a2⟩ := hx i (by omega)
          rw [a1] at hE ⊢
          rw [a2]
          by_cases ei : i = h
          · subst ei
            obtain ⟨l2, p, q, c1, c2, c3, c4, c5, rfl⟩ := hE
            exact q6 l2 p q (by omega) c1 c2 c3 (by omega) c5
          · exact (hd i v (by omega) hE).xt q5) (fun i hi => by
          rw [(hx i (by omega)).1]
          by_cases ei : i = h
          · rw [ei]; exact et
          · exact hnt i (by omega)) (fun i hh1 hi => by
          have c1 := q4 i hi
          have c2 := (q2.2.2.1 h (h + 1) (by omega) hh1).2
          rw [(hx h (by omega)).1, (hx h (by omega)).2] at c2
          omega) hfx
        exact ⟨x, M2, w1, w2, fun c a b d => (w3 c a b d).trans (q5.2.2 c a b d)⟩
theorem sb_ok (hk : ok s) {M : fw_M} (hR : R M 0 s) {a t : Nat} (ha : a < 10) (ht : t < 10) : ∃ x M1, F_X5_stepsBySearch M 1 (nI a) (nI t) = some (x, M1) ∧ Rs1 (fun k => lev (fun x => x = a) (ed s 1) k t) x ∧ (∀ c, c ≠ 355 → c ≠ 356 → c ≠ 357 → M1 c = M c) := by
  have b0 := hk.1.1.2
  obtain ⟨M1, q1, q2, q3⟩ := fill_ok (k1 := 356) (n1 := 10) (a := -1) (M := M) (by omega)
  unfold F_X5_stepsBySearch
  rw [q1, bx_s, lx_s]
  have hB : Bq (fun x => x = a) (ed s 1) 10 (fw_up M1 355 4 0 356) (fw_up M1 355 4 0 357) 0 := ⟨by omega, fun i hi => by omega, fun i j hi hj => by omega, fun v hv => Or.inl (by rw [up_n1 (by omega)]; exact q2 v hv)⟩
  obtain ⟨M2, n2, w1, w2, w3, w4, w5, w6⟩ := rch_1 (e := 0) (w := a) hB (up_e rfl rfl) (fun i hi => by omega) (by omega) ha rfl
  have w1' : F_X5_reachStop (fw_up M1 355 4 0) (nI a) 0 = some M2 := w1
  rw [w1', bx_s]
  have hf : ∀ k v, lev (fun x => x = a) (ed s 1) k v → lev (fun x => x = a) (ed s 1) 9 v := fun k v h => lev_fix (N := 10) (by omega) (fun v hv => by rw [hv]; exact ha) (fun u v h => Nat.lt_of_lt_of_le (ed_lt hk h).2 b0) h
  have hfr : ∀ c, c ≠ 355 → c ≠ 356 → c ≠ 357 → M2 c = M c := fun c x y z => by rw [w5.2.2 c x y z, up_n1 x, q3 c y]
  obtain ⟨x, M3, v1, v2, v3⟩ := sb_22 (A := fun x => x = a) hk ht (nI a) 10 64 0 n2 M2 (by omega) (by omega) (hR.cong (fun c _ h => hfr c (by omega) (by omega) (by omega))) w2 w3 (by omega) (fun v hv => by rw [hv]; exact w6) (fun i v hi => by omega) (fun i hi => by omega) (fun i _ hi => by have := w4 i hi; omega) hf
  exact ⟨x, M3, v1, v2, fun c x y z => (v3 c x y z).trans (hfr c x y z)⟩
end BF
