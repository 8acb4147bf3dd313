/-! the class's search over lines, and its growth -/
def onl (s : Nat → Int32) (l v : Nat) : Prop := l < sv s 1 ∧ ∃ i, i < sv s (16 + 7 * l) ∧ sv s (16 + 7 * l + 1 + i) = v
def AL (s : Nat → Int32) (a l : Nat) : Prop := onl s l a
def EL (s : Nat → Int32) (u v : Nat) : Prop := ∃ x, onl s u x ∧ onl s v x
theorem ls_k {s : Nat → Int32} {a : Nat} : ∀ k v, lev (fun x => x = a) (ed s 0) (k + 1) v ↔ v = a ∨ ∃ l, lev (AL s a) (EL s) k l ∧ onl s l v := by
  intro k
  induction k with
  | zero =>
    intro v
    constructor
    · rintro (h | ⟨u, hu, l, i, j, h1, h2, h3, -, h5, h6⟩)
      · exact Or.inl h
      · exact Or.inr ⟨l, ⟨h1, i, h2, h5.trans hu⟩, h1, j, h3, h6⟩
    · rintro (h | ⟨l, ⟨h1, i, h2, h5⟩, -, j, h3, h6⟩)
      · exact Or.inl h
      · exact Or.inr ⟨a, rfl, l, i, j, h1, h2, h3, Or.inl rfl, h5, h6⟩
  | succ k ih =>
    intro v
    constructor
    · rintro (h | ⟨u, hu, l, i, j, h1, h2, h3, -, h5, h6⟩)
      · rcases (ih v).mp h with h | ⟨l, h, h2⟩
        · exact Or.inl h
        · exact Or.inr ⟨l, Or.inl h, h2⟩
      · refine Or.inr ⟨l, ?_, h1, j, h3, h6⟩
        rcases (ih u).mp hu with h | ⟨l2, h, h7⟩
        · exact lev_up (j := 0) (show lev (AL s a) (EL s) 0 l from ⟨h1, i, h2, h5.trans h⟩) (by omega)
        · exact Or.inr ⟨l2, h, u, h7, h1, i, h2, h5⟩
    · rintro (h | ⟨l, h, h7⟩)
      · exact lev_up (j := 0) (show lev (fun x => x = a) (ed s 0) 0 v from h) (by omega)
      · rcases h with h | ⟨l2, h, x, hx, hx2⟩
        · exact Or.inl ((ih v).mpr (Or.inr ⟨l, h, h7⟩))
        · refine Or.inr ⟨x, (ih x).mpr (Or.inr ⟨l2, h, hx⟩), ?_⟩
          obtain ⟨h1, i, h2, h3⟩ := hx2
          obtain ⟨-, j, h4, h5⟩ := h7
          exact ⟨l, i, j, h1, h2, h4, Or.inl rfl, h3, h5⟩
theorem and_0 {a b : Nat} (ha : a < 1024) (hb : b < 1024) : (nI a &&& nI b = 0) ↔ ¬ ∃ i, a.testBit i = true ∧ b.testBit i = true := by
  have hlt : a &&& b < 1024 := Nat.lt_of_le_of_lt Nat.and_le_left ha
  rw [fa_and, show (0 : Int32) = nI 0 from rfl, nI_eq (by omega) (by omega)]
  constructor
  · rintro h ⟨i, h1, h2⟩
    have : (a &&& b).testBit i = true := by rw [Nat.testBit_and, h1, h2]; rfl
    rw [h, Nat.zero_testBit] at this
    cases this
  · intro h
    refine Nat.eq_of_testBit_eq (fun i => ?_)
    rw [Nat.zero_testBit, Nat.testBit_and, Bool.and_eq_false_iff]
    by_cases h1 : a.testBit i = true
    · right
      rw [Bool.eq_false_iff]
      exact fun h2 => h ⟨i, h1, h2⟩
    · left
      rw [Bool.eq_false_iff]
      exact h1
def xl (M M1 : fw_M) (n n1 : Nat) : Prop := n ≤ n1 ∧ (∀ i, i < n → sv (M1 359) i = sv (M 359) i ∧ sv (M1 358) (sv (M 359) i) = sv (M 358) (sv (M 359) i)) ∧ ∀ k, k ≠ 355 → k ≠ 358 → k ≠ 359 → M1 k = M k
theorem xl.refl {M : fw_M} {n : Nat} : xl M M n n := ⟨Nat.le_refl n, fun _ _ => ⟨rfl, rfl⟩, fun _ _ _ _ => rfl⟩
theorem xl.trans {M M1 M2 : fw_M} {n n1 n2 : Nat} (h : xl M M1 n n1) (q : xl M1 M2 n1 n2) : xl M M2 n n2 := by
  refine ⟨Nat.le_trans h.1 q.1, fun i hi => ?_, fun k a b c => (q.2.2 k a b c).trans (h.2.2 k a b c)⟩
  obtain ⟨a, b⟩ := h.2.1 i hi
  obtain ⟨c, d⟩ := q.2.1 i (Nat.lt_of_lt_of_le hi h.1)
  rw [a] at c d
  exact ⟨c, d.trans b⟩
theorem qd.xl {M M1 : fw_M} {n n1 v k : Nat} (h : qd (M 358) (M 359) n v k) (q : xl M M1 n n1) : qd (M1 358) (M1 359) n1 v k := by
  obtain ⟨⟨i, hi, rfl⟩, hk⟩ := h
  obtain ⟨a, b⟩ := q.2.1 i hi
  exact ⟨⟨i, Nat.lt_of_lt_of_le hi q.1, a⟩, by rw [b]; exact hk⟩
section LN
variable {s : Nat → Int32} {A : Nat → Prop} {E : Nat → Nat → Prop} {e m : Nat}
theorem rl_3 (hk : ok s) (hm : m < 1024) (he : e < 16) (hlv : ∀ v, v < sv s 1 → (∃ i, (lset s v).testBit i = true ∧ m.testBit i = true) → lev A E e v) : ∀ (r k l n : Nat) (M : fw_M), l + r = sv s 1 → r < k → R M 0 s → Bq A E 5 (M 358) (M 359) n → M 355 4 = nI n → (∀ i, i < n → sv (M 358) (sv (M 359) i) ≤ e) → ∃ M1 n1, F_X5_reachLines_3 1 (nI m) (nI e) k (nI l) M = some M1 ∧ Bq A E 5 (M1 358) (M1 359) n1 ∧ M1 355 4 = nI n1 ∧ (∀ i, i < n1 → sv (M1 358) (sv (M1 359) i) ≤ e) ∧ xl M M1 n n1 ∧ (∀ v, l ≤ v → v < sv s 1 → (∃ i, (lset s v).testBit i = true ∧ m.testBit i = true) → qd (M1 358) (M1 359) n1 v e) := by
  have b1 := hk.1.2.1
  intro r
  induction r with
  | zero =>
    intro k l n M h1 h2 hR h hn hd
    obtain ⟨k, rfl⟩ : ∃ x, k = x + 1 := ⟨k - 1, by omega⟩
    obtain ⟨⟨-, r1, -⟩, -⟩ := R0 hR
    rw [F_X5_reachLines_3, r1, b1.1, if_pos (nI_le (by omega) (by omega))]
    exact ⟨M, n, rfl, h, hn, hd, xl.refl, fun v h3 h4 => by omega⟩
  | succ r ih =>
    intro k l n M h1 h2 hR h hn hd
    obtain ⟨k, rfl⟩ : ∃ x, k = x + 1 := ⟨k - 1, by omega⟩
    obtain ⟨⟨-, r1, -⟩, -, rl, -⟩ := R0 hR
    have hlt := lset_lt hk (l := l) (by omega)
    have e1 : fw_ri M 358 (nI l) = M 358 l := by rw [fw_ri, nI_clamp (by omega)]
    have e2 : fw_ri M (1 + 9) (nI l) = nI (lset s l) := by
      rw [fw_ri, nI_clamp (by omega)]
      exact (rl l (by omega)).2
    rw [F_X5_reachLines_3, r1, b1.1, if_neg (nI_ge (by omega) (by omega)), if_pos (nI_in (by omega) (by omega)), e1, e2, nI_1, show (-1 : Int32) = mI from rfl]
    rcases h.2.2.2 l (by omega) with hm1 | ⟨i, hi, hq⟩
    · rw [hm1, if_neg (fun q => q rfl)]
      by_cases hz : nI (lset s l) &&& nI m = 0
      · rw [if_pos hz]
        obtain ⟨M1, n1, q1, q2, q3, q4, q5, q6⟩ := ih k (l + 1) n M (by omega) (by omega) hR h hn hd
        refine ⟨M1, n1, q1, q2, q3, q4, q5, fun v h3 h4 h5 => ?_⟩
        by_cases ev : v = l
        · subst ev
          exact absurd h5 ((and_0 hlt hm).mp hz)
        · exact q6 v (by omega) h4 h5
      · rw [if_neg hz]
        have ht : ∃ i, (lset s l).testBit i = true ∧ m.testBit i = true := Classical.not_not.mp (fun q => hz ((and_0 hlt hm).mpr q))
        obtain ⟨p1, p2, p3, p4, p5⟩ := Bq.push (N := 5) (by omega) h hd he (w := l) (by omega) (hlv l (by omega) ht) hm1
        rw [hn, if_neg (show ¬ (5 : Int32) ≤ nI n from nI_ge (b := 5) (by omega) (by omega))]
        simp (disch := omega) only [ix_i, ↓pn_m, pn_l0, pn_l1, pn_l2, pn_l3, pn_l4, pn_l5, pn_l6, pn_l7, pn_l8, pn_l9, pn_l10, pn_l11, pn_l12, pn_l16, pn_l18, pn_l20, pn_l31, pn_l32, pn_l40, pn_l45, pn_l48, pn_l51, pn_l57, pn_l59, pn_l60, pn_l62, pn_l64, pn_l69, pn_l97, pn_l98, pn_l99, pn_l100, pn_l101, pn_l105, pn_l107, pn_l108, pn_l114, pn_l115, pn_l116, pn_l117, pn_l119, pn_l126, pn_l129, pn_l240, pn_l903, pn_l1032, nI_add, pk_mul, pk_sub, nI_clamp, nI_leI, nI_ltI, nI_eq, pm_1, pm_2, pm_3, pm_4, pm_5, pm_6, pm_7, pm_8, pn_lt, pn_nlt, pn_le, pn_nle, pn_ne, pn_eq, not_true_eq_false, not_false_eq_true, true_and, and_true, false_and, and_false, true_or, or_true, false_or, or_false, or_self, and_self, ne_eq, reduceIte, if_true, if_false, Nat.add_zero, Nat.zero_add, Nat.mul_zero, Nat.reduceAdd, Nat.reduceMul, lx_s, fw_wi, up_n1, hn]
        have f6 : (fw_up (fw_up (fw_up M 358 l (nI e)) 359 n (nI l)) 355 4 (nI (n + 1))) 358 = upd (M 358) l (nI e) := by rw [up_n1 (by omega), up_n1 (by omega), up_f]
        have f7 : (fw_up (fw_up (fw_up M 358 l (nI e)) 359 n (nI l)) 355 4 (nI (n + 1))) 359 = upd (M 359) n (nI l) := by rw [up_n1 (by omega), up_f, up_n1 (by omega)]
        have f5 : (fw_up (fw_up (fw_up M 358 l (nI e)) 359 n (nI l)) 355 4 (nI (n + 1))) 355 4 = nI (n + 1) := up_e rfl rfl
        have fo : ∀ c, c ≠ 355 → c ≠ 358 → c ≠ 359 → (fw_up (fw_up (fw_up M 358 l (nI e)) 359 n (nI l)) 355 4 (nI (n + 1))) c = M c := fun c h3 h4 h5 => by rw [up_n1 h3, up_n1 h5, up_n1 h4]
        generalize fw_up (fw_up (fw_up M 358 l (nI e)) 359 n (nI l)) 355 4 (nI (n + 1)) = M0 at f6 f7 f5 fo ⊢
        have x0 : xl M M0 n (n + 1) := ⟨by omega, fun i hi => by rw [f6, f7]; exact p4 i hi, fo⟩
        obtain ⟨M1, n1, q1, q2, q3, q4, q5, q6⟩ := ih k (l + 1) (n + 1) M0 (by omega) (by omega) (hR.cong (fun c _ h => fo c (by omega) (by omega) (by omega))) (by rw [f6, f7]; exact p2) f5 (by rw [f6, f7]; exact p3)
        refine ⟨M1, n1, q1, q2, q3, q4, x0.trans q5, fun v h3 h4 h5 => ?_⟩
        by_cases ev : v = l
        · subst ev
          exact qd.xl (by rw [f6, f7]; exact p5) q5
        · exact q6 v (by omega) h4 h5
    · obtain ⟨a, b, c, d, f⟩ := h.2.1 i hi
      rw [hq] at c d
      rw [c, if_pos (fun q => by rw [pm_1 (by omega)] at q; exact q)]
      obtain ⟨M1, n1, q1, q2, q3, q4, q5, q6⟩ := ih k (l + 1) n M (by omega) (by omega) hR h hn hd
      refine ⟨M1, n1, q1, q2, q3, q4, q5, fun v h3 h4 h5 => ?_⟩
      by_cases ev : v = l
      · subst ev
        exact qd.xl ⟨⟨i, hi, hq⟩, by rw [← hq]; exact hd i hi⟩ q5
      · exact q6 v (by omega) h4 h5
theorem touch {l v : Nat} : (∃ i, (lset s v).testBit i = true ∧ (lset s l).testBit i = true) ↔ ∃ x, (∃ i, i < sv s (16 + 7 * l) ∧ sv s (16 + 7 * l + 1 + i) = x) ∧ (∃ i, i < sv s (16 + 7 * v) ∧ sv s (16 + 7 * v + 1 + i) = x) := by
  constructor
  · rintro ⟨x, h1, h2⟩
    exact ⟨x, lset_t.mp h2, lset_t.mp h1⟩
  · rintro ⟨x, h1, h2⟩
    exact ⟨x, lset_t.mpr h2, lset_t.mpr h1⟩
theorem srv_b {M : fw_M} (hk : ok s) (hR : R M 0 s) {l t : Nat} (hl : l < sv s 1) (ht : t < 10) : ∃ x, F_X3_serves M 1 (nI l) (nI t) = some (nI x) ∧ (x = 0 ∨ x = 1) ∧ (x = 1 ↔ onl s l t) := by
  have b1 := hk.1.2.1.2
  rcases on_line hk (l := l) (k := t) (by omega) (by omega) with ⟨p, hp, rfl⟩ | h
  · exact ⟨1, srv_t hR (by omega) hp ht, Or.inr rfl, fun _ => ⟨hl, p, hp, rfl⟩, fun _ => rfl⟩
  · refine ⟨0, srv_f hk hR (by omega) ht h, Or.inl rfl, fun q => by omega, fun ⟨_, p, hp, q⟩ => ?_⟩
    have := (hk.2.2.2.1 l p (by omega) hp).1
    rw [q] at this
    exact absurd this (h p hp)
theorem lb_32 (hk : ok s) {a t : Nat} (ht : t < 10) (a2 : Int32) : ∀ (r k h n : Nat) (M : fw_M), h + r = 5 → r < k → R M 0 s → Bq (AL s a) (EL s) 5 (M 358) (M 359) n → M 355 4 = nI n → h ≤ n → (∀ v, AL s a v → qd (M 358) (M 359) n v 0) → (∀ i v, i < h → EL s (sv (M 359) i) v → qd (M 358) (M 359) n v (sv (M 358) (sv (M 359) i) + 1)) → (∀ i, i < h → ¬ onl s (sv (M 359) i) t) → (∀ i, h < n → i < n → sv (M 358) (sv (M 359) i) ≤ sv (M 358) (sv (M 359) h) + 1) → ∃ x M1, F_X5_linesBySearch_32 1 a2 (nI t) k (nI h) M = some (x, M1) ∧ Rs1 (fun k => ∃ l, lev (AL s a) (EL s) k l ∧ onl s l t) x ∧ (∀ c, c ≠ 355 → c ≠ 358 → c ≠ 359 → M1 c = M c) := by
  have b1 := hk.1.2.1.2
  have hfx : ∀ k v, lev (AL s a) (EL s) k v → lev (AL s a) (EL s) 4 v := fun k v h => lev_fix (N := 5) (by omega) (fun v hv => Nat.lt_of_lt_of_le hv.1 b1) (fun u v h => by obtain ⟨x, -, h⟩ := h; exact Nat.lt_of_lt_of_le h.1 b1) h
  intro r
  induction r with
  | zero =>
    intro k h n M h1 h2 hR hB hn hhn h0 hd hnt hdp
    obtain ⟨k, rfl⟩ : ∃ x, k = x + 1 := ⟨k - 1, by omega⟩
    have hn10 := hB.1
    rw [F_X5_linesBySearch_32, hn, if_pos (nI_le (by omega) (by omega))]
    refine ⟨_, M, rfl, Or.inr ⟨rfl, fun q hq => ?_⟩, fun _ _ _ _ => rfl⟩
    obtain ⟨l, hl, ho⟩ := hq
    obtain ⟨⟨i, hi, e⟩, -⟩ := Bq.done (h := h) h0 hd q (fun i hi _ => by omega) l hl
    exact hnt i (by omega) (e ▸ ho)
  | succ r ih =>
    intro k h n M h1 h2 hR hB hn hhn h0 hd hnt hdp
    obtain ⟨k, rfl⟩ : ∃ x, k = x + 1 := ⟨k - 1, by omega⟩
    have hn10 := hB.1
    rw [F_X5_linesBySearch_32, hn]
    by_cases hh : n ≤ h
    · rw [if_pos (nI_le hh (by omega))]
      refine ⟨_, M, rfl, Or.inr ⟨rfl, fun q hq => ?_⟩, fun _ _ _ _ => rfl⟩
      obtain ⟨l, hl, ho⟩ := hq
      obtain ⟨⟨i, hi, e⟩, -⟩ := Bq.done (h := h) h0 hd q (fun i hi _ => by omega) l hl
      exact hnt i (by omega) (e ▸ ho)
    · obtain ⟨b1q, b2, b3, b4, b5⟩ := hB.2.1 h (by omega)
      have hlL : sv (M 359) h < sv s 1 := lev_lt (N := sv s 1) (fun v hv => hv.1) (fun u v h => by obtain ⟨x, -, h⟩ := h; exact h.1) _ _ b5
      have e1 : fw_ri M 359 (nI h) = nI (sv (M 359) h) := by rw [fw_ri, nI_clamp (by omega)]; exact b1q
      have e2 : fw_ri M 358 (nI (sv (M 359) h)) = nI (sv (M 358) (sv (M 359) h)) := by rw [fw_ri, nI_clamp (by omega)]; exact b3
      have hsort : ∀ j, j < n → sv (M 358) (sv (M 359) j) < sv (M 358) (sv (M 359) h) → j < h := fun j hj hlt => by
        rcases Nat.lt_trichotomy j h with q | q | q
        · exact q
        · rw [q] at hlt; omega
        · have := (hB.2.2.1 h j q hj).2
          omega
      obtain ⟨x, sx1, sx2, sx3⟩ := srv_b hk hR hlL ht
      rw [if_neg (nI_ge (by omega) (by omega)), if_neg (show ¬ (5 : Int32) ≤ nI h from nI_ge (b := 5) (by omega) (by omega)), if_pos (nI_in (by omega) (by omega)), e1, sx1, bx_s]
      rcases sx2 with rfl | rfl
      · have hdl : sv (M 358) (sv (M 359) h) + 1 < 16 := by
          refine Decidable.byContradiction (fun hc => ?_)
          obtain ⟨-, hle⟩ := Bq.done (h := h) h0 hd 4 (fun i hi hlt => hsort i hi (by omega)) _ (hfx _ _ b5)
          omega
        obtain ⟨-, -, rl, -⟩ := R0 hR
        have e3 : fw_ri M (1 + 9) (nI (sv (M 359) h)) = nI (lset s (sv (M 359) h)) := by
          rw [fw_ri, nI_clamp (by omega)]
          exact (rl _ (by omega)).2
        obtain ⟨M1, n1, q1, q2, q3, q4, q5, q6⟩ := rl_3 (A := AL s a) (E := EL s) (e := sv (M 358) (sv (M 359) h) + 1) (m := lset s (sv (M 359) h)) hk (lset_lt hk (by omega)) hdl (fun v hv ht2 => by
          obtain ⟨x, hx1, hx2⟩ := touch.mp ht2
          exact Or.inr ⟨_, b5, x, ⟨hlL, hx1⟩, hv, hx2⟩) (sv s 1) 64 0 n M (by omega) (by omega) hR hB hn (fun i hi => hdp i (by omega) hi)
        have q1' : F_X5_reachLines M 1 (nI (lset s (sv (M 359) h))) (nI (sv (M 358) (sv (M 359) h) + 1)) = some M1 := q1
        rw [if_pos (show nI 0 = 0 from rfl), if_pos (nI_in (by omega) (by omega)), e2, e3, nI_1, q1', bx_s, nI_1]
        have hx : ∀ i, i < n → sv (M1 359) i = sv (M 359) i ∧ sv (M1 358) (sv (M 359) i) = sv (M 358) (sv (M 359) i) := q5.2.1
        have hle := q5.1
        obtain ⟨x, M2, w1, w2, w3⟩ := ih k (h + 1) n1 M1 (by omega) (by omega) (hR.cong (fun c _ h => q5.2.2 c (by omega) (by omega) (by omega))) q2 q3 (by omega) (fun v hv => (h0 v hv).xl q5) (fun i v hi hE => by
          obtain ⟨a1, a2⟩ := hx i (by omega)
          rw [a1] at hE ⊢
          rw [a2]
          by_cases ei : i = h
          · subst ei
            obtain ⟨x, hx1, hx2⟩ := hE
            exact q6 v (by omega) hx2.1 (touch.mpr ⟨x, hx1.2, hx2.2⟩)
          · exact (hd i v (by omega) hE).xl q5) (fun i hi => by
          rw [(hx i (by omega)).1]
          by_cases ei : i = h
          · rw [ei]; exact fun q => by have := sx3.mpr q; omega
          · exact hnt i (by omega)) (fun i hh1 hi => by
          have c1 := q4 i hi
          have c2 := (q2.2.2.1 h (h + 1) (by omega) hh1).2
          rw [(hx h (by omega)).1, (hx h (by omega)).2] at c2
          omega)
        exact ⟨x, M2, w1, w2, fun c a b d => (w3 c a b d).trans (q5.2.2 c a b d)⟩
      · rw [if_neg (show ¬ nI 1 = 0 by decide), if_pos (nI_in (by omega) (by omega)), e2]
        refine ⟨_, M, rfl, Or.inl ⟨_, b4, rfl, ⟨_, b5, sx3.mp rfl⟩, fun j hj hq => ?_⟩, fun _ _ _ _ => rfl⟩
        obtain ⟨l, hl, ho⟩ := hq
        obtain ⟨⟨i, hi, hil⟩, hle⟩ := Bq.done (h := h) h0 hd j (fun i hi hlt => hsort i hi (by omega)) l hl
        rw [← hil] at hle ho
        exact hnt i (hsort i hi (by omega)) ho
theorem lb_ok (hk : ok s) {M : fw_M} (hR : R M 0 s) {a t : Nat} (ha : a < 10) (ht : t < 10) (hat : a ≠ t) : ∃ x M1, F_X5_linesBySearch M 1 (nI a) (nI t) = some (x, M1) ∧ Rs1 (fun k => ∃ l, lev (AL s a) (EL s) k l ∧ onl s l t) x ∧ (∀ c, c ≠ 355 → c ≠ 358 → c ≠ 359 → M1 c = M c) := by
  have b1 := hk.1.2.1.2
  obtain ⟨M1, q1, q2, q3⟩ := fill_ok (k1 := 358) (n1 := 5) (a := -1) (M := M) (by omega)
  unfold F_X5_linesBySearch
  rw [if_pos (fun q => hat ((nI_eq (by omega) (by omega)).mp q)), q1, bx_s, lx_s]
  have hB : Bq (AL s a) (EL s) 5 (fw_up M1 355 4 0 358) (fw_up M1 355 4 0 359) 0 := ⟨by omega, fun i hi => by omega, fun i j hi hj => by omega, fun v hv => Or.inl (by rw [up_n1 (by omega)]; exact q2 v hv)⟩
  have hR1 : R (fw_up M1 355 4 0) 0 s := hR.cong (fun c _ h => by rw [up_n1 (by omega), q3 c (by omega)])
  have e1 : (1 <<< (nI a &&& 31) : Int32) = nI (2 ^ a) := sh_1 a (by omega)
  have hbit : ∀ v, (∃ i, (lset s v).testBit i = true ∧ (2 ^ a).testBit i = true) ↔ ∃ i, i < sv s (16 + 7 * v) ∧ sv s (16 + 7 * v + 1 + i) = a := fun v => by
    constructor
    · rintro ⟨i, h1, h2⟩
      rw [Nat.testBit_two_pow, decide_eq_true_iff] at h2
      subst h2
      exact lset_t.mp h1
    · intro h
      exact ⟨a, lset_t.mpr h, by rw [Nat.testBit_two_pow, decide_eq_true_iff]⟩
  obtain ⟨M2, n2, w1, w2, w3, w4, w5, w6⟩ := rl_3 (A := AL s a) (E := EL s) (e := 0) (m := 2 ^ a) hk (show 2 ^ a < 2 ^ 10 from Nat.pow_lt_pow_right (by decide) ha) (by omega) (fun v hv h => ⟨hv, (hbit v).mp h⟩) (sv s 1) 64 0 0 (fw_up M1 355 4 0) (by omega) (by omega) hR1 hB (up_e rfl rfl) (fun i hi => by omega)
  have w1' : F_X5_reachLines (fw_up M1 355 4 0) 1 (nI (2 ^ a)) 0 = some M2 := w1
  rw [e1, w1', bx_s]
  have hfr : ∀ c, c ≠ 355 → c ≠ 358 → c ≠ 359 → M2 c = M c := fun c x y z => by rw [w5.2.2 c x y z, up_n1 x, q3 c y]
  obtain ⟨x, M3, v1, v2, v3⟩ := lb_32 (a := a) hk ht (nI a) 5 64 0 n2 M2 (by omega) (by omega) (hR.cong (fun c _ h => hfr c (by omega) (by omega) (by omega))) w2 w3 (by omega) (fun v hv => w6 v (by omega) hv.1 ((hbit v).mpr hv.2)) (fun i v hi => by omega) (fun i hi => by omega) (fun i _ hi => by have := w4 i hi; omega)
  exact ⟨x, M3, v1, v2, fun c x y z => (v3 c x y z).trans (hfr c x y z)⟩
/-! growth -/
theorem gr_5 (hk : ok s) {M : fw_M} (hR : R M 0 s) (hm : m < 1024) : ∀ (r n l m1 : Nat), l + r = sv s 1 → r < n → m1 < 1024 → ∃ m2, F_X5_grown_5 M 1 (nI m) n (nI m1) (nI l) = some (nI m2) ∧ m2 < 1024 ∧ ∀ v, m2.testBit v = true ↔ m1.testBit v = true ∨ ∃ l2, l ≤ l2 ∧ l2 < sv s 1 ∧ (∃ i, (lset s l2).testBit i = true ∧ m.testBit i = true) ∧ (lset s l2).testBit v = true := by
  have b1 := hk.1.2.1
  obtain ⟨⟨-, r1, -⟩, -, rl, -⟩ := R0 hR
  intro r
  induction r with
  | zero =>
    intro n l m1 h1 h2 h3
    obtain ⟨n, rfl⟩ : ∃ x, n = x + 1 := ⟨n - 1, by omega⟩
    rw [F_X5_grown_5, r1, b1.1, if_pos (nI_le (by omega) (by omega))]
    refine ⟨m1, rfl, h3, fun v => ⟨Or.inl, fun h => ?_⟩⟩
    rcases h with h | ⟨l2, h4, h5, -⟩
    · exact h
    · omega
  | succ r ih =>
    intro n l m1 h1 h2 h3
    obtain ⟨n, rfl⟩ : ∃ x, n = x + 1 := ⟨n - 1, by omega⟩
    have hlt := lset_lt hk (l := l) (by omega)
    have e2 : fw_ri M (1 + 9) (nI l) = nI (lset s l) := by
      rw [fw_ri, nI_clamp (by omega)]
      exact (rl l (by omega)).2
    rw [F_X5_grown_5, r1, b1.1, if_neg (nI_ge (by omega) (by omega)), if_pos (nI_in (by omega) (by omega)), e2, nI_1, fa_or]
    by_cases hz : nI (lset s l) &&& nI m = 0
    · rw [if_pos hz]
      obtain ⟨m2, q1, q2, q3⟩ := ih n (l + 1) m1 (by omega) (by omega) h3
      refine ⟨m2, q1, q2, fun v => (q3 v).trans ⟨fun h => ?_, fun h => ?_⟩⟩
      · rcases h with h | ⟨l2, h4, h5⟩
        · exact Or.inl h
        · exact Or.inr ⟨l2, by omega, h5⟩
      · rcases h with h | ⟨l2, h4, h5, h6, h7⟩
        · exact Or.inl h
        · by_cases el : l2 = l
          · subst el
            exact absurd h6 ((and_0 hlt hm).mp hz)
          · exact Or.inr ⟨l2, by omega, h5, h6, h7⟩
    · rw [if_neg hz]
      have ht : ∃ i, (lset s l).testBit i = true ∧ m.testBit i = true := Classical.not_not.mp (fun q => hz ((and_0 hlt hm).mpr q))
      obtain ⟨m2, q1, q2, q3⟩ := ih n (l + 1) (m1 ||| lset s l) (by omega) (by omega) (Nat.or_lt_two_pow (n := 10) h3 hlt)
      refine ⟨m2, q1, q2, fun v => (q3 v).trans ⟨fun h => ?_, fun h => ?_⟩⟩
      · rcases h with h | ⟨l2, h4, h5⟩
        · rw [Nat.testBit_or, Bool.or_eq_true] at h
          rcases h with h | h
          · exact Or.inl h
          · exact Or.inr ⟨l, by omega, by omega, ht, h⟩
        · exact Or.inr ⟨l2, by omega, h5⟩
      · rcases h with h | ⟨l2, h4, h5, h6, h7⟩
        · exact Or.inl (by rw [Nat.testBit_or, h]; rfl)
        · by_cases el : l2 = l
          · subst el
            exact Or.inl (by rw [Nat.testBit_or, h7, Bool.or_true])
          · exact Or.inr ⟨l2, by omega, h5, h6, h7⟩
theorem gw_all (hk : ok s) {M : fw_M} (hR : R M 0 s) (hm : m < 1024) : ∃ m2, F_X5_grown M 1 (nI m) = some (nI m2) ∧ m2 < 1024 ∧ ∀ v, m2.testBit v = true ↔ m.testBit v = true ∨ ∃ u, m.testBit u = true ∧ ed s 0 u v := by
  have b1 := hk.1.2.1
  obtain ⟨m2, q1, q2, q3⟩ := gr_5 hk hR hm (sv s 1) 64 0 m (by omega) (by omega) hm
  refine ⟨m2, q1, q2, fun v => (q3 v).trans ⟨fun h => ?_, fun h => ?_⟩⟩
  · rcases h with h | ⟨l2, -, h5, ⟨i, h6, h7⟩, h8⟩
    · exact Or.inl h
    · obtain ⟨p, hp, e1⟩ := lset_t.mp h6
      obtain ⟨q, hq, e2⟩ := lset_t.mp h8
      exact Or.inr ⟨i, h7, l2, p, q, h5, hp, hq, Or.inl rfl, e1, e2⟩
  · rcases h with h | ⟨u, h7, l2, p, q, h5, hp, hq, -, e1, e2⟩
    · exact Or.inl h
    · exact Or.inr ⟨l2, by omega, h5, ⟨u, lset_t.mpr ⟨p, hp, e1⟩, h7⟩, lset_t.mpr ⟨q, hq, e2⟩⟩
theorem lg_15 (hk : ok s) {M : fw_M} (hR : R M 0 s) {a t : Nat} (ht : t < 10) (hat : a ≠ t) (a2 : Int32) : ∀ (r n k m : Nat), k + r = 5 → r < n → m < 1024 → (∀ v, m.testBit v = true ↔ lev (fun x => x = a) (ed s 0) k v) → (∀ j, j ≤ k → ¬ lev (fun x => x = a) (ed s 0) j t) → ∃ x, F_X5_linesByGrowth_15 M 1 a2 (nI t) n (nI m) (nI (k + 1)) = some x ∧ Rs1 (fun k => ∃ l, lev (AL s a) (EL s) k l ∧ onl s l t) x := by
  have b1 := hk.1.2.1.2
  have hfx : ∀ k v, lev (AL s a) (EL s) k v → lev (AL s a) (EL s) 4 v := fun k v h => lev_fix (N := 5) (by omega) (fun v hv => Nat.lt_of_lt_of_le hv.1 b1) (fun u v h => by obtain ⟨x, -, h⟩ := h; exact Nat.lt_of_lt_of_le h.1 b1) h
  intro r
  induction r with
  | zero =>
    intro n k m h1 h2 h3 h4 h5
    obtain ⟨n, rfl⟩ : ∃ x, n = x + 1 := ⟨n - 1, by omega⟩
    rw [F_X5_linesByGrowth_15, if_pos (show (5 : Int32) < nI (k + 1) from nI_lt (a := 5) (by omega) (by omega))]
    refine ⟨_, rfl, Or.inr ⟨rfl, fun q ⟨l, hl, ho⟩ => h5 5 (by omega) ((ls_k 4 t).mpr (Or.inr ⟨l, hfx q l hl, ho⟩))⟩⟩
  | succ r ih =>
    intro n k m h1 h2 h3 h4 h5
    obtain ⟨n, rfl⟩ : ∃ x, n = x + 1 := ⟨n - 1, by omega⟩
    obtain ⟨m2, q1, q2, q3⟩ := gw_all hk hR h3
    have h6 : ∀ v, m2.testBit v = true ↔ lev (fun x => x = a) (ed s 0) (k + 1) v := fun v => by
      rw [q3 v]
      refine ⟨fun h => ?_, fun h => ?_⟩
      · rcases h with h | ⟨u, h, he⟩
        · exact Or.inl ((h4 v).mp h)
        · exact Or.inr ⟨u, (h4 u).mp h, he⟩
      · rcases h with h | ⟨u, h, he⟩
        · exact Or.inl ((h4 v).mpr h)
        · exact Or.inr ⟨u, (h4 u).mpr h, he⟩
    rw [F_X5_linesByGrowth_15, if_neg (show ¬ (5 : Int32) < nI (k + 1) from nI_nlt (a := 5) (by omega) (by omega)), q1, bx_s, nI_1]
    have e1 : ((nI m2 &&& (1 <<< (nI t &&& 31) : Int32)) = 0) = (m2.testBit t = false) := sh_and (by omega)
    by_cases hb : m2.testBit t = true
    · have e2 : nI (k + 1) - 1 = nI k := nI_pred k
      rw [if_neg (by rw [e1, hb]; exact fun q => by cases q), e2]
      refine ⟨_, rfl, Or.inl ⟨k, by omega, rfl, ?_, fun j hj q => h5 (j + 1) (by omega) ((ls_k j t).mpr (Or.inr q))⟩⟩
      rcases (ls_k k t).mp ((h6 t).mp hb) with h | h
      · exact absurd h.symm hat
      · exact h
    · rw [if_pos (by rw [e1]; exact Bool.eq_false_iff.mpr hb)]
      refine ih n (k + 1) m2 (by omega) (by omega) q2 h6 (fun j hj q => ?_)
      by_cases ej : j ≤ k
      · exact h5 j ej q
      · obtain rfl : j = k + 1 := by omega
        exact hb ((h6 t).mpr q)
theorem lg_ok (hk : ok s) {M : fw_M} (hR : R M 0 s) {a t : Nat} (ha : a < 10) (ht : t < 10) (hat : a ≠ t) : ∃ x, F_X5_linesByGrowth M 1 (nI a) (nI t) = some x ∧ Rs1 (fun k => ∃ l, lev (AL s a) (EL s) k l ∧ onl s l t) x := by
  have e1 : (1 <<< (nI a &&& 31) : Int32) = nI (2 ^ a) := sh_1 a (by omega)
  unfold F_X5_linesByGrowth
  rw [if_pos (fun q => hat ((nI_eq (by omega) (by omega)).mp q)), e1]
  refine lg_15 hk hR ht hat (nI a) 5 64 0 (2 ^ a) (by omega) (by omega) (show 2 ^ a < 2 ^ 10 from Nat.pow_lt_pow_right (by decide) ha) (fun v => ?_) (fun j hj h => ?_)
  · rw [Nat.testBit_two_pow]
    show decide (a = v) = true ↔ v = a
    rw [decide_eq_true_iff]
    exact eq_comm
  · obtain rfl : j = 0 := by omega
    exact hat (show t = a from h).symm
end LN
