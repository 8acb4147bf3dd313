/-! the model's way to paths: sets that are widened -/
def ed (s : Nat → Int32) (b : Nat) (u v : Nat) : Prop := ∃ l i j, l < sv s 1 ∧ i < sv s (16 + 7 * l) ∧ j < sv s (16 + 7 * l) ∧ (b = 0 ∨ i = j + 1 ∨ j = i + 1) ∧ sv s (16 + 7 * l + 1 + i) = u ∧ sv s (16 + 7 * l + 1 + j) = v
theorem ed_lt {s : Nat → Int32} (hk : ok s) {b u v : Nat} (h : ed s b u v) : u < sv s 0 ∧ v < sv s 0 := by
  obtain ⟨l, i, j, h1, h2, h3, -, h5, h6⟩ := h
  have b1 := hk.1.2.1.2
  have hs := hk.2.2.2.1
  exact ⟨h5 ▸ (hs l i (by omega) h2).2, h6 ▸ (hs l j (by omega) h3).2⟩
theorem abs_1 : ∀ p, p < 8 → ∀ q, q < 8 → ((if 0 ≤ nI p - nI q then nI p - nI q else 0 - (nI p - nI q)) = 1 ↔ (p = q + 1 ∨ q = p + 1)) := by decide +kernel
theorem or_0 {x : Int32} : x ||| 0 = x := by simp
theorem bit_or {m v k : Nat} : (m ||| 2 ^ k).testBit v = true ↔ m.testBit v = true ∨ k = v := by
  rw [Nat.testBit_or, Bool.or_eq_true, Nat.testBit_two_pow]
  simp
section WD
variable {M : fw_M} {s : Nat → Int32} {m0 b : Nat}
theorem wd_83 (hk : ok s) (hS : Sm M s) {l j m : Nat} (hl : l < 5) (hj : j < sv s (16 + 7 * l)) {k5 : Int32 → Int32 → Option Int32} {k19 : Int32 → Int32 → Int32 → Option Int32} {k33 : Int32 → Int32 → Int32 → Int32 → Option Int32} {x a1 a2 : Int32} : F_X9_widens_83 M a1 a2 k5 k19 k33 (nI m) (nI l) x (nI j) 1 = k33 (nI (m ||| 2 ^ sv s (16 + 7 * l + 1 + j))) (nI l) x (nI (j + 1)) := by
  have l6 := (hk.2.2.1 l hl).2.1
  have b0 := hk.1.1.2
  have hs := hk.2.2.2.1 l j hl hj
  unfold F_X9_widens_83
  rw [if_neg (by decide), stM hS hl (by omega), bx_s, hs.1, nI_1]
  exact congrArg (fun y => k33 y (nI l) x (nI (j + 1))) (sh_or (by omega))
theorem wd_83n {l j m : Nat} {k5 : Int32 → Int32 → Option Int32} {k19 : Int32 → Int32 → Int32 → Option Int32} {k33 : Int32 → Int32 → Int32 → Int32 → Option Int32} {x a1 a2 : Int32} : F_X9_widens_83 M a1 a2 k5 k19 k33 (nI m) (nI l) x (nI j) 0 = k33 (nI m) (nI l) x (nI (j + 1)) := by
  unfold F_X9_widens_83
  rw [if_pos rfl, or_0, nI_1]
theorem wd_33 (hk : ok s) (hS : Sm M s) (hm0 : m0 < 1024) (hb : b < 2) {l i : Nat} (hl : l < 5) (hi : i < sv s (16 + 7 * l)) {k5 : Int32 → Int32 → Option Int32} {k19 : Int32 → Int32 → Int32 → Option Int32} : ∀ (r n j m : Nat), j + r = sv s (16 + 7 * l) → r < n → m < 1024 → ∃ m1, F_X9_widens_33 M (nI m0) (nI b) k5 k19 n (nI m) (nI l) (nI i) (nI j) = k19 (nI m1) (nI l) (nI (i + 1)) ∧ m1 < 1024 ∧ ∀ v, m1.testBit v = true ↔ m.testBit v = true ∨ (m0.testBit (sv s (16 + 7 * l + 1 + i)) = true ∧ ∃ q, j ≤ q ∧ q < sv s (16 + 7 * l) ∧ (b = 0 ∨ i = q + 1 ∨ q = i + 1) ∧ sv s (16 + 7 * l + 1 + q) = v) := by
  have l6 := (hk.2.2.1 l hl).2.1
  have b0 := hk.1.1.2
  have hsi := hk.2.2.2.1 l i hl hi
  intro r
  induction r with
  | zero =>
    intro n j m h1 h2 h3
    obtain ⟨n, rfl⟩ : ∃ x, n = x + 1 := ⟨n - 1, by omega⟩
    rw [F_X9_widens_33, lenM hk hS hl, bx_s, if_pos (nI_le (by omega) (by omega)), nI_1]
    refine ⟨m, rfl, h3, fun v => ⟨Or.inl, fun h => ?_⟩⟩
    rcases h with h | ⟨-, q, h4, h5, -⟩
    · exact h
    · omega
  | succ r ih =>
    intro n j m h1 h2 h3
    obtain ⟨n, rfl⟩ : ∃ x, n = x + 1 := ⟨n - 1, by omega⟩
    have hsj := hk.2.2.2.1 l j hl (by omega)
    rw [F_X9_widens_33, lenM hk hS hl, bx_s, if_neg (nI_ge (by omega) (by omega)), stM hS hl (by omega), bx_s, hsi.1]
    have e1 : ((nI m0 >>> (nI (sv s (16 + 7 * l + 1 + i)) &&& 31)) &&& 1) = nI (if m0.testBit (sv s (16 + 7 * l + 1 + i)) then 1 else 0) := sh_r (by omega) (by omega)
    rw [e1]
    have skip : (¬ (m0.testBit (sv s (16 + 7 * l + 1 + i)) = true ∧ (b = 0 ∨ i = j + 1 ∨ j = i + 1))) → ∃ m1, F_X9_widens_83 M (nI m0) (nI b) k5 k19 (fun x3 x4 x5 x6 => F_X9_widens_33 M (nI m0) (nI b) k5 k19 n x3 x4 x5 x6) (nI m) (nI l) (nI i) (nI j) 0 = k19 (nI m1) (nI l) (nI (i + 1)) ∧ m1 < 1024 ∧ ∀ v, m1.testBit v = true ↔ m.testBit v = true ∨ (m0.testBit (sv s (16 + 7 * l + 1 + i)) = true ∧ ∃ q, j ≤ q ∧ q < sv s (16 + 7 * l) ∧ (b = 0 ∨ i = q + 1 ∨ q = i + 1) ∧ sv s (16 + 7 * l + 1 + q) = v) := by
      intro hn
      rw [wd_83n]
      obtain ⟨m1, q1, q2, q3⟩ := ih n (j + 1) m (by omega) (by omega) h3
      refine ⟨m1, q1, q2, fun v => (q3 v).trans ⟨fun h => ?_, fun h => ?_⟩⟩
      · rcases h with h | ⟨h, q, h4, h5⟩
        · exact Or.inl h
        · exact Or.inr ⟨h, q, by omega, h5⟩
      · rcases h with h | ⟨h, q, h4, h5, h6, h7⟩
        · exact Or.inl h
        · refine Or.inr ⟨h, q, ?_, h5, h6, h7⟩
          by_cases e : q = j
          · subst e
            exact absurd ⟨h, h6⟩ hn
          · omega
    have take : m0.testBit (sv s (16 + 7 * l + 1 + i)) = true → (b = 0 ∨ i = j + 1 ∨ j = i + 1) → ∃ m1, F_X9_widens_83 M (nI m0) (nI b) k5 k19 (fun x3 x4 x5 x6 => F_X9_widens_33 M (nI m0) (nI b) k5 k19 n x3 x4 x5 x6) (nI m) (nI l) (nI i) (nI j) 1 = k19 (nI m1) (nI l) (nI (i + 1)) ∧ m1 < 1024 ∧ ∀ v, m1.testBit v = true ↔ m.testBit v = true ∨ (m0.testBit (sv s (16 + 7 * l + 1 + i)) = true ∧ ∃ q, j ≤ q ∧ q < sv s (16 + 7 * l) ∧ (b = 0 ∨ i = q + 1 ∨ q = i + 1) ∧ sv s (16 + 7 * l + 1 + q) = v) := by
      intro ht hc
      rw [wd_83 hk hS hl (by omega)]
      have hlt : m ||| 2 ^ sv s (16 + 7 * l + 1 + j) < 1024 := Nat.or_lt_two_pow (n := 10) h3 (Nat.pow_lt_pow_right (by decide) (by omega))
      obtain ⟨m1, q1, q2, q3⟩ := ih n (j + 1) _ (by omega) (by omega) hlt
      refine ⟨m1, q1, q2, fun v => (q3 v).trans ⟨fun h => ?_, fun h => ?_⟩⟩
      · rcases h with h | ⟨h, q, h4, h5⟩
        · rcases bit_or.mp h with h | h
          · exact Or.inl h
          · exact Or.inr ⟨ht, j, by omega, by omega, hc, h⟩
        · exact Or.inr ⟨h, q, by omega, h5⟩
      · rcases h with h | ⟨h, q, h4, h5, h6, h7⟩
        · exact Or.inl (bit_or.mpr (Or.inl h))
        · by_cases e : q = j
          · subst e
            exact Or.inl (bit_or.mpr (Or.inr h7))
          · exact Or.inr ⟨h, q, by omega, h5, h6, h7⟩
    by_cases ht : m0.testBit (sv s (16 + 7 * l + 1 + i)) = true
    · rw [if_pos ht, if_neg (by decide)]
      by_cases hb0 : b = 0
      · rw [if_pos (by rw [hb0]; rfl)]
        exact take ht (Or.inl hb0)
      · have hb1 : b = 1 := by omega
        rw [if_neg (by rw [hb1]; decide)]
        have ha := abs_1 i (by omega) j (by omega)
        by_cases hc : i = j + 1 ∨ j = i + 1
        · rw [if_neg (fun q => q (ha.mpr hc))]
          exact take ht (Or.inr hc)
        · rw [if_pos (fun q => hc (ha.mp q))]
          exact skip (fun q => by
            rcases q.2 with q | q
            · exact hb0 q
            · exact hc q)
    · rw [if_neg ht, if_pos (by decide)]
      exact skip (fun q => ht q.1)
theorem wd_19 (hk : ok s) (hS : Sm M s) (hm0 : m0 < 1024) (hb : b < 2) {l : Nat} (hl : l < 5) {k5 : Int32 → Int32 → Option Int32} : ∀ (r n i m : Nat), i + r = sv s (16 + 7 * l) → r < n → m < 1024 → ∃ m1, F_X9_widens_19 M (nI m0) (nI b) k5 n (nI m) (nI l) (nI i) = k5 (nI m1) (nI (l + 1)) ∧ m1 < 1024 ∧ ∀ v, m1.testBit v = true ↔ m.testBit v = true ∨ ∃ p q, i ≤ p ∧ p < sv s (16 + 7 * l) ∧ q < sv s (16 + 7 * l) ∧ m0.testBit (sv s (16 + 7 * l + 1 + p)) = true ∧ (b = 0 ∨ p = q + 1 ∨ q = p + 1) ∧ sv s (16 + 7 * l + 1 + q) = v := by
  have l6 := (hk.2.2.1 l hl).2.1
  intro r
  induction r with
  | zero =>
    intro n i m h1 h2 h3
    obtain ⟨n, rfl⟩ : ∃ x, n = x + 1 := ⟨n - 1, by omega⟩
    rw [F_X9_widens_19, lenM hk hS hl, bx_s, if_pos (nI_le (by omega) (by omega)), nI_1]
    refine ⟨m, rfl, h3, fun v => ⟨Or.inl, fun h => ?_⟩⟩
    rcases h with h | ⟨p, q, h4, h5, -⟩
    · exact h
    · omega
  | succ r ih =>
    intro n i m h1 h2 h3
    obtain ⟨n, rfl⟩ : ∃ x, n = x + 1 := ⟨n - 1, by omega⟩
    rw [F_X9_widens_19, lenM hk hS hl, bx_s, if_neg (nI_ge (by omega) (by omega))]
    obtain ⟨m1, q1, q2, q3⟩ := wd_33 hk hS hm0 hb hl (i := i) (by omega) (k5 := k5) (k19 := fun x3 x4 x5 => F_X9_widens_19 M (nI m0) (nI b) k5 n x3 x4 x5) (sv s (16 + 7 * l)) 64 0 m (by omega) (by omega) h3
    obtain ⟨m2, w1, w2, w3⟩ := ih n (i + 1) m1 (by omega) (by omega) q2
    refine ⟨m2, q1.trans w1, w2, fun v => (w3 v).trans ⟨fun h => ?_, fun h => ?_⟩⟩
    · rcases h with h | ⟨p, q, h4, h5⟩
      · rcases (q3 v).mp h with h | ⟨h4, q, -, h5, h6, h7⟩
        · exact Or.inl h
        · exact Or.inr ⟨i, q, by omega, by omega, h5, h4, h6, h7⟩
      · exact Or.inr ⟨p, q, by omega, h5⟩
    · rcases h with h | ⟨p, q, h4, h5, h6, h7, h8, h9⟩
      · exact Or.inl ((q3 v).mpr (Or.inl h))
      · by_cases e : p = i
        · subst e
          exact Or.inl ((q3 v).mpr (Or.inr ⟨h7, q, by omega, h6, h8, h9⟩))
        · exact Or.inr ⟨p, q, by omega, h5, h6, h7, h8, h9⟩
theorem wd_5 (hk : ok s) (hS : Sm M s) (hm0 : m0 < 1024) (hb : b < 2) : ∀ (r n l m : Nat), l + r = sv s 1 → r < n → m < 1024 → ∃ m1, F_X9_widens_5 M (nI m0) (nI b) n (nI m) (nI l) = some (nI m1) ∧ m1 < 1024 ∧ ∀ v, m1.testBit v = true ↔ m.testBit v = true ∨ ∃ l2 p q, l ≤ l2 ∧ l2 < sv s 1 ∧ p < sv s (16 + 7 * l2) ∧ q < sv s (16 + 7 * l2) ∧ m0.testBit (sv s (16 + 7 * l2 + 1 + p)) = true ∧ (b = 0 ∨ p = q + 1 ∨ q = p + 1) ∧ sv s (16 + 7 * l2 + 1 + q) = v := by
  have b1 := hk.1.2.1
  have e1 : fw_ri M 379 1 = nI (sv s 1) := (hS 1 (by omega)).trans b1.1
  intro r
  induction r with
  | zero =>
    intro n l m h1 h2 h3
    obtain ⟨n, rfl⟩ : ∃ x, n = x + 1 := ⟨n - 1, by omega⟩
    rw [F_X9_widens_5, if_pos (show ix_i 1 129 by decide), e1, if_pos (nI_le (by omega) (by omega))]
    refine ⟨m, rfl, h3, fun v => ⟨Or.inl, fun h => ?_⟩⟩
    rcases h with h | ⟨l2, p, q, h4, h5, -⟩
    · exact h
    · omega
  | succ r ih =>
    intro n l m h1 h2 h3
    obtain ⟨n, rfl⟩ : ∃ x, n = x + 1 := ⟨n - 1, by omega⟩
    have l6 := (hk.2.2.1 l (by omega)).2.1
    rw [F_X9_widens_5, if_pos (show ix_i 1 129 by decide), e1, if_neg (nI_ge (by omega) (by omega))]
    obtain ⟨m1, q1, q2, q3⟩ := wd_19 hk hS hm0 hb (l := l) (by omega) (k5 := fun x3 x4 => F_X9_widens_5 M (nI m0) (nI b) n x3 x4) (sv s (16 + 7 * l)) 64 0 m (by omega) (by omega) h3
    obtain ⟨m2, w1, w2, w3⟩ := ih n (l + 1) m1 (by omega) (by omega) q2
    refine ⟨m2, q1.trans w1, w2, fun v => (w3 v).trans ⟨fun h => ?_, fun h => ?_⟩⟩
    · rcases h with h | ⟨l2, p, q, h4, h5⟩
      · rcases (q3 v).mp h with h | ⟨p, q, -, h5, h6⟩
        · exact Or.inl h
        · exact Or.inr ⟨l, p, q, by omega, by omega, h5, h6⟩
      · exact Or.inr ⟨l2, p, q, by omega, h5⟩
    · rcases h with h | ⟨l2, p, q, h4, h5, h6, h7⟩
      · exact Or.inl ((q3 v).mpr (Or.inl h))
      · by_cases e : l2 = l
        · subst e
          exact Or.inl ((q3 v).mpr (Or.inr ⟨p, q, by omega, h6, h7⟩))
        · exact Or.inr ⟨l2, p, q, by omega, h5, h6, h7⟩
theorem wd_ok (hk : ok s) (hS : Sm M s) (hm0 : m0 < 1024) (hb : b < 2) : ∃ m1, F_X9_widens M (nI m0) (nI b) = some (nI m1) ∧ m1 < 1024 ∧ ∀ v, m1.testBit v = true ↔ m0.testBit v = true ∨ ∃ u, m0.testBit u = true ∧ ed s b u v := by
  have b1 := hk.1.2.1
  obtain ⟨m1, q1, q2, q3⟩ := wd_5 hk hS hm0 hb (sv s 1) 64 0 m0 (by omega) (by omega) hm0
  refine ⟨m1, q1, q2, fun v => (q3 v).trans ⟨fun h => ?_, fun h => ?_⟩⟩
  · rcases h with h | ⟨l, p, q, -, h5, h6, h7, h8, h9, h10⟩
    · exact Or.inl h
    · exact Or.inr ⟨_, h8, l, p, q, h5, h6, h7, h9, rfl, h10⟩
  · rcases h with h | ⟨u, h, l, p, q, h5, h6, h7, h8, rfl, h10⟩
    · exact Or.inl h
    · exact Or.inr ⟨l, p, q, by omega, h5, h6, h7, h, h8, h10⟩
theorem ws_8 (hk : ok s) (hS : Sm M s) (hb : b < 2) {a t : Nat} (ha : a < 10) (ht : t < 10) : ∀ (r n k m : Nat), k + r = 10 → r < n → m < 1024 → (∀ v, m.testBit v = true ↔ lev (fun x => x = a) (ed s b) k v) → (∀ j, j < k → ¬ lev (fun x => x = a) (ed s b) j t) → ∃ x, F_X9_widenings_8 M (nI a) (nI t) (nI b) n (nI m) (nI k) = some x ∧ Rs1 (fun k => lev (fun x => x = a) (ed s b) k t) x := by
  have b0 := hk.1.1.2
  intro r
  induction r with
  | zero =>
    intro n k m h1 h2 h3 h4 h5
    obtain ⟨n, rfl⟩ : ∃ x, n = x + 1 := ⟨n - 1, by omega⟩
    obtain rfl : k = 10 := by omega
    have e1 : ((nI m >>> (nI t &&& 31)) &&& 1) = nI (if m.testBit t then 1 else 0) := sh_r (by omega) (by omega)
    rw [F_X9_widenings_8, e1]
    have hf : ∀ k v, lev (fun x => x = a) (ed s b) k v → lev (fun x => x = a) (ed s b) 10 v := fun k v h => lev_up (lev_fix (N := 10) (by omega) (fun v hv => by rw [hv]; exact ha) (fun u v h => Nat.lt_of_lt_of_le (ed_lt hk h).2 b0) h) (by omega)
    by_cases hm : m.testBit t = true
    · rw [if_pos hm, if_pos (by decide)]
      exact ⟨_, rfl, Or.inl ⟨10, by omega, rfl, (h4 t).mp hm, h5⟩⟩
    · rw [if_neg hm, if_neg (by decide)]
      obtain ⟨m1, q1, q2, q3⟩ := wd_ok hk hS h3 hb
      rw [q1, bx_s]
      have em : m1 = m := Nat.eq_of_testBit_eq (fun v => by
        rw [Bool.eq_iff_iff, q3 v]
        refine ⟨fun h => ?_, Or.inl⟩
        rcases h with h | ⟨u, h, he⟩
        · exact h
        · exact (h4 v).mpr (hf 11 v (Or.inr ⟨u, (h4 u).mp h, he⟩)))
      rw [em, if_neg (fun q => q rfl)]
      exact ⟨_, rfl, Or.inr ⟨rfl, fun k h => hm ((h4 t).mpr (hf k t h))⟩⟩
  | succ r ih =>
    intro n k m h1 h2 h3 h4 h5
    obtain ⟨n, rfl⟩ : ∃ x, n = x + 1 := ⟨n - 1, by omega⟩
    have e1 : ((nI m >>> (nI t &&& 31)) &&& 1) = nI (if m.testBit t then 1 else 0) := sh_r (by omega) (by omega)
    rw [F_X9_widenings_8, e1]
    by_cases hm : m.testBit t = true
    · rw [if_pos hm, if_pos (by decide)]
      exact ⟨_, rfl, Or.inl ⟨k, by omega, rfl, (h4 t).mp hm, h5⟩⟩
    · rw [if_neg hm, if_neg (by decide)]
      obtain ⟨m1, q1, q2, q3⟩ := wd_ok hk hS h3 hb
      rw [q1, bx_s]
      have h6 : ∀ v, m1.testBit v = true ↔ lev (fun x => x = a) (ed s b) (k + 1) v := fun v => by
        rw [q3 v]
        refine ⟨fun h => ?_, fun h => ?_⟩
        · rcases h with h | ⟨u, h, he⟩
          · exact Or.inl ((h4 v).mp h)
          · exact Or.inr ⟨u, (h4 u).mp h, he⟩
        · rcases h with h | ⟨u, h, he⟩
          · exact Or.inl ((h4 v).mpr h)
          · exact Or.inr ⟨u, (h4 u).mpr h, he⟩
      by_cases em : m1 = m
      · rw [em, if_neg (fun q => q rfl)]
        refine ⟨_, rfl, Or.inr ⟨rfl, fun k2 h => hm ((h4 t).mpr (lev_stop (fun v hv => (h4 v).mp (em ▸ (h6 v).mpr hv)) k2 t h))⟩⟩
      · rw [if_pos (by rw [nI_eq (by omega) (by omega)]; exact em), nI_1]
        refine ih n (k + 1) m1 (by omega) (by omega) q2 h6 (fun j hj h => ?_)
        by_cases e : j = k
        · subst e
          exact hm ((h4 t).mpr h)
        · exact h5 j (by omega) h
theorem ws_ok (hk : ok s) (hS : Sm M s) (hb : b < 2) {a t : Nat} (ha : a < 10) (ht : t < 10) : ∃ x, F_X9_widenings M (nI a) (nI t) (nI b) = some x ∧ Rs1 (fun k => lev (fun x => x = a) (ed s b) k t) x := by
  have e1 : (1 <<< (nI a &&& 31) : Int32) = nI (2 ^ a) := sh_1 a (by omega)
  unfold F_X9_widenings
  rw [e1]
  refine ws_8 hk hS hb ha ht 10 64 0 (2 ^ a) (by omega) (by omega) (show 2 ^ a < 2 ^ 10 from Nat.pow_lt_pow_right (by decide) ha) (fun v => ?_) (fun j hj => by omega)
  rw [Nat.testBit_two_pow]
  show decide (a = v) = true ↔ v = a
  rw [decide_eq_true_iff]
  exact eq_comm
end WD
