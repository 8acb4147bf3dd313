/-! the wisest -/
def kb (s : Nat → Int32) (p : Nat) (n : Nat) : Nat := fb_ct (fun q => (sv s (117 + 2 * q + 1)).testBit p) n
theorem kb_c {M : fw_M} {s : Nat → Int32} (hk : ok s) (hR : R M 0 s) {p : Nat} (hp : p < 8) : F_X2_countKnownBy M 22 (nI p) = some (nI (kb s p (sv s 4))) := by
  obtain ⟨c4, b4⟩ := hk.1.2.2.2.2
  obtain ⟨⟨r0, r1, r2, r3, r4, -⟩, -⟩ := R0 hR
  have key : ∀ (r n q : Nat), q + r = sv s 4 → r < n → F_X2_countKnownBy_4 M 22 (nI p) n (nI (kb s p q)) (nI q) = some (nI (kb s p (sv s 4))) := by
    intro r
    induction r with
    | zero =>
      intro n q h1 h2
      obtain ⟨n, rfl⟩ : ∃ x, n = x + 1 := ⟨n - 1, by omega⟩
      obtain rfl : q = sv s 4 := by omega
      rw [F_X2_countKnownBy_4, r4, c4, if_pos (nI_le (by omega) (by omega))]
    | succ r ih =>
      intro n q h1 h2
      obtain ⟨n, rfl⟩ : ∃ x, n = x + 1 := ⟨n - 1, by omega⟩
      have ih := ih n (q + 1) (by omega) (by omega)
      rw [F_X2_countKnownBy_4, r4, c4, if_neg (nI_ge (by omega) (by omega)), hh_c hk hR hp (by omega), bx_s, nI_1, nI_1]
      cases h : (sv s (117 + 2 * q + 1)).testBit p with
      | true =>
        rw [if_pos rfl, if_neg (show ¬ nI 1 = 0 by decide)]
        rw [show kb s p (q + 1) = kb s p q + 1 by unfold kb; rw [fb_ct_succ, if_pos h]] at ih
        exact ih
      | false =>
        rw [if_neg (show ¬ (false = true) by decide), if_pos (show nI 0 = 0 from rfl)]
        rw [show kb s p (q + 1) = kb s p q by unfold kb; rw [fb_ct_succ, if_neg (by rw [h]; decide), Nat.add_zero]] at ih
        exact ih
  exact key (sv s 4) 64 0 (by omega) (by omega)
theorem kb_m {M : fw_M} {s : Nat → Int32} (hk : ok s) (hS : Sm M s) {p : Nat} (hp : p < 8) : F_X9_knownBy M (nI p) = some (nI (kb s p (sv s 4))) := by
  obtain ⟨c4, b4⟩ := hk.1.2.2.2.2
  have g4 : fw_ri M 379 4 = nI (sv s 4) := (hS 4 (by omega)).trans c4
  have key : ∀ (r n q : Nat), q + r = sv s 4 → r < n → F_X9_knownBy_4 M (nI p) n (nI (kb s p q)) (nI q) = some (nI (kb s p (sv s 4))) := by
    intro r
    induction r with
    | zero =>
      intro n q h1 h2
      obtain ⟨n, rfl⟩ : ∃ x, n = x + 1 := ⟨n - 1, by omega⟩
      obtain rfl : q = sv s 4 := by omega
      rw [F_X9_knownBy_4, if_pos (show ix_i 4 129 by decide), g4, if_pos (nI_le (by omega) (by omega))]
    | succ r ih =>
      intro n q h1 h2
      obtain ⟨n, rfl⟩ : ∃ x, n = x + 1 := ⟨n - 1, by omega⟩
      have ih := ih n (q + 1) (by omega) (by omega)
      have hb := (hk.2.2.2.2.2.2.2 q (by omega)).1.2
      have e : (nI (sv s (117 + 2 * q + 1)) >>> (nI p &&& 31) : Int32) &&& 1 = nI (if (sv s (117 + 2 * q + 1)).testBit p then 1 else 0) := sh_r (by omega) (by omega)
      rw [F_X9_knownBy_4, if_pos (show ix_i 4 129 by decide), g4, if_neg (nI_ge (by omega) (by omega)), kn_m hk hS (by omega), bx_s, e, nI_add, nI_1]
      rw [show kb s p (q + 1) = kb s p q + (if (sv s (117 + 2 * q + 1)).testBit p then 1 else 0) by unfold kb; rw [fb_ct_succ]] at ih
      exact ih
  exact key (sv s 4) 64 0 (by omega) (by omega)
theorem kb_le {s : Nat → Int32} {p n : Nat} : kb s p n ≤ n := fb_ct_le _ n
/-- o stands before p -/
def ahd (s : Nat → Int32) (p o : Nat) : Bool := decide (kb s p (sv s 4) < kb s o (sv s 4)) || (decide (kb s o (sv s 4) = kb s p (sv s 4)) && decide (o < p))
def wzn (s : Nat → Int32) (p n : Nat) : Nat := fb_ct (ahd s p) n
theorem wz_c {M : fw_M} {s : Nat → Int32} (hk : ok s) (hR : R M 0 s) {p : Nat} (hp : p < sv s 3) : F_X7_countWiser M 0 (nI p) = some (nI (wzn s p (sv s 3))) := by
  obtain ⟨c3, b3⟩ := hk.1.2.2.2.1
  have b4 := hk.1.2.2.2.2.2
  obtain ⟨⟨r0, r1, r2, r3, r4, -⟩, -⟩ := R0 hR
  have l1 := kb_le (s := s) (p := p) (n := sv s 4)
  have key : ∀ (r n o : Nat), o + r = sv s 3 → r < n → F_X7_countWiser_14 M 0 (nI p) n (nI (kb s p (sv s 4))) (nI (wzn s p o)) (nI o) = some (nI (wzn s p (sv s 3))) := by
    intro r
    induction r with
    | zero =>
      intro n o h1 h2
      obtain ⟨n, rfl⟩ : ∃ x, n = x + 1 := ⟨n - 1, by omega⟩
      obtain rfl : o = sv s 3 := by omega
      have r3' : M (0 + 15) 0 = nI (sv s 3) := r3.trans c3
      rw [F_X7_countWiser_14, r3', if_pos (nI_le (by omega) (by omega))]
    | succ r ih =>
      intro n o h1 h2
      obtain ⟨n, rfl⟩ : ∃ x, n = x + 1 := ⟨n - 1, by omega⟩
      have ih := ih n (o + 1) (by omega) (by omega)
      have l2 := kb_le (s := s) (p := o) (n := sv s 4)
      have r3' : M (0 + 15) 0 = nI (sv s 3) := r3.trans c3
      have ekb : F_X2_countKnownBy M (0 + 22) (nI o) = some (nI (kb s o (sv s 4))) := kb_c hk hR (by omega)
      have es : wzn s p (o + 1) = wzn s p o + (if ahd s p o then 1 else 0) := by unfold wzn; rw [fb_ct_succ]
      rw [es] at ih
      rw [F_X7_countWiser_14, r3', if_neg (nI_ge (by omega) (by omega)), ekb, bx_s, nI_1, nI_1]
      unfold ahd at ih
      by_cases e1 : kb s p (sv s 4) < kb s o (sv s 4)
      · rw [if_pos (nI_lt e1 (by omega))]
        rw [decide_eq_true e1, Bool.true_or, if_pos rfl] at ih
        exact ih
      · rw [if_neg (nI_nlt (by omega) (by omega))]
        rw [decide_eq_false e1, Bool.false_or] at ih
        by_cases e2 : kb s o (sv s 4) = kb s p (sv s 4)
        · rw [if_neg (show ¬ ¬ nI (kb s o (sv s 4)) = nI (kb s p (sv s 4)) from fun x => x (by rw [e2]))]
          rw [decide_eq_true e2, Bool.true_and] at ih
          by_cases e3 : o < p
          · rw [if_neg (nI_ge (by omega) (by omega))]
            rw [decide_eq_true e3, if_pos rfl] at ih
            exact ih
          · rw [if_pos (nI_le (by omega) (by omega))]
            rw [decide_eq_false e3, if_neg (by decide), Nat.add_zero] at ih
            exact ih
        · rw [if_pos (show ¬ nI (kb s o (sv s 4)) = nI (kb s p (sv s 4)) from fun x => e2 (nI_inj (by omega) (by omega) x))]
          rw [decide_eq_false e2, Bool.false_and, if_neg (by decide), Nat.add_zero] at ih
          exact ih
  have ekb : F_X2_countKnownBy M (0 + 22) (nI p) = some (nI (kb s p (sv s 4))) := kb_c hk hR (by omega)
  unfold F_X7_countWiser
  rw [ekb, bx_s]
  exact key (sv s 3) 64 0 (by omega) (by omega)
theorem ahd_tr {s : Nat → Int32} {p q o : Nat} (h1 : ahd s p q = true) (h2 : ahd s q o = true) : ahd s p o = true := by
  unfold ahd at *
  simp only [Bool.or_eq_true, Bool.and_eq_true, decide_eq_true_eq] at *
  omega
theorem ahd_no {s : Nat → Int32} {p : Nat} : ahd s p p = false := by
  unfold ahd
  rw [decide_eq_false (by omega), decide_eq_false (show ¬ p < p by omega), Bool.and_false]
  rfl
theorem ahd_tot {s : Nat → Int32} {p q : Nat} (h : p ≠ q) : ahd s p q = true ∨ ahd s q p = true := by
  unfold ahd
  simp only [Bool.or_eq_true, Bool.and_eq_true, decide_eq_true_eq]
  omega
theorem wzn_lt {s : Nat → Int32} {p n : Nat} (hp : p < n) : wzn s p n < n := by
  have h1 : wzn s p n ≤ n := fb_ct_le _ n
  refine Nat.lt_of_le_of_ne h1 (fun e => ?_)
  have := fb_ct_all.mp e p hp
  rw [ahd_no] at this
  cases this
theorem wzn_ne {s : Nat → Int32} {p q n : Nat} (hp : p < n) (hq : q < n) (h : p ≠ q) : wzn s p n ≠ wzn s q n := by
  have one : ∀ {p q : Nat}, p < n → q < n → ahd s p q = true → wzn s q n < wzn s p n := by
    intro p q hp hq hpq
    have h1 := fb_ct_upd (ahd s q) true (i := q) (n := n) hq
    rw [ahd_no] at h1
    simp only [Bool.false_eq_true, if_false, if_true] at h1
    have h2 : fb_ct (fun k => if k = q then true else ahd s q k) n ≤ fb_ct (ahd s p) n := fb_ct_sub (fun k _ hk => by
      by_cases e : k = q
      · rw [e]; exact hpq
      · rw [if_neg e] at hk
        exact ahd_tr hpq hk)
    unfold wzn
    omega
  rcases ahd_tot (s := s) h with h1 | h1
  · have := one hp hq h1; omega
  · have := one hq hp h1; omega
/-- each rank is somebody's -/
theorem wzn_on {s : Nat → Int32} {n k : Nat} (hk : k < n) : ∃ p, p < n ∧ wzn s p n = k :=
  fb_onto (f := fun p => wzn s p n) (fun i hi => wzn_lt hi) (fun i j hij hj => wzn_ne (by omega) hj (by omega)) hk
theorem ws_c1 {M : fw_M} {s : Nat → Int32} (hk : ok s) (hR : R M 0 s) {k p : Nat} (hp : p < sv s 3) (hpk : wzn s p (sv s 3) = k) : ∀ (r n o : Nat), o + r = p → r < n → F_X8_wisestPassenger_2 M (nI k) n (nI o) = some (.inl (nI p), M) := by
  obtain ⟨c3, b3⟩ := hk.1.2.2.2.1
  obtain ⟨⟨r0, r1, r2, r3, r4, -⟩, -⟩ := R0 hR
  have kl := wzn_lt (s := s) hp
  intro r
  induction r with
  | zero =>
    intro n o h1 h2
    obtain ⟨n, rfl⟩ : ∃ x, n = x + 1 := ⟨n - 1, by omega⟩
    obtain rfl : o = p := by omega
    rw [F_X8_wisestPassenger_2, r3, c3, if_neg (nI_ge (by omega) (by omega)), wz_c hk hR hp, bx_s, hpk, if_neg (fun q => q rfl)]
  | succ r ih =>
    intro n o h1 h2
    obtain ⟨n, rfl⟩ : ∃ x, n = x + 1 := ⟨n - 1, by omega⟩
    have ol := wzn_lt (s := s) (show o < sv s 3 by omega)
    have hne := wzn_ne (s := s) (p := o) (q := p) (show o < sv s 3 by omega) hp (by omega)
    rw [F_X8_wisestPassenger_2, r3, c3, if_neg (nI_ge (by omega) (by omega)), wz_c hk hR (by omega), bx_s, if_pos (fun q => hne (by rw [hpk]; exact nI_inj (by omega) (by omega) q)), nI_1]
    exact ih n (o + 1) (by omega) (by omega)
theorem ws_c2 {M : fw_M} {s : Nat → Int32} (hk : ok s) (hR : R M 0 s) {a : Int32} (ha : a < nI 0 ∨ nI (sv s 3) ≤ a) : ∀ (r n o : Nat), o + r = sv s 3 → r < n → F_X8_wisestPassenger_2 M a n (nI o) = some (.inr 3, M) := by
  obtain ⟨c3, b3⟩ := hk.1.2.2.2.1
  obtain ⟨⟨r0, r1, r2, r3, r4, -⟩, -⟩ := R0 hR
  intro r
  induction r with
  | zero =>
    intro n o h1 h2
    obtain ⟨n, rfl⟩ : ∃ x, n = x + 1 := ⟨n - 1, by omega⟩
    rw [F_X8_wisestPassenger_2, r3, c3, if_pos (nI_le (by omega) (by omega))]
  | succ r ih =>
    intro n o h1 h2
    obtain ⟨n, rfl⟩ : ∃ x, n = x + 1 := ⟨n - 1, by omega⟩
    have ol := wzn_lt (s := s) (show o < sv s 3 by omega)
    have hne : ¬ nI (wzn s o (sv s 3)) = a := fun e => by
      rw [← e] at ha
      rcases ha with ha | ha
      · exact nI_nlt (by omega) (by omega) ha
      · exact nI_ge (by omega) (by omega) ha
    rw [F_X8_wisestPassenger_2, r3, c3, if_neg (nI_ge (by omega) (by omega)), wz_c hk hR (by omega), bx_s, if_pos hne, nI_1]
    exact ih n (o + 1) (by omega) (by omega)
theorem ws_44 {M : fw_M} {s : Nat → Int32} (hk : ok s) (hS : Sm M s) {p : Nat} (hp : p < sv s 3) {a1 x2 : Int32} {k21 : Int32 → Int32 → fw_M → Option (Int32 × fw_M)} : ∀ (r n o : Nat), o + r = sv s 3 → r < n → F_X9_wisestPassenger_44 a1 k21 n x2 (nI p) (nI (wzn s p o)) (nI o) M = if ¬ nI (wzn s p (sv s 3)) = a1 then k21 x2 (nI (p + 1)) M else k21 (nI p) (nI (p + 1)) M := by
  obtain ⟨c3, b3⟩ := hk.1.2.2.2.1
  have b4 := hk.1.2.2.2.2.2
  have g3 : fw_ri M 379 3 = nI (sv s 3) := (hS 3 (by omega)).trans c3
  have l1 := kb_le (s := s) (p := p) (n := sv s 4)
  intro r
  induction r with
  | zero =>
    intro n o h1 h2
    obtain ⟨n, rfl⟩ : ∃ x, n = x + 1 := ⟨n - 1, by omega⟩
    obtain rfl : o = sv s 3 := by omega
    rw [F_X9_wisestPassenger_44, if_pos (show ix_i 3 129 by decide), g3, if_pos (nI_le (by omega) (by omega)), nI_1]
  | succ r ih =>
    intro n o h1 h2
    obtain ⟨n, rfl⟩ : ∃ x, n = x + 1 := ⟨n - 1, by omega⟩
    have ih := ih n (o + 1) (by omega) (by omega)
    have l2 := kb_le (s := s) (p := o) (n := sv s 4)
    have es : wzn s p (o + 1) = wzn s p o + (if ahd s p o then 1 else 0) := by unfold wzn; rw [fb_ct_succ]
    rw [es] at ih
    rw [F_X9_wisestPassenger_44, if_pos (show ix_i 3 129 by decide), g3, if_neg (nI_ge (by omega) (by omega)), kb_m hk hS (by omega), bx_s, kb_m hk hS (by omega), bx_s, nI_1, nI_1, show nI (wzn s p o) + 0 = nI (wzn s p o) from nI_add _ 0]
    unfold ahd at ih
    by_cases e1 : kb s p (sv s 4) < kb s o (sv s 4)
    · rw [pk_sub (a := kb s o (sv s 4)) (b := kb s p (sv s 4)) (by omega), if_pos (show (0 : Int32) < nI (kb s o (sv s 4) - kb s p (sv s 4)) from nI_lt (a := 0) (by omega) (by omega))]
      rw [decide_eq_true e1, Bool.true_or, if_pos rfl] at ih
      exact ih
    · rw [decide_eq_false e1, Bool.false_or] at ih
      by_cases e2 : kb s o (sv s 4) = kb s p (sv s 4)
      · rw [decide_eq_true e2, Bool.true_and] at ih
        rw [e2, pk_sub (a := kb s p (sv s 4)) (b := kb s p (sv s 4)) (by omega), Nat.sub_self, if_neg (show ¬ (0 : Int32) < nI 0 by decide), if_neg (show ¬ ¬ nI 0 = 0 from fun x => x rfl)]
        by_cases e3 : o < p
        · rw [if_neg (nI_ge (by omega) (by omega))]
          rw [decide_eq_true e3, if_pos rfl] at ih
          exact ih
        · rw [if_pos (nI_le (by omega) (by omega))]
          rw [decide_eq_false e3, if_neg (by decide), Nat.add_zero] at ih
          exact ih
      · have hneg := pk_sneg (a := kb s o (sv s 4)) (b := kb s p (sv s 4)) (by omega) (by omega)
        have hn0 : ¬ (0 : Int32) < nI (kb s o (sv s 4)) - nI (kb s p (sv s 4)) := fun x => by
          rw [Int32.lt_iff_toInt_lt] at x hneg
          omega
        have hne : ¬ nI (kb s o (sv s 4)) - nI (kb s p (sv s 4)) = 0 := fun x => by
          rw [x] at hneg
          exact absurd hneg (by decide)
        rw [decide_eq_false e2, Bool.false_and, if_neg (by decide), Nat.add_zero] at ih
        rw [if_neg hn0, if_pos hne]
        exact ih
theorem ws_21 {M : fw_M} {s : Nat → Int32} (hk : ok s) (hS : Sm M s) (h6 : M 378 6 = nI 0) {k p : Nat} (hp : p < sv s 3) (hpk : wzn s p (sv s 3) = k) : ∀ (r n o : Nat) (x : Int32), o + r = sv s 3 → r < n → (p < o → x = nI p) → F_X9_wisestPassenger_21 (nI k) n x (nI o) M = some (nI p, M) := by
  obtain ⟨c3, b3⟩ := hk.1.2.2.2.1
  have g3 : fw_ri M 379 3 = nI (sv s 3) := (hS 3 (by omega)).trans c3
  have kl := wzn_lt (s := s) hp
  intro r
  induction r with
  | zero =>
    intro n o x h1 h2 h3
    obtain ⟨n, rfl⟩ : ∃ x, n = x + 1 := ⟨n - 1, by omega⟩
    rw [F_X9_wisestPassenger_21, if_pos (show ix_i 3 129 by decide), g3, if_pos (nI_le (by omega) (by omega)), h3 (by omega)]
  | succ r ih =>
    intro n o x h1 h2 h3
    obtain ⟨n, rfl⟩ : ∃ x, n = x + 1 := ⟨n - 1, by omega⟩
    have ol := wzn_lt (s := s) (show o < sv s 3 by omega)
    have w := ws_44 (M := M) hk hS (p := o) (by omega) (a1 := nI k) (x2 := x) (k21 := fun x2 x3 M => F_X9_wisestPassenger_21 (nI k) n x2 x3 M) (sv s 3) 64 0 (by omega) (by omega)
    have w' : F_X9_wisestPassenger_44 (nI k) (fun x2 x3 M => F_X9_wisestPassenger_21 (nI k) n x2 x3 M) 64 x (nI o) 0 0 M = if ¬ nI (wzn s o (sv s 3)) = nI k then F_X9_wisestPassenger_21 (nI k) n x (nI (o + 1)) M else F_X9_wisestPassenger_21 (nI k) n (nI o) (nI (o + 1)) M := w
    rw [F_X9_wisestPassenger_21, if_pos (show ix_i 3 129 by decide), g3, if_neg (nI_ge (by omega) (by omega)), h6, if_neg (show ¬ ¬ nI 0 = 0 from fun q => q rfl), w']
    by_cases e : o = p
    · rw [if_neg (show ¬ ¬ nI (wzn s o (sv s 3)) = nI k from fun q => q (by rw [e, hpk]))]
      exact ih n (o + 1) _ (by omega) (by omega) (fun _ => by rw [e])
    · have hne := wzn_ne (s := s) (p := o) (q := p) (show o < sv s 3 by omega) hp e
      rw [if_pos (show ¬ nI (wzn s o (sv s 3)) = nI k from fun q => hne (by rw [hpk]; exact nI_inj (by omega) (by omega) q))]
      exact ih n (o + 1) x (by omega) (by omega) (fun h => h3 (by omega))
theorem q_39 {M : fw_M} (h : Inv M) (xs : Nat → Int32) (i : Int32) : ∃ M1, F_cs_39 M xs i = some M1 ∧ Inv M1 := by
  have hI := h
  obtain ⟨⟨s, hk, hR, hS⟩, -⟩ := h
  have hk0 := hk
  obtain ⟨⟨⟨c0, b0⟩, ⟨c1, b1⟩, ⟨c2, b2⟩, ⟨c3, b3⟩, c4, b4⟩, oz, ol, os, od, ot, op, oq⟩ := hk
  unfold F_cs_39
  generalize xs (i + 1).toNatClampNeg = a
  rcases px_o a (n := sv s 3) (by omega) with ⟨k, hkk, rfl⟩ | ho
  · obtain ⟨p, hp, hpk⟩ := wzn_on (s := s) hkk
    refine fin_l hI (nI p) sm_0 ?_ (fun M2 h2 => ?_)
    · have w : F_X8_wisestPassenger_2 M (nI k) 64 0 = some (.inl (nI p), M) := ws_c1 hk0 hR hp hpk p 64 0 (by omega) (by omega)
      unfold F_L_wisestPassenger F_X8_wisestPassenger
      rw [w, wl_s]
    · have hS2 := hS.sm h2
      have w : F_X9_wisestPassenger_21 (nI k) 64 0 0 (fw_up M2 378 6 0) = some (nI p, fw_up M2 378 6 (nI 0)) := ws_21 (M := fw_up M2 378 6 (nI 0)) hk0 (hS2.u (by omega)) (up_e rfl rfl) hp hpk (sv s 3) 64 0 0 (by omega) (by omega) (fun h => by omega)
      unfold F_X9_wisestPassenger
      rw [it_Passenger hkk (by omega) ((hS2 3 (by omega)).trans c3), bx_s, if_neg (show ¬ nI 1 = 0 by decide), lx_s, w]
      exact lv_0
  · refine fin_e hI 1 (by omega) sm_0 ?_ (fun M2 h2 => ?_)
    · have w : F_X8_wisestPassenger_2 M a 64 0 = some (.inr 3, M) := ws_c2 hk0 hR ho (sv s 3) 64 0 (by omega) (by omega)
      unfold F_L_wisestPassenger F_X8_wisestPassenger
      rw [w]
      rfl
    · have hS2 := hS.sm h2
      have g3 : fw_ri (fw_up M2 378 6 1) 379 3 = nI (sv s 3) := ((hS2.u (k := 378) (j := 6) (x := 1) (by omega)) 3 (by omega)).trans c3
      unfold F_X9_wisestPassenger
      rw [is_Passenger ho (by omega) ((hS2 3 (by omega)).trans c3), bx_s, if_pos (show nI 0 = 0 from rfl), lx_s, F_X9_wisestPassenger_21, if_pos (show ix_i 3 129 by decide), g3]
      by_cases h0 : nI (sv s 3) ≤ 0
      · rw [if_pos h0]
        exact lv_e
      · rw [if_neg h0, up_e rfl rfl, if_pos (show ¬ (1 : Int32) = 0 by decide)]
        exact lv_e
