/-! the class reads a text of commands -/
def dcount (m : Nat) : Nat := [1, 2, 2, 1, 1, 3, 2, 1, 1, 2, 0].getD m 0
theorem dc_ok : ∀ m, m < 11 → fw_dk (nI m) = nI (dcount m) ∧ dcount m ≤ 3 := by decide +kernel
section PX
variable (T : Nat → Nat) (n : Nat)
def dg : Nat → Nat → Bool × Nat
  | 0, p => (true, p)
  | r + 1, p => if ch T n p = 32 then (if 48 ≤ ch T n (p + 1) ∧ ch T n (p + 1) ≤ 57 then dg r (p + 2) else (false, p + 1)) else (false, p)
def rc (p : Nat) : Bool × Nat := if ml T n p (mm T n p) = wl (mm T n p) then dg T n (dcount (mm T n p)) (p + wl (mm T n p)) else (false, p + ml T n p (mm T n p))
def ps : Nat → Nat
  | 0 => 0
  | c + 1 => (rc T n (ps c)).2 + 1
def pr : Nat → Nat → Bool × Nat × Nat
  | 0, c => (false, ps T n c, c)
  | r + 1, c => if (rc T n (ps T n c)).1 = true then (if (rc T n (ps T n c)).2 = n then (true, n, c + 1) else if ch T n (rc T n (ps T n c)).2 = 59 then pr r (c + 1) else (false, (rc T n (ps T n c)).2, c)) else (false, (rc T n (ps T n c)).2, c)
def gd (c : Nat) : Nat := mm T n (ps T n c)
def ga (c j : Nat) : Nat := ch T n (ps T n c + wl (gd T n c) + 2 * j + 1) - 48
end PX
section PY
variable {T : Nat → Nat} {n : Nat}
theorem mlr_n {k i : Nat} (hk : k < 12) : ∀ r j, j + r = wl k → i + j ≤ n → i + mlr T n i k r j ≤ n := by
  intro r
  induction r with
  | zero => intro j _ h; exact h
  | succ r ih =>
    intro j h1 h2
    rw [mlr]
    split
    · rename_i hc
      refine ih (j + 1) (by omega) ?_
      have := (wc_ok k hk j (by omega)).1
      unfold ch at hc
      by_cases h : i + j < n
      · omega
      · rw [if_neg h] at hc; omega
    · exact h2
theorem ml_n {k i : Nat} (hk : k < 12) (h : i ≤ n) : i + ml T n i k ≤ n := mlr_n hk (wl k) 0 (by omega) h
theorem ch_lt {i : Nat} (h : ch T n i ≠ 0) : i < n := by
  unfold ch at h
  by_cases e : i < n
  · exact e
  · rw [if_neg e] at h; exact absurd rfl h
theorem dg_n : ∀ r p, p ≤ n → (dg T n r p).2 ≤ n ∧ p ≤ (dg T n r p).2 := by
  intro r
  induction r with
  | zero => intro p h; exact ⟨h, Nat.le_refl p⟩
  | succ r ih =>
    intro p h
    rw [dg]
    split
    · rename_i hc
      have := ch_lt (T := T) (n := n) (i := p) (by omega)
      split
      · rename_i hd
        have := ch_lt (T := T) (n := n) (i := p + 1) (by omega)
        have := ih (p + 2) (by omega)
        omega
      · show p + 1 ≤ n ∧ p ≤ p + 1; omega
    · exact ⟨h, Nat.le_refl p⟩
theorem mm_lt {p : Nat} : mm T n p < 11 := bst.1
theorem rc_n {p : Nat} (h : p ≤ n) : (rc T n p).2 ≤ n ∧ ((rc T n p).1 = true → p + 4 ≤ (rc T n p).2) := by
  have hm := mm_lt (T := T) (n := n) (p := p)
  have h1 := ml_n (T := T) (k := mm T n p) (by omega) h
  have h4 := wl_4 _ hm
  unfold rc
  split
  · rename_i e
    have := dg_n (T := T) (n := n) (dcount (mm T n p)) (p + wl (mm T n p)) (by omega)
    omega
  · exact ⟨h1, fun e => absurd e Bool.false_ne_true⟩
theorem mm_end {p : Nat} (h : n ≤ p) : mm T n p = 9 := by
  have c0 : ch T n p = 0 := by unfold ch; rw [if_neg (by omega)]
  unfold mm oth kap
  rw [c0]
  simp [wdo]
theorem rc_end {p : Nat} (h : n ≤ p) : rc T n p = (false, p) := by
  have e : ml T n p 9 = 0 := mlr_end (by omega) (by omega) (by omega)
  unfold rc
  rw [mm_end h, e, if_neg (by decide)]
  rfl
/-- the text that the class holds -/
def CT (M : fw_M) (T : Nat → Nat) (n : Nat) : Prop := M 360 0 = nI n ∧ n ≤ 60 ∧ ∀ j, j < n → M 361 j = nI (T j) ∧ 32 ≤ T j ∧ T j ≤ 126
theorem ch_s {M : fw_M} (h : CT M T n) {i : Nat} (hi : i < n) : fw_ri M 361 (nI i) = nI (ch T n i) ∧ ch T n i < 128 ∧ 0 < ch T n i := by
  obtain ⟨a, b, c⟩ := h
  obtain ⟨c1, c2, c3⟩ := c i hi
  unfold ch
  rw [if_pos hi, fw_ri, nI_clamp (by omega)]
  exact ⟨c1, by omega, by omega⟩
theorem ml_c {M : fw_M} (h : CT M T n) {k p L : Nat} (hk : k < 12) (hp : M 360 2 = nI p) (hpn : p ≤ n) (hL : L = if n - p < wl k then n - p else wl k) : ∀ r j f, j + r = L → r < f → F_X0_matchedLength_19 M k f (nI L) (nI j) = some (nI (mlr T n p k (wl k - j) j)) := by
  have hn := h.2.1
  have hw := wl_le k hk
  have hL1 : L ≤ n - p ∧ L ≤ wl k ∧ (L = wl k ∨ L = n - p) := by
    by_cases e : n - p < wl k
    · rw [if_pos e] at hL; omega
    · rw [if_neg e] at hL; omega
  intro r
  induction r with
  | zero =>
    intro j f h1 h2
    obtain ⟨f, rfl⟩ : ∃ x, f = x + 1 := ⟨f - 1, by omega⟩
    obtain rfl : j = L := by omega
    rw [F_X0_matchedLength_19, if_pos (nI_le (by omega) (by omega))]
    rcases hL1.2.2 with e | e
    · rw [e, Nat.sub_self]; rfl
    · rw [mlr_end hk (by omega) (by omega)]
  | succ r ih =>
    intro j f h1 h2
    obtain ⟨f, rfl⟩ : ∃ x, f = x + 1 := ⟨f - 1, by omega⟩
    obtain ⟨a1, a2, a3⟩ := ch_s h (i := p + j) (by omega)
    have hc := cha (M := M) hk (j := j) (by omega)
    have hwc := wc_ok k hk j (by omega)
    rw [F_X0_matchedLength_19, if_neg (nI_ge (by omega) (by omega)), hp, nI_add, if_pos (nI_in (by omega) (by omega)), hc, bx_s, a1, show wl k - j = (wl k - (j + 1)) + 1 by omega, mlr]
    by_cases e : ch T n (p + j) = wc k j
    · rw [if_pos e, e, if_pos rfl, nI_1]
      exact ih (j + 1) f (by omega) (by omega)
    · rw [if_neg e, if_neg (fun x => e (nI_inj (by omega) (by omega) x))]
theorem mlc {M : fw_M} (h : CT M T n) {k p : Nat} (hk : k < 12) (hp : M 360 2 = nI p) (hpn : p ≤ n) : F_X0_matchedLength M k = some (nI (ml T n p k)) := by
  have hn := h.2.1
  have hw := wl_le k hk
  unfold F_X0_matchedLength
  rw [lna hk, bx_s, h.1, hp, pk_sub (by omega)]
  by_cases e : n - p < wl k
  · rw [if_pos (nI_lt e (by omega))]
    exact ml_c h hk hp hpn (L := n - p) (by rw [if_pos e]) (n - p) 0 64 (by omega) (by omega)
  · rw [if_neg (nI_nlt (by omega) (by omega))]
    exact ml_c h hk hp hpn (L := wl k) (by rw [if_neg e]) (wl k) 0 64 (by omega) (by omega)
theorem wo_c {M : fw_M} : ∀ k, k < 11 → F_X0_wordOf M (nI k) = some k := by
  intro k hk
  rcases (show k = 0 ∨ k = 1 ∨ k = 2 ∨ k = 3 ∨ k = 4 ∨ k = 5 ∨ k = 6 ∨ k = 7 ∨ k = 8 ∨ k = 9 ∨ k = 10 by omega) with rfl | rfl | rfl | rfl | rfl | rfl | rfl | rfl | rfl | rfl | rfl <;> rfl
/-- the kind that is found: of a whole word, or none -/
def kd (T : Nat → Nat) (n p : Nat) : Int32 := if ml T n p (mm T n p) = wl (mm T n p) then nI (mm T n p) else mI
theorem tw_c {M : fw_M} (h : CT M T n) {p : Nat} (hp : M 360 2 = nI p) (hpn : p ≤ n) : ∀ r k f L x, k + r = 11 → r < f → ((k ≤ mm T n p ∧ L ≤ ml T n p (mm T n p) ∧ (L = ml T n p (mm T n p) → x = mI)) ∨ (mm T n p < k ∧ L = ml T n p (mm T n p) ∧ x = kd T n p)) → F_X0_takeWord_6 f (nI L) x (nI k) M = some (kd T n p, fw_up M 360 2 (nI (p + ml T n p (mm T n p)))) := by
  have hn := h.2.1
  obtain ⟨hm, hb⟩ := bst (T := T) (n := n) (i := p)
  have hw := wl_le (mm T n p) (by omega)
  have hl := ml_le (T := T) (n := n) (i := p) (k := mm T n p)
  intro r
  induction r with
  | zero =>
    intro k f L x h1 h2 h3
    obtain ⟨f, rfl⟩ : ∃ x, f = x + 1 := ⟨f - 1, by omega⟩
    obtain ⟨_, rfl, rfl⟩ : mm T n p < k ∧ L = ml T n p (mm T n p) ∧ x = kd T n p := by
      rcases h3 with h3 | h3
      · omega
      · exact h3
    rw [F_X0_takeWord_6, if_pos (show (11 : Int32) ≤ nI k from nI_le (a := 11) (by omega) (by omega)), lx_s, hp, nI_add]
  | succ r ih =>
    intro k f L x h1 h2 h3
    obtain ⟨f, rfl⟩ : ∃ x, f = x + 1 := ⟨f - 1, by omega⟩
    obtain ⟨b1, b2⟩ := hb k (by omega)
    have hwk := wl_le k (by omega)
    rw [F_X0_takeWord_6, if_neg (show ¬ (11 : Int32) ≤ nI k from nI_ge (b := 11) (by omega) (by omega)), wo_c k (by omega), bx_s, if_pos (show k < 12 by omega), mlc h (by omega) hp hpn, bx_s, lna (by omega), bx_s, bx_s, nI_1]
    have hL : L ≤ ml T n p (mm T n p) := by rcases h3 with h3 | h3 <;> omega
    by_cases c1 : ml T n p k ≤ L
    · rw [if_pos (nI_le c1 (by omega))]
      by_cases c2 : ml T n p k = L
      · rw [if_neg (show ¬ ¬ nI (ml T n p k) = nI L by rw [c2]; exact fun e => e rfl)]
        by_cases c3 : ml T n p k = wl k
        · rw [if_neg (show ¬ ¬ nI (ml T n p k) = nI (wl k) by rw [c3]; exact fun e => e rfl)]
          refine ih (k + 1) f L (nI k) (by omega) (by omega) ?_
          by_cases e : L = ml T n p (mm T n p)
          · have hkm := b2 (by omega) c3
            refine Or.inr ⟨by omega, e, ?_⟩
            unfold kd
            rw [← hkm, if_pos c3]
          · rcases h3 with h3 | h3
            · refine Or.inl ⟨?_, hL, fun x => absurd x e⟩
              refine Decidable.byContradiction (fun hne => ?_)
              have : mm T n p = k := by omega
              rw [this] at e
              exact e c2.symm
            · exact absurd h3.2.1 e
        · rw [if_pos (fun x => c3 (nI_inj (by omega) (by omega) x))]
          refine ih (k + 1) f L x (by omega) (by omega) ?_
          rcases h3 with h3 | h3
          · by_cases e : k = mm T n p
            · refine Or.inr ⟨by omega, by rw [← e]; omega, ?_⟩
              unfold kd
              rw [← e, if_neg c3]
              exact h3.2.2 (by rw [← e]; omega)
            · exact Or.inl ⟨by omega, h3.2⟩
          · exact Or.inr ⟨by omega, h3.2⟩
      · rw [if_pos (fun x => c2 (nI_inj (by omega) (by omega) x))]
        refine ih (k + 1) f L x (by omega) (by omega) ?_
        rcases h3 with h3 | h3
        · refine Or.inl ⟨?_, h3.2⟩
          refine Decidable.byContradiction (fun hne => ?_)
          have : mm T n p = k := by omega
          rw [this] at hL
          omega
        · exact Or.inr ⟨by omega, h3.2⟩
    · rw [if_neg (nI_ge (by omega) (by omega)), if_neg (show ¬ ¬ nI (ml T n p k) = nI (ml T n p k) from fun e => e rfl)]
      have h3' : k ≤ mm T n p := by
        rcases h3 with h3 | h3
        · exact h3.1
        · omega
      by_cases c3 : ml T n p k = wl k
      · rw [if_neg (show ¬ ¬ nI (ml T n p k) = nI (wl k) by rw [c3]; exact fun e => e rfl)]
        refine ih (k + 1) f (ml T n p k) (nI k) (by omega) (by omega) ?_
        by_cases e : ml T n p k = ml T n p (mm T n p)
        · have hkm := b2 e c3
          refine Or.inr ⟨by omega, e, ?_⟩
          unfold kd
          rw [← hkm, if_pos c3]
        · refine Or.inl ⟨?_, b1, fun x => absurd x e⟩
          refine Decidable.byContradiction (fun hne => ?_)
          have : mm T n p = k := by omega
          rw [this] at e
          exact e rfl
      · rw [if_pos (fun x => c3 (nI_inj (by omega) (by omega) x))]
        refine ih (k + 1) f (ml T n p k) (-1) (by omega) (by omega) ?_
        by_cases e : k = mm T n p
        · refine Or.inr ⟨by omega, by rw [← e], ?_⟩
          unfold kd
          rw [← e, if_neg c3]
          rfl
        · exact Or.inl ⟨by omega, b1, fun _ => rfl⟩
end PY
