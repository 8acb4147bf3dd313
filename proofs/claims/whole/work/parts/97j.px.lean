/-! the text of commands: what both readers find -/
def wl (k : Nat) : Nat := fw_wlen.getD k 0
def wc (k j : Nat) : Nat := ((fw_wbyt.getD k []).getD j 0).toNatClampNeg
def ch (T : Nat → Nat) (n i : Nat) : Nat := if i < n then T i else 0
/-- how far word k goes with the text at i: from place j on, r places left -/
def mlr (T : Nat → Nat) (n i k : Nat) : Nat → Nat → Nat
  | 0, j => j
  | r + 1, j => if ch T n (i + j) = wc k j then mlr T n i k r (j + 1) else j
def ml (T : Nat → Nat) (n i k : Nat) : Nat := mlr T n i k (wl k) 0
theorem mlr_b {T : Nat → Nat} {n i k : Nat} : ∀ r j, j ≤ mlr T n i k r j ∧ mlr T n i k r j ≤ j + r := by
  intro r
  induction r with
  | zero => intro j; exact ⟨Nat.le_refl j, Nat.le_refl j⟩
  | succ r ih =>
    intro j
    rw [mlr]
    split
    · obtain ⟨a, b⟩ := ih (j + 1)
      omega
    · omega
theorem ml_le {T : Nat → Nat} {n i k : Nat} : ml T n i k ≤ wl k := by
  have := (mlr_b (T := T) (n := n) (i := i) (k := k) (wl k) 0).2
  unfold ml
  omega
theorem wc_ok : ∀ k, k < 12 → ∀ j, j < wl k → 1 ≤ wc k j ∧ wc k j < 128 ∧ F_J0_charAt_5068e fz k (nI j) = some (nI (wc k j)) := by decide +kernel
theorem wl_le : ∀ k, k < 12 → 1 ≤ wl k ∧ wl k ≤ 7 := by decide +kernel
theorem wl_4 : ∀ k, k < 11 → 4 ≤ wl k := by decide +kernel
theorem cha {M : fw_M} {k j : Nat} (hk : k < 12) (hj : j < wl k) : F_J0_charAt_5068e M k (nI j) = some (nI (wc k j)) := (wc_ok k hk j hj).2.2
theorem lna {M : fw_M} {k : Nat} (hk : k < 12) : F_J0_length_8abf5 M k = some (nI (wl k)) := by
  have := wl_le k hk
  unfold F_J0_length_8abf5 F_J0_coder_7d493
  rw [bx_s]
  exact congrArg some (shr0 (n := wl k) (by omega))
/-- the text lies beyond its end: nothing matches there -/
theorem mlr_end {T : Nat → Nat} {n i k : Nat} (hk : k < 12) {r j : Nat} (h : n ≤ i + j) (hj : j + r = wl k) : mlr T n i k r j = j := by
  cases r with
  | zero => rfl
  | succ r =>
    rw [mlr, if_neg]
    unfold ch
    rw [if_neg (by omega)]
    have := (wc_ok k hk j (by omega)).1
    omega
/-- the word that the text at i begins: the model's choice -/
def kap (T : Nat → Nat) (n i : Nat) : Nat := if ch T n i = 115 then (if ch T n (i + 1) = 101 then 99 else 115) else if ch T n i = 116 then (if ch T n (i + 1) = 114 then 116 else if ch T n (i + 4) = 101 then 105 else 107) else ch T n i
def wdo (k : Nat) : Nat := if k = 97 then 7 else if k = 98 then 6 else if k = 99 then 8 else if k = 101 then 2 else if k = 105 then 5 else if k = 107 then 10 else if k = 108 then 1 else if k = 114 then 4 else if k = 115 then 0 else if k = 116 then 3 else 9
def oth (T : Nat → Nat) (n i : Nat) : Bool := (decide (kap T n i = 99) || decide (kap T n i = 105) || decide (kap T n i = 107)) && decide (ch T n i = kap T n i)
def mm (T : Nat → Nat) (n i : Nat) : Nat := if oth T n i then 9 else wdo (kap T n i)
def kc (m : Nat) : Nat := [115, 108, 101, 116, 114, 105, 98, 97, 99, 119, 107].getD m 0
def pm : List Nat → List Nat → Nat
  | a :: as, c :: cs => if c = a then pm as cs + 1 else 0
  | _, _ => 0
def wlist (k : Nat) : List Nat := (fw_wbyt.getD k []).map Int32.toNatClampNeg
theorem wlist_ok : ∀ k, k < 12 → (wlist k).length = wl k ∧ ∀ j, j < wl k → (wlist k).getD j 0 = wc k j := by decide +kernel
theorem pm_mlr {T : Nat → Nat} {n i k : Nat} : ∀ (r j : Nat) (L cs : List Nat), L.length = r → (∀ q, q < r → L.getD q 0 = wc k (j + q)) → r ≤ cs.length → (∀ q, q < r → cs.getD q 0 = ch T n (i + (j + q))) → mlr T n i k r j = j + pm L cs := by
  intro r
  induction r with
  | zero =>
    intro j L cs h1 _ _ _
    obtain rfl : L = [] := List.eq_nil_of_length_eq_zero h1
    rfl
  | succ r ih =>
    intro j L cs h1 h2 h3 h4
    cases L with
    | nil => cases h1
    | cons a as =>
      cases cs with
      | nil => exact absurd h3 (by show ¬ r + 1 ≤ 0; omega)
      | cons c cs =>
        have ha : a = wc k j := h2 0 (by omega)
        have hc : c = ch T n (i + j) := h4 0 (by omega)
        have h1' : as.length = r := Nat.succ.inj h1
        have h3' : r ≤ cs.length := Nat.le_of_succ_le_succ h3
        have ih := ih (j + 1) as cs h1' (fun q hq => by
          have := h2 (q + 1) (by omega)
          rw [show j + 1 + q = j + (q + 1) by omega]
          exact this) h3' (fun q hq => by
          have := h4 (q + 1) (by omega)
          rw [show j + 1 + q = j + (q + 1) by omega]
          exact this)
        rw [mlr, pm, ← ha, ← hc, ih]
        by_cases e : c = a
        · rw [if_pos e, if_pos e]; omega
        · rw [if_neg e, if_neg e, Nat.add_zero]
theorem ml_pm {T : Nat → Nat} {n i k : Nat} (hk : k < 12) : ml T n i k = pm (wlist k) [ch T n i, ch T n (i + 1), ch T n (i + 2), ch T n (i + 3), ch T n (i + 4), ch T n (i + 5), ch T n (i + 6)] := by
  obtain ⟨h1, h2⟩ := wlist_ok k hk
  have h3 := wl_le k hk
  unfold ml
  rw [pm_mlr (wl k) 0 (wlist k) [ch T n i, ch T n (i + 1), ch T n (i + 2), ch T n (i + 3), ch T n (i + 4), ch T n (i + 5), ch T n (i + 6)] h1 (fun q hq => by rw [Nat.zero_add]; exact h2 q hq) h3.2 (fun q hq => ?_), Nat.zero_add]
  rw [Nat.zero_add]
  rcases (show q = 0 ∨ q = 1 ∨ q = 2 ∨ q = 3 ∨ q = 4 ∨ q = 5 ∨ q = 6 by omega) with rfl | rfl | rfl | rfl | rfl | rfl | rfl <;> rfl
/-! no word goes farther than the chosen one; none that goes as far is whole but that one -/
theorem bst_aux (c0 c1 c2 c3 c4 c5 c6 m : Nat) (h : (c0 = 115 ∧ c1 = 101 ∧ m = 8) ∨ (c0 = 115 ∧ c1 ≠ 101 ∧ m = 0) ∨ (c0 = 116 ∧ c1 = 114 ∧ m = 3) ∨ (c0 = 116 ∧ c1 ≠ 114 ∧ c4 = 101 ∧ m = 5) ∨ (c0 = 116 ∧ c1 ≠ 114 ∧ c4 ≠ 101 ∧ m = 10) ∨ (c0 = 97 ∧ m = 7) ∨ (c0 = 98 ∧ m = 6) ∨ (c0 = 101 ∧ m = 2) ∨ (c0 = 108 ∧ m = 1) ∨ (c0 = 114 ∧ m = 4) ∨ (c0 = 119 ∧ m = 9) ∨ (c0 ≠ 115 ∧ c0 ≠ 116 ∧ c0 ≠ 97 ∧ c0 ≠ 98 ∧ c0 ≠ 101 ∧ c0 ≠ 108 ∧ c0 ≠ 114 ∧ c0 ≠ 119 ∧ m = 9)) : ∀ k, k < 11 → pm (wlist k) [c0, c1, c2, c3, c4, c5, c6] ≤ pm (wlist m) [c0, c1, c2, c3, c4, c5, c6] ∧ (pm (wlist k) [c0, c1, c2, c3, c4, c5, c6] = pm (wlist m) [c0, c1, c2, c3, c4, c5, c6] → pm (wlist k) [c0, c1, c2, c3, c4, c5, c6] = wl k → k = m) := by
  have W0 : wlist 0 = [115, 116, 111, 112] := by decide +kernel
  have W1 : wlist 1 = [108, 105, 110, 101] := by decide +kernel
  have W2 : wlist 2 = [101, 120, 116, 101, 110, 100] := by decide +kernel
  have W3 : wlist 3 = [116, 114, 97, 109] := by decide +kernel
  have W4 : wlist 4 = [114, 105, 100, 101, 114] := by decide +kernel
  have W5 : wlist 5 = [116, 105, 99, 107, 101, 116] := by decide +kernel
  have W6 : wlist 6 = [98, 111, 97, 114, 100] := by decide +kernel
  have W7 : wlist 7 = [97, 108, 105, 103, 104, 116] := by decide +kernel
  have W8 : wlist 8 = [115, 101, 99, 114, 101, 116] := by decide +kernel
  have W9 : wlist 9 = [119, 104, 105, 115, 112, 101, 114] := by decide +kernel
  have W10 : wlist 10 = [116, 105, 99, 107] := by decide +kernel
  have L0 : wl 0 = 4 := by decide
  have L1 : wl 1 = 4 := by decide
  have L2 : wl 2 = 6 := by decide
  have L3 : wl 3 = 4 := by decide
  have L4 : wl 4 = 5 := by decide
  have L5 : wl 5 = 6 := by decide
  have L6 : wl 6 = 5 := by decide
  have L7 : wl 7 = 6 := by decide
  have L8 : wl 8 = 6 := by decide
  have L9 : wl 9 = 7 := by decide
  have L10 : wl 10 = 4 := by decide
  intro k hk
  rcases (show k = 0 ∨ k = 1 ∨ k = 2 ∨ k = 3 ∨ k = 4 ∨ k = 5 ∨ k = 6 ∨ k = 7 ∨ k = 8 ∨ k = 9 ∨ k = 10 by omega) with rfl | rfl | rfl | rfl | rfl | rfl | rfl | rfl | rfl | rfl | rfl <;>
  rcases h with ⟨h0, h1, rfl⟩ | ⟨h0, h1, rfl⟩ | ⟨h0, h1, rfl⟩ | ⟨h0, h1, h4, rfl⟩ | ⟨h0, h1, h4, rfl⟩ | ⟨h0, rfl⟩ | ⟨h0, rfl⟩ | ⟨h0, rfl⟩ | ⟨h0, rfl⟩ | ⟨h0, rfl⟩ | ⟨h0, rfl⟩ | ⟨h0, h1, h2, h3, h4, h5, h6, h7, rfl⟩ <;>
  simp only [W0, W1, W2, W3, W4, W5, W6, W7, W8, W9, W10, L0, L1, L2, L3, L4, L5, L6, L7, L8, L9, L10, pm, h0, reduceIte, Nat.reduceEqDiff] <;>
  (repeat' split) <;> first | omega | exact ⟨by omega, fun _ _ => trivial⟩ | exact ⟨by omega, fun e => e.elim⟩ | exact ⟨by omega, fun _ e => e.elim⟩ | (simp; done) | (simp; omega)
theorem bst {T : Nat → Nat} {n i : Nat} : mm T n i < 11 ∧ ∀ k, k < 11 → ml T n i k ≤ ml T n i (mm T n i) ∧ (ml T n i k = ml T n i (mm T n i) → ml T n i k = wl k → k = mm T n i) := by
  have h : ((ch T n i = 115 ∧ ch T n (i + 1) = 101 ∧ mm T n i = 8) ∨ (ch T n i = 115 ∧ ch T n (i + 1) ≠ 101 ∧ mm T n i = 0) ∨ (ch T n i = 116 ∧ ch T n (i + 1) = 114 ∧ mm T n i = 3) ∨ (ch T n i = 116 ∧ ch T n (i + 1) ≠ 114 ∧ ch T n (i + 4) = 101 ∧ mm T n i = 5) ∨ (ch T n i = 116 ∧ ch T n (i + 1) ≠ 114 ∧ ch T n (i + 4) ≠ 101 ∧ mm T n i = 10) ∨ (ch T n i = 97 ∧ mm T n i = 7) ∨ (ch T n i = 98 ∧ mm T n i = 6) ∨ (ch T n i = 101 ∧ mm T n i = 2) ∨ (ch T n i = 108 ∧ mm T n i = 1) ∨ (ch T n i = 114 ∧ mm T n i = 4) ∨ (ch T n i = 119 ∧ mm T n i = 9) ∨ (ch T n i ≠ 115 ∧ ch T n i ≠ 116 ∧ ch T n i ≠ 97 ∧ ch T n i ≠ 98 ∧ ch T n i ≠ 101 ∧ ch T n i ≠ 108 ∧ ch T n i ≠ 114 ∧ ch T n i ≠ 119 ∧ mm T n i = 9)) := by
    unfold mm oth kap
    generalize ch T n i = c0
    generalize ch T n (i + 1) = c1
    generalize ch T n (i + 4) = c4
    by_cases a1 : c0 = 115
    · subst a1
      by_cases a2 : c1 = 101
      · subst a2; simp [wdo]
      · simp [a2, wdo]
    · by_cases a2 : c0 = 116
      · subst a2
        by_cases a3 : c1 = 114
        · subst a3; simp [wdo]
        · by_cases a4 : c4 = 101
          · subst a4; simp [a3, wdo]
          · simp [a3, a4, wdo]
      · by_cases b1 : c0 = 97
        · subst b1; simp [wdo]
        · by_cases b2 : c0 = 98
          · subst b2; simp [wdo]
          · by_cases b3 : c0 = 101
            · subst b3; simp [wdo]
            · by_cases b4 : c0 = 108
              · subst b4; simp [wdo]
              · by_cases b5 : c0 = 114
                · subst b5; simp [wdo]
                · by_cases b6 : c0 = 119
                  · subst b6; simp [wdo]
                  · by_cases b7 : c0 = 99
                    · subst b7; simp
                    · by_cases b8 : c0 = 105
                      · subst b8; simp
                      · by_cases b9 : c0 = 107
                        · subst b9; simp
                        · simp [a1, a2, b1, b2, b3, b4, b5, b6, b7, b8, b9, wdo]
  have hm : mm T n i < 11 := by omega
  refine ⟨hm, fun k hk => ?_⟩
  rw [ml_pm (k := k) (by omega), ml_pm (k := mm T n i) (by omega)]
  exact bst_aux _ _ _ _ _ _ _ _ h k hk
/-- a whole word: the model's kind is the class's -/
theorem bst_k {T : Nat → Nat} {n i : Nat} (h : ml T n i (mm T n i) = wl (mm T n i)) : kap T n i = kc (mm T n i) := by
  have hm := (bst (T := T) (n := n) (i := i)).1
  have h1 : 0 < wl (mm T n i) := (wl_le _ (by omega)).1
  have hc : ch T n i = wc (mm T n i) 0 := by
    obtain ⟨r, hr⟩ : ∃ r, wl (mm T n i) = r + 1 := ⟨wl (mm T n i) - 1, by omega⟩
    unfold ml at h
    rw [hr, mlr] at h
    refine Decidable.byContradiction (fun hne => ?_)
    rw [Nat.add_zero, if_neg hne] at h
    omega
  have hw : ∀ m, m < 11 → wc m 0 = [115, 108, 101, 116, 114, 116, 98, 97, 115, 119, 116].getD m 0 := by decide +kernel
  rw [hw _ hm] at hc
  unfold mm oth at hc hm ⊢
  unfold kap at hc hm ⊢
  generalize ch T n i = c0 at hc hm ⊢
  generalize ch T n (i + 1) = c1 at hc hm ⊢
  generalize ch T n (i + 4) = c4 at hc hm ⊢
  by_cases a1 : c0 = 115
  · subst a1
    by_cases a2 : c1 = 101
    · subst a2; simp [wdo, kc]
    · simp [a2, wdo, kc]
  · by_cases a2 : c0 = 116
    · subst a2
      by_cases a3 : c1 = 114
      · subst a3; simp [wdo, kc]
      · by_cases a4 : c4 = 101
        · subst a4; simp [a3, wdo, kc]
        · simp [a3, a4, wdo, kc]
    · by_cases b1 : c0 = 97
      · subst b1; simp [wdo, kc]
      · by_cases b2 : c0 = 98
        · subst b2; simp [wdo, kc]
        · by_cases b3 : c0 = 101
          · subst b3; simp [wdo, kc]
          · by_cases b4 : c0 = 108
            · subst b4; simp [wdo, kc]
            · by_cases b5 : c0 = 114
              · subst b5; simp [wdo, kc]
              · by_cases b6 : c0 = 119
                · subst b6; simp [wdo, kc]
                · exfalso
                  by_cases b7 : c0 = 99
                  · subst b7; simp at hc
                  · by_cases b8 : c0 = 105
                    · subst b8; simp at hc
                    · by_cases b9 : c0 = 107
                      · subst b9; simp at hc
                      · simp [a1, a2, b1, b2, b3, b4, b5, b6, b7, b8, b9, wdo] at hc
