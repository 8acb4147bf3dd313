/-! pure part: rules by which the F's are evaluated -/
theorem pn_l0 : (0 : Int32) = nI 0 := rfl
theorem pn_l1 : (1 : Int32) = nI 1 := rfl
theorem pn_l2 : (2 : Int32) = nI 2 := rfl
theorem pn_l3 : (3 : Int32) = nI 3 := rfl
theorem pn_l4 : (4 : Int32) = nI 4 := rfl
theorem pn_l5 : (5 : Int32) = nI 5 := rfl
theorem pn_l6 : (6 : Int32) = nI 6 := rfl
theorem pn_l7 : (7 : Int32) = nI 7 := rfl
theorem pn_l8 : (8 : Int32) = nI 8 := rfl
theorem pn_l9 : (9 : Int32) = nI 9 := rfl
theorem pn_l10 : (10 : Int32) = nI 10 := rfl
theorem pn_l11 : (11 : Int32) = nI 11 := rfl
theorem pn_l12 : (12 : Int32) = nI 12 := rfl
theorem pn_l16 : (16 : Int32) = nI 16 := rfl
theorem pn_l18 : (18 : Int32) = nI 18 := rfl
theorem pn_l20 : (20 : Int32) = nI 20 := rfl
theorem pn_l31 : (31 : Int32) = nI 31 := rfl
theorem pn_l32 : (32 : Int32) = nI 32 := rfl
theorem pn_l40 : (40 : Int32) = nI 40 := rfl
theorem pn_l45 : (45 : Int32) = nI 45 := rfl
theorem pn_l48 : (48 : Int32) = nI 48 := rfl
theorem pn_l51 : (51 : Int32) = nI 51 := rfl
theorem pn_l57 : (57 : Int32) = nI 57 := rfl
theorem pn_l59 : (59 : Int32) = nI 59 := rfl
theorem pn_l60 : (60 : Int32) = nI 60 := rfl
theorem pn_l62 : (62 : Int32) = nI 62 := rfl
theorem pn_l64 : (64 : Int32) = nI 64 := rfl
theorem pn_l69 : (69 : Int32) = nI 69 := rfl
theorem pn_l97 : (97 : Int32) = nI 97 := rfl
theorem pn_l98 : (98 : Int32) = nI 98 := rfl
theorem pn_l99 : (99 : Int32) = nI 99 := rfl
theorem pn_l100 : (100 : Int32) = nI 100 := rfl
theorem pn_l101 : (101 : Int32) = nI 101 := rfl
theorem pn_l105 : (105 : Int32) = nI 105 := rfl
theorem pn_l107 : (107 : Int32) = nI 107 := rfl
theorem pn_l108 : (108 : Int32) = nI 108 := rfl
theorem pn_l114 : (114 : Int32) = nI 114 := rfl
theorem pn_l115 : (115 : Int32) = nI 115 := rfl
theorem pn_l116 : (116 : Int32) = nI 116 := rfl
theorem pn_l117 : (117 : Int32) = nI 117 := rfl
theorem pn_l119 : (119 : Int32) = nI 119 := rfl
theorem pn_l126 : (126 : Int32) = nI 126 := rfl
theorem pn_l129 : (129 : Int32) = nI 129 := rfl
theorem pn_l240 : (240 : Int32) = nI 240 := rfl
theorem pn_l903 : (903 : Int32) = nI 903 := rfl
theorem pn_l1032 : (1032 : Int32) = nI 1032 := rfl
def mI : Int32 := -1
theorem pn_m : (-1 : Int32) = mI := rfl
theorem mI_toInt : mI.toInt = -1 := by decide
theorem pm_1 {k : Nat} (h : k < 2 ^ 31) : (nI k = mI) = False := by
  refine eq_false (fun e => ?_)
  have h1 := nI_toInt h
  rw [e, mI_toInt] at h1
  omega
theorem pm_2 {k : Nat} (h : k < 2 ^ 31) : (mI = nI k) = False := by
  refine eq_false (fun e => ?_)
  have h1 := nI_toInt h
  rw [← e, mI_toInt] at h1
  omega
theorem pm_3 {k : Nat} (h : k < 2 ^ 31) : (nI k < mI) = False := by
  refine eq_false (fun e => ?_)
  rw [Int32.lt_iff_toInt_lt, nI_toInt h, mI_toInt] at e
  omega
theorem pm_4 {k : Nat} (h : k < 2 ^ 31) : (mI < nI k) = True := by
  refine eq_true ?_
  rw [Int32.lt_iff_toInt_lt, nI_toInt h, mI_toInt]
  omega
theorem pm_5 {k : Nat} (h : k < 2 ^ 31) : (nI k ≤ mI) = False := by
  refine eq_false (fun e => ?_)
  rw [Int32.le_iff_toInt_le, nI_toInt h, mI_toInt] at e
  omega
theorem pm_6 {k : Nat} (h : k < 2 ^ 31) : (mI ≤ nI k) = True := by
  refine eq_true ?_
  rw [Int32.le_iff_toInt_le, nI_toInt h, mI_toInt]
  omega
theorem pm_7 : (mI = mI) = True := eq_true rfl
theorem pm_8 : mI.toNatClampNeg = 0 := by decide
theorem pn_lt {a b : Nat} (h : a < b) : (a < b) = True := eq_true h
theorem pn_nlt {a b : Nat} (h : b ≤ a) : (a < b) = False := eq_false (Nat.not_lt.mpr h)
theorem pn_le {a b : Nat} (h : a ≤ b) : (a ≤ b) = True := eq_true h
theorem pn_nle {a b : Nat} (h : b < a) : (a ≤ b) = False := eq_false (Nat.not_le.mpr h)
theorem pn_ne {a b : Nat} (h : a ≠ b) : (a = b) = False := eq_false h
theorem pn_eq {a b : Nat} (h : a = b) : (a = b) = True := eq_true h
/-! what the words of the F's come to -/
theorem bx_s {α β : Type} {a : α} {f : α → Option β} : bd_x (some a) f = f a := rfl
theorem bp_s {α γ β : Type} {a : α} {c : γ} {f : α → γ → Option β} : bd_p (some (a, c)) f = f a c := rfl
theorem bt_l {r : Int32} {m : fw_M} {f : Int32 → fw_M → Option fw_O} : bd_t (some (.inl r, m)) f = f r m := rfl
theorem bt_r {e : Nat} {m : fw_M} {f : Int32 → fw_M → Option fw_O} : bd_t (some (.inr e, m)) f = some (.inr e, m) := rfl
theorem lx_s {α β : Type} {x : α} {f : α → β} : lt_x x f = f x := rfl
theorem up_e {M : fw_M} {k j a b : Nat} {x : Int32} (h1 : a = k) (h2 : b = j) : fw_up M k j x a b = x := by
  subst h1
  subst h2
  unfold fw_up
  rw [fw_w_s]
  exact pk_us
theorem up_n1 {M : fw_M} {k j a : Nat} {x : Int32} (h : a ≠ k) : fw_up M k j x a = M a := by
  unfold fw_up
  exact fw_w_n h
theorem up_n2 {M : fw_M} {k j a b : Nat} {x : Int32} (h : b ≠ j) : fw_up M k j x a b = M a b := by
  unfold fw_up
  by_cases e : a = k
  · subst e
    rw [fw_w_s]
    exact pk_un h
  · rw [fw_w_n e]
theorem cp_n {M : fw_M} {k k1 sp dp n a : Nat} (h : a ≠ k1) : fw_cp M k k1 sp dp n a = M a := by
  unfold fw_cp
  exact fw_w_n h
theorem cp_i {M : fw_M} {k k1 sp dp n a b : Nat} (h : a = k1) (h1 : dp ≤ b) (h2 : b < dp + n) : fw_cp M k k1 sp dp n a b = M k (sp + (b - dp)) := by
  subst h
  unfold fw_cp
  rw [fw_w_s]
  exact pk_cpy_in h1 h2
theorem cp_o {M : fw_M} {k k1 sp dp n a b : Nat} (h1 : b < dp ∨ dp + n ≤ b) : fw_cp M k k1 sp dp n a b = M a b := by
  by_cases h : a = k1
  · subst h
    unfold fw_cp
    rw [fw_w_s]
    exact pk_cpy_out h1
  · exact congrFun (cp_n h) b
/-! an index of the script: in range, or not -/
theorem px_c (a : Int32) {n : Nat} (hn : n < 2 ^ 31) : (∃ j : Nat, j < n ∧ a = nI j) ∨ (∀ x : Int32, x = nI n → (a < 0 ∨ x ≤ a)) := by
  rcases pk_ix a hn with h | h | h
  · exact Or.inr (fun x _ => Or.inl h)
  · exact Or.inr (fun x hx => Or.inr (hx ▸ h))
  · exact Or.inl h
theorem pn_10 {x : Int32} (h : ¬ x = 0) (h2 : x = 0 ∨ x = 1) : x = 1 := h2.resolve_left h
theorem lc_0 {x y : Int32} (h : x = y) : lg_cmp x.toInt64 y.toInt64 = 0 := (lg_cmp_eq _ _).mpr (by rw [h])
/-! sets of small numbers, as bits -/
def bs (f : Nat → Nat) : Nat → Nat
  | 0 => 0
  | n + 1 => bs f n ||| 2 ^ f n
theorem bs_mem (f : Nat → Nat) (i : Nat) : ∀ n, (bs f n).testBit i = true ↔ ∃ k, k < n ∧ f k = i := by
  intro n
  induction n with
  | zero => simp [bs]
  | succ n ih =>
    rw [bs, Nat.testBit_or, Bool.or_eq_true, ih, Nat.testBit_two_pow]
    constructor
    · rintro (⟨k, hk, e⟩ | h)
      · exact ⟨k, by omega, e⟩
      · exact ⟨n, by omega, by simpa using h⟩
    · rintro ⟨k, hk, e⟩
      by_cases h : k = n
      · right
        subst h
        simpa using e
      · exact Or.inl ⟨k, by omega, e⟩
theorem bs_cong {f g : Nat → Nat} : ∀ {n : Nat}, (∀ k, k < n → f k = g k) → bs f n = bs g n := by
  intro n
  induction n with
  | zero => intro _; rfl
  | succ n ih =>
    intro h
    rw [bs, bs, ih (fun k hk => h k (by omega)), h n (by omega)]
theorem bs_lt {f : Nat → Nat} {m : Nat} : ∀ {n : Nat}, (∀ k, k < n → f k < m) → bs f n < 2 ^ m := by
  intro n
  induction n with
  | zero => intro _; exact Nat.two_pow_pos m
  | succ n ih =>
    intro h
    rw [bs]
    exact Nat.or_lt_two_pow (ih (fun k hk => h k (by omega))) (Nat.pow_lt_pow_right (by decide) (h n (by omega)))
/-- one bit: 1 << k, as the class and as the model take it -/
theorem sh_1 : ∀ k, k < 31 → (nI 1 <<< (nI k &&& nI 31)) = nI (2 ^ k) := by decide +kernel
theorem sh_1' {k : Nat} (h : k < 31) : (nI 1 <<< (nI k &&& nI 31)) = nI (2 ^ k) := sh_1 k h
theorem sh_and {m k : Nat} (hk : k < 31) : ((nI m &&& (nI 1 <<< (nI k &&& nI 31))) = nI 0) = (m.testBit k = false) := by
  rw [sh_1 k hk]
  exact propext (fa_bit hk)
theorem pk_smod : ∀ k, k < 31 → ((nI k &&& nI 31).toBitVec.smod 32).toNat = k := by decide +kernel
theorem sh_r {m k : Nat} (hm : m < 2 ^ 31) (hk : k < 31) : (nI m >>> (nI k &&& nI 31)) &&& nI 1 = nI (if m.testBit k then 1 else 0) := by
  rw [pk_shrN hm _ k (pk_smod k hk), fa_and]
  congr 1
  rw [Nat.and_one_is_mod, Nat.testBit_eq_decide_div_mod_eq]
  by_cases h : m / 2 ^ k % 2 = 1
  · rw [h]; simp
  · rw [if_neg (by simpa using h)]; omega
theorem sh_or {m k : Nat} (hk : k < 31) : nI m ||| (nI 1 <<< (nI k &&& nI 31)) = nI (m ||| 2 ^ k) := by
  rw [sh_1 k hk, fa_or]
theorem tb_i {b : Bool} : (nI (if b = true then 1 else 0) = nI 1) = (b = true) := by cases b <;> decide
theorem tb_0 {b : Bool} : (nI (if b = true then 1 else 0) = nI 0) = (b = false) := by cases b <;> decide
