/-! the model reads a text of commands -/
section PM
variable {T : Nat → Nat} {n : Nat}
def MT (M : fw_M) (T : Nat → Nat) (n : Nat) : Prop := M 378 10 = nI n ∧ n ≤ 60 ∧ ∀ j, j < n → M 384 j = nI (T j) ∧ 32 ≤ T j ∧ T j ≤ 126
theorem MT.c {M M1 : fw_M} (h : MT M T n) (h1 : M1 378 10 = M 378 10) (h2 : M1 384 = M 384) : MT M1 T n := by
  unfold MT at *
  rw [h1, h2]
  exact h
def fX (M M1 : fw_M) : Prop := (∀ c, c ≠ 378 → c ≠ 385 → M1 c = M c) ∧ ∀ j, j ≠ 11 → j ≠ 12 → j ≠ 16 → M1 378 j = M 378 j
theorem fX.r {M : fw_M} : fX M M := ⟨fun _ _ _ => rfl, fun _ _ _ _ => rfl⟩
theorem fX.t {M M1 M2 : fw_M} (h : fX M M1) (q : fX M1 M2) : fX M M2 := ⟨fun c x y => (q.1 c x y).trans (h.1 c x y), fun j x y z => (q.2 j x y z).trans (h.2 j x y z)⟩
theorem fX.u {M M1 : fw_M} (h : fX M M1) {j : Nat} (hj : j = 11 ∨ j = 12 ∨ j = 16) {x : Int32} : fX M (fw_up M1 378 j x) := ⟨fun c a b => (up_n1 a).trans (h.1 c a b), fun i a b c => (up_n2 (by omega)).trans (h.2 i a b c)⟩
theorem fX.w {M M1 : fw_M} (h : fX M M1) {j : Nat} {x : Int32} : fX M (fw_up M1 385 j x) := ⟨fun c a b => (up_n1 b).trans (h.1 c a b), fun i a b c => (congrFun (up_n1 (by omega)) i).trans (h.2 i a b c)⟩
theorem MT.x {M M1 : fw_M} (h : MT M T n) (q : fX M M1) : MT M1 T n := h.c (q.2 10 (by omega) (by omega) (by omega)) (q.1 384 (by omega) (by omega))
theorem ch_b {M : fw_M} (h : MT M T n) {i : Nat} : ch T n i < 128 := by
  unfold ch
  by_cases e : i < n
  · have := h.2.2 i e
    rw [if_pos e]; omega
  · rw [if_neg e]; omega
theorem bh {M : fw_M} (h : MT M T n) {p a : Nat} (hp : M 378 11 = nI p) (h2 : p + a < 1000) : F_X9_behind M (nI a) = some (nI (ch T n (p + a))) := by
  have hn := h.2.1
  have hb := ch_b h (i := p + a)
  unfold F_X9_behind
  rw [h.1, hp, nI_add]
  by_cases e : p + a < n
  · have e1 : fw_ri M 384 (nI (p + a)) = nI (ch T n (p + a)) := by
      unfold ch
      rw [fw_ri, nI_clamp (by omega), if_pos e]
      exact (h.2.2 _ e).1
    rw [if_neg (nI_ge e (by omega)), if_pos (nI_in (by omega) (by omega)), e1, if_pos (nc_ch (by omega))]
  · have e1 : ch T n (p + a) = 0 := by unfold ch; rw [if_neg e]
    rw [if_pos (nI_le (by omega) (by omega)), e1]
    rfl
theorem bh0 {M : fw_M} (h : MT M T n) {p : Nat} (hp : M 378 11 = nI p) (h2 : p < 1000) : F_X9_behind M 0 = some (nI (ch T n p)) := bh h (a := 0) hp h2
theorem sk {k i : Nat} (hk : k < 12) (hi : i ≤ 60) : ∀ r j f M, j + r = wl k → r < f → MT M T n → M 378 12 = nI 0 → M 378 11 = nI (i + j) → ∃ M1, F_X9_skip_2 k f (nI j) M = some M1 ∧ fX M M1 ∧ M1 385 = M 385 ∧ M1 378 16 = M 378 16 ∧ M1 378 11 = nI (i + mlr T n i k r j) ∧ M1 378 12 = nI (if mlr T n i k r j = wl k then 0 else 1) := by
  have hw := wl_le k hk
  intro r
  induction r with
  | zero =>
    intro j f M h1 h2 hT h12 h11
    obtain ⟨f, rfl⟩ : ∃ x, f = x + 1 := ⟨f - 1, by omega⟩
    rw [F_X9_skip_2, lna hk, bx_s, if_pos (nI_le (by omega) (by omega))]
    refine ⟨M, rfl, fX.r, rfl, rfl, h11, ?_⟩
    rw [mlr, if_pos (by omega)]
    exact h12
  | succ r ih =>
    intro j f M h1 h2 hT h12 h11
    obtain ⟨f, rfl⟩ : ∃ x, f = x + 1 := ⟨f - 1, by omega⟩
    have hwc := wc_ok k hk j (by omega)
    have hb := ch_b hT (i := i + j)
    rw [F_X9_skip_2, lna hk, bx_s, if_neg (nI_ge (by omega) (by omega)), h12, if_neg (show ¬ ¬ nI 0 = 0 from fun x => x rfl), bh0 hT h11 (by omega), bx_s, cha hk (by omega), bx_s, mlr]
    by_cases e : ch T n (i + j) = wc k j
    · obtain ⟨A, hA⟩ : ∃ A, A = fw_up M 378 12 0 := ⟨_, rfl⟩
      have a1 : A 378 12 = nI 0 := by rw [hA, up_e rfl rfl]; rfl
      have a2 : A 378 11 = nI (i + j) := by rw [hA, up_n2 (by omega)]; exact h11
      obtain ⟨B, hB⟩ : ∃ B, B = fw_up A 378 11 (nI (i + j + 1)) := ⟨_, rfl⟩
      have hf : fX M B := by rw [hB, hA]; exact (fX.r.u (by omega)).u (by omega)
      rw [e, if_pos rfl, if_pos rfl, lx_s, ← hA, a1, if_pos (show nI 0 = 0 from rfl), lx_s, a2, nI_1, nI_1, ← hB]
      obtain ⟨D, d1, d2, d3, d4, d5, d6⟩ := ih (j + 1) f B (by omega) (by omega) (hT.x hf) (by rw [hB, up_n2 (by omega), a1]) (by rw [hB, up_e rfl rfl, Nat.add_assoc])
      exact ⟨D, d1, hf.t d2, by rw [d3, hB, hA, up_n1 (by omega), up_n1 (by omega)], by rw [d4, hB, hA, up_n2 (by omega), up_n2 (by omega)], d5, d6⟩
    · obtain ⟨A, hA⟩ : ∃ A, A = fw_up M 378 12 1 := ⟨_, rfl⟩
      have a1 : A 378 12 = nI 1 := by rw [hA, up_e rfl rfl]; rfl
      have a2 : A 378 11 = nI (i + j) := by rw [hA, up_n2 (by omega)]; exact h11
      obtain ⟨B, hB⟩ : ∃ B, B = fw_up A 378 11 (nI (i + j + 0)) := ⟨_, rfl⟩
      have hf : fX M B := by rw [hB, hA]; exact (fX.r.u (by omega)).u (by omega)
      have b1 : B 378 12 = nI 1 := by rw [hB, up_n2 (by omega), a1]
      rw [if_neg (fun x => e (nI_inj (by omega) (by omega) x)), if_neg e, lx_s, ← hA, a1, if_neg (show ¬ nI 1 = 0 by decide), lx_s, a2, show nI (i + j) + 0 = nI (i + j + 0) from nI_add _ 0, ← hB]
      obtain ⟨f, rfl⟩ : ∃ x, f = x + 1 := ⟨f - 1, by omega⟩
      have e2 : F_X9_skip_2 k (f + 1) (nI j + 1) B = some B := by
        rw [F_X9_skip_2, lna hk, bx_s, b1, nI_1]
        by_cases e3 : wl k ≤ j + 1
        · rw [if_pos (nI_le e3 (by omega))]
        · rw [if_neg (nI_ge (by omega) (by omega)), if_pos (show ¬ nI 1 = 0 by decide)]
      refine ⟨B, e2, hf, by rw [hB, hA, up_n1 (by omega), up_n1 (by omega)], by rw [hB, hA, up_n2 (by omega), up_n2 (by omega)], by rw [hB, up_e rfl rfl]; rfl, ?_⟩
      rw [if_neg (by omega)]
      exact b1
theorem sk0 {M : fw_M} {k i : Nat} (hk : k < 12) (hi : i ≤ 60) (hT : MT M T n) (h12 : M 378 12 = nI 0) (h11 : M 378 11 = nI i) : ∃ M1, F_X9_skip M k = some M1 ∧ fX M M1 ∧ M1 385 = M 385 ∧ M1 378 16 = M 378 16 ∧ M1 378 11 = nI (i + ml T n i k) ∧ M1 378 12 = nI (if ml T n i k = wl k then 0 else 1) := sk hk hi (wl k) 0 64 M (by omega) (by have := wl_le k hk; omega) hT h12 h11
theorem kn {M : fw_M} (hT : MT M T n) {p : Nat} (hp : M 378 11 = nI p) (hp2 : p ≤ 60) : F_X9_kind M = some (nI (kap T n p)) := by
  have b0 := ch_b hT (i := p)
  have b1 := ch_b hT (i := p + 1)
  have b4 := ch_b hT (i := p + 4)
  have e1 : F_X9_behind M 1 = some (nI (ch T n (p + 1))) := bh hT (a := 1) hp (by omega)
  have e4 : F_X9_behind M 4 = some (nI (ch T n (p + 4))) := bh hT (a := 4) hp (by omega)
  unfold F_X9_kind kap
  rw [bh0 hT hp (by omega), bx_s, e1, bx_s, bx_s, e4, bx_s]
  by_cases c1 : ch T n p = 115
  · rw [if_pos c1, if_neg (show ¬ ¬ nI (ch T n p) = 115 from fun x => x (by rw [c1]; rfl))]
    by_cases c2 : ch T n (p + 1) = 101
    · rw [if_pos c2, if_neg (show ¬ ¬ nI (ch T n (p + 1)) = 101 from fun x => x (by rw [c2]; rfl))]
      rfl
    · rw [if_neg c2, if_pos (show ¬ nI (ch T n (p + 1)) = 101 from fun x => c2 (nI_inj (b := 101) (by omega) (by omega) x))]
      rfl
  · rw [if_neg c1, if_pos (show ¬ nI (ch T n p) = 115 from fun x => c1 (nI_inj (b := 115) (by omega) (by omega) x))]
    by_cases c2 : ch T n p = 116
    · rw [if_pos c2, if_neg (show ¬ ¬ nI (ch T n p) = 116 from fun x => x (by rw [c2]; rfl))]
      by_cases c3 : ch T n (p + 1) = 114
      · rw [if_pos c3, if_neg (show ¬ ¬ nI (ch T n (p + 1)) = 114 from fun x => x (by rw [c3]; rfl))]
        rfl
      · rw [if_neg c3, if_pos (show ¬ nI (ch T n (p + 1)) = 114 from fun x => c3 (nI_inj (b := 114) (by omega) (by omega) x))]
        by_cases c4 : ch T n (p + 4) = 101
        · rw [if_pos c4, if_neg (show ¬ ¬ nI (ch T n (p + 4)) = 101 from fun x => x (by rw [c4]; rfl))]
          rfl
        · rw [if_neg c4, if_pos (show ¬ nI (ch T n (p + 4)) = 101 from fun x => c4 (nI_inj (b := 101) (by omega) (by omega) x))]
          rfl
    · rw [if_neg c2, if_pos (show ¬ nI (ch T n p) = 116 from fun x => c2 (nI_inj (b := 116) (by omega) (by omega) x)), if_pos (nc_ch (by omega))]
theorem kap_b {M : fw_M} (hT : MT M T n) {p : Nat} : kap T n p < 128 := by
  have b0 := ch_b hT (i := p)
  unfold kap
  split
  · split <;> omega
  · split
    · split
      · omega
      · split <;> omega
    · omega
theorem wo_m : ∀ k, k < 128 → F_X9_wordOf fz (nI k) = some (wdo k) := by decide +kernel
theorem wo_M {M : fw_M} {k : Nat} (h : k < 128) : F_X9_wordOf M (nI k) = some (wdo k) := wo_m k h
theorem dg_m : ∀ m, m < 11 → F_X9_digitsOf fz (nI (kc m)) = some (nI (dcount m)) := by decide +kernel
theorem dg_M {M : fw_M} {m : Nat} (h : m < 11) : F_X9_digitsOf M (nI (kc m)) = some (nI (dcount m)) := dg_m m h
theorem dg_t : ∀ k, k < 128 → ((F_X9_digitsOf fz (nI k)).map (fun x => x.toNatClampNeg < 4)) = some True ∧ (F_X9_digitsOf fz (nI k)).isSome = true := by
  intro k hk
  unfold F_X9_digitsOf
  refine ⟨?_, ?_⟩ <;> repeat' split
  all_goals first | rfl | exact congrArg some (eq_true (by decide))
theorem dg_e {M : fw_M} {k : Nat} (hk : k < 128) : ∃ x, F_X9_digitsOf M (nI k) = some x := by
  have h : (F_X9_digitsOf M (nI k)).isSome = true := (dg_t k hk).2
  exact Option.isSome_iff_exists.mp h
theorem in_d {M : fw_M} {v : Nat} (h : v < 128) : F_X9_in M (nI v) 48 57 = some (if 48 ≤ v ∧ v ≤ 57 then 1 else 0) := by
  unfold F_X9_in
  by_cases c1 : v < 48
  · rw [if_pos (show nI v < 48 from nI_lt (b := 48) c1 (by omega)), if_neg (by omega)]
  · rw [if_neg (show ¬ nI v < 48 from nI_nlt (b := 48) (by omega) (by omega))]
    by_cases c2 : 57 < v
    · rw [if_pos (show (57 : Int32) < nI v from nI_lt (a := 57) c2 (by omega)), if_neg (by omega)]
    · rw [if_neg (show ¬ (57 : Int32) < nI v from nI_nlt (a := 57) (by omega) (by omega)), if_pos (by omega)]
theorem wc11 : wc 11 0 = 32 ∧ wl 11 = 1 := by decide +kernel
theorem ml11 {q : Nat} : ml T n q 11 = if ch T n q = 32 then 1 else 0 := by
  unfold ml
  rw [wc11.2, mlr, wc11.1, Nat.add_zero]
  by_cases e : ch T n q = 32
  · rw [if_pos e, if_pos e]; rfl
  · rw [if_neg e, if_neg e]
theorem dgx {M : fw_M} (hT : MT M T n) {q : Nat} (hq : q ≤ n) (h12 : M 378 12 = nI 0) (h11 : M 378 11 = nI q) : ∃ M1 v, F_X9_digit M = some (v, M1) ∧ fX M M1 ∧ M1 385 = M 385 ∧ M1 378 16 = M 378 16 ∧ M1 378 11 = nI (dg T n 1 q).2 ∧ M1 378 12 = nI (if (dg T n 1 q).1 = true then 0 else 1) ∧ ((dg T n 1 q).1 = true → v = nI (ch T n (q + 1) - 48)) := by
  have hn := hT.2.1
  obtain ⟨A, a1, a2, a3, a4, a5, a6⟩ := sk0 (k := 11) (by omega) (by omega) hT h12 h11
  unfold F_X9_digit
  rw [a1, bx_s]
  rw [ml11] at a5 a6
  rw [wc11.2] at a6
  rw [dg]
  by_cases e : ch T n q = 32
  · rw [if_pos e] at a5 a6 ⊢
    rw [if_pos rfl] at a6
    have hq1 := ch_lt (T := T) (n := n) (i := q) (by omega)
    have hb := ch_b hT (i := q + 1)
    rw [a6, if_neg (show ¬ ¬ nI 0 = 0 from fun x => x rfl), bh0 (hT.x a2) a5 (by omega), bx_s, in_d hb, bx_s]
    by_cases e2 : 48 ≤ ch T n (q + 1) ∧ ch T n (q + 1) ≤ 57
    · rw [if_pos e2, if_pos e2, if_pos (show ¬ (1 : Int32) = 0 by decide), lx_s, dg]
      have hq2 := ch_lt (T := T) (n := n) (i := q + 1) (by omega)
      unfold F_X9_digit_37
      rw [up_e rfl rfl, if_pos rfl, lx_s, up_n2 (show 11 ≠ 12 by omega), a5, nI_1, up_e rfl rfl, show nI (q + 1 + 1) - 1 = nI (q + 1) from pk_sub (b := 1) (by omega), if_pos (nI_in (by omega) (by omega))]
      have e3 : fw_ri (fw_up (fw_up A 378 12 0) 378 11 (nI (q + 1 + 1))) 384 (nI (q + 1)) = nI (ch T n (q + 1)) := by
        have := hT.2.2 (q + 1) hq2
        rw [fw_ri, nI_clamp (by omega), up_n1 (by omega), up_n1 (by omega), a2.1 384 (by omega) (by omega)]
        unfold ch
        rw [if_pos hq2]
        exact this.1
      rw [e3, show nI (ch T n (q + 1)) - 48 = nI (ch T n (q + 1) - 48) from pk_sub (b := 48) (by omega)]
      exact ⟨_, _, rfl, (a2.u (by omega)).u (by omega), by rw [up_n1 (by omega), up_n1 (by omega), a3], by rw [up_n2 (by omega), up_n2 (by omega), a4], by rw [up_e rfl rfl], by rw [up_n2 (by omega), up_e rfl rfl]; rfl, fun _ => rfl⟩
    · rw [if_neg e2, if_neg e2, if_neg (show ¬ ¬ (0 : Int32) = 0 from fun x => x rfl), lx_s]
      unfold F_X9_digit_37
      rw [up_e rfl rfl, if_neg (show ¬ (1 : Int32) = 0 by decide)]
      exact ⟨_, _, rfl, a2.u (by omega), by rw [up_n1 (by omega), a3], by rw [up_n2 (by omega), a4], by rw [up_n2 (by omega), a5], by rw [up_e rfl rfl]; rfl, fun x => absurd x Bool.false_ne_true⟩
  · rw [if_neg e] at a5 a6 ⊢
    rw [if_neg (by omega)] at a6
    rw [a6, if_pos (show ¬ nI 1 = 0 by decide), lx_s]
    unfold F_X9_digit_37
    rw [up_e rfl rfl, if_neg (show ¬ (1 : Int32) = 0 by decide)]
    exact ⟨_, _, rfl, a2.u (by omega), by rw [up_n1 (by omega), a3], by rw [up_n2 (by omega), a4], by rw [up_n2 (by omega), a5]; rfl, by rw [up_e rfl rfl]; rfl, fun x => absurd x Bool.false_ne_true⟩
theorem dg_1 {r q : Nat} : dg T n (r + 1) q = if (dg T n 1 q).1 = true then dg T n r (q + 2) else dg T n 1 q := by
  rw [dg, dg]
  by_cases e : ch T n q = 32
  · rw [if_pos e, if_pos e]
    by_cases e2 : 48 ≤ ch T n (q + 1) ∧ ch T n (q + 1) ≤ 57
    · rw [if_pos e2, if_pos e2]; rfl
    · rw [if_neg e2, if_neg e2]; rfl
  · rw [if_neg e, if_neg e]; rfl
/-- once the text is wrong no digit is read any more -/
theorem r8_f {M : fw_M} {x1 x : Int32} {f : Nat} {j : Int32} (hx : ∀ M, F_X9_digitsOf M x1 = some x) (h12 : M 378 12 = nI 1) : F_X9_readCommand_78 (f + 1) x1 j M = some (fw_up M 378 16 (M 378 16 + 1)) := by
  rw [F_X9_readCommand_78, hx, bx_s, h12]
  by_cases e : x ≤ j
  · rw [if_pos e]; rfl
  · rw [if_neg e, if_pos (show ¬ nI 1 = 0 by decide)]; rfl
theorem r8 {m c : Nat} (hm : m < 11) (hc2 : c ≤ 12) {base : Nat} : ∀ r j f q M, j + r = dcount m → r < f → MT M T n → M 378 12 = nI 0 → M 378 11 = nI q → q ≤ n → M 378 16 = nI c → q = base + 2 * j → (∀ i, i < j → M 385 (4 * c + 1 + i) = nI (ch T n (base + 2 * i + 1) - 48)) → ∃ M1, F_X9_readCommand_78 f (nI (kc m)) (nI j) M = some M1 ∧ fX M M1 ∧ (∀ i, i < 4 * c + 1 → M1 385 i = M 385 i) ∧ M1 378 11 = nI (dg T n r q).2 ∧ M1 378 12 = nI (if (dg T n r q).1 = true then 0 else 1) ∧ M1 378 16 = nI (c + 1) ∧ ((dg T n r q).1 = true → ∀ i, i < dcount m → M1 385 (4 * c + 1 + i) = nI (ch T n (base + 2 * i + 1) - 48)) := by
  have d2 := (dc_ok m hm).2
  intro r
  induction r with
  | zero =>
    intro j f q M h1 h2 hT h12 h11 hqn h16 hb hd
    obtain ⟨f, rfl⟩ : ∃ x, f = x + 1 := ⟨f - 1, by omega⟩
    rw [F_X9_readCommand_78, dg_M hm, bx_s, if_pos (nI_le (by omega) (by omega)), lx_s, h16, nI_1, dg]
    exact ⟨_, rfl, fX.r.u (by omega), fun i _ => by rw [up_n1 (by omega)], by rw [up_n2 (by omega), h11], by rw [up_n2 (by omega), h12]; rfl, up_e rfl rfl, fun _ i hi => by rw [up_n1 (by omega)]; exact hd i (by omega)⟩
  | succ r ih =>
    intro j f q M h1 h2 hT h12 h11 hqn h16 hb hd
    obtain ⟨f, rfl⟩ : ∃ x, f = x + 1 := ⟨f - 1, by omega⟩
    have hn := hT.2.1
    obtain ⟨A, v, a1, a2, a3, a4, a5, a6, a7⟩ := dgx hT hqn h12 h11
    rw [F_X9_readCommand_78, dg_M hm, bx_s, if_neg (nI_ge (by omega) (by omega)), h12, if_neg (show ¬ ¬ nI 0 = 0 from fun x => x rfl), a1, bp_s, h16, show (4 : Int32) * nI c = nI (4 * c) from pk_mul 4 c, nI_1, nI_add, if_pos (nI_in (by omega) (by omega)), lx_s]
    unfold fw_wi
    rw [nI_clamp (by omega), nI_1, dg_1]
    obtain ⟨B, hB⟩ : ∃ B, B = fw_up A 385 (4 * c + 1 + j) v := ⟨_, rfl⟩
    have hf : fX M B := by rw [hB]; exact a2.w
    have b1 : ∀ i, B 378 i = A 378 i := fun i => by rw [hB, up_n1 (by omega)]
    have b2 : ∀ i, i ≠ 4 * c + 1 + j → B 385 i = M 385 i := fun i x => by rw [hB, up_n2 x, a3]
    rw [← hB]
    by_cases e : (dg T n 1 q).1 = true
    · rw [if_pos e] at a6 ⊢
      have hq2 : (dg T n 1 q).2 = q + 2 ∧ q + 2 ≤ n := by
        have hh := (dg_n (T := T) (n := n) 1 q hqn).1
        rw [dg] at e hh ⊢
        by_cases e1 : ch T n q = 32
        · rw [if_pos e1] at e hh ⊢
          by_cases e2 : 48 ≤ ch T n (q + 1) ∧ ch T n (q + 1) ≤ 57
          · rw [if_pos e2] at hh ⊢
            exact ⟨rfl, hh⟩
          · rw [if_neg e2] at e
            exact absurd e Bool.false_ne_true
        · rw [if_neg e1] at e
          exact absurd e Bool.false_ne_true
      obtain ⟨D, g1, g2, g3, g4, g5, g6, g7⟩ := ih (j + 1) f (q + 2) B (by omega) (by omega) (hT.x hf) (by rw [b1, a6]) (by rw [b1, a5, hq2.1]) hq2.2 (by rw [b1, a4, h16]) (by omega) (fun i hi => by
        by_cases ei : i = j
        · rw [ei, hB, up_e rfl rfl, a7 e, hb]
        · rw [b2 _ (by omega), hd i (by omega)])
      exact ⟨D, g1, hf.t g2, fun i hi => by rw [g3 i hi, b2 i (by omega)], g4, g5, g6, g7⟩
    · rw [if_neg e] at a6 ⊢
      obtain ⟨f, rfl⟩ : ∃ x, f = x + 1 := ⟨f - 1, by omega⟩
      rw [r8_f (fun M => dg_M hm) (by rw [b1, a6]), b1, a4, h16, nI_1]
      exact ⟨_, rfl, hf.u (by omega), fun i hi => by rw [up_n1 (by omega), b2 i (by omega)], by rw [up_n2 (by omega), b1, a5], by rw [up_n2 (by omega), b1, a6, if_neg e], up_e rfl rfl, fun x => absurd x e⟩
theorem r46 {M : fw_M} (hT : MT M T n) {p : Nat} (h12 : M 378 12 = nI 0) (hp : M 378 11 = nI p) (hp2 : p ≤ 60) : F_X9_readCommand M = bd_x (F_X9_skip M (mm T n p)) fun M19 => if ix_i (4 * (M19 378 16)) 240 then lt_x (fw_wi M19 385 (4 * (M19 378 16)) (nI (kap T n p))) fun M21 => F_X9_readCommand_78 64 (nI (kap T n p)) 0 M21 else none := by
  have hk := kap_b hT (p := p)
  have hc := ch_b hT (i := p)
  have hm := mm_lt (T := T) (n := n) (p := p)
  have A : oth T n p = false → F_X9_readCommand_46 (nI (kap T n p)) 0 M = bd_x (F_X9_skip M (mm T n p)) fun M19 => if ix_i (4 * (M19 378 16)) 240 then lt_x (fw_wi M19 385 (4 * (M19 378 16)) (nI (kap T n p))) fun M21 => F_X9_readCommand_78 64 (nI (kap T n p)) 0 M21 else none := fun h => by
    have e : mm T n p = wdo (kap T n p) := by unfold mm; rw [h]; rfl
    unfold F_X9_readCommand_46
    rw [if_pos rfl, wo_M hk, bx_s, ← e, if_pos (show mm T n p < 12 by omega)]
  have B : oth T n p = true → F_X9_readCommand_46 (nI (kap T n p)) 1 M = bd_x (F_X9_skip M (mm T n p)) fun M19 => if ix_i (4 * (M19 378 16)) 240 then lt_x (fw_wi M19 385 (4 * (M19 378 16)) (nI (kap T n p))) fun M21 => F_X9_readCommand_78 64 (nI (kap T n p)) 0 M21 else none := fun h => by
    have e : mm T n p = 9 := by unfold mm; rw [h]; rfl
    unfold F_X9_readCommand_46
    rw [if_neg (show ¬ (1 : Int32) = 0 by decide), e]
  unfold F_X9_readCommand
  rw [h12, if_pos (show nI 0 = 0 from rfl), kn hT hp hp2, bx_s, bh0 hT hp (by omega), bx_s]
  by_cases e : ch T n p = kap T n p
  · rw [if_neg (show ¬ ¬ nI (ch T n p) = nI (kap T n p) from fun x => x (by rw [e]))]
    by_cases c1 : kap T n p = 99
    · rw [if_pos (show nI (kap T n p) = 99 by rw [c1]; rfl)]
      exact B (by unfold oth; rw [e, c1]; rfl)
    · rw [if_neg (show ¬ nI (kap T n p) = 99 from fun x => c1 (nI_inj (b := 99) (by omega) (by omega) x))]
      by_cases c2 : kap T n p = 105
      · rw [if_pos (show nI (kap T n p) = 105 by rw [c2]; rfl)]
        exact B (by unfold oth; rw [e, c2]; rfl)
      · rw [if_neg (show ¬ nI (kap T n p) = 105 from fun x => c2 (nI_inj (b := 105) (by omega) (by omega) x))]
        by_cases c3 : kap T n p = 107
        · rw [if_neg (show ¬ ¬ nI (kap T n p) = 107 from fun x => x (by rw [c3]; rfl))]
          exact B (by unfold oth; rw [e, c3]; rfl)
        · rw [if_pos (show ¬ nI (kap T n p) = 107 from fun x => c3 (nI_inj (b := 107) (by omega) (by omega) x))]
          exact A (by unfold oth; rw [decide_eq_false c1, decide_eq_false c2, decide_eq_false c3]; rfl)
  · have ho : oth T n p = false := by unfold oth; rw [decide_eq_false e, Bool.and_false]
    rw [if_pos (show ¬ nI (ch T n p) = nI (kap T n p) from fun x => e (nI_inj (by omega) (by omega) x)), A ho]
    simp only [ite_self]
theorem rdm {M : fw_M} (hT : MT M T n) {p c : Nat} (h12 : M 378 12 = nI 0) (hp : M 378 11 = nI p) (hpn : p ≤ n) (h16 : M 378 16 = nI c) (hc : c ≤ 12) : ∃ M1, F_X9_readCommand M = some M1 ∧ fX M M1 ∧ (∀ i, i < 4 * c → M1 385 i = M 385 i) ∧ M1 378 11 = nI (rc T n p).2 ∧ M1 378 12 = nI (if (rc T n p).1 = true then 0 else 1) ∧ M1 378 16 = nI (c + 1) ∧ ((rc T n p).1 = true → M1 385 (4 * c) = nI (kc (mm T n p)) ∧ ∀ i, i < dcount (mm T n p) → M1 385 (4 * c + 1 + i) = nI (ch T n (p + wl (mm T n p) + 2 * i + 1) - 48)) := by
  have hn := hT.2.1
  have hm := mm_lt (T := T) (n := n) (p := p)
  have hk := kap_b hT (p := p)
  have hl := ml_n (T := T) (n := n) (k := mm T n p) (i := p) (by omega) hpn
  obtain ⟨A, a1, a2, a3, a4, a5, a6⟩ := sk0 (k := mm T n p) (by omega) (by omega) hT h12 hp
  rw [r46 hT h12 hp (by omega), a1, bx_s, a4, h16, show (4 : Int32) * nI c = nI (4 * c) from pk_mul 4 c, if_pos (nI_in (by omega) (by omega)), lx_s]
  unfold fw_wi
  rw [nI_clamp (by omega)]
  obtain ⟨B, hB⟩ : ∃ B, B = fw_up A 385 (4 * c) (nI (kap T n p)) := ⟨_, rfl⟩
  have hf : fX M B := by rw [hB]; exact a2.w
  have b1 : ∀ i, B 378 i = A 378 i := fun i => by rw [hB, up_n1 (by omega)]
  have b2 : ∀ i, i ≠ 4 * c → B 385 i = M 385 i := fun i x => by rw [hB, up_n2 x, a3]
  have b3 : B 385 (4 * c) = nI (kap T n p) := by rw [hB, up_e rfl rfl]
  rw [← hB]
  unfold rc
  by_cases e : ml T n p (mm T n p) = wl (mm T n p)
  · rw [if_pos e] at a6 ⊢
    have hkk := bst_k e
    rw [hkk] at b3 ⊢
    have d2 := (dc_ok _ hm).2
    obtain ⟨D, g1, g2, g3, g4, g5, g6, g7⟩ := r8 (T := T) (n := n) hm hc (base := p + wl (mm T n p)) (dcount (mm T n p)) 0 64 (p + wl (mm T n p)) B (by omega) (by omega) (hT.x hf) (by rw [b1, a6]) (by rw [b1, a5, e]) (by omega) (by rw [b1, a4, h16]) rfl (fun i hi => absurd hi (Nat.not_lt_zero i))
    exact ⟨D, g1, hf.t g2, fun i hi => by rw [g3 i (by omega), b2 i (by omega)], g4, g5, g6, fun x => ⟨by rw [g3 (4 * c) (by omega), b3], g7 x⟩⟩
  · rw [if_neg e] at a6 ⊢
    obtain ⟨x, hx⟩ := dg_e (M := M) hk
    rw [r8_f (x := x) (fun _ => hx) (by rw [b1, a6]), b1, a4, h16, nI_1]
    exact ⟨_, rfl, hf.u (by omega), fun i hi => by rw [up_n1 (by omega), b2 i (by omega)], by rw [up_n2 (by omega), b1, a5], by rw [up_n2 (by omega), b1, a6]; rfl, up_e rfl rfl, fun x => absurd x Bool.false_ne_true⟩
def KM (M : fw_M) (T : Nat → Nat) (n c : Nat) : Prop := ∀ i, i < c → M 385 (4 * i) = nI (kc (gd T n i)) ∧ ∀ j, j < dcount (gd T n i) → M 385 (4 * i + 1 + j) = nI (ga T n i j)
theorem KM.s {M M1 : fw_M} {c : Nat} (h : KM M T n c) (q : ∀ i, i < 4 * c → M1 385 i = M 385 i) (h1 : M1 385 (4 * c) = nI (kc (mm T n (ps T n c)))) (h2 : ∀ i, i < dcount (mm T n (ps T n c)) → M1 385 (4 * c + 1 + i) = nI (ch T n (ps T n c + wl (mm T n (ps T n c)) + 2 * i + 1) - 48)) : KM M1 T n (c + 1) := by
  intro i hi
  by_cases e : i = c
  · subst e
    exact ⟨h1, h2⟩
  · have hd := (dc_ok _ (mm_lt (T := T) (n := n) (p := ps T n i))).2
    obtain ⟨k1, k2⟩ := h i (by omega)
    refine ⟨by rw [q _ (by omega)]; exact k1, fun j hj => ?_⟩
    have hj2 : j < dcount (mm T n (ps T n i)) := hj
    rw [q _ (by omega)]
    exact k2 j hj
theorem KM.k {M M1 : fw_M} {c : Nat} (h : KM M T n c) (q : ∀ i, i < 4 * c → M1 385 i = M 385 i) : KM M1 T n c := by
  intro i hi
  have hd := (dc_ok _ (mm_lt (T := T) (n := n) (p := ps T n i))).2
  obtain ⟨k1, k2⟩ := h i (by omega)
  refine ⟨by rw [q _ (by omega)]; exact k1, fun j hj => ?_⟩
  have hj2 : j < dcount (mm T n (ps T n i)) := hj
  rw [q _ (by omega)]
  exact k2 j hj
theorem el : ∀ r c f M, c + r = 12 → r < f → MT M T n → ps T n c ≤ n → 5 * c ≤ ps T n c → M 378 11 = nI (rc T n (ps T n c)).2 → M 378 12 = nI (if (rc T n (ps T n c)).1 = true then 0 else 1) → M 378 16 = nI (c + 1) → ((rc T n (ps T n c)).1 = true → KM M T n (c + 1)) → ∃ M1, F_X9_execute_19 f M = F_X9_execute_80 M1 ∧ fX M M1 ∧ M1 378 11 = nI (pr T n r c).2.1 ∧ M1 378 12 = nI (if (pr T n r c).1 = true then 0 else 1) ∧ ((pr T n r c).1 = true → M1 378 16 = nI (pr T n r c).2.2 ∧ KM M1 T n (pr T n r c).2.2) := by
  intro r
  induction r with
  | zero =>
    intro c f M h1 h2 hT hpn h5 h11 h12 h16 hK
    obtain ⟨f, rfl⟩ : ∃ x, f = x + 1 := ⟨f - 1, by omega⟩
    have hn := hT.2.1
    rw [rc_end (T := T) (n := n) (p := ps T n c) (by omega)] at h11 h12
    rw [F_X9_execute_19, h12, if_pos (show ¬ nI (if (false, ps T n c).1 = true then 0 else 1) = 0 by show ¬ nI 1 = 0; decide), if_pos (show ¬ nI (if (false, ps T n c).1 = true then 0 else 1) = 0 by show ¬ nI 1 = 0; decide), lx_s, pr]
    exact ⟨_, rfl, fX.r.u (by omega), by rw [up_n2 (by omega), h11], by rw [up_e rfl rfl]; rfl, fun x => absurd x Bool.false_ne_true⟩
  | succ r ih =>
    intro c f M h1 h2 hT hpn h5 h11 h12 h16 hK
    obtain ⟨f, rfl⟩ : ∃ x, f = x + 1 := ⟨f - 1, by omega⟩
    have hn := hT.2.1
    have hq := rc_n (T := T) hpn
    rw [F_X9_execute_19, pr]
    by_cases e : (rc T n (ps T n c)).1 = true
    · rw [if_pos e] at h12 ⊢
      have hq4 := hq.2 e
      have hb := ch_b hT (i := (rc T n (ps T n c)).2)
      rw [h12, if_neg (show ¬ ¬ nI 0 = 0 from fun x => x rfl), bh0 hT h11 (by omega), bx_s]
      by_cases e2 : ch T n (rc T n (ps T n c)).2 = 59
      · have hlt := ch_lt (T := T) (n := n) (i := (rc T n (ps T n c)).2) (by omega)
        rw [if_neg (show ¬ ¬ nI (ch T n (rc T n (ps T n c)).2) = 59 from fun x => x (by rw [e2]; rfl)), lx_s, h11, nI_1, if_neg (show ¬ (rc T n (ps T n c)).2 = n by omega), if_pos e2]
        obtain ⟨A, hA⟩ : ∃ A, A = fw_up M 378 11 (nI ((rc T n (ps T n c)).2 + 1)) := ⟨_, rfl⟩
        have hf : fX M A := by rw [hA]; exact fX.r.u (by omega)
        have hps : ps T n (c + 1) = (rc T n (ps T n c)).2 + 1 := rfl
        obtain ⟨B, b1, b2, b3, b4, b5, b6, b7⟩ := rdm (T := T) (n := n) (hT.x hf) (p := ps T n (c + 1)) (c := c + 1) (by rw [hA, up_n2 (by omega), h12]) (by rw [hA, up_e rfl rfl, hps]) (by omega) (by rw [hA, up_n2 (by omega), h16]) (by omega)
        have hKA : KM A T n (c + 1) := (hK e).k (fun i _ => by rw [hA, up_n1 (by omega)])
        obtain ⟨D, g1, g2, g3, g4, g5⟩ := ih (c + 1) f B (by omega) (by omega) (hT.x (hf.t b2)) (by omega) (by omega) b4 b5 b6 (fun x => by
          obtain ⟨y1, y2⟩ := b7 x
          exact hKA.s b3 y1 y2)
        rw [← hA, b1, bx_s]
        exact ⟨D, g1, (hf.t b2).t g2, g3, g4, g5⟩
      · rw [if_pos (show ¬ nI (ch T n (rc T n (ps T n c)).2) = 59 from fun x => e2 (nI_inj (b := 59) (by omega) (by omega) x)), if_neg (show ¬ ¬ nI 0 = 0 from fun x => x rfl), hT.1, h11]
        by_cases e3 : (rc T n (ps T n c)).2 = n
        · rw [if_pos (nI_le (show n ≤ (rc T n (ps T n c)).2 by omega) (by omega)), lx_s, if_pos e3]
          exact ⟨_, rfl, fX.r.u (by omega), by rw [up_n2 (by omega), h11, e3], by rw [up_e rfl rfl]; rfl, fun _ => ⟨by rw [up_n2 (by omega), h16], (hK e).k (fun i _ => by rw [up_n1 (by omega)])⟩⟩
        · rw [if_neg (nI_ge (show (rc T n (ps T n c)).2 < n by omega) (by omega)), lx_s, if_neg e3, if_neg e2]
          exact ⟨_, rfl, fX.r.u (by omega), by rw [up_n2 (by omega), h11], by rw [up_e rfl rfl]; rfl, fun x => absurd x Bool.false_ne_true⟩
    · rw [if_neg e] at h12 ⊢
      rw [h12, if_pos (show ¬ nI 1 = 0 by decide), if_pos (show ¬ nI 1 = 0 by decide), lx_s]
      exact ⟨_, rfl, fX.r.u (by omega), by rw [up_n2 (by omega), h11], by rw [up_e rfl rfl]; rfl, fun x => absurd x Bool.false_ne_true⟩
/-- the model has read -/
theorem rd_m {M : fw_M} (hT : MT M T n) : ∃ M1, F_X9_execute M = F_X9_execute_80 M1 ∧ fX M M1 ∧ M1 378 11 = nI (pr T n 12 0).2.1 ∧ M1 378 12 = nI (if (pr T n 12 0).1 = true then 0 else 1) ∧ ((pr T n 12 0).1 = true → M1 378 16 = nI (pr T n 12 0).2.2 ∧ KM M1 T n (pr T n 12 0).2.2) := by
  obtain ⟨A, hA⟩ : ∃ A, A = fw_up (fw_up (fw_up M 378 11 0) 378 12 0) 378 16 0 := ⟨_, rfl⟩
  have hf : fX M A := by rw [hA]; exact ((fX.r.u (by omega)).u (by omega)).u (by omega)
  obtain ⟨B, b1, b2, b3, b4, b5, b6, b7⟩ := rdm (T := T) (n := n) (hT.x hf) (p := 0) (c := 0) (by rw [hA, up_n2 (by omega), up_e rfl rfl]; rfl) (by rw [hA, up_n2 (by omega), up_n2 (by omega), up_e rfl rfl]; rfl) (by omega) (by rw [hA, up_e rfl rfl]; rfl) (by omega)
  have hKA : KM A T n 0 := fun i hi => absurd hi (Nat.not_lt_zero i)
  obtain ⟨D, g1, g2, g3, g4, g5⟩ := el (T := T) (n := n) 12 0 64 B (by omega) (by omega) (hT.x (hf.t b2)) (Nat.zero_le n) (Nat.zero_le _) b4 b5 b6 (fun x => by
    obtain ⟨y1, y2⟩ := b7 x
    exact hKA.s b3 y1 y2)
  unfold F_X9_execute
  rw [lx_s, lx_s, lx_s, ← hA, b1, bx_s]
  exact ⟨D, g1, (hf.t b2).t g2, g3, g4, g5⟩
end PM
