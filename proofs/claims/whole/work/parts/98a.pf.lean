/-! the law's loop never fails -/
set_option maxHeartbeats 4000000 in
theorem op_ok {M : fw_M} (h : Inv M) (k : Int32) (xs : Nat → Int32) (i : Int32) : ∃ M1, F_op k M xs i = some M1 ∧ Inv M1 := by
  unfold F_op
  by_cases c0 : k = 0
  · rw [if_pos c0]; exact q_0 h xs i
  rw [if_neg c0]
  by_cases c1 : k = 1
  · rw [if_pos c1]; exact q_1 h xs i
  rw [if_neg c1]
  by_cases c2 : k = 2
  · rw [if_pos c2]; exact q_2 h xs i
  rw [if_neg c2]
  by_cases c3 : k = 3
  · rw [if_pos c3]; exact q_3 h xs i
  rw [if_neg c3]
  by_cases c4 : k = 4
  · rw [if_pos c4]; exact q_4 h xs i
  rw [if_neg c4]
  by_cases c5 : k = 5
  · rw [if_pos c5]; exact q_5 h xs i
  rw [if_neg c5]
  by_cases c6 : k = 6
  · rw [if_pos c6]; exact q_6 h xs i
  rw [if_neg c6]
  by_cases c7 : k = 7
  · rw [if_pos c7]; exact q_7 h xs i
  rw [if_neg c7]
  by_cases c8 : k = 8
  · rw [if_pos c8]; exact q_8 h xs i
  rw [if_neg c8]
  by_cases c9 : k = 9
  · rw [if_pos c9]; exact q_9 h xs i
  rw [if_neg c9]
  by_cases c10 : k = 10
  · rw [if_pos c10]; exact q_10 h xs i
  rw [if_neg c10]
  by_cases c11 : k = 11
  · rw [if_pos c11]; exact q_11 h xs i
  rw [if_neg c11]
  by_cases c12 : k = 12
  · rw [if_pos c12]; exact q_12 h xs i
  rw [if_neg c12]
  by_cases c13 : k = 13
  · rw [if_pos c13]; exact q_13 h xs i
  rw [if_neg c13]
  by_cases c14 : k = 14
  · rw [if_pos c14]; exact q_14 h xs i
  rw [if_neg c14]
  by_cases c15 : k = 15
  · rw [if_pos c15]; exact q_15 h xs i
  rw [if_neg c15]
  by_cases c16 : k = 16
  · rw [if_pos c16]; exact q_16 h xs i
  rw [if_neg c16]
  by_cases c17 : k = 17
  · rw [if_pos c17]; exact q_17 h xs i
  rw [if_neg c17]
  by_cases c18 : k = 18
  · rw [if_pos c18]; exact q_18 h xs i
  rw [if_neg c18]
  by_cases c19 : k = 19
  · rw [if_pos c19]; exact q_19 h xs i
  rw [if_neg c19]
  by_cases c20 : k = 20
  · rw [if_pos c20]; exact q_20 h xs i
  rw [if_neg c20]
  by_cases c21 : k = 21
  · rw [if_pos c21]; exact q_21 h xs i
  rw [if_neg c21]
  by_cases c22 : k = 22
  · rw [if_pos c22]; exact q_22 h xs i
  rw [if_neg c22]
  by_cases c23 : k = 23
  · rw [if_pos c23]; exact q_23 h xs i
  rw [if_neg c23]
  by_cases c24 : k = 24
  · rw [if_pos c24]; exact q_24 h xs i
  rw [if_neg c24]
  by_cases c25 : k = 25
  · rw [if_pos c25]; exact q_25 h xs i
  rw [if_neg c25]
  by_cases c26 : k = 26
  · rw [if_pos c26]; exact q_26 h xs i
  rw [if_neg c26]
  by_cases c27 : k = 27
  · rw [if_pos c27]; exact q_27 h xs i
  rw [if_neg c27]
  by_cases c28 : k = 28
  · rw [if_pos c28]; exact q_28 h xs i
  rw [if_neg c28]
  by_cases c29 : k = 29
  · rw [if_pos c29]; exact q_29 h xs i
  rw [if_neg c29]
  by_cases c30 : k = 30
  · rw [if_pos c30]; exact q_30 h xs i
  rw [if_neg c30]
  by_cases c31 : k = 31
  · rw [if_pos c31]; exact q_31 h xs i
  rw [if_neg c31]
  by_cases c32 : k = 32
  · rw [if_pos c32]; exact q_32 h xs i
  rw [if_neg c32]
  by_cases c33 : k = 33
  · rw [if_pos c33]; exact q_33 h xs i
  rw [if_neg c33]
  by_cases c34 : k = 34
  · rw [if_pos c34]; exact q_34 h xs i
  rw [if_neg c34]
  by_cases c35 : k = 35
  · rw [if_pos c35]; exact q_35 h xs i
  rw [if_neg c35]
  by_cases c36 : k = 36
  · rw [if_pos c36]; exact q_36 h xs i
  rw [if_neg c36]
  by_cases c37 : k = 37
  · rw [if_pos c37]; exact q_37 h xs i
  rw [if_neg c37]
  by_cases c38 : k = 38
  · rw [if_pos c38]; exact q_38 h xs i
  rw [if_neg c38]
  by_cases c39 : k = 39
  · rw [if_pos c39]; exact q_39 h xs i
  rw [if_neg c39]
  by_cases c40 : k = 40
  · rw [if_pos c40]; exact q_40 h xs i
  rw [if_neg c40]
  by_cases c41 : k = 41
  · rw [if_pos c41]; exact q_41 h xs i
  rw [if_neg c41]
  by_cases c42 : k = 42
  · rw [if_pos c42]; exact q_42 h xs i
  rw [if_neg c42]
  by_cases c43 : k = 43
  · rw [if_pos c43]; exact q_43 h xs i
  rw [if_neg c43]
  by_cases c44 : k = 44
  · rw [if_pos c44]; exact q_44 h xs i
  rw [if_neg c44]
  by_cases c45 : k = 45
  · rw [if_pos c45]; exact q_45 h xs i
  rw [if_neg c45]
  by_cases c46 : k = 46
  · rw [if_pos c46]; exact q_46 h xs i
  rw [if_neg c46]
  by_cases c47 : k = 47
  · rw [if_pos c47]; exact q_47 h xs i
  rw [if_neg c47]
  by_cases c48 : k = 48
  · rw [if_pos c48]; exact q_48 h xs i
  rw [if_neg c48]
  by_cases c49 : k = 49
  · rw [if_pos c49]; exact q_49 h xs i
  rw [if_neg c49]
  by_cases c50 : k = 50
  · rw [if_pos c50]; exact q_50 h xs i
  rw [if_neg c50]
  by_cases c51 : k = 51
  · rw [if_pos c51]; exact q_51 h xs i
  rw [if_neg c51]
  by_cases c52 : k = 52
  · rw [if_pos c52]; exact q_52 h xs i
  rw [if_neg c52]
  by_cases c53 : k = 53
  · rw [if_pos c53]; exact q_53 h xs i
  rw [if_neg c53]
  by_cases c54 : k = 54
  · rw [if_pos c54]; exact q_54 h xs i
  rw [if_neg c54]
  by_cases c55 : k = 55
  · rw [if_pos c55]; exact q_55 h xs i
  rw [if_neg c55]
  by_cases c56 : k = 56
  · rw [if_pos c56]; exact q_56 h xs i
  rw [if_neg c56]
  exact ⟨M, rfl, h⟩
theorem law_ok {L : Nat} (hL : L ≤ 2048) (xs : Nat → Int32) : ∀ n t M, Inv M → n + t = 600 → 0 < n → F_law L xs n t M = some () := by
  intro n
  induction n with
  | zero => intro t M h h1 h2; omega
  | succ n ih =>
    intro t M h h1 _
    rw [F_law]
    by_cases hc : Int32.ofNat L - 4 < nI (4 * t)
    · rw [if_pos hc]
    · rw [if_neg hc]
      have := fl_in (k := 0) hc hL (by omega) (by omega)
      obtain ⟨M1, m1, m2⟩ := op_ok h (xs (nI (4 * t)).toNatClampNeg &&& 63) xs (nI (4 * t))
      have e : F_body M xs (nI (4 * t)) = some M1 := m1
      rw [e, bx_s]
      exact ih (t + 1) M1 m2 (by omega) (by omega)
