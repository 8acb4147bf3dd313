/-! texts: what is written, as places and their number -/
abbrev wT : Type := (Nat → Nat) × Nat
def apc (x : wT) (c : Nat) : wT := (fun j => if j = x.2 then c else x.1 j, x.2 + 1)
def apn (x : wT) (v : Nat) : wT := if v < 10 then apc x (48 + v) else apc (apc x (48 + v / 10)) (48 + v % 10)
theorem apn_2 {x : wT} {v : Nat} : x.2 + 1 ≤ (apn x v).2 ∧ (apn x v).2 ≤ x.2 + 2 ∧ (v < 10 → (apn x v).2 = x.2 + 1) := by
  unfold apn
  split
  · exact ⟨Nat.le_refl _, by show x.2 + 1 ≤ x.2 + 2; omega, fun _ => rfl⟩
  · exact ⟨by show x.2 + 1 ≤ x.2 + 1 + 1; omega, Nat.le_refl _, fun h => by omega⟩
def WC (M : fw_M) (x : wT) : Prop := M 376 1 = nI 0 ∧ 16 ≤ fw_cap M ∧ fw_cap M ≤ 100 ∧ (∀ j, j < fw_cap M → fits .byte (.int (M 377 j)) = true) ∧ x.2 ≤ fw_cap M ∧ M 376 3 = nI x.2 ∧ ∀ j, j < x.2 → M 377 j = nI (x.1 j) ∧ x.1 j < 128
def WM (M : fw_M) (x : wT) : Prop := M 378 8 = nI x.2 ∧ ∀ j, j < x.2 → M 383 j = nI (x.1 j)
def fC (M M1 : fw_M) : Prop := ∀ k, k ≠ 376 → k ≠ 377 → M1 k = M k
def fM (M M1 : fw_M) : Prop := (∀ k, k ≠ 383 → k ≠ 378 → M1 k = M k) ∧ ∀ j, j ≠ 8 → M1 378 j = M 378 j
theorem Wr.x {M : fw_M} (h : Wr M) : ∃ x : wT, x.2 ≤ 40 ∧ WC M x ∧ WM M x := by
  obtain ⟨h1, h2, h3, h4, n, h5, h6, h7, h8, h9⟩ := h
  refine ⟨(fun j => sv (M 377) j, n), h6, ⟨h1, h2, h3, h4, h5, h7, fun j hj => ?_⟩, h8, fun j hj => ?_⟩
  · obtain ⟨c, c1, c2, c3⟩ := h9 j hj
    show M 377 j = nI (sv (M 377) j) ∧ sv (M 377) j < 128
    rw [sv_of c2 (by omega)]
    exact ⟨c2, c1⟩
  · obtain ⟨c, c1, c2, c3⟩ := h9 j hj
    show M 383 j = nI (sv (M 377) j)
    rw [sv_of c2 (by omega)]
    exact c3
theorem Wr.of {M : fw_M} {x : wT} (h : x.2 ≤ 40) (h1 : WC M x) (h2 : WM M x) : Wr M :=
  ⟨h1.1, h1.2.1, h1.2.2.1, h1.2.2.2.1, x.2, h1.2.2.2.2.1, h, h1.2.2.2.2.2.1, h2.1, fun j hj => ⟨x.1 j, (h1.2.2.2.2.2.2 j hj).2, (h1.2.2.2.2.2.2 j hj).1, h2.2 j hj⟩⟩
theorem WC.cong {M M1 : fw_M} {x : wT} (h : WC M x) (h1 : M1 376 = M 376) (h2 : M1 377 = M 377) : WC M1 x := by
  have hc : fw_cap M1 = fw_cap M := by unfold fw_cap; rw [h2]
  unfold WC at *
  rw [hc, h1, h2]
  exact h
theorem sub_le0 {a b : Nat} (ha : a < 2 ^ 30) (hb : b < 2 ^ 30) : nI a - nI b ≤ 0 ↔ a ≤ b := by
  rw [Int32.le_iff_toInt_le, pk_sub_toInt ha hb]
  have h0 : (0 : Int32).toInt = 0 := by decide
  rw [h0]
  omega
theorem shl0 {n : Nat} (h : n < 2 ^ 31) : nI n <<< ((0 : Int32) &&& 31) = nI n := by
  have := pk_shlN (n := n) ((0 : Int32) &&& 31) 0 (by decide) (by omega)
  rw [this, Nat.pow_zero, Nat.mul_one]
theorem shr0 {n : Nat} (h : n < 2 ^ 31) : nI n >>> ((0 : Int32) &&& 31) = nI n := by
  have := pk_shrN (n := n) (by omega) ((0 : Int32) &&& 31) 0 (by decide)
  rw [this, Nat.pow_zero, Nat.div_one]
/-- room for m places -/
theorem ens_ok {M : fw_M} {x : wT} (h : WC M x) {m : Nat} (hm : m ≤ x.2 + 2) (hx : x.2 ≤ 22) : ∃ M1, F_J5_ensureCapacityInternal_d00df M (nI m) = some M1 ∧ WC M1 x ∧ m ≤ fw_cap M1 ∧ fC M M1 := by
  obtain ⟨h1, h2, h3, h4, h5, h6, h7⟩ := h
  have ec : Int32.ofNat (fw_cap M) = nI (fw_cap M) := rfl
  have z : M 376 1 &&& 31 = (0 : Int32) &&& 31 := by rw [h1]; rfl
  unfold F_J5_ensureCapacityInternal_d00df
  rw [ec, z, shr0 (by omega)]
  by_cases hc : m ≤ fw_cap M
  · rw [if_pos ((sub_le0 (by omega) (by omega)).mpr hc)]
    exact ⟨M, rfl, ⟨h1, h2, h3, h4, h5, h6, h7⟩, hc, fun _ _ _ => rfl⟩
  · rw [if_neg (fun q => hc ((sub_le0 (by omega) (by omega)).mp q))]
    have e1 : F_J5_newCapacity_0f7a4 M (nI m) = some (nI (2 * fw_cap M + 2)) := by
      have e2 : F_J8_newLength_cabcc M (nI (fw_cap M)) (nI m - nI (fw_cap M)) (nI (fw_cap M) + nI 2) = some (nI (2 * fw_cap M + 2)) := by
        unfold F_J8_newLength_cabcc
        rw [pk_sub (by omega), nI_add, if_pos (nI_lt (by omega) (by omega)), nI_add, if_neg (show ¬ nI (fw_cap M + (fw_cap M + 2)) ≤ 0 from nI_nle (by omega) (by omega)), if_neg (show ¬ (2147483639 : Int32) < nI (fw_cap M + (fw_cap M + 2)) from nI_nlt (a := 2147483639) (by omega) (by omega))]
        exact congrArg (fun y => some (nI y)) (by omega)
      unfold F_J5_newCapacity_0f7a4
      rw [ec, z, shl0 (by omega), show (2 : Int32) <<< ((0 : Int32) &&& 31) = nI 2 by decide, e2, bx_s, if_pos (fun q => by
        have := nI_inj (a := 2 * fw_cap M + 2) (b := 2147483647) (by omega) (by omega) q
        omega), shr0 (by omega)]
    rw [e1, bx_s, shl0 (by omega)]
    have ecl : (nI (2 * fw_cap M + 2)).toNatClampNeg = 2 * fw_cap M + 2 := nI_clamp (by omega)
    have hg : gw_ok M (nI (2 * fw_cap M + 2)) := by
      refine ⟨by rw [ecl]; omega, by rw [ecl]; omega, nI_pos (by omega), h4⟩
    rw [if_pos hg]
    have gc : ∀ c, c ≠ 377 → fw_gr M (nI (2 * fw_cap M + 2)) c = M c := fun c hc => fw_w_n hc
    have gj : ∀ j, fw_gr M (nI (2 * fw_cap M + 2)) 377 j = if j = 1000 then nI (2 * fw_cap M + 2) else va_cpy (M 377) (fun _ => 0) 0 0 (fw_cap M) j := fun j => by
      unfold fw_gr
      rw [fw_w_s]
    have gcap : fw_cap (fw_gr M (nI (2 * fw_cap M + 2))) = 2 * fw_cap M + 2 := by
      show (fw_gr M (nI (2 * fw_cap M + 2)) 377 1000).toNatClampNeg = 2 * fw_cap M + 2
      rw [gj, if_pos rfl]
      exact ecl
    have gin : ∀ j, j < fw_cap M → fw_gr M (nI (2 * fw_cap M + 2)) 377 j = M 377 j := fun j hj => by
      rw [gj, if_neg (by omega), pk_cpy_in (by omega) (by omega), Nat.zero_add, Nat.sub_zero]
    refine ⟨_, rfl, ⟨?_, ?_, ?_, ?_, ?_, ?_, ?_⟩, ?_, fun k _ hk => gc k hk⟩
    · rw [gc 376 (by omega)]; exact h1
    · rw [gcap]; omega
    · rw [gcap]; omega
    · intro j hj
      rw [gcap] at hj
      by_cases hj2 : j < fw_cap M
      · rw [gin j hj2]; exact h4 j hj2
      · rw [gj, if_neg (by omega), pk_cpy_out (by omega)]
        rfl
    · rw [gcap]; omega
    · rw [gc 376 (by omega)]; exact h6
    · intro j hj
      rw [gin j (by omega)]
      exact h7 j hj
    · rw [gcap]; omega
theorem nb_ch {c : Nat} (h : c < 128) : fw_nb ((nI c).toInt8.toInt32) = nI c := by
  unfold fw_nb
  rw [pk_vb]
  exact fa_byte_small h
theorem nb_c {c : Nat} (h : c < 128) : fw_nb (nI c) = nI c := by
  rw [← fa_byte_small h]
  unfold fw_nb
  rw [pk_vb]
theorem fit_c {c : Nat} (h : c < 128) : fits .byte (.int (nI c)) = true := by
  rw [← fa_byte_small h]
  exact pk_fb _
/-- one place more -/
theorem WC.put {M : fw_M} {x : wT} (h : WC M x) {c : Nat} (hc : c < 128) (hr : x.2 < fw_cap M) {M1 : fw_M} (e3 : M1 376 3 = nI (x.2 + 1)) (e1 : M1 376 1 = M 376 1) (en : M1 377 x.2 = nI c) (eo : ∀ j, j ≠ x.2 → M1 377 j = M 377 j) : WC M1 (apc x c) := by
  obtain ⟨h1, h2, h3, h4, h5, h6, h7⟩ := h
  have hcap : fw_cap M1 = fw_cap M := by
    unfold fw_cap
    rw [eo 1000 (by omega)]
  refine ⟨e1.trans h1, by rw [hcap]; exact h2, by rw [hcap]; exact h3, fun j hj => ?_, by rw [hcap]; exact hr, e3, fun j hj => ?_⟩
  · rw [hcap] at hj
    by_cases e : j = x.2
    · rw [e, en]; exact fit_c hc
    · rw [eo j e]; exact h4 j hj
  · show M1 377 j = nI (if j = x.2 then c else x.1 j) ∧ (if j = x.2 then c else x.1 j) < 128
    by_cases e : j = x.2
    · rw [if_pos e, e]; exact ⟨en, hc⟩
    · have hj : j < x.2 + 1 := hj
      rw [if_neg e, eo j e]
      exact h7 j (by omega)
theorem lat_1 {M : fw_M} (h : M 376 1 = nI 0) : F_J5_isLatin1_aae02 M = some 1 := by
  unfold F_J5_isLatin1_aae02
  rw [h, if_neg (show ¬ ¬ nI 0 = 0 from fun q => q rfl)]
theorem apc_c {M : fw_M} {x : wT} (h : WC M x) {c : Nat} (hc : c < 128) (hx : x.2 ≤ 20) : ∃ M1, F_J4_append_cf468 M (nI c) = some M1 ∧ WC M1 (apc x c) ∧ fC M M1 := by
  obtain ⟨A, a1, a2, a3, a4⟩ := ens_ok h (m := x.2 + 1) (by omega) (by omega)
  have e6 := h.2.2.2.2.2.1
  have e6A := a2.2.2.2.2.2.1
  have hcap := a2.2.2.1
  have ce : F_J1_canEncode_fc78d A (nI c) = some 1 := by
    unfold F_J1_canEncode_fc78d
    rw [if_neg (show ¬ (255 : Int32) < nI c from nI_nlt (a := 255) (by omega) (by omega))]
  obtain ⟨B, hB⟩ : ∃ B, B = fw_up A 376 3 (nI (x.2 + 1)) := ⟨_, rfl⟩
  have capB : fw_cap B = fw_cap A := by
    unfold fw_cap
    rw [hB, up_n1 (by omega)]
  unfold F_J4_append_cf468 F_J5_append_3fe6f
  rw [e6, nI_1, a1, bx_s, lat_1 a2.1, bx_s, if_neg (show ¬ (1 : Int32) = 0 by decide), ce, bx_s, if_neg (show ¬ (1 : Int32) = 0 by decide), e6A, nI_1, lx_s, ← hB, if_pos (show fw_cap B ≤ 1000 by omega), if_pos (nI_in (by omega) (by omega)), lx_s, bx_s, fw_wi, nI_clamp (by omega), nb_ch hc]
  refine ⟨_, rfl, a2.put hc (by omega) ?_ ?_ ?_ (fun j hj => ?_), fun k k1 k2 => ?_⟩
  · rw [up_n1 (by omega), hB, up_e rfl rfl]
  · rw [up_n1 (by omega), hB, up_n2 (by omega)]
  · rw [up_e rfl rfl]
  · rw [up_n2 hj, hB, up_n1 (by omega)]
  · rw [up_n1 k2, hB, up_n1 k1, a4 k k1 k2]
theorem ss_m {M M1 : fw_M} {a : Int32} : ∀ (n : Nat) (x y z u : Int32), F_J6_stringSize_0f7a4_16 M a n x y z u = F_J6_stringSize_0f7a4_16 M1 a n x y z u := by
  intro n
  induction n with
  | zero => intro x y z u; rfl
  | succ n ih =>
    intro x y z u
    rw [F_J6_stringSize_0f7a4_16, F_J6_stringSize_0f7a4_16, ih]
theorem ss_z : ∀ v, v < 100 → F_J6_stringSize_0f7a4 fz (nI v) = some (nI (if v < 10 then 1 else 2)) := by decide +kernel
theorem ss_ok {M : fw_M} {v : Nat} (h : v < 100) : F_J6_stringSize_0f7a4 M (nI v) = some (nI (if v < 10 then 1 else 2)) := by
  rw [← ss_z v h]
  unfold F_J6_stringSize_0f7a4
  rw [ss_m (M1 := fz), ss_m (M := M) (M1 := fz)]
theorem neg_2 : ∀ v, v < 100 → -(-nI v) = nI v ∧ (-100 : Int32) < -nI v ∧ ((-9 : Int32) ≤ -nI v ↔ v < 10) := by decide +kernel
theorem m1_n {n : Nat} (h : 1 ≤ n) : nI n + (-1) = nI (n - 1) := add_m h
theorem apn_c {M : fw_M} {x : wT} (h : WC M x) {v : Nat} (hv : v < 100) (hx : x.2 ≤ 20) : ∃ M1, F_J4_append_bf812 M (nI v) = some M1 ∧ WC M1 (apn x v) ∧ fC M M1 := by
  obtain ⟨z, hz⟩ : ∃ z, z = (if v < 10 then 1 else 2) := ⟨_, rfl⟩
  have hz2 : 1 ≤ z ∧ z ≤ 2 := by rw [hz]; split <;> omega
  obtain ⟨A, a1, a2, a3, a4⟩ := ens_ok h (m := x.2 + z) (by omega) (by omega)
  have e6 := h.2.2.2.2.2.1
  have hcap := a2.2.2.1
  obtain ⟨n1, n2, n3⟩ := neg_2 v hv
  have hs : F_J6_stringSize_0f7a4 M (nI v) = some (nI z) := by rw [hz]; exact ss_ok hv
  unfold F_J4_append_bf812 F_J5_append_c97b9
  rw [hs, bx_s, e6, nI_add, a1, bx_s, lat_1 a2.1, bx_s, if_neg (show ¬ (1 : Int32) = 0 by decide)]
  unfold F_J6_getChars_ba4f3
  rw [if_pos (show (0 : Int32) ≤ nI v from nI_pos' (by omega)), if_pos n2, n1, if_pos (nI_in hv (by omega)), if_pos (show fw_cap A ≤ 1000 by omega), m1_n (by omega), if_pos (nI_in (by omega) (by omega)), lx_s, fw_wi, nI_clamp (by omega), nI_clamp (by omega), nb_c (show 48 + v % 10 < 128 by omega)]
  by_cases hv10 : v < 10
  · have hz1 : z = 1 := by rw [hz, if_pos hv10]
    have em : v % 10 = v := Nat.mod_eq_of_lt hv10
    rw [if_pos (n3.mpr hv10), bp_s, lx_s, bx_s, hz1, Nat.add_sub_cancel, em]
    refine ⟨_, rfl, ?_, fun k k1 k2 => by rw [up_n1 k1, up_n1 k2, a4 k k1 k2]⟩
    unfold apn
    rw [if_pos hv10]
    refine a2.put (by omega) (by omega) ?_ ?_ ?_ (fun j hj => ?_)
    · rw [up_e rfl rfl]
    · rw [up_n2 (by omega), up_n1 (by omega)]
    · rw [up_n1 (by omega), up_e rfl rfl]
    · rw [up_n1 (by omega), up_n2 hj]
  · have hz1 : z = 2 := by rw [hz, if_neg hv10]
    rw [if_neg (fun q => hv10 (n3.mp q)), hz1]
    obtain ⟨B, hB⟩ : ∃ B, B = fw_up A 377 (x.2 + 2 - 1) (nI (48 + v % 10)) := ⟨_, rfl⟩
    rw [← hB]
    have capB : fw_cap B = fw_cap A := by
      unfold fw_cap
      rw [hB, up_n2 (by omega)]
    rw [if_pos (show fw_cap B ≤ 1000 by omega), m1_n (by omega), if_pos (nI_in (by omega) (by omega)), lx_s, fw_wi, nI_clamp (by omega), nb_c (show 48 + v / 10 < 128 by omega), bp_s, lx_s, bx_s]
    refine ⟨_, rfl, ?_, fun k k1 k2 => by rw [up_n1 k1, up_n1 k2, hB, up_n1 k2, a4 k k1 k2]⟩
    unfold apn
    rw [if_neg hv10]
    have hmid : WC (fw_up (fw_up A 376 3 (nI (x.2 + 1))) 377 x.2 (nI (48 + v / 10))) (apc x (48 + v / 10)) := by
      refine a2.put (by omega) (by omega) ?_ ?_ ?_ (fun j hj => ?_)
      · rw [up_n1 (by omega), up_e rfl rfl]
      · rw [up_n1 (by omega), up_n2 (by omega)]
      · rw [up_e rfl rfl]
      · rw [up_n2 hj, up_n1 (by omega)]
    have capm : fw_cap (fw_up (fw_up A 376 3 (nI (x.2 + 1))) 377 x.2 (nI (48 + v / 10))) = fw_cap A := by
      unfold fw_cap
      rw [up_n2 (by omega), up_n1 (by omega)]
    have ex : (apc x (48 + v / 10)).2 = x.2 + 1 := rfl
    refine hmid.put (by omega) (by rw [capm, ex]; omega) ?_ ?_ ?_ (fun j hj => ?_)
    · rw [up_e rfl rfl, ex]
    · rw [up_n2 (by omega), up_n1 (by omega), hB, up_n1 (by omega), up_n1 (by omega), up_n2 (by omega)]
    · rw [up_n1 (by omega), ex, up_n2 (by omega), hB, up_e rfl (by omega)]
    · rw [ex] at hj
      rw [up_n1 (by omega)]
      by_cases e : j = x.2
      · rw [up_e rfl (by omega), up_e rfl e]
      · rw [up_n2 (by omega), hB, up_n2 (by omega), up_n2 e, up_n1 (by omega)]
theorem set_0 {M : fw_M} {x : wT} (h : WC M x) (hx : x.2 ≤ 40) : ∃ M1, F_J4_setLength_d00df M 0 = some M1 ∧ WC M1 (x.1, 0) ∧ fC M M1 := by
  obtain ⟨h1, h2, h3, h4, h5, h6, h7⟩ := h
  have e1 : F_J5_ensureCapacityInternal_d00df M 0 = some M := by
    unfold F_J5_ensureCapacityInternal_d00df
    have ec : Int32.ofNat (fw_cap M) = nI (fw_cap M) := rfl
    have z : M 376 1 &&& 31 = (0 : Int32) &&& 31 := by rw [h1]; rfl
    rw [ec, z, shr0 (by omega), if_pos (show (0 : Int32) - nI (fw_cap M) ≤ 0 from (sub_le0 (a := 0) (b := fw_cap M) (by omega) (by omega)).mpr (by omega))]
  have fin : ∀ M1 : fw_M, (∀ k, k ≠ 376 → M1 k = M k) → M1 376 1 = M 376 1 → M1 376 3 = 0 → WC M1 (x.1, 0) ∧ fC M M1 := by
    intro M1 f1 f2 f3
    have hcap : fw_cap M1 = fw_cap M := by
      unfold fw_cap
      rw [f1 377 (by omega)]
    refine ⟨⟨f2.trans h1, by rw [hcap]; exact h2, by rw [hcap]; exact h3, fun j hj => ?_, Nat.zero_le _, f3, fun j hj => absurd hj (Nat.not_lt_zero j)⟩, fun k k1 _ => f1 k k1⟩
    rw [f1 377 (by omega)]
    exact h4 j (by rw [← hcap]; exact hj)
  unfold F_J4_setLength_d00df F_J5_setLength_d00df
  rw [if_pos (show (0 : Int32) ≤ 0 by decide), e1, bx_s, h6, if_pos (show (0 : Int32) ≤ nI x.2 from nI_pos' (by omega))]
  by_cases h0 : nI x.2 ≤ 0
  · rw [if_pos h0, lx_s, bx_s]
    obtain ⟨a, b⟩ := fin _ (fun k hk => up_n1 (j := 3) (x := 0) hk) (up_n2 (by omega)) (up_e rfl rfl)
    exact ⟨_, rfl, a, b⟩
  · rw [if_neg h0, lx_s, lx_s, bx_s]
    obtain ⟨a, b⟩ := fin (fw_up (fw_up M 376 2 1) 376 3 0) (fun k hk => by rw [up_n1 hk, up_n1 hk]) (by rw [up_n2 (by omega), up_n2 (by omega)]) (up_e rfl rfl)
    exact ⟨_, rfl, a, b⟩
/-! the model's text -/
theorem apc_m {M : fw_M} {x : wT} (h : WM M x) {c : Nat} (hc : c < 65536) (hx : x.2 < 40) : ∃ M1, F_X9_says M (nI c) = some M1 ∧ WM M1 (apc x c) ∧ fM M M1 := by
  obtain ⟨h1, h2⟩ := h
  unfold F_X9_says
  rw [h1, if_pos (nI_in hx (by omega)), nc_ch hc, lx_s, fw_wi, nI_clamp (by omega), up_n1 (by omega), h1, nI_1, lx_s]
  refine ⟨_, rfl, ⟨up_e rfl rfl, fun j hj => ?_⟩, ⟨fun k k1 k2 => by rw [up_n1 k2, up_n1 k1], fun j hj => by rw [up_n2 hj, up_n1 (by omega)]⟩⟩
  rw [up_n1 (by omega)]
  show _ = nI (if j = x.2 then c else x.1 j)
  by_cases e : j = x.2
  · rw [up_e rfl e, if_pos e]
  · rw [up_n2 e, if_neg e]
    exact h2 j (by have hj : j < x.2 + 1 := hj; omega)
theorem fM.t {M M1 M2 : fw_M} (h : fM M M1) (q : fM M1 M2) : fM M M2 := ⟨fun k a b => (q.1 k a b).trans (h.1 k a b), fun j a => (q.2 j a).trans (h.2 j a)⟩
theorem fM.r {M : fw_M} : fM M M := ⟨fun _ _ _ => rfl, fun _ _ => rfl⟩
theorem fC.t {M M1 M2 : fw_M} (h : fC M M1) (q : fC M1 M2) : fC M M2 := fun k a b => (q k a b).trans (h k a b)
theorem dg_ch {v : Nat} (hv : v < 100) : (((48 + (nI v - nI v / 10 * 10)) : Int32).toUInt32 % 65536).toInt32 = nI (48 + v % 10) := by
  have e1 : nI v - nI v / 10 * 10 = nI (v % 10) := pk_rem (d := 10) (by omega) (by omega) (by omega)
  have e2 : (48 + nI (v % 10) : Int32) = nI (48 + v % 10) := nI_add 48 _
  rw [e1, e2, pk_char, pk_tn (by omega)]
  exact congrArg nI (Nat.mod_eq_of_lt (by omega))
theorem apn_m {M : fw_M} {x : wT} (h : WM M x) {v : Nat} (hv : v < 100) (hx : x.2 ≤ 38) : ∃ M1, F_X9_saysNumber_v2 M (nI v) = some M1 ∧ WM M1 (apn x v) ∧ fM M M1 := by
  unfold F_X9_saysNumber_v2
  by_cases hv10 : v < 10
  · rw [if_pos (show nI v ≤ 9 from nI_le (b := 9) (by omega) (by omega)), dg_ch hv, Nat.mod_eq_of_lt hv10]
    obtain ⟨A, a1, a2, a3⟩ := apc_m h (c := 48 + v) (by omega) (by omega)
    rw [a1, bx_s]
    refine ⟨A, rfl, ?_, a3⟩
    unfold apn
    rw [if_pos hv10]
    exact a2
  · have ed : nI v / 10 = nI (v / 10) := pk_div (d := 10) (by omega) (by omega) (by omega)
    obtain ⟨A, a1, a2, a3⟩ := apc_m h (c := 48 + v / 10) (by omega) (by omega)
    obtain ⟨B, b1, b2, b3⟩ := apc_m a2 (c := 48 + v % 10) (by omega) (by show x.2 + 1 < 40; omega)
    rw [if_neg (show ¬ nI v ≤ 9 from nI_ge (a := 9) (by omega) (by omega)), dg_ch hv, ed]
    unfold F_X9_saysNumber_v1
    rw [if_pos (show nI (v / 10) ≤ 9 from nI_le (b := 9) (by omega) (by omega)), dg_ch (show v / 10 < 100 by omega), Nat.mod_eq_of_lt (show v / 10 < 10 by omega), a1, bx_s, bx_s, b1, bx_s]
    refine ⟨B, rfl, ?_, a3.t b3⟩
    unfold apn
    rw [if_neg hv10]
    exact b2
