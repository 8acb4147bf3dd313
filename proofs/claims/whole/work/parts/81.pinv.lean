/-! the picture: s is the model's row of numbers; what the class's state at cell b holds of it; what a sound picture is -/
def sv (s : Nat → Int32) (j : Nat) : Nat := (s j).toNatClampNeg
theorem sv_of {s : Nat → Int32} {j k : Nat} (h : s j = nI k) (hk : k < 2 ^ 31) : sv s j = k := by
  unfold sv
  rw [h, nI_clamp hk]
theorem sv_cong {s s1 : Nat → Int32} {j : Nat} (h : s1 j = s j) : sv s1 j = sv s j := by
  unfold sv
  rw [h]
/-- the set of stops of a line -/
def lset (s : Nat → Int32) (l : Nat) : Nat := bs (fun p => sv s (16 + 7 * l + 1 + p)) (sv s (16 + 7 * l))
def Rn (M : fw_M) (b : Nat) (s : Nat → Int32) : Prop := M (b + 1) 0 = s 0 ∧ M (b + 1) 1 = s 1 ∧ M (b + 11) 0 = s 2 ∧ M (b + 15) 0 = s 3 ∧ M (b + 22) 0 = s 4 ∧ M b 4 = s 5
def Rz (M : fw_M) (b : Nat) (s : Nat → Int32) : Prop := ∀ j, j < 10 → M (b + 2) j = s (6 + j)
def Rl (M : fw_M) (b : Nat) (s : Nat → Int32) : Prop := ∀ l, l < 5 → M (b + 3) l = s (16 + 7 * l) ∧ M (b + 10) l = nI (lset s l)
def Rs (M : fw_M) (b : Nat) (s : Nat → Int32) : Prop := ∀ l p, l < 5 → p < 6 → M (b + 5 + l) p = s (16 + 7 * l + 1 + p)
def Rt (M : fw_M) (b : Nat) (s : Nat → Int32) : Prop := ∀ t, t < 6 → M (b + 12) t = s (51 + 3 * t) ∧ M (b + 13) t = s (51 + 3 * t + 1)
def Ru (M : fw_M) (b : Nat) (s : Nat → Int32) : Prop := ∀ t, t < sv s 2 → M (b + 14) t = if s (51 + 3 * t + 2) = nI 1 then mI else nI 1
def Rp (M : fw_M) (b : Nat) (s : Nat → Int32) : Prop := ∀ p, p < 8 → M (b + 16) p = s (69 + 6 * p) ∧ M (b + 17) p = s (69 + 6 * p + 1) ∧ M (b + 19) p = s (69 + 6 * p + 2) ∧ M (b + 18) p = s (69 + 6 * p + 3) ∧ M (b + 20) p = s (69 + 6 * p + 4) ∧ M (b + 21) p = s (69 + 6 * p + 5)
def Rq (M : fw_M) (b : Nat) (s : Nat → Int32) : Prop := ∀ q, q < 6 → M (b + 23) q = s (117 + 2 * q) ∧ M (b + 24) q = s (117 + 2 * q + 1)
def R (M : fw_M) (b : Nat) (s : Nat → Int32) : Prop := Rn M b s ∧ Rz M b s ∧ Rl M b s ∧ Rs M b s ∧ Rt M b s ∧ Ru M b s ∧ Rp M b s ∧ Rq M b s
theorem R.cong {M M1 : fw_M} {b : Nat} {s : Nat → Int32} (h : R M b s) (hk : ∀ k, b ≤ k → k < b + 32 → M1 k = M k) : R M1 b s := by
  obtain ⟨h1, h2, h3, h4, h5, h6, h7, h8⟩ := h
  refine ⟨?_, ?_, ?_, ?_, ?_, ?_, ?_, ?_⟩
  · unfold Rn at *
    rw [hk (b + 1) (by omega) (by omega), hk (b + 11) (by omega) (by omega), hk (b + 15) (by omega) (by omega), hk (b + 22) (by omega) (by omega), hk b (by omega) (by omega)]
    exact h1
  · intro j hj
    rw [hk (b + 2) (by omega) (by omega)]
    exact h2 j hj
  · intro l hl
    rw [hk (b + 3) (by omega) (by omega), hk (b + 10) (by omega) (by omega)]
    exact h3 l hl
  · intro l p hl hp
    rw [hk (b + 5 + l) (by omega) (by omega)]
    exact h4 l p hl hp
  · intro t ht
    rw [hk (b + 12) (by omega) (by omega), hk (b + 13) (by omega) (by omega)]
    exact h5 t ht
  · intro t ht
    rw [hk (b + 14) (by omega) (by omega)]
    exact h6 t ht
  · intro p hp
    rw [hk (b + 16) (by omega) (by omega), hk (b + 17) (by omega) (by omega), hk (b + 18) (by omega) (by omega), hk (b + 19) (by omega) (by omega), hk (b + 20) (by omega) (by omega), hk (b + 21) (by omega) (by omega)]
    exact h7 p hp
  · intro q hq
    rw [hk (b + 23) (by omega) (by omega), hk (b + 24) (by omega) (by omega)]
    exact h8 q hq
/-- what the state at b1 holds comes to lie at b -/
theorem R.copy {M M1 : fw_M} {b b1 : Nat} {s : Nat → Int32} (h : R M b1 s) (h4 : M1 b 4 = M b1 4) (hk : ∀ i j, 1 ≤ i → i < 25 → i ≠ 4 → (i = 1 → j < 2) → (i = 11 ∨ i = 15 ∨ i = 22 → j < 1) → (i = 2 → j < 10) → (i = 3 → j < 5) → (i = 10 → j < 5) → (5 ≤ i ∧ i < 10 → j < 6) → (12 ≤ i ∧ i < 15 → j < 6) → (16 ≤ i ∧ i < 22 → j < 8) → (23 ≤ i → j < 6) → M1 (b + i) j = M (b1 + i) j) (ht : sv s 2 ≤ 6) : R M1 b s := by
  obtain ⟨⟨a0, a1, a2, a3, a5, a6⟩, h2, h3, h4s, h5, h6, h7, h8⟩ := h
  refine ⟨⟨?_, ?_, ?_, ?_, ?_, ?_⟩, ?_, ?_, ?_, ?_, ?_, ?_, ?_⟩
  · rw [hk 1 0 (by omega) (by omega) (by omega) (by omega) (by omega) (by omega) (by omega) (by omega) (by omega) (by omega) (by omega) (by omega)]; exact a0
  · rw [hk 1 1 (by omega) (by omega) (by omega) (by omega) (by omega) (by omega) (by omega) (by omega) (by omega) (by omega) (by omega) (by omega)]; exact a1
  · rw [hk 11 0 (by omega) (by omega) (by omega) (by omega) (by omega) (by omega) (by omega) (by omega) (by omega) (by omega) (by omega) (by omega)]; exact a2
  · rw [hk 15 0 (by omega) (by omega) (by omega) (by omega) (by omega) (by omega) (by omega) (by omega) (by omega) (by omega) (by omega) (by omega)]; exact a3
  · rw [hk 22 0 (by omega) (by omega) (by omega) (by omega) (by omega) (by omega) (by omega) (by omega) (by omega) (by omega) (by omega) (by omega)]; exact a5
  · rw [h4]; exact a6
  · intro j hj
    rw [hk 2 j (by omega) (by omega) (by omega) (by omega) (by omega) (by omega) (by omega) (by omega) (by omega) (by omega) (by omega) (by omega)]
    exact h2 j hj
  · intro l hl
    rw [hk 3 l (by omega) (by omega) (by omega) (by omega) (by omega) (by omega) (by omega) (by omega) (by omega) (by omega) (by omega) (by omega), hk 10 l (by omega) (by omega) (by omega) (by omega) (by omega) (by omega) (by omega) (by omega) (by omega) (by omega) (by omega) (by omega)]
    exact h3 l hl
  · intro l p hl hp
    rw [Nat.add_assoc b 5 l, hk (5 + l) p (by omega) (by omega) (by omega) (by omega) (by omega) (by omega) (by omega) (by omega) (by omega) (by omega) (by omega) (by omega), ← Nat.add_assoc b1 5 l]
    exact h4s l p hl hp
  · intro t ht2
    rw [hk 12 t (by omega) (by omega) (by omega) (by omega) (by omega) (by omega) (by omega) (by omega) (by omega) (by omega) (by omega) (by omega), hk 13 t (by omega) (by omega) (by omega) (by omega) (by omega) (by omega) (by omega) (by omega) (by omega) (by omega) (by omega) (by omega)]
    exact h5 t ht2
  · intro t ht2
    rw [hk 14 t (by omega) (by omega) (by omega) (by omega) (by omega) (by omega) (by omega) (by omega) (by omega) (by omega) (by omega) (by omega)]
    exact h6 t ht2
  · intro p hp
    rw [hk 16 p (by omega) (by omega) (by omega) (by omega) (by omega) (by omega) (by omega) (by omega) (by omega) (by omega) (by omega) (by omega), hk 17 p (by omega) (by omega) (by omega) (by omega) (by omega) (by omega) (by omega) (by omega) (by omega) (by omega) (by omega) (by omega), hk 18 p (by omega) (by omega) (by omega) (by omega) (by omega) (by omega) (by omega) (by omega) (by omega) (by omega) (by omega) (by omega), hk 19 p (by omega) (by omega) (by omega) (by omega) (by omega) (by omega) (by omega) (by omega) (by omega) (by omega) (by omega) (by omega), hk 20 p (by omega) (by omega) (by omega) (by omega) (by omega) (by omega) (by omega) (by omega) (by omega) (by omega) (by omega) (by omega), hk 21 p (by omega) (by omega) (by omega) (by omega) (by omega) (by omega) (by omega) (by omega) (by omega) (by omega) (by omega) (by omega)]
    exact h7 p hp
  · intro q hq
    rw [hk 23 q (by omega) (by omega) (by omega) (by omega) (by omega) (by omega) (by omega) (by omega) (by omega) (by omega) (by omega) (by omega), hk 24 q (by omega) (by omega) (by omega) (by omega) (by omega) (by omega) (by omega) (by omega) (by omega) (by omega) (by omega) (by omega)]
    exact h8 q hq
/-! a sound picture -/
def okc (s : Nat → Int32) : Prop := (s 0 = nI (sv s 0) ∧ sv s 0 ≤ 10) ∧ (s 1 = nI (sv s 1) ∧ sv s 1 ≤ 5) ∧ (s 2 = nI (sv s 2) ∧ sv s 2 ≤ 6) ∧ (s 3 = nI (sv s 3) ∧ sv s 3 ≤ 8) ∧ (s 4 = nI (sv s 4) ∧ sv s 4 ≤ 6)
def okz (s : Nat → Int32) : Prop := ∀ j, j < 10 → s (6 + j) = nI (sv s (6 + j)) ∧ sv s (6 + j) < 4
def okl (s : Nat → Int32) : Prop := ∀ l, l < 5 → s (16 + 7 * l) = nI (sv s (16 + 7 * l)) ∧ sv s (16 + 7 * l) ≤ 6 ∧ (l < sv s 1 → 2 ≤ sv s (16 + 7 * l)) ∧ (sv s 1 ≤ l → sv s (16 + 7 * l) = 0)
def oks (s : Nat → Int32) : Prop := ∀ l p, l < 5 → p < sv s (16 + 7 * l) → s (16 + 7 * l + 1 + p) = nI (sv s (16 + 7 * l + 1 + p)) ∧ sv s (16 + 7 * l + 1 + p) < sv s 0
def okd (s : Nat → Int32) : Prop := ∀ l p q, l < 5 → p < q → q < sv s (16 + 7 * l) → sv s (16 + 7 * l + 1 + p) ≠ sv s (16 + 7 * l + 1 + q)
def okt (s : Nat → Int32) : Prop := ∀ t, t < sv s 2 → s (51 + 3 * t) = nI (sv s (51 + 3 * t)) ∧ sv s (51 + 3 * t) < sv s 1 ∧ s (51 + 3 * t + 1) = nI (sv s (51 + 3 * t + 1)) ∧ sv s (51 + 3 * t + 1) < sv s (16 + 7 * sv s (51 + 3 * t)) ∧ ((s (51 + 3 * t + 2) = nI 0 ∧ sv s (51 + 3 * t + 1) + 1 < sv s (16 + 7 * sv s (51 + 3 * t))) ∨ (s (51 + 3 * t + 2) = nI 1 ∧ 1 ≤ sv s (51 + 3 * t + 1)))
def okp (s : Nat → Int32) : Prop := ∀ p, p < sv s 3 → ((s (69 + 6 * p + 1) = mI ∧ s (69 + 6 * p) = nI (sv s (69 + 6 * p)) ∧ sv s (69 + 6 * p) < sv s 0) ∨ (s (69 + 6 * p + 1) = nI (sv s (69 + 6 * p + 1)) ∧ sv s (69 + 6 * p + 1) < sv s 2)) ∧ (s (69 + 6 * p + 2) = nI (sv s (69 + 6 * p + 2)) ∧ sv s (69 + 6 * p + 2) < 16) ∧ (s (69 + 6 * p + 3) = nI (sv s (69 + 6 * p + 3)) ∧ sv s (69 + 6 * p + 3) ≤ 20) ∧ (s (69 + 6 * p + 4) = mI ∨ (s (69 + 6 * p + 4) = nI (sv s (69 + 6 * p + 4)) ∧ sv s (69 + 6 * p + 4) < 5))
def okq (s : Nat → Int32) : Prop := ∀ q, q < sv s 4 → (s (117 + 2 * q + 1) = nI (sv s (117 + 2 * q + 1)) ∧ sv s (117 + 2 * q + 1) < 256) ∧ (s (117 + 2 * q) = mI ∨ (s (117 + 2 * q) = nI (sv s (117 + 2 * q)) ∧ sv s (117 + 2 * q) < sv s 3 ∧ (sv s (117 + 2 * q + 1)).testBit (sv s (117 + 2 * q)) = true))
def ok (s : Nat → Int32) : Prop := okc s ∧ okz s ∧ okl s ∧ oks s ∧ okd s ∧ okt s ∧ okp s ∧ okq s
theorem lset_lt {s : Nat → Int32} (h : ok s) {l : Nat} (hl : l < 5) : lset s l < 1024 := by
  obtain ⟨⟨h0, -⟩, -, -, h4, -⟩ := h
  exact bs_lt (m := 10) (fun k hk => Nat.lt_of_lt_of_le (h4 l k hl hk).2 h0.2)
/-! the model's row -/
def Sm (M : fw_M) (s : Nat → Int32) : Prop := ∀ j, j < 129 → M 379 j = s j
/-! the rows of states before -/
def Hc (M : fw_M) (hist : Nat → Nat → Int32) (nh : Nat) : Prop := M 353 2 = nI nh ∧ ∃ o, o < 8 ∧ M 353 1 = nI o ∧ ∀ i, i < nh → R M (96 + 32 * ((o + i) % 8)) (hist i)
def Hm (M : fw_M) (hist : Nat → Nat → Int32) (nh : Nat) : Prop := M 378 5 = nI nh ∧ ∀ i j, i < nh → j < 129 → M 382 (129 * i + j) = hist i j
def Hi (M : fw_M) : Prop := ∃ hist nh, nh ≤ 8 ∧ Hc M hist nh ∧ Hm M hist nh ∧ ∀ i, i < nh → ok (hist i)
def Sv (M : fw_M) : Prop := (M 352 7 = nI 0 ∧ M 378 3 = nI 0) ∨ (M 352 7 = nI 1 ∧ M 378 3 = nI 1 ∧ ∃ s, R M 64 s ∧ (∀ j, j < 129 → M 381 j = s j) ∧ ok s)
def Tx (M : fw_M) : Prop := ∃ n, n ≤ 60 ∧ M 360 0 = nI n ∧ M 378 10 = nI n ∧ ∀ j, j < n → ∃ c, 32 ≤ c ∧ c ≤ 126 ∧ M 361 j = nI c ∧ M 384 j = nI c
def Er (M : fw_M) : Prop := M 352 8 = M 378 13 ∧ M 352 9 = M 378 14 ∧ (M 352 8 = mI ∨ ∃ k, k ≤ 60 ∧ M 352 8 = nI k) ∧ (M 352 9 = mI ∨ ∃ k, k ≤ 60 ∧ M 352 9 = nI k)
def Wr (M : fw_M) : Prop := M 376 1 = nI 0 ∧ 16 ≤ fw_cap M ∧ fw_cap M ≤ 100 ∧ (∀ j, j < fw_cap M → fits .byte (.int (M 377 j)) = true) ∧ ∃ n, n ≤ fw_cap M ∧ n ≤ 40 ∧ M 376 3 = nI n ∧ M 378 8 = nI n ∧ ∀ j, j < n → ∃ c, c < 128 ∧ M 377 j = nI c ∧ M 383 j = nI c
def Inv (M : fw_M) : Prop := (∃ s, ok s ∧ R M 0 s ∧ Sm M s) ∧ Sv M ∧ Hi M ∧ Tx M ∧ Er M ∧ Wr M
/-- what a question may change -/
def sm (M M1 : fw_M) : Prop := (∀ k, k < 355 → M1 k = M k) ∧ (∀ k, 360 ≤ k → k < 378 → M1 k = M k) ∧ (∀ j, j ≠ 6 → M1 378 j = M 378 j) ∧ (∀ j, j < 129 → M1 379 j = M 379 j) ∧ (∀ k, 381 ≤ k → k < 386 → M1 k = M k)
theorem Sv.cong {M M1 : fw_M} (h : Sv M) (h1 : M1 352 7 = M 352 7) (h2 : M1 378 3 = M 378 3) (h3 : ∀ k, 64 ≤ k → k < 96 → M1 k = M k) (h4 : ∀ j, j < 129 → M1 381 j = M 381 j) : Sv M1 := by
  unfold Sv at *
  rw [h1, h2]
  rcases h with h | ⟨a, b, s, hR, hs, hk⟩
  · exact Or.inl h
  · exact Or.inr ⟨a, b, s, hR.cong (fun k hk1 hk2 => h3 k hk1 (by omega)), fun j hj => (h4 j hj).trans (hs j hj), hk⟩
theorem Hc.cong {M M1 : fw_M} {hist : Nat → Nat → Int32} {nh : Nat} (h : Hc M hist nh) (h1 : M1 353 = M 353) (h3 : ∀ k, 96 ≤ k → k < 352 → M1 k = M k) : Hc M1 hist nh := by
  unfold Hc at *
  rw [h1]
  obtain ⟨a, o, ho, b, hR⟩ := h
  exact ⟨a, o, ho, b, fun i hi => (hR i hi).cong (fun k hk1 hk2 => h3 k (by omega) (by omega))⟩
theorem Hm.cong {M M1 : fw_M} {hist : Nat → Nat → Int32} {nh : Nat} (h : Hm M hist nh) (h1 : M1 378 5 = M 378 5) (h3 : M1 382 = M 382) : Hm M1 hist nh := by
  unfold Hm at *
  rw [h1, h3]
  exact h
theorem Hi.cong {M M1 : fw_M} (h : Hi M) (h1 : M1 353 = M 353) (h3 : ∀ k, 96 ≤ k → k < 352 → M1 k = M k) (h4 : M1 378 5 = M 378 5) (h5 : M1 382 = M 382) : Hi M1 := by
  obtain ⟨hist, nh, hn, a, b, c⟩ := h
  exact ⟨hist, nh, hn, a.cong h1 h3, b.cong h4 h5, c⟩
theorem Tx.cong {M M1 : fw_M} (h : Tx M) (h1 : M1 360 0 = M 360 0) (h2 : M1 361 = M 361) (h3 : M1 378 10 = M 378 10) (h4 : M1 384 = M 384) : Tx M1 := by
  unfold Tx at *
  rw [h1, h2, h3, h4]
  exact h
theorem Er.cong {M M1 : fw_M} (h : Er M) (h1 : M1 352 8 = M 352 8) (h2 : M1 352 9 = M 352 9) (h3 : M1 378 13 = M 378 13) (h4 : M1 378 14 = M 378 14) : Er M1 := by
  unfold Er at *
  rw [h1, h2, h3, h4]
  exact h
theorem Wr.cong {M M1 : fw_M} (h : Wr M) (h1 : M1 376 = M 376) (h2 : M1 377 = M 377) (h3 : M1 378 8 = M 378 8) (h4 : M1 383 = M 383) : Wr M1 := by
  have hc : fw_cap M1 = fw_cap M := by unfold fw_cap; rw [h2]
  unfold Wr at *
  rw [hc, h1, h2, h3, h4]
  exact h
theorem Inv.sm {M M1 : fw_M} (h : Inv M) (q : sm M M1) : Inv M1 := by
  obtain ⟨⟨s, hk, hR, hS⟩, h2, h3, h4, h5, h6⟩ := h
  obtain ⟨q1, q2, q3, q4, q5⟩ := q
  refine ⟨⟨s, hk, hR.cong (fun k _ h => q1 k (by omega)), fun j hj => (q4 j hj).trans (hS j hj)⟩, ?_, ?_, ?_, ?_, ?_⟩
  · exact h2.cong (by rw [q1 352 (by omega)]) (q3 3 (by omega)) (fun k _ h => q1 k (by omega)) (fun j _ => by rw [q5 381 (by omega) (by omega)])
  · exact h3.cong (q1 353 (by omega)) (fun k _ h => q1 k (by omega)) (q3 5 (by omega)) (q5 382 (by omega) (by omega))
  · exact h4.cong (by rw [q2 360 (by omega) (by omega)]) (q2 361 (by omega) (by omega)) (q3 10 (by omega)) (q5 384 (by omega) (by omega))
  · exact h5.cong (by rw [q1 352 (by omega)]) (by rw [q1 352 (by omega)]) (q3 13 (by omega)) (q3 14 (by omega))
  · exact h6.cong (q2 376 (by omega) (by omega)) (q2 377 (by omega) (by omega)) (q3 8 (by omega)) (q5 383 (by omega) (by omega))
