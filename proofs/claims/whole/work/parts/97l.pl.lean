/-! the class reads a text of commands: its commands -/
section PZ
variable {T : Nat → Nat} {n : Nat}
theorem CT.c {M M1 : fw_M} (h : CT M T n) (h1 : M1 360 0 = M 360 0) (h2 : M1 361 = M 361) : CT M1 T n := by
  unfold CT at *
  rw [h1, h2]
  exact h
theorem tk_t {M : fw_M} (h : CT M T n) {p v : Nat} (hp : M 360 2 = nI p) (hv : 0 < v ∧ v < 128) (e : ch T n p = v) : F_X0_take M (nI v) = some (1, fw_up M 360 2 (nI (p + 1))) := by
  have hn := h.2.1
  have hpn := ch_lt (T := T) (n := n) (i := p) (by omega)
  unfold F_X0_take
  rw [h.1, hp, if_neg (nI_ge hpn (by omega)), if_pos (nI_in (by omega) (by omega)), (ch_s h hpn).1, e, if_pos rfl, lx_s, nI_1]
theorem tk_f {M : fw_M} (h : CT M T n) {p v : Nat} (hp : M 360 2 = nI p) (hpn : p ≤ n) (hv : 0 < v ∧ v < 128) (e : ch T n p ≠ v) : F_X0_take M (nI v) = some (0, M) := by
  have hn := h.2.1
  unfold F_X0_take
  rw [h.1, hp]
  by_cases c : p < n
  · have := ch_s h c
    rw [if_neg (nI_ge c (by omega)), if_pos (nI_in (by omega) (by omega)), this.1, if_neg (fun x => e (nI_inj (by omega) (by omega) x))]
  · rw [if_pos (nI_le (by omega) (by omega))]
theorem td_t {M : fw_M} (h : CT M T n) {p c j : Nat} (hp : M 360 2 = nI p) (hc : M 360 3 = nI c) (hc2 : c < 12) (hj : j < 3) (e : 48 ≤ ch T n p ∧ ch T n p ≤ 57) : F_X0_takeDigit M (nI j) = some (1, fw_up (fw_up M (364 + c) j (nI (ch T n p - 48))) 360 2 (nI (p + 1))) := by
  have hn := h.2.1
  have hpn := ch_lt (T := T) (n := n) (i := p) (by omega)
  unfold F_X0_takeDigit
  rw [h.1, hp, if_neg (nI_ge hpn (by omega)), if_pos (nI_in (by omega) (by omega)), (ch_s h hpn).1, if_neg (show ¬ nI (ch T n p) < 48 from nI_nlt (b := 48) (by omega) (by omega)), if_pos (show nI (ch T n p) ≤ 57 from nI_le (b := 57) (by omega) (by omega)), hc, if_pos (nI_in (by omega) (by omega)), if_pos (nI_in (by omega) (by omega)), lx_s, lx_s, nI_clamp (by omega), show nI (ch T n p) - 48 = nI (ch T n p - 48) from pk_sub (b := 48) (by omega)]
  unfold fw_wi
  rw [nI_clamp (show j < 2 ^ 31 by omega), up_n1 (show 360 ≠ 364 + c by omega), hp, nI_1]
theorem td_f {M : fw_M} (h : CT M T n) {p j : Nat} {c : Nat} (hp : M 360 2 = nI p) (hpn : p ≤ n) (hc : M 360 3 = nI c) (hc2 : c < 12) (hj : j < 3) (e : ¬ (48 ≤ ch T n p ∧ ch T n p ≤ 57)) : F_X0_takeDigit M (nI j) = some (0, M) := by
  have hn := h.2.1
  unfold F_X0_takeDigit
  rw [h.1, hp]
  by_cases c1 : p < n
  · have := ch_s h c1
    rw [if_neg (nI_ge c1 (by omega)), if_pos (nI_in (by omega) (by omega)), this.1]
    by_cases c2 : ch T n p < 48
    · rw [if_pos (show nI (ch T n p) < 48 from nI_lt (b := 48) c2 (by omega))]
    · rw [if_neg (show ¬ nI (ch T n p) < 48 from nI_nlt (b := 48) (by omega) (by omega)), if_neg (show ¬ nI (ch T n p) ≤ 57 from nI_ge (a := 57) (by omega) (by omega))]
  · rw [if_pos (nI_le (by omega) (by omega))]
theorem dl_c {m c : Nat} (hm : m < 11) (hc2 : c < 12) {base : Nat} : ∀ r j f q M, j + r = dcount m → r < f → CT M T n → M 360 2 = nI q → q ≤ n → M 360 3 = nI c → q = base + 2 * j → (∀ i, i < j → M (364 + c) i = nI (ch T n (base + 2 * i + 1) - 48)) → ∃ M1, F_X0_takeCommand_24 f (nI m) (nI j) M = some (if (dg T n r q).1 = true then 1 else 0, M1) ∧ (∀ k, k ≠ 360 → k ≠ 364 + c → M1 k = M k) ∧ M1 360 0 = M 360 0 ∧ M1 360 3 = nI c ∧ M1 360 2 = nI (dg T n r q).2 ∧ ((dg T n r q).1 = true → ∀ i, i < dcount m → M1 (364 + c) i = nI (ch T n (base + 2 * i + 1) - 48)) := by
  obtain ⟨d1, d2⟩ := dc_ok m hm
  intro r
  induction r with
  | zero =>
    intro j f q M h1 h2 hT hq hqn h3 hb hd
    obtain ⟨f, rfl⟩ : ∃ x, f = x + 1 := ⟨f - 1, by omega⟩
    rw [F_X0_takeCommand_24, if_pos (nI_in hm (by omega)), d1, if_pos (nI_le (by omega) (by omega)), dg]
    exact ⟨M, rfl, fun _ _ _ => rfl, rfl, h3, hq, fun _ i hi => hd i (by omega)⟩
  | succ r ih =>
    intro j f q M h1 h2 hT hq hqn h3 hb hd
    obtain ⟨f, rfl⟩ : ∃ x, f = x + 1 := ⟨f - 1, by omega⟩
    have hn := hT.2.1
    rw [F_X0_takeCommand_24, if_pos (nI_in hm (by omega)), d1, if_neg (nI_ge (by omega) (by omega)), dg]
    by_cases e1 : ch T n q = 32
    · have hqn := ch_lt (T := T) (n := n) (i := q) (by omega)
      obtain ⟨A, hA⟩ : ∃ A, A = fw_up M 360 2 (nI (q + 1)) := ⟨_, rfl⟩
      have a1 : ∀ k, k ≠ 360 → A k = M k := fun k x => by rw [hA, up_n1 x]
      have a2 : ∀ j, j ≠ 2 → A 360 j = M 360 j := fun k x => by rw [hA, up_n2 x]
      have a3 : A 360 2 = nI (q + 1) := by rw [hA, up_e rfl rfl]
      have hTA : CT A T n := hT.c (a2 0 (by omega)) (a1 361 (by omega))
      have e0 : F_X0_take M 32 = some (1, A) := by rw [hA]; exact tk_t hT (v := 32) hq (by omega) e1
      rw [e0, bp_s, if_neg (show ¬ (1 : Int32) = 0 by decide), if_pos e1]
      by_cases e2 : 48 ≤ ch T n (q + 1) ∧ ch T n (q + 1) ≤ 57
      · have hqn := ch_lt (T := T) (n := n) (i := q + 1) (by omega)
        obtain ⟨B, hB⟩ : ∃ B, B = fw_up (fw_up A (364 + c) j (nI (ch T n (q + 1) - 48))) 360 2 (nI (q + 1 + 1)) := ⟨_, rfl⟩
        have b1 : ∀ k, k ≠ 360 → k ≠ 364 + c → B k = M k := fun k x y => by rw [hB, up_n1 x, up_n1 y, a1 k x]
        have b2 : ∀ j, j ≠ 2 → B 360 j = M 360 j := fun k x => by rw [hB, up_n2 x, up_n1 (by omega), a2 k x]
        have b3 : B 360 2 = nI (q + 2) := by rw [hB, up_e rfl rfl]
        have b4 : ∀ i, i ≠ j → B (364 + c) i = M (364 + c) i := fun i x => by rw [hB, up_n1 (by omega), up_n2 x, a1 _ (by omega)]
        have b5 : B (364 + c) j = nI (ch T n (q + 1) - 48) := by rw [hB, up_n1 (by omega), up_e rfl rfl]
        have e3 := td_t hTA a3 ((a2 3 (by omega)).trans h3) hc2 (j := j) (by omega) e2
        rw [e3, ← hB, bp_s, if_pos (show ¬ (1 : Int32) = 0 by decide), if_pos e2, nI_1]
        obtain ⟨D, g1, g2, g3, g4, g5, g6⟩ := ih (j + 1) f (q + 2) B (by omega) (by omega) (hT.c (b2 0 (by omega)) (b1 361 (by omega) (by omega))) b3 (by omega) ((b2 3 (by omega)).trans h3) (by omega) (fun i hi => by
          by_cases e : i = j
          · rw [e, b5, hb]
          · rw [b4 i e, hd i (by omega)])
        exact ⟨D, g1, fun k x y => by rw [g2 k x y, b1 k x y], by rw [g3, b2 0 (by omega)], g4, g5, g6⟩
      · rw [td_f hTA a3 (by omega) ((a2 3 (by omega)).trans h3) hc2 (by omega) e2, bp_s, if_neg (show ¬ ¬ (0 : Int32) = 0 by decide), if_neg e2]
        exact ⟨A, rfl, fun k x y => a1 k x, a2 0 (by omega), (a2 3 (by omega)).trans h3, a3, fun e => absurd e Bool.false_ne_true⟩
    · have e0 : F_X0_take M 32 = some (0, M) := tk_f hT hq hqn (v := 32) (by omega) e1
      rw [e0, bp_s, if_pos rfl, if_neg e1]
      exact ⟨M, rfl, fun _ _ _ => rfl, rfl, h3, hq, fun e => absurd e Bool.false_ne_true⟩
theorem tc_c {M : fw_M} (hT : CT M T n) {p c : Nat} (hp : M 360 2 = nI p) (hpn : p ≤ n) (h3 : M 360 3 = nI c) (hc2 : c < 12) : ∃ M1, F_X0_takeCommand M = some (if (rc T n p).1 = true then 1 else 0, M1) ∧ (∀ k, k ≠ 360 → k ≠ 362 → k ≠ 364 + c → M1 k = M k) ∧ M1 360 0 = M 360 0 ∧ M1 360 3 = nI c ∧ M1 360 2 = nI (rc T n p).2 ∧ (∀ i, i ≠ c → M1 362 i = M 362 i) ∧ ((rc T n p).1 = true → M1 362 c = nI (mm T n p) ∧ ∀ i, i < dcount (mm T n p) → M1 (364 + c) i = nI (ch T n (p + wl (mm T n p) + 2 * i + 1) - 48)) := by
  have hn := hT.2.1
  have hm := mm_lt (T := T) (n := n) (p := p)
  obtain ⟨A, hA⟩ : ∃ A, A = fw_up M 360 2 (nI (p + ml T n p (mm T n p))) := ⟨_, rfl⟩
  have a1 : ∀ k, k ≠ 360 → A k = M k := fun k x => by rw [hA, up_n1 x]
  have a2 : ∀ j, j ≠ 2 → A 360 j = M 360 j := fun k x => by rw [hA, up_n2 x]
  have a3 : A 360 2 = nI (p + ml T n p (mm T n p)) := by rw [hA, up_e rfl rfl]
  have e0 : F_X0_takeWord M = some (kd T n p, A) := by
    rw [hA]
    exact tw_c hT hp hpn 11 0 64 0 mI (by omega) (by omega) (Or.inl ⟨by omega, by omega, fun _ => rfl⟩)
  have hl := ml_n (T := T) (n := n) (k := mm T n p) (i := p) (by omega) hpn
  unfold F_X0_takeCommand rc
  rw [e0, bp_s]
  unfold kd
  by_cases e : ml T n p (mm T n p) = wl (mm T n p)
  · rw [if_pos e, if_pos e, if_pos (show ¬ nI (mm T n p) = -1 from fun x => (pm_1 (show mm T n p < 2 ^ 31 by omega)) ▸ x), a2 3 (by omega), h3, if_pos (nI_in hc2 (by omega)), lx_s]
    unfold fw_wi
    rw [nI_clamp (by omega)]
    obtain ⟨B, hB⟩ : ∃ B, B = fw_up A 362 c (nI (mm T n p)) := ⟨_, rfl⟩
    rw [← hB]
    have b1 : ∀ k, k ≠ 362 → B k = A k := fun k x => by rw [hB, up_n1 x]
    obtain ⟨D, g1, g2, g3, g4, g5, g6⟩ := dl_c (T := T) (n := n) hm hc2 (base := p + wl (mm T n p)) (dcount (mm T n p)) 0 64 (p + wl (mm T n p)) B (by omega) (by have := (dc_ok _ hm).2; omega) (hT.c (by rw [b1 360 (by omega), a2 0 (by omega)]) (by rw [b1 361 (by omega), a1 361 (by omega)])) (by rw [b1 360 (by omega), a3, e]) (by omega) (by rw [b1 360 (by omega), a2 3 (by omega), h3]) rfl (fun i hi => absurd hi (Nat.not_lt_zero i))
    refine ⟨D, g1, fun k x y z => by rw [g2 k x z, b1 k y, a1 k x], by rw [g3, b1 360 (by omega), a2 0 (by omega)], g4, g5, fun i hi => ?_, fun hh => ⟨?_, g6 hh⟩⟩
    · rw [g2 362 (by omega) (by omega), hB, up_n2 hi, a1 362 (by omega)]
    · rw [g2 362 (by omega) (by omega), hB, up_e rfl rfl]
  · rw [if_neg e, if_neg e, if_neg (show ¬ ¬ mI = -1 from fun x => x rfl)]
    exact ⟨A, rfl, fun k x _ _ => a1 k x, a2 0 (by omega), (a2 3 (by omega)).trans h3, a3, fun i _ => by rw [a1 362 (by omega)], fun x => absurd x Bool.false_ne_true⟩
def KC (M : fw_M) (T : Nat → Nat) (n c : Nat) : Prop := ∀ i, i < c → M 362 i = nI (gd T n i) ∧ ∀ j, j < dcount (gd T n i) → M (364 + i) j = nI (ga T n i j)
theorem pc_c : ∀ r c f M, c + r = 12 → r < f → CT M T n → M 360 2 = nI (ps T n c) → ps T n c ≤ n → M 360 3 = nI c → KC M T n c → ∃ M1, F_X0_parse_10 f M = some (if (pr T n r c).1 = true then 1 else 0, M1) ∧ (∀ k, k < 360 ∨ k = 361 ∨ 376 ≤ k → M1 k = M k) ∧ M1 360 0 = M 360 0 ∧ M1 360 2 = nI (pr T n r c).2.1 ∧ (pr T n r c).2.1 ≤ n ∧ ((pr T n r c).1 = true → M1 360 3 = nI (pr T n r c).2.2 ∧ (pr T n r c).2.2 ≤ 12 ∧ KC M1 T n (pr T n r c).2.2) := by
  intro r
  induction r with
  | zero =>
    intro c f M h1 h2 hT hp hpn h3 hK
    obtain ⟨f, rfl⟩ : ∃ x, f = x + 1 := ⟨f - 1, by omega⟩
    rw [F_X0_parse_10, h3, if_pos (show (12 : Int32) ≤ nI c from nI_le (a := 12) (by omega) (by omega)), pr]
    exact ⟨M, rfl, fun _ _ => rfl, rfl, hp, hpn, fun e => absurd e Bool.false_ne_true⟩
  | succ r ih =>
    intro c f M h1 h2 hT hp hpn h3 hK
    obtain ⟨f, rfl⟩ : ∃ x, f = x + 1 := ⟨f - 1, by omega⟩
    have hn := hT.2.1
    obtain ⟨A, a1, a2, a3, a4, a5, a6, a7⟩ := tc_c hT hp hpn h3 (by omega)
    have hq := (rc_n (T := T) hpn).1
    rw [F_X0_parse_10, h3, if_neg (show ¬ (12 : Int32) ≤ nI c from nI_ge (b := 12) (by omega) (by omega)), a1, bp_s, pr]
    by_cases e : (rc T n (ps T n c)).1 = true
    · obtain ⟨a8, a9⟩ := a7 e
      rw [if_pos e, if_pos e, if_pos (show ¬ (1 : Int32) = 0 by decide), lx_s, a4, nI_1]
      obtain ⟨B, hB⟩ : ∃ B, B = fw_up A 360 3 (nI (c + 1)) := ⟨_, rfl⟩
      have b1 : ∀ k, k ≠ 360 → B k = A k := fun k x => by rw [hB, up_n1 x]
      have b2 : ∀ j, j ≠ 3 → B 360 j = A 360 j := fun j x => by rw [hB, up_n2 x]
      have b3 : B 360 3 = nI (c + 1) := by rw [hB, up_e rfl rfl]
      have hTB : CT B T n := hT.c (by rw [b2 0 (by omega), a3]) (by rw [b1 361 (by omega), a2 361 (by omega) (by omega) (by omega)])
      have hKB : KC B T n (c + 1) := by
        intro i hi
        by_cases ei : i = c
        · subst ei
          rw [b1 362 (by omega)]
          refine ⟨a8, fun j hj => ?_⟩
          rw [b1 _ (by omega)]
          exact a9 j hj
        · obtain ⟨k1, k2⟩ := hK i (by omega)
          rw [b1 362 (by omega), a6 i ei]
          refine ⟨k1, fun j hj => ?_⟩
          rw [b1 _ (by omega), a2 _ (by omega) (by omega) (by omega)]
          exact k2 j hj
      rw [← hB, b2 2 (by omega), a5, b2 0 (by omega), a3, hT.1]
      by_cases e1 : (rc T n (ps T n c)).2 = n
      · rw [if_neg (show ¬ ¬ nI (rc T n (ps T n c)).2 = nI n from fun x => x (by rw [e1])), if_pos e1]
        exact ⟨B, rfl, fun k x => by rw [b1 k (by omega), a2 k (by omega) (by omega) (by omega)], by rw [b2 0 (by omega), a3, hT.1], by rw [b2 2 (by omega), a5, e1], Nat.le_refl n, fun _ => ⟨b3, by show c + 1 ≤ 12; omega, hKB⟩⟩
      · rw [if_pos (fun x => e1 (nI_inj (by omega) (by omega) x)), if_neg e1]
        by_cases e2 : ch T n (rc T n (ps T n c)).2 = 59
        · have hlt := ch_lt (T := T) (n := n) (i := (rc T n (ps T n c)).2) (by omega)
          have e3 : F_X0_take B 59 = some (1, fw_up B 360 2 (nI ((rc T n (ps T n c)).2 + 1))) := tk_t hTB (v := 59) (by rw [b2 2 (by omega), a5]) (by omega) e2
          obtain ⟨D, hD⟩ : ∃ D, D = fw_up B 360 2 (nI ((rc T n (ps T n c)).2 + 1)) := ⟨_, rfl⟩
          have d1 : ∀ k, k ≠ 360 → D k = B k := fun k x => by rw [hD, up_n1 x]
          have d2 : ∀ j, j ≠ 2 → D 360 j = B 360 j := fun j x => by rw [hD, up_n2 x]
          rw [e3, bp_s, if_pos (show ¬ (1 : Int32) = 0 by decide), if_pos e2, ← hD]
          obtain ⟨E, g1, g2, g3, g4, g5, g6⟩ := ih (c + 1) f D (by omega) (by omega) (hTB.c (d2 0 (by omega)) (d1 361 (by omega))) (by rw [hD, up_e rfl rfl, ps]) (by rw [ps]; omega) (by rw [d2 3 (by omega), b3]) (fun i hi => by
            rw [d1 362 (by omega)]
            refine ⟨(hKB i hi).1, fun j hj => ?_⟩
            rw [d1 _ (by omega)]
            exact (hKB i hi).2 j hj)
          exact ⟨E, g1, fun k x => by rw [g2 k x, d1 k (by omega), b1 k (by omega), a2 k (by omega) (by omega) (by omega)], by rw [g3, d2 0 (by omega), b2 0 (by omega), a3, hT.1], g4, g5, g6⟩
        · have e3 : F_X0_take B 59 = some (0, B) := tk_f hTB (v := 59) (p := (rc T n (ps T n c)).2) (by rw [b2 2 (by omega), a5]) hq (by omega) e2
          rw [e3, bp_s, if_neg (show ¬ ¬ (0 : Int32) = 0 by decide), if_neg e2]
          exact ⟨B, rfl, fun k x => by rw [b1 k (by omega), a2 k (by omega) (by omega) (by omega)], by rw [b2 0 (by omega), a3, hT.1], by rw [b2 2 (by omega), a5], hq, fun x => absurd x Bool.false_ne_true⟩
    · rw [if_neg e, if_neg e, if_neg (show ¬ ¬ (0 : Int32) = 0 by decide)]
      exact ⟨A, rfl, fun k x => a2 k (by omega) (by omega) (by omega), a3, a5, hq, fun x => absurd x Bool.false_ne_true⟩
/-- the class has read -/
theorem rd_c {M : fw_M} (hT : CT M T n) : ∃ M1, F_X0_parse M = some (if (pr T n 12 0).1 = true then 1 else 0, M1) ∧ (∀ k, k < 360 ∨ k = 361 ∨ 376 ≤ k → M1 k = M k) ∧ M1 360 0 = M 360 0 ∧ M1 360 2 = nI (pr T n 12 0).2.1 ∧ (pr T n 12 0).2.1 ≤ n ∧ ((pr T n 12 0).1 = true → M1 360 3 = nI (pr T n 12 0).2.2 ∧ (pr T n 12 0).2.2 ≤ 12 ∧ KC M1 T n (pr T n 12 0).2.2) := by
  unfold F_X0_parse
  rw [lx_s, lx_s]
  obtain ⟨A, hA⟩ : ∃ A, A = fw_up (fw_up M 360 2 0) 360 3 0 := ⟨_, rfl⟩
  have a1 : ∀ k, k ≠ 360 → A k = M k := fun k x => by rw [hA, up_n1 x, up_n1 x]
  have a2 : A 360 0 = M 360 0 := by rw [hA, up_n2 (by omega), up_n2 (by omega)]
  rw [← hA]
  obtain ⟨E, g1, g2, g3, g4, g5, g6⟩ := pc_c (T := T) (n := n) 12 0 64 A (by omega) (by omega) (hT.c a2 (a1 361 (by omega))) (by rw [hA, up_n2 (by omega), up_e rfl rfl]; rfl) (Nat.zero_le n) (by rw [hA, up_e rfl rfl]; rfl) (fun i hi => absurd hi (Nat.not_lt_zero i))
  exact ⟨E, g1, fun k x => by rw [g2 k x, a1 k (by omega)], by rw [g3, a2], g4, g5, g6⟩
end PZ
