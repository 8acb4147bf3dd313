/-! the class's relaxation -/
def okr (A : Nat → Prop) (E : Nat → Nat → Prop) (B : Nat) (St : Nat → Int32) : Prop := ∀ v, v < 10 → St v = mI ∨ (St v = nI (sv St v) ∧ sv St v ≤ B ∧ lev A E (sv St v) v)
theorem okr.up {A : Nat → Prop} {E : Nat → Nat → Prop} {B B1 : Nat} {St : Nat → Int32} (h : okr A E B St) (hb : B ≤ B1) : okr A E B1 St := fun v hv => (h v hv).imp_right (fun q => ⟨q.1, Nat.le_trans q.2.1 hb, q.2.2⟩)
/-- v is settled at k -/
def stl (St : Nat → Int32) (v k : Nat) : Prop := St v = nI (sv St v) ∧ sv St v ≤ k
/-- nothing is farther than before -/
def nfr (St St1 : Nat → Int32) : Prop := ∀ v k, k < 2 ^ 31 → v < 10 → stl St v k → stl St1 v k
theorem nfr.refl {St : Nat → Int32} : nfr St St := fun _ _ _ _ h => h
theorem nfr.trans {St St1 St2 : Nat → Int32} (h : nfr St St1) (q : nfr St1 St2) : nfr St St2 := fun v k hk hv a => q v k hk hv (h v k hk hv a)
section RX
variable {s : Nat → Int32} {A : Nat → Prop}
theorem rx_1 {M : fw_M} {B u v : Nat} (hB : B < 2 ^ 20) (hu : u < 10) (hv : v < 10) (he : ed s 1 u v) (h : okr A (ed s 1) B (M 356)) : ∃ c M1, F_X5_relax M (nI u) (nI v) = some (nI c, M1) ∧ c < 2 ∧ okr A (ed s 1) (B + 1) (M1 356) ∧ nfr (M 356) (M1 356) ∧ (∀ k, k < 2 ^ 30 → stl (M 356) u k → stl (M1 356) v (k + 1)) ∧ (∀ k, k ≠ 356 → M1 k = M k) ∧ (c = 0 → M1 = M) := by
  have e1 : fw_ri M 356 (nI u) = M 356 u := by rw [fw_ri, nI_clamp (by omega)]
  have e2 : fw_ri M 356 (nI v) = M 356 v := by rw [fw_ri, nI_clamp (by omega)]
  have em : (-1 : Int32) = mI := rfl
  unfold F_X5_relax
  rw [if_pos (nI_in hu (by omega)), e1, e2, em]
  rcases h u hu with hum | ⟨hu1, hu2, hu3⟩
  · rw [hum, if_neg (fun q => q rfl)]
    refine ⟨0, M, rfl, by omega, h.up (by omega), nfr.refl, fun k hk2 hs => ?_, fun _ _ => rfl, fun _ => rfl⟩
    have := hs.1
    rw [hum, pm_2 (by have := hs.2; omega)] at this
    exact this.elim
  · have hup : okr A (ed s 1) (B + 1) (upd (M 356) v (nI (sv (M 356) u + 1))) := by
      intro x hx
      by_cases ex : x = v
      · subst ex
        right
        rw [sv_of pk_us (by omega)]
        exact ⟨pk_us, by omega, Or.inr ⟨u, hu3, he⟩⟩
      · rw [pk_un ex, sv_cong (pk_un ex)]
        exact h.up (by omega) x hx
    have hset : ∀ k, k < 2 ^ 30 → stl (M 356) u k → stl (upd (M 356) v (nI (sv (M 356) u + 1))) v (k + 1) := by
      intro k hk2 hs
      refine ⟨?_, ?_⟩
      · rw [sv_of pk_us (by omega)]; exact pk_us
      · rw [sv_of pk_us (by omega)]
        have := hs.2
        omega
    have ew : fw_wi M 356 (nI v) (nI (sv (M 356) u + 1)) 356 = upd (M 356) v (nI (sv (M 356) u + 1)) := by rw [fw_wi, nI_clamp (by omega), up_f]
    have ewn : ∀ k, k ≠ 356 → fw_wi M 356 (nI v) (nI (sv (M 356) u + 1)) k = M k := fun k hk2 => by rw [fw_wi, up_n1 hk2]
    rw [hu1, if_pos (fun q => by rw [pm_1 (by omega)] at q; exact q), if_pos (nI_in hv (by omega)), nI_1]
    rcases h v hv with hvm | ⟨hv1, hv2, hv3⟩
    · rw [hvm, if_pos rfl, lx_s]
      refine ⟨1, _, rfl, by omega, by rw [ew]; exact hup, ?_, by rw [ew]; exact hset, ewn, fun q => by omega⟩
      rw [ew]
      intro x k hk2 hx hs
      by_cases ex : x = v
      · subst ex
        have := hs.1
        rw [hvm, pm_2 (by have := hs.2; omega)] at this
        exact this.elim
      · unfold stl
        rw [pk_un ex, sv_cong (pk_un ex)]
        exact hs
    · rw [hv1, if_neg (fun q => by rw [pm_1 (by omega)] at q; exact q)]
      by_cases hlt : sv (M 356) u + 1 < sv (M 356) v
      · rw [if_pos (nI_lt hlt (by omega)), lx_s]
        refine ⟨1, _, rfl, by omega, by rw [ew]; exact hup, ?_, by rw [ew]; exact hset, ewn, fun q => by omega⟩
        rw [ew]
        intro x k hk2 hx hs
        by_cases ex : x = v
        · subst ex
          refine ⟨?_, ?_⟩
          · rw [sv_of pk_us (by omega)]; exact pk_us
          · rw [sv_of pk_us (by omega)]
            have := hs.2
            omega
        · unfold stl
          rw [pk_un ex, sv_cong (pk_un ex)]
          exact hs
      · rw [if_neg (nI_nlt (by omega) (by omega))]
        refine ⟨0, M, rfl, by omega, h.up (by omega), nfr.refl, fun k hk2 hs => ⟨hv1, ?_⟩, fun _ _ => rfl, fun _ => rfl⟩
        have := hs.2
        omega
theorem rx_15 (hk : ok s) {l : Nat} (hl : l < sv s 1) {k4 : Int32 → Int32 → fw_M → Option (Int32 × fw_M)} : ∀ (r n p c B : Nat) (M : fw_M), p + r = sv s (16 + 7 * l) → 1 ≤ p → r < n → c < 2 → B + 2 * r < 2 ^ 20 → R M 0 s → okr A (ed s 1) B (M 356) → ∃ c1 M1, F_X5_relaxAll_15 1 k4 n (nI c) (nI l) (nI p) M = k4 (nI c1) (nI (l + 1)) M1 ∧ c1 < 2 ∧ okr A (ed s 1) (B + 2 * r) (M1 356) ∧ nfr (M 356) (M1 356) ∧ (∀ i k, p ≤ i → i < sv s (16 + 7 * l) → k < 2 ^ 30 → (stl (M 356) (sv s (16 + 7 * l + 1 + (i - 1))) k → stl (M1 356) (sv s (16 + 7 * l + 1 + i)) (k + 1)) ∧ (stl (M 356) (sv s (16 + 7 * l + 1 + i)) k → stl (M1 356) (sv s (16 + 7 * l + 1 + (i - 1))) (k + 1))) ∧ (∀ k, k ≠ 356 → M1 k = M k) ∧ (c1 = 0 → c = 0 ∧ M1 = M) := by
  have b1 := hk.1.2.1.2
  have b0 := hk.1.1.2
  obtain ⟨l1, l6, -⟩ := hk.2.2.1 l (by omega)
  intro r
  induction r with
  | zero =>
    intro n p c B M h1 h2 h3 hc hB hR h
    obtain ⟨n, rfl⟩ : ∃ x, n = x + 1 := ⟨n - 1, by omega⟩
    obtain ⟨-, -, rl, rs, -⟩ := R0 hR
    have h8 : fw_ri M (1 + 2) (nI l) = nI (sv s (16 + 7 * l)) := by
      rw [fw_ri, nI_clamp (by omega)]
      exact (rl l (by omega)).1.trans l1
    rw [F_X5_relaxAll_15, if_pos (nI_in (by omega) (by omega)), h8, if_pos (nI_le (by omega) (by omega)), nI_1]
    exact ⟨c, M, rfl, hc, h, nfr.refl, fun i k h4 h5 => by omega, fun _ _ => rfl, fun q => ⟨q, rfl⟩⟩
  | succ r ih =>
    intro n p c B M h1 h2 h3 hc hB hR h
    obtain ⟨n, rfl⟩ : ∃ x, n = x + 1 := ⟨n - 1, by omega⟩
    obtain ⟨-, -, rl, rs, -⟩ := R0 hR
    have h8 : fw_ri M (1 + 2) (nI l) = nI (sv s (16 + 7 * l)) := by
      rw [fw_ri, nI_clamp (by omega)]
      exact (rl l (by omega)).1.trans l1
    have s1 := hk.2.2.2.1 l (p - 1) (by omega) (by omega)
    have s2 := hk.2.2.2.1 l p (by omega) (by omega)
    have e5 : nI p - 1 = nI (p - 1) := pk_sub (a := p) (b := 1) (by omega)
    have f1 : fw_ri M (1 + 4 + (nI l).toNatClampNeg) (nI (p - 1)) = nI (sv s (16 + 7 * l + 1 + (p - 1))) := by
      rw [fw_ri, nI_clamp (by omega), nI_clamp (by omega)]
      exact (rs l (p - 1) (by omega) (by omega)).trans s1.1
    have f2 : fw_ri M (1 + 4 + (nI l).toNatClampNeg) (nI p) = nI (sv s (16 + 7 * l + 1 + p)) := by
      rw [fw_ri, nI_clamp (by omega), nI_clamp (by omega)]
      exact (rs l p (by omega) (by omega)).trans s2.1
    obtain ⟨c1, M1, q1, q2, q3, q4, q5, q6, q7⟩ := rx_1 (A := A) (s := s) (M := M) (B := B) (u := sv s (16 + 7 * l + 1 + (p - 1))) (v := sv s (16 + 7 * l + 1 + p)) (by omega) (by omega) (by omega) ⟨l, p - 1, p, hl, by omega, by omega, by omega, rfl, rfl⟩ h
    obtain ⟨c2, M2, w1, w2, w3, w4, w5, w6, w7⟩ := rx_1 (A := A) (s := s) (M := M1) (B := B + 1) (u := sv s (16 + 7 * l + 1 + p)) (v := sv s (16 + 7 * l + 1 + (p - 1))) (by omega) (by omega) (by omega) ⟨l, p, p - 1, hl, by omega, by omega, by omega, rfl, rfl⟩ q3
    have g1 : fw_ri M1 (1 + 4 + (nI l).toNatClampNeg) (nI (p - 1)) = nI (sv s (16 + 7 * l + 1 + (p - 1))) := by
      rw [← f1, fw_ri, fw_ri, q6 _ (by rw [nI_clamp (by omega)]; omega)]
    rw [F_X5_relaxAll_15, if_pos (nI_in (by omega) (by omega)), h8, if_neg (nI_ge (by omega) (by omega)), e5, if_pos (nI_in (by omega) (by omega)), if_pos (nI_in (by omega) (by omega)), f1, f2, q1, bp_s, w1, bp_s, nI_1]
    have hR2 : R M2 0 s := hR.cong (fun k _ hk2 => by rw [w6 k (by omega), q6 k (by omega)])
    have key : ∀ c3, c3 < 2 → (c3 = 0 → c = 0 ∧ c1 = 0 ∧ c2 = 0) → ∃ c1 M1, F_X5_relaxAll_15 1 k4 n (nI c3) (nI l) (nI (p + 1)) M2 = k4 (nI c1) (nI (l + 1)) M1 ∧ c1 < 2 ∧ okr A (ed s 1) (B + 2 * (r + 1)) (M1 356) ∧ nfr (M 356) (M1 356) ∧ (∀ i k, p ≤ i → i < sv s (16 + 7 * l) → k < 2 ^ 30 → (stl (M 356) (sv s (16 + 7 * l + 1 + (i - 1))) k → stl (M1 356) (sv s (16 + 7 * l + 1 + i)) (k + 1)) ∧ (stl (M 356) (sv s (16 + 7 * l + 1 + i)) k → stl (M1 356) (sv s (16 + 7 * l + 1 + (i - 1))) (k + 1))) ∧ (∀ k, k ≠ 356 → M1 k = M k) ∧ (c1 = 0 → c = 0 ∧ M1 = M) := by
      intro c3 hc3 h0
      obtain ⟨c4, M4, v1, v2, v3, v4, v5, v6, v7⟩ := ih n (p + 1) c3 (B + 1 + 1) M2 (by omega) (by omega) (by omega) hc3 (by omega) hR2 w3
      refine ⟨c4, M4, v1, v2, v3.up (by omega), (q4.trans w4).trans v4, fun i k h4 h5 h6 => ?_, fun k hk2 => by rw [v6 k hk2, w6 k hk2, q6 k hk2], fun q => ?_⟩
      · by_cases ei : i = p
        · subst ei
          refine ⟨fun a => ?_, fun a => ?_⟩
          · exact v4 _ _ (by omega) (by omega) (w4 _ _ (by omega) (by omega) (q5 k h6 a))
          · exact v4 _ _ (by omega) (by omega) (w5 k h6 (q4 _ _ (by omega) (by omega) a))
        · have s3 := hk.2.2.2.1 l (i - 1) (by omega) (by omega)
          have s4 := hk.2.2.2.1 l i (by omega) (by omega)
          obtain ⟨a1, a2⟩ := v5 i k (by omega) h5 h6
          exact ⟨fun a => a1 (w4 _ _ (by omega) (by omega) (q4 _ _ (by omega) (by omega) a)), fun a => a2 (w4 _ _ (by omega) (by omega) (q4 _ _ (by omega) (by omega) a))⟩
      · obtain ⟨a1, a2⟩ := v7 q
        obtain ⟨a3, a4, a5⟩ := h0 a1
        exact ⟨a3, by rw [a2, w7 a5, q7 a4]⟩
    have z1 : ∀ {x : Nat}, x < 2 → x ≠ 0 → ¬ nI x = 0 := fun hx h0 => nI_ne0 (by omega) (by omega)
    by_cases k0 : c = 0
    · rw [k0, if_neg (fun q => q rfl)]
      by_cases k1 : c1 = 0
      · rw [k1, if_neg (fun q => q rfl)]
        by_cases k2 : c2 = 0
        · rw [k2, if_pos (show nI 0 = 0 from rfl)]
          rw [k0, k1, k2] at key
          exact key 0 (by omega) (fun _ => ⟨rfl, rfl, rfl⟩)
        · rw [if_neg (z1 w2 k2)]
          rw [k0] at key
          exact key 1 (by omega) (fun q => by omega)
      · rw [if_pos (z1 q2 k1)]
        rw [k0] at key
        exact key 1 (by omega) (fun q => by omega)
    · rw [if_pos (z1 hc k0)]
      exact key 1 (by omega) (fun q => by omega)
theorem rx_4 (hk : ok s) : ∀ (r n l c B : Nat) (M : fw_M), l + r = sv s 1 → r < n → c < 2 → B + 12 * r < 2 ^ 20 → R M 0 s → okr A (ed s 1) B (M 356) → ∃ c1 M1, F_X5_relaxAll_4 1 n (nI c) (nI l) M = some (nI c1, M1) ∧ c1 < 2 ∧ okr A (ed s 1) (B + 12 * r) (M1 356) ∧ nfr (M 356) (M1 356) ∧ (∀ l2 i k, l ≤ l2 → l2 < sv s 1 → 1 ≤ i → i < sv s (16 + 7 * l2) → k < 2 ^ 30 → (stl (M 356) (sv s (16 + 7 * l2 + 1 + (i - 1))) k → stl (M1 356) (sv s (16 + 7 * l2 + 1 + i)) (k + 1)) ∧ (stl (M 356) (sv s (16 + 7 * l2 + 1 + i)) k → stl (M1 356) (sv s (16 + 7 * l2 + 1 + (i - 1))) (k + 1))) ∧ (∀ k, k ≠ 356 → M1 k = M k) ∧ (c1 = 0 → c = 0 ∧ M1 = M) := by
  have b1 := hk.1.2.1
  have b0 := hk.1.1.2
  intro r
  induction r with
  | zero =>
    intro n l c B M h1 h2 hc hB hR h
    obtain ⟨n, rfl⟩ : ∃ x, n = x + 1 := ⟨n - 1, by omega⟩
    obtain ⟨⟨-, r1, -⟩, -⟩ := R0 hR
    have hc2 : nI c = 0 ∨ nI c = 1 := by
      rcases (show c = 0 ∨ c = 1 by omega) with rfl | rfl
      · exact Or.inl rfl
      · exact Or.inr rfl
    rw [F_X5_relaxAll_4, r1, b1.1, if_pos (nI_le (by omega) (by omega)), if_pos hc2]
    exact ⟨c, M, rfl, hc, h, nfr.refl, fun l2 i k h4 h5 => by omega, fun _ _ => rfl, fun q => ⟨q, rfl⟩⟩
  | succ r ih =>
    intro n l c B M h1 h2 hc hB hR h
    obtain ⟨n, rfl⟩ : ∃ x, n = x + 1 := ⟨n - 1, by omega⟩
    obtain ⟨⟨-, r1, -⟩, -⟩ := R0 hR
    obtain ⟨l1, l6, l2, -⟩ := hk.2.2.1 l (by omega)
    have l2 := l2 (by omega)
    rw [F_X5_relaxAll_4, r1, b1.1, if_neg (nI_ge (by omega) (by omega))]
    obtain ⟨c1, M1, q1, q2, q3, q4, q5, q6, q7⟩ := rx_15 (A := A) hk (l := l) (by omega) (k4 := fun x2 x3 M => F_X5_relaxAll_4 1 n x2 x3 M) (sv s (16 + 7 * l) - 1) 64 1 c B M (by omega) (by omega) (by omega) hc (by omega) hR h
    obtain ⟨c2, M2, w1, w2, w3, w4, w5, w6, w7⟩ := ih n (l + 1) c1 (B + 12) M1 (by omega) (by omega) q2 (by omega) (hR.cong (fun k _ hk2 => q6 k (by omega))) (q3.up (by omega))
    refine ⟨c2, M2, q1.trans w1, w2, w3.up (by omega), q4.trans w4, fun l3 i k h4 h5 h6 h7 h8 => ?_, fun k hk2 => by rw [w6 k hk2, q6 k hk2], fun q => ?_⟩
    · have s3 := hk.2.2.2.1 l3 (i - 1) (by omega) (by omega)
      have s4 := hk.2.2.2.1 l3 i (by omega) (by omega)
      by_cases el : l3 = l
      · subst el
        obtain ⟨a1, a2⟩ := q5 i k h6 h7 h8
        exact ⟨fun a => w4 _ _ (by omega) (by omega) (a1 a), fun a => w4 _ _ (by omega) (by omega) (a2 a)⟩
      · obtain ⟨a1, a2⟩ := w5 l3 i k (by omega) h5 h6 h7 h8
        exact ⟨fun a => a1 (q4 _ _ (by omega) (by omega) a), fun a => a2 (q4 _ _ (by omega) (by omega) a)⟩
    · obtain ⟨a1, a2⟩ := w7 q
      obtain ⟨a3, a4⟩ := q7 a1
      exact ⟨a3, a2.trans a4⟩
theorem rx_all (hk : ok s) {M : fw_M} {B : Nat} (hB : B + 60 < 2 ^ 20) (hR : R M 0 s) (h : okr A (ed s 1) B (M 356)) : ∃ c1 M1, F_X5_relaxAll M 1 = some (nI c1, M1) ∧ c1 < 2 ∧ okr A (ed s 1) (B + 60) (M1 356) ∧ nfr (M 356) (M1 356) ∧ (∀ u v k, ed s 1 u v → k < 2 ^ 30 → stl (M 356) u k → stl (M1 356) v (k + 1)) ∧ (∀ k, k ≠ 356 → M1 k = M k) ∧ (c1 = 0 → M1 = M) := by
  have b1 := hk.1.2.1.2
  obtain ⟨c1, M1, q1, q2, q3, q4, q5, q6, q7⟩ := rx_4 (A := A) hk (sv s 1) 64 0 0 B M (by omega) (by omega) (by omega) (by omega) hR h
  refine ⟨c1, M1, q1, q2, q3.up (by omega), q4, fun u v k he hk2 hs => ?_, q6, fun q => (q7 q).2⟩
  obtain ⟨l, i, j, h1, h2, h3, h4, rfl, rfl⟩ := he
  rcases h4 with h4 | h4 | h4
  · omega
  · subst h4
    exact (q5 l (j + 1) k (by omega) h1 (by omega) h2 hk2).2 hs
  · subst h4
    exact (q5 l (i + 1) k (by omega) h1 (by omega) h3 hk2).1 hs
theorem rx_21 (hk : ok s) {t : Nat} (ht : t < 10) (a2 : Int32) (hA : ∀ v, A v → v < 10) : ∀ (r n j c B : Nat) (M : fw_M), j + r = 10 → r < n → c < 2 → B + 60 * r < 2 ^ 19 → R M 0 s → okr A (ed s 1) B (M 356) → (∀ k v, k ≤ j → lev A (ed s 1) k v → stl (M 356) v k) → (c = 0 → ∀ u v k, ed s 1 u v → k < 2 ^ 30 → stl (M 356) u k → stl (M 356) v (k + 1)) → ∃ x M1, F_X5_stepsByRelaxation_21 1 a2 (nI t) n (nI c) (nI j) M = some (x, M1) ∧ Rs1 (fun k => lev A (ed s 1) k t) x ∧ (∀ k, k ≠ 356 → M1 k = M k) := by
  have b0 := hk.1.1.2
  have hfx : ∀ k v, lev A (ed s 1) k v → lev A (ed s 1) 9 v := fun k v h => lev_fix (N := 10) (by omega) hA (fun u v h => Nat.lt_of_lt_of_le (ed_lt hk h).2 b0) h
  have fin : ∀ (B : Nat) (M : fw_M), B < 2 ^ 20 → okr A (ed s 1) B (M 356) → (∀ k v, k ≤ 9 → lev A (ed s 1) k v → stl (M 356) v k) → ∃ x M1, (if ix_i (nI t) 10 then some ((fw_ri M 356 (nI t)), M) else none) = some (x, M1) ∧ Rs1 (fun k => lev A (ed s 1) k t) x ∧ (∀ k, k ≠ 356 → M1 k = M k) := by
    intro B M hB h hs
    have e1 : fw_ri M 356 (nI t) = M 356 t := by rw [fw_ri, nI_clamp (by omega)]
    rw [if_pos (nI_in ht (by omega)), e1]
    refine ⟨_, M, rfl, ?_, fun _ _ => rfl⟩
    rcases h t ht with hm | ⟨h1, h2, h3⟩
    · refine Or.inr ⟨hm, fun k hkk => ?_⟩
      have := (hs 9 t (by omega) (hfx k t hkk)).1
      have h9 := (hs 9 t (by omega) (hfx k t hkk)).2
      rw [hm, pm_2 (by omega)] at this
      exact this
    · have h9 := (hs 9 t (by omega) (hfx _ t h3)).2
      refine Or.inl ⟨sv (M 356) t, by omega, h1, h3, fun j hj hl => ?_⟩
      have := (hs j t (by omega) hl).2
      omega
  intro r
  induction r with
  | zero =>
    intro n j c B M h1 h2 hc hB hR h hset hfix
    obtain ⟨n, rfl⟩ : ∃ x, n = x + 1 := ⟨n - 1, by omega⟩
    obtain ⟨x, M1, w⟩ := fin B M (by omega) h (fun k v hk2 => hset k v (by omega))
    rw [F_X5_stepsByRelaxation_21]
    by_cases k0 : nI c = 0
    · rw [if_pos k0]
      exact ⟨x, M1, w⟩
    · rw [if_neg k0, if_pos (show (10 : Int32) ≤ nI j from nI_le (a := 10) (by omega) (by omega))]
      exact ⟨x, M1, w⟩
  | succ r ih =>
    intro n j c B M h1 h2 hc hB hR h hset hfix
    obtain ⟨n, rfl⟩ : ∃ x, n = x + 1 := ⟨n - 1, by omega⟩
    rw [F_X5_stepsByRelaxation_21]
    by_cases k0 : c = 0
    · rw [if_pos (by rw [k0]; rfl)]
      have all : ∀ k v, k ≤ 9 → lev A (ed s 1) k v → stl (M 356) v k := by
        intro k
        induction k with
        | zero => intro v _ hv; exact hset 0 v (by omega) hv
        | succ k ihk =>
          intro v hk9 hv
          rcases hv with hv | ⟨u, hu, he⟩
          · have := ihk v (by omega) hv
            exact ⟨this.1, by have := this.2; omega⟩
          · exact hfix k0 u v k he (by omega) (ihk u (by omega) hu)
      exact fin B M (by omega) h all
    · rw [if_neg (nI_ne0 (by omega) (by omega)), if_neg (show ¬ (10 : Int32) ≤ nI j from nI_ge (b := 10) (by omega) (by omega))]
      obtain ⟨c1, M1, q1, q2, q3, q4, q5, q6, q7⟩ := rx_all (A := A) hk (by omega) hR h
      rw [q1, bp_s, nI_1]
      have hset1 : ∀ k v, k ≤ j + 1 → lev A (ed s 1) k v → stl (M1 356) v k := by
        intro k v hkj hv
        by_cases e : k ≤ j
        · exact q4 v k (by omega) (lev_lt hA (fun u v h => Nat.lt_of_lt_of_le (ed_lt hk h).2 b0) k v hv) (hset k v e hv)
        · obtain rfl : k = j + 1 := by omega
          rcases hv with hv | ⟨u, hu, he⟩
          · have := q4 v j (by omega) (lev_lt hA (fun u v h => Nat.lt_of_lt_of_le (ed_lt hk h).2 b0) j v hv) (hset j v (by omega) hv)
            exact ⟨this.1, by have := this.2; omega⟩
          · exact q5 u v j he (by omega) (hset j u (by omega) hu)
      obtain ⟨x, M2, w1, w2, w3⟩ := ih n (j + 1) c1 (B + 60) M1 (by omega) (by omega) q2 (by omega) (hR.cong (fun k _ hk2 => q6 k (by omega))) q3 hset1 (fun e u v k he hk2 hs => by
        have e2 := q7 e
        rw [e2] at hs ⊢
        have := q5 u v k he hk2 hs
        rwa [e2] at this)
      exact ⟨x, M2, w1, w2, fun k hk2 => (w3 k hk2).trans (q6 k hk2)⟩
theorem sr_ok (hk : ok s) {M : fw_M} (hR : R M 0 s) {a t : Nat} (ha : a < 10) (ht : t < 10) : ∃ x M1, F_X5_stepsByRelaxation M 1 (nI a) (nI t) = some (x, M1) ∧ Rs1 (fun k => lev (fun x => x = a) (ed s 1) k t) x ∧ (∀ c, c ≠ 356 → M1 c = M c) := by
  obtain ⟨M1, q1, q2, q3⟩ := fill_ok (k1 := 356) (n1 := 10) (a := -1) (M := M) (by omega)
  unfold F_X5_stepsByRelaxation
  rw [q1, bx_s, if_pos (nI_in ha (by omega)), lx_s]
  have ew : fw_wi M1 356 (nI a) 0 356 = upd (M1 356) a (nI 0) := by rw [fw_wi, nI_clamp (by omega), up_f]; rfl
  have ewn : ∀ k, k ≠ 356 → fw_wi M1 356 (nI a) 0 k = M k := fun k hk2 => by rw [fw_wi, up_n1 hk2, q3 k hk2]
  obtain ⟨x, M2, w1, w2, w3⟩ := rx_21 (A := fun x => x = a) hk ht (nI a) (fun v hv => by rw [hv]; exact ha) 10 64 0 1 0 (fw_wi M1 356 (nI a) 0) (by omega) (by omega) (by omega) (by omega) (hR.cong (fun k _ hk2 => ewn k (by omega))) (fun v hv => by
    rw [ew]
    by_cases e : v = a
    · subst e
      right
      rw [sv_of pk_us (by omega)]
      exact ⟨pk_us, by omega, rfl⟩
    · left
      rw [pk_un e]
      exact q2 v hv) (fun k v hk0 hv => by
    obtain rfl : k = 0 := by omega
    have hv : v = a := hv
    subst hv
    rw [ew]
    refine ⟨?_, ?_⟩
    · rw [sv_of pk_us (by omega)]; exact pk_us
    · rw [sv_of pk_us (by omega)]; exact Nat.le_refl 0) (fun e => by omega)
  exact ⟨x, M2, w1, w2, fun c hc => (w3 c hc).trans (ewn c hc)⟩
end RX
