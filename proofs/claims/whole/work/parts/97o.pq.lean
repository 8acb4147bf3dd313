/-! a text of commands is carried out: both sides -/
section EX
variable {T : Nat → Nat} {n : Nat}
theorem mo_bad {M : fw_M} (hT : MT M T n) (h : ¬ (pr T n 12 0).1 = true) : ∃ M6, F_X9_execute M = some (0, M6) ∧ M6 378 6 = nI 1 ∧ M6 378 13 = nI (pr T n 12 0).2.1 ∧ M6 378 10 = nI 0 ∧ (∀ c, c ≠ 378 → c ≠ 385 → M6 c = M c) ∧ ∀ j, j ≠ 6 → j ≠ 10 → j ≠ 11 → j ≠ 12 → j ≠ 13 → j ≠ 16 → M6 378 j = M 378 j := by
  obtain ⟨A, a1, a2, a3, a4, -⟩ := rd_m hT
  rw [if_neg h] at a4
  rw [a1]
  unfold F_X9_execute_80 F_X9_fails
  rw [a4, if_neg (show ¬ nI 1 = 0 by decide), lx_s, lx_s, up_n2 (show 12 ≠ 10 by omega), up_n2 (show 12 ≠ 13 by omega), a4, if_neg (show ¬ nI 1 = 0 by decide), lx_s, bp_s]
  exact ⟨_, rfl, up_e rfl rfl, by rw [up_n2 (by omega), up_n2 (by omega), up_e rfl rfl, a3], by rw [up_n2 (by omega), up_e rfl rfl]; rfl, fun c x y => by rw [up_n1 x, up_n1 x, up_n1 x, a2.1 c x y], fun j x1 x2 x3 x4 x5 x6 => by rw [up_n2 x1, up_n2 x2, up_n2 x5, a2.2 j x3 x4 x6]⟩
theorem mo_ok {M : fw_M} (hT : MT M T n) (h : (pr T n 12 0).1 = true) : ∃ M6, F_X9_execute M = F_X9_execute_126 64 (nI 0) M6 ∧ M6 378 6 = nI 0 ∧ M6 378 10 = nI 0 ∧ M6 378 16 = nI (pr T n 12 0).2.2 ∧ KM M6 T n (pr T n 12 0).2.2 ∧ (∀ j, j < 129 → M6 380 j = M 379 j) ∧ (∀ c, c ≠ 378 → c ≠ 380 → c ≠ 385 → M6 c = M c) ∧ ∀ j, j ≠ 6 → j ≠ 10 → j ≠ 11 → j ≠ 12 → j ≠ 16 → M6 378 j = M 378 j := by
  obtain ⟨A, a1, a2, a3, a4, a5⟩ := rd_m hT
  rw [if_pos h] at a4
  obtain ⟨b1, b2⟩ := a5 h
  obtain ⟨B, hB⟩ : ∃ B, B = fw_up A 378 13 (A 378 13) := ⟨_, rfl⟩
  have hBA : ∀ j, B 378 j = A 378 j := fun j => by
    rw [hB]
    by_cases e : j = 13
    · rw [e, up_e rfl rfl]
    · rw [up_n2 e]
  have hBc : ∀ c, c ≠ 378 → B c = A c := fun c x => by rw [hB, up_n1 x]
  obtain ⟨C, hC⟩ : ∃ C, C = fw_up B 378 10 0 := ⟨_, rfl⟩
  have c12 : C 378 12 = nI 0 := by rw [hC, up_n2 (by omega), hBA, a4]
  rw [a1]
  unfold F_X9_execute_80
  rw [a4, if_pos (show nI 0 = 0 from rfl), lx_s, ← hB, lx_s, ← hC, c12, if_pos (show nI 0 = 0 from rfl), keep_ok C, bx_s]
  refine ⟨_, rfl, by rw [cp_n (by omega), up_e rfl rfl], by rw [cp_n (by omega), up_n2 (by omega), hC, up_e rfl rfl]; rfl, by rw [cp_n (by omega), up_n2 (by omega), hC, up_n2 (by omega), hBA, b1], b2.k (fun i _ => by rw [cp_n (by omega), up_n1 (by omega), hC, up_n1 (by omega), hBc 385 (by omega)]), fun j hj => by rw [cp_0 rfl hj, up_n1 (by omega), hC, up_n1 (by omega), hBc 379 (by omega), a2.1 379 (by omega) (by omega)], fun c x y z => by rw [cp_n y, up_n1 x, hC, up_n1 x, hBc c x, a2.1 c x z], fun j x1 x2 x3 x4 x5 => by rw [cp_n (by omega), up_n2 x1, hC, up_n2 x2, hBA, a2.2 j x3 x4 x5]⟩
end EX
theorem q_51 {M : fw_M} (h : Inv M) (xs : Nat → Int32) (i : Int32) : ∃ M1, F_cs_51 M xs i = some M1 ∧ Inv M1 := by
  have hI := h
  obtain ⟨⟨s, hk, hR, hS⟩, hSv, ⟨hist, nh, hn, hHc, hHm, hHk⟩, ⟨n, hn60, t1, t2, t3⟩, hEr, hWr⟩ := h
  have hs2 := hk.1.2.2.1.2
  obtain ⟨T, hTd⟩ : ∃ T : Nat → Nat, T = fun j => (M 361 j).toNatClampNeg := ⟨_, rfl⟩
  have hTj : ∀ j, j < n → M 361 j = nI (T j) ∧ M 384 j = nI (T j) ∧ 32 ≤ T j ∧ T j ≤ 126 := fun j hj => by
    obtain ⟨c, c1, c2, c3, c4⟩ := t3 j hj
    have : T j = c := by rw [hTd]; show (M 361 j).toNatClampNeg = c; rw [c3, nI_clamp (by omega)]
    rw [this]
    exact ⟨c3, c4, c1, c2⟩
  have hCT : CT M T n := ⟨t1, hn60, fun j hj => ⟨(hTj j hj).1, (hTj j hj).2.2⟩⟩
  have hMT : MT M T n := ⟨t2, hn60, fun j hj => ⟨(hTj j hj).2.1, (hTj j hj).2.2⟩⟩
  obtain ⟨A, a1, a2, a3, a4, a5, a6⟩ := rd_c hCT
  obtain ⟨B, hB⟩ : ∃ B, B = fw_up A 360 0 0 := ⟨_, rfl⟩
  have b1 : ∀ k, k ≠ 360 → B k = A k := fun k x => by rw [hB, up_n1 x]
  have b2 : ∀ j, j ≠ 0 → B 360 j = A 360 j := fun j x => by rw [hB, up_n2 x]
  have b3 : B 360 0 = nI 0 := by rw [hB, up_e rfl rfl]; rfl
  have b4 : ∀ k, k < 360 ∨ 376 ≤ k → B k = M k := fun k x => by rw [b1 k (by omega), a2 k (by omega)]
  have hRB : R B 0 s := hR.cong (fun k _ x => b4 k (by omega))
  have e0 : F_X0_empty A = some B := by rw [hB]; rfl
  have eX : F_L_execute M = wr_l (if ¬ (if (pr T n 12 0).1 = true then (1 : Int32) else 0) = 0 then (bd_x (F_X7_copyFrom B 32 0) fun M10 => bd_p (F_X8_firstFailing M10) fun r12 M13 => if r12 = (-1) then (bd_x (F_X4_remember M13 32) fun M17 => some (.inl (M17 360 3), M17)) else (bd_x (F_X7_copyFrom M13 0 32) fun M20 => lt_x (fw_up M20 352 9 r12) fun M21 => some (.inr 2, M21))) else (lt_x (fw_up B 352 8 (B 360 2)) fun M22 => some (.inr 1, M22))) [1, 2] := by
    unfold F_L_execute F_X8_execute
    rw [a1, bp_s, e0, bx_s]
  unfold F_cs_51
  by_cases hp : (pr T n 12 0).1 = true
  · obtain ⟨p1, p2, p3⟩ := a6 hp
    rw [eX, if_pos hp, if_pos (show ¬ (1 : Int32) = 0 by decide)]
    obtain ⟨C, c1, c2, c3⟩ := cp_S (g := 32) (g1 := 0) (M := B) (by omega)
    have hRC32 := c3 s hRB hs2
    have hRC : R C 0 s := hRB.cong (fun k _ x => c2 k (by omega))
    have hKC : KC C T n (pr T n 12 0).2.2 := by
      intro i hi
      obtain ⟨x, y⟩ := p3 i hi
      rw [c2 362 (by omega), b1 362 (by omega)]
      refine ⟨x, fun j hj => ?_⟩
      rw [c2 _ (by omega), b1 _ (by omega)]
      exact y j hj
    have hC3 : C 360 3 = nI (pr T n 12 0).2.2 := by rw [c2 360 (by omega), b2 3 (by omega), p1]
    have hC0 : C 360 0 = nI 0 := by rw [c2 360 (by omega), b3]
    have hCk : ∀ k, 64 ≤ k → k < 360 ∨ 376 ≤ k → C k = M k := fun k x y => by rw [c2 k (by omega), b4 k y]
    rw [c1, bx_s]
    unfold F_X8_firstFailing
    rcases run (T := T) (n := n) p2 (pr T n 12 0).2.2 0 s (by omega) hk with ⟨s1, hk1, q2, q3⟩ | ⟨k, hk12, q2, q3⟩
    · obtain ⟨D, d1, d2, d3⟩ := q2 C 64 (by omega) hRC hC3 hKC
      have d1' : F_X8_firstFailing_2 64 0 C = some (mI, D) := d1
      have hRD32 : R D 32 s := hRC32.cong (fun k x _ => d3 k x)
      obtain ⟨E, e1, e2, e3⟩ := rem_ok (M := D) (Or.inr rfl) hRD32 hs2 hn (hHc.cong (by rw [d3 353 (by omega), hCk 353 (by omega) (by omega)]) (fun k x y => by rw [d3 k (by omega), hCk k (by omega) (by omega)]))
      rw [d1', bp_s, if_pos (show mI = -1 from rfl), e1, bx_s, e2 360 (by omega) (by omega), d3 360 (by omega), hC3, wl_s, bp_s]
      obtain ⟨G, hG⟩ : ∃ G, G = fw_up E 386 0 (nI (pr T n 12 0).2.2) := ⟨_, rfl⟩
      have g1 : ∀ k, k ≠ 386 → G k = E k := fun k x => by rw [hG, up_n1 x]
      have gM : ∀ k, 64 ≤ k → k < 360 ∨ 376 ≤ k → ¬ (96 ≤ k ∧ k < 352) → k ≠ 353 → k ≠ 386 → G k = M k := fun k x1 x2 x3 x4 x5 => by rw [g1 k x5, e2 k x3 x4, d3 k (by omega), hCk k x1 x2]
      rw [← hG]
      obtain ⟨H, h1, h2, h3, h4, h5, h6, h7, h8⟩ := mo_ok (T := T) (n := n) (M := G) (hMT.c (by rw [gM 378 (by omega) (by omega) (by omega) (by omega) (by omega)]) (gM 384 (by omega) (by omega) (by omega) (by omega) (by omega))) hp
      have hSH : Sm H s := fun j hj => by rw [h7 379 (by omega) (by omega) (by omega), gM 379 (by omega) (by omega) (by omega) (by omega) (by omega)]; exact hS j hj
      obtain ⟨J, j1, j2, j3, j4⟩ := q3 H 64 (by omega) hSH h2 h4 h5
      have hHm6 : Hm J hist nh := hHm.cong (by rw [j4.2 5 (by omega), h8 5 (by omega) (by omega) (by omega) (by omega) (by omega), gM 378 (by omega) (by omega) (by omega) (by omega) (by omega)]) (by rw [j4.1 382 (by omega) (by omega), h7 382 (by omega) (by omega) (by omega), gM 382 (by omega) (by omega) (by omega) (by omega) (by omega)])
      obtain ⟨K, k1, k2, k3, k4⟩ := ends_ok (a := nI (pr T n 12 0).2.2) (s := s) j3 hn hHm6 (fun j hj => by rw [j4.1 380 (by omega) (by omega), h6 j hj, gM 379 (by omega) (by omega) (by omega) (by omega) (by omega)]; exact hS j hj)
      rw [h1, j1, k1, bp_s, bp_s]
      unfold F_X9_thrown
      have m2 : ∀ c, c ≠ 382 → c ≠ 378 → c ≠ 379 → c ≠ 380 → c ≠ 385 → K c = G c := fun c x1 x2 x3 x4 x5 => by rw [k2 c x1 x2, j4.1 c x3 x2, h7 c x2 x4 x5]
      have mM : ∀ c, 64 ≤ c → c < 360 ∨ 376 ≤ c → ¬ (96 ≤ c ∧ c < 352) → c ≠ 353 → c ≠ 386 → c ≠ 382 → c ≠ 378 → c ≠ 379 → c ≠ 380 → c ≠ 385 → K c = M c := fun c x1 x2 x3 x4 x5 y1 y2 y3 y4 y5 => by rw [m2 c y1 y2 y3 y4 y5, gM c x1 x2 x3 x4 x5]
      have m8 : ∀ j, j ≠ 5 → j ≠ 6 → j ≠ 10 → j ≠ 11 → j ≠ 12 → j ≠ 16 → K 378 j = M 378 j := fun j x1 x2 x3 x4 x5 x6 => by rw [k3 j x1, j4.2 j x2, h8 j x2 x3 x4 x5 x6, gM 378 (by omega) (by omega) (by omega) (by omega) (by omega)]
      have m6 : K 378 6 = nI 0 := by rw [k3 6 (by omega), j3]
      have m386 : K 386 0 = nI (pr T n 12 0).2.2 := by rw [m2 386 (by omega) (by omega) (by omega) (by omega) (by omega), hG, up_e rfl rfl]
      rw [bx_s, m6, if_pos rfl, if_pos (show nI 0 = 0 from rfl), m386, if_pos (lc_0 rfl)]
      refine ⟨K, rfl, ⟨s1, hk1, d2.cong (fun k _ x => by rw [m2 k (by omega) (by omega) (by omega) (by omega) (by omega), g1 k (by omega), e2 k (by omega) (by omega)]), fun j hj => by rw [k2 379 (by omega) (by omega)]; exact j2 j hj⟩, ?_, ⟨psh hist nh s, psn nh, psn_le hn, e3.cong (by rw [m2 353 (by omega) (by omega) (by omega) (by omega) (by omega), g1 353 (by omega)]) (fun k x y => by rw [m2 k (by omega) (by omega) (by omega) (by omega) (by omega), g1 k (by omega)]), k4, psh_ok hHk hk⟩, ?_, ?_, ?_⟩
      · exact hSv.cong (by rw [mM 352 (by omega) (by omega) (by omega) (by omega) (by omega) (by omega) (by omega) (by omega) (by omega) (by omega)]) (m8 3 (by omega) (by omega) (by omega) (by omega) (by omega) (by omega)) (fun k x1 x2 => mM k (by omega) (by omega) (by omega) (by omega) (by omega) (by omega) (by omega) (by omega) (by omega) (by omega)) (fun j _ => by rw [mM 381 (by omega) (by omega) (by omega) (by omega) (by omega) (by omega) (by omega) (by omega) (by omega) (by omega)])
      · refine ⟨0, by omega, ?_, ?_, fun j hj => absurd hj (Nat.not_lt_zero j)⟩
        · rw [m2 360 (by omega) (by omega) (by omega) (by omega) (by omega), g1 360 (by omega), e2 360 (by omega) (by omega), d3 360 (by omega), hC0]
        · rw [k3 10 (by omega), j4.2 10 (by omega), h3]
      · exact hEr.cong (by rw [mM 352 (by omega) (by omega) (by omega) (by omega) (by omega) (by omega) (by omega) (by omega) (by omega) (by omega)]) (by rw [mM 352 (by omega) (by omega) (by omega) (by omega) (by omega) (by omega) (by omega) (by omega) (by omega) (by omega)]) (m8 13 (by omega) (by omega) (by omega) (by omega) (by omega) (by omega)) (m8 14 (by omega) (by omega) (by omega) (by omega) (by omega) (by omega))
      · exact hWr.cong (mM 376 (by omega) (by omega) (by omega) (by omega) (by omega) (by omega) (by omega) (by omega) (by omega) (by omega)) (mM 377 (by omega) (by omega) (by omega) (by omega) (by omega) (by omega) (by omega) (by omega) (by omega) (by omega)) (m8 8 (by omega) (by omega) (by omega) (by omega) (by omega) (by omega)) (mM 383 (by omega) (by omega) (by omega) (by omega) (by omega) (by omega) (by omega) (by omega) (by omega) (by omega))
    · obtain ⟨D, d1, d3⟩ := q2 C 64 (by omega) hRC hC3 hKC
      have d1' : F_X8_firstFailing_2 64 0 C = some (nI k, D) := d1
      have hRD32 : R D 32 s := hRC32.cong (fun k x _ => d3 k x)
      obtain ⟨E, e1, e2, e3⟩ := cp_S (g := 0) (g1 := 32) (M := D) (by omega)
      have hRE := e3 s hRD32 hs2
      rw [d1', bp_s, if_neg (show ¬ nI k = -1 from fun x => (pm_1 (show k < 2 ^ 31 by omega)) ▸ x), e1, bx_s, lx_s, wl_12_2, bp_s]
      obtain ⟨G, hG⟩ : ∃ G, G = fw_up E 352 9 (nI k) := ⟨_, rfl⟩
      have g1 : ∀ k, k ≠ 352 → G k = E k := fun k x => by rw [hG, up_n1 x]
      have g2 : ∀ j, j ≠ 9 → G 352 j = E 352 j := fun j x => by rw [hG, up_n2 x]
      have g9 : G 352 9 = nI k := by rw [hG, up_e rfl rfl]
      have eM : ∀ k, 64 ≤ k → k < 360 ∨ 376 ≤ k → E k = M k := fun k x1 x2 => by rw [e2 k (by omega), d3 k (by omega), hCk k x1 x2]
      have gM : ∀ k, 64 ≤ k → k < 360 ∨ 376 ≤ k → k ≠ 352 → G k = M k := fun k x1 x2 x3 => by rw [g1 k x3, eM k x1 x2]
      rw [← hG]
      obtain ⟨H, h1, h2, h3, h4, h5, h6, h7, h8⟩ := mo_ok (T := T) (n := n) (M := G) (hMT.c (by rw [gM 378 (by omega) (by omega) (by omega)]) (gM 384 (by omega) (by omega) (by omega))) hp
      have hSH : Sm H s := fun j hj => by rw [h7 379 (by omega) (by omega) (by omega), gM 379 (by omega) (by omega) (by omega)]; exact hS j hj
      obtain ⟨J, j1, j2, j3, j4, j5⟩ := q3 H 64 (by omega) hSH h2 h4 h5
      obtain ⟨K, k1, k2, k3⟩ := ends_no (a := 0) (s := s) (t := 2) (by omega) (by omega) j2 (fun j hj => by rw [j4 380 (by omega) (by omega), h6 j hj, gM 379 (by omega) (by omega) (by omega)]; exact hS j hj)
      rw [h1, j1, k1, bp_s, bp_s]
      unfold F_X9_thrown
      have m2 : ∀ c, c ≠ 378 → c ≠ 379 → c ≠ 380 → c ≠ 385 → K c = G c := fun c x2 x3 x4 x5 => by rw [k2 c x3, j4 c x2 x3, h7 c x2 x4 x5]
      have mM : ∀ c, 64 ≤ c → c < 360 ∨ 376 ≤ c → c ≠ 352 → c ≠ 378 → c ≠ 379 → c ≠ 380 → c ≠ 385 → K c = M c := fun c x1 x2 x3 y2 y3 y4 y5 => by rw [m2 c y2 y3 y4 y5, gM c x1 x2 x3]
      have m8 : ∀ j, j ≠ 6 → j ≠ 10 → j ≠ 11 → j ≠ 12 → j ≠ 14 → j ≠ 16 → K 378 j = M 378 j := fun j x2 x3 x4 x5 x7 x6 => by rw [k2 378 (by omega), j5 j x2 x7, h8 j x2 x3 x4 x5 x6, gM 378 (by omega) (by omega) (by omega)]
      have m6 : K 378 6 = nI 2 := by rw [k2 378 (by omega), j2]
      have m352 : ∀ j, j ≠ 9 → K 352 j = M 352 j := fun j x => by rw [m2 352 (by omega) (by omega) (by omega) (by omega), g2 j x, eM 352 (by omega) (by omega)]
      rw [bx_s, m6, if_pos rfl, if_neg (show ¬ nI 2 = 0 by decide)]
      refine ⟨K, rfl, ⟨s, hk, hRE.cong (fun k _ x => by rw [m2 k (by omega) (by omega) (by omega) (by omega), g1 k (by omega)]), k3⟩, ?_, ⟨hist, nh, hn, hHc.cong (mM 353 (by omega) (by omega) (by omega) (by omega) (by omega) (by omega) (by omega)) (fun k x y => mM k (by omega) (by omega) (by omega) (by omega) (by omega) (by omega) (by omega)), hHm.cong (m8 5 (by omega) (by omega) (by omega) (by omega) (by omega) (by omega)) (mM 382 (by omega) (by omega) (by omega) (by omega) (by omega) (by omega) (by omega)), hHk⟩, ?_, ?_, ?_⟩
      · exact hSv.cong (m352 7 (by omega)) (m8 3 (by omega) (by omega) (by omega) (by omega) (by omega) (by omega)) (fun k x1 x2 => mM k (by omega) (by omega) (by omega) (by omega) (by omega) (by omega) (by omega)) (fun j _ => by rw [mM 381 (by omega) (by omega) (by omega) (by omega) (by omega) (by omega) (by omega)])
      · refine ⟨0, by omega, ?_, ?_, fun j hj => absurd hj (Nat.not_lt_zero j)⟩
        · rw [m2 360 (by omega) (by omega) (by omega) (by omega), g1 360 (by omega), e2 360 (by omega), d3 360 (by omega), hC0]
        · rw [k2 378 (by omega), j5 10 (by omega) (by omega), h3]
      · obtain ⟨r1, r2, r3, r4⟩ := hEr
        have k9 : K 352 9 = nI k := by rw [m2 352 (by omega) (by omega) (by omega) (by omega), g9]
        refine ⟨by rw [m352 8 (by omega), m8 13 (by omega) (by omega) (by omega) (by omega) (by omega) (by omega)]; exact r1, by rw [k9, k2 378 (by omega), j3], by rw [m352 8 (by omega)]; exact r3, Or.inr ⟨k, by omega, k9⟩⟩
      · exact hWr.cong (mM 376 (by omega) (by omega) (by omega) (by omega) (by omega) (by omega) (by omega)) (mM 377 (by omega) (by omega) (by omega) (by omega) (by omega) (by omega) (by omega)) (m8 8 (by omega) (by omega) (by omega) (by omega) (by omega) (by omega)) (mM 383 (by omega) (by omega) (by omega) (by omega) (by omega) (by omega) (by omega))
  · rw [eX, if_neg hp, if_neg (show ¬ ¬ (0 : Int32) = 0 from fun x => x rfl), lx_s, b2 2 (by omega), a4, wl_12_1, bp_s]
    obtain ⟨G, hG⟩ : ∃ G, G = fw_up B 352 8 (nI (pr T n 12 0).2.1) := ⟨_, rfl⟩
    have g1 : ∀ k, k ≠ 352 → G k = B k := fun k x => by rw [hG, up_n1 x]
    have g2 : ∀ j, j ≠ 8 → G 352 j = B 352 j := fun j x => by rw [hG, up_n2 x]
    have g9 : G 352 8 = nI (pr T n 12 0).2.1 := by rw [hG, up_e rfl rfl]
    have gM : ∀ k, k < 360 ∨ 376 ≤ k → k ≠ 352 → G k = M k := fun k x2 x3 => by rw [g1 k x3, b4 k x2]
    rw [← hG]
    obtain ⟨K, h1, h2, h3, h4, h5, h6⟩ := mo_bad (T := T) (n := n) (M := G) (hMT.c (by rw [gM 378 (by omega) (by omega)]) (gM 384 (by omega) (by omega))) hp
    rw [h1, bp_s]
    unfold F_X9_thrown
    have mM : ∀ c, c < 360 ∨ 376 ≤ c → c ≠ 352 → c ≠ 378 → c ≠ 385 → K c = M c := fun c x2 x3 y2 y5 => by rw [h5 c y2 y5, gM c x2 x3]
    have m8 : ∀ j, j ≠ 6 → j ≠ 10 → j ≠ 11 → j ≠ 12 → j ≠ 13 → j ≠ 16 → K 378 j = M 378 j := fun j x2 x3 x4 x5 x7 x6 => by rw [h6 j x2 x3 x4 x5 x7 x6, gM 378 (by omega) (by omega)]
    have m352 : ∀ j, j ≠ 8 → K 352 j = M 352 j := fun j x => by rw [h5 352 (by omega) (by omega), g2 j x, b4 352 (by omega)]
    rw [bx_s, h2, if_pos rfl, if_neg (show ¬ nI 1 = 0 by decide)]
    refine ⟨K, rfl, ⟨s, hk, hR.cong (fun k _ x => mM k (by omega) (by omega) (by omega) (by omega)), fun j hj => by rw [mM 379 (by omega) (by omega) (by omega) (by omega)]; exact hS j hj⟩, ?_, ⟨hist, nh, hn, hHc.cong (mM 353 (by omega) (by omega) (by omega) (by omega)) (fun k x y => mM k (by omega) (by omega) (by omega) (by omega)), hHm.cong (m8 5 (by omega) (by omega) (by omega) (by omega) (by omega) (by omega)) (mM 382 (by omega) (by omega) (by omega) (by omega)), hHk⟩, ?_, ?_, ?_⟩
    · exact hSv.cong (m352 7 (by omega)) (m8 3 (by omega) (by omega) (by omega) (by omega) (by omega) (by omega)) (fun k x1 x2 => mM k (by omega) (by omega) (by omega) (by omega)) (fun j _ => by rw [mM 381 (by omega) (by omega) (by omega) (by omega)])
    · refine ⟨0, by omega, ?_, h4, fun j hj => absurd hj (Nat.not_lt_zero j)⟩
      rw [h5 360 (by omega) (by omega), g1 360 (by omega), b3]
    · obtain ⟨r1, r2, r3, r4⟩ := hEr
      have k9 : K 352 8 = nI (pr T n 12 0).2.1 := by rw [h5 352 (by omega) (by omega), g9]
      refine ⟨by rw [k9, h3], by rw [m352 9 (by omega), m8 14 (by omega) (by omega) (by omega) (by omega) (by omega) (by omega)]; exact r2, Or.inr ⟨_, by omega, k9⟩, by rw [m352 9 (by omega)]; exact r4⟩
    · exact hWr.cong (mM 376 (by omega) (by omega) (by omega) (by omega)) (mM 377 (by omega) (by omega) (by omega) (by omega)) (m8 8 (by omega) (by omega) (by omega) (by omega) (by omega) (by omega)) (mM 383 (by omega) (by omega) (by omega) (by omega))
