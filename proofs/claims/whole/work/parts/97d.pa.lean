/-! arrivals -/
def dst (p b q l : Nat) : Nat := if b = 0 then (if q < p then (l - 1 - p) + (l - 1 - q) else q - p) else (if p < q then p + q else p - q)
def nxp (p b : Nat) : Nat := if b = 1 then p - 1 else p + 1
def nxb (p b l : Nat) : Nat := if nxp p b + 1 = l then 1 else if nxp p b = 0 then 0 else b
/-- a tram's place: in its line, and not about to leave it -/
def pl (p b l : Nat) : Prop := 2 ≤ l ∧ l ≤ 6 ∧ p < l ∧ ((b = 0 ∧ p + 1 < l) ∨ (b = 1 ∧ 1 ≤ p))
theorem pl_nx {p b l : Nat} (h : pl p b l) : pl (nxp p b) (nxb p b l) l := by
  obtain ⟨h1, h2, h3, h4⟩ := h
  unfold nxb nxp pl
  rcases h4 with ⟨rfl, h4⟩ | ⟨rfl, h4⟩
  · rw [if_neg (show ¬ 0 = 1 by omega)]
    by_cases c : p + 1 + 1 = l
    · rw [if_pos c]; omega
    · rw [if_neg c, if_neg (by omega)]; omega
  · rw [if_pos rfl]
    rw [if_neg (by omega)]
    by_cases c : p - 1 = 0
    · rw [if_pos c]; omega
    · rw [if_neg c]; omega
theorem dst_nx {p b q l : Nat} (h : pl p b l) (hq : q < l) (hne : p ≠ q) : dst p b q l = dst (nxp p b) (nxb p b l) q l + 1 := by
  obtain ⟨h1, h2, h3, h4⟩ := h
  unfold nxb nxp dst
  rcases h4 with ⟨rfl, h4⟩ | ⟨rfl, h4⟩
  · rw [if_neg (show ¬ 0 = 1 by omega), if_pos rfl]
    by_cases c : p + 1 + 1 = l
    · rw [if_pos c, if_neg (show ¬ 1 = 0 by omega)]
      split <;> split <;> omega
    · rw [if_neg c, if_neg (show ¬ p + 1 = 0 by omega), if_pos rfl]
      split <;> split <;> omega
  · rw [if_pos rfl, if_neg (show ¬ 1 = 0 by omega), if_neg (show ¬ p - 1 + 1 = l by omega)]
    by_cases c : p - 1 = 0
    · rw [if_pos c, if_pos rfl]
      split <;> split <;> omega
    · rw [if_neg c, if_neg (show ¬ 1 = 0 by omega)]
      split <;> split <;> omega
theorem dst_0 {p b l : Nat} : dst p b p l = 0 := by
  unfold dst
  split <;> split <;> omega
theorem dst_le {p b q l : Nat} (h : pl p b l) (hq : q < l) : dst p b q l ≤ 10 := by
  obtain ⟨h1, h2, h3, h4⟩ := h
  unfold dst
  split <;> split <;> omega
/-- a sound picture's tram -/
theorem tr_ok {s : Nat → Int32} (hk : ok s) {t : Nat} (ht : t < sv s 2) : ∃ p b l, p = sv s (51 + 3 * t + 1) ∧ l = mvl s t ∧ s (51 + 3 * t + 1) = nI p ∧ s (51 + 3 * t + 2) = nI b ∧ pl p b l ∧ mvp s t = nxp p b ∧ mvb s t = nxb p b l := by
  obtain ⟨t1, t2, t3, t4, t5⟩ := hk.2.2.2.2.2.1 t ht
  obtain ⟨m1, m2, -⟩ := mv_ok hk ht
  rcases t5 with ⟨t5, t6⟩ | ⟨t5, t6⟩
  · have ep : mvp s t = nxp (sv s (51 + 3 * t + 1)) 0 := by
      unfold mvp nxp
      rw [t5, if_neg (by decide), if_neg (by decide)]
    refine ⟨_, 0, _, rfl, rfl, t3, t5, ⟨m1, m2, t4, Or.inl ⟨rfl, t6⟩⟩, ep, ?_⟩
    unfold mvb nxb
    rw [ep, t5, if_neg (show ¬ nI 0 = nI 1 by decide)]
  · have ep : mvp s t = nxp (sv s (51 + 3 * t + 1)) 1 := by
      unfold mvp nxp
      rw [t5, if_pos rfl, if_pos rfl]
    refine ⟨_, 1, _, rfl, rfl, t3, t5, ⟨m1, m2, t4, Or.inr ⟨rfl, t6⟩⟩, ep, ?_⟩
    unfold mvb nxb
    rw [ep, t5, if_pos rfl]
theorem nI_inj {a b : Nat} (ha : a < 2 ^ 31) (hb : b < 2 ^ 31) (h : nI a = nI b) : a = b := (nI_eq ha hb).mp h
/-- which position a stop has is seen from the stop -/
theorem st_pos {s : Nat → Int32} (hk : ok s) {l p q : Nat} (hl : l < 5) (hp : p < sv s (16 + 7 * l)) (hq : q < sv s (16 + 7 * l)) : s (16 + 7 * l + 1 + p) = s (16 + 7 * l + 1 + q) ↔ p = q := by
  have b0 := hk.1.1.2
  obtain ⟨p1, p2⟩ := hk.2.2.2.1 l p hl hp
  obtain ⟨q1, q2⟩ := hk.2.2.2.1 l q hl hq
  constructor
  · intro e
    rw [p1, q1] at e
    have e := nI_inj (by omega) (by omega) e
    rcases Nat.lt_trichotomy p q with h | h | h
    · exact absurd e (hk.2.2.2.2.1 l p q hl h hq)
    · exact h
    · exact absurd e.symm (hk.2.2.2.2.1 l q p hl h hp)
  · intro e
    rw [e]
/-! the model's way: the tram is moved and put back -/
theorem av_84 {M0 : fw_M} {s0 : Nat → Int32} {t q : Nat} : ∀ (r n c p b : Nat) (s : Nat → Int32) (M : fw_M), ok s → Sm M s → t < sv s 2 → (∀ j, j ≠ 51 + 3 * t + 1 → j ≠ 51 + 3 * t + 2 → s j = s0 j) → q < mvl s t → s (51 + 3 * t + 1) = nI p → s (51 + 3 * t + 2) = nI b → pl p b (mvl s t) → dst p b q (mvl s t) = r → r < n → (∀ c, c ≠ 379 → M c = M0 c) → ∃ M1, F_X9_arrivalOf_84 (nI t) (s (16 + 7 * sv s (51 + 3 * t) + 1 + q)) n (nI (51 + 3 * t)) (s0 (51 + 3 * t + 1)) (s0 (51 + 3 * t + 2)) (nI c) M = some (nI (c + r), M1) ∧ Sm M1 s0 ∧ (∀ c, c ≠ 379 → M1 c = M0 c) := by
  intro r
  induction r with
  | zero =>
    intro n c p b s M hk hS ht hs0 hq hp hb hpl hd hn hM
    obtain ⟨n, rfl⟩ : ∃ x, n = x + 1 := ⟨n - 1, by omega⟩
    have b2 := hk.1.2.2.1.2
    obtain ⟨-, -, m3, -⟩ := mv_ok hk ht
    have epq : p = q := by
      refine Decidable.byContradiction (fun hne => ?_)
      have := dst_nx hpl hq hne
      omega
    have et : tst s t = 16 + 7 * sv s (51 + 3 * t) + 1 + q := by
      unfold tst
      rw [sv_of hp (by have := hpl.2.2.1; have := hpl.2.1; omega), epq]
    have e1 := su_m hk hS ht
    rw [← (tst_ok hk ht).1, et] at e1
    have a1 : nI (51 + 3 * t) + 1 = nI (51 + 3 * t + 1) := nI_1 _
    have a2 : nI (51 + 3 * t) + 2 = nI (51 + 3 * t + 2) := nI_add _ 2
    rw [F_X9_arrivalOf_84, e1, bx_s, if_pos rfl, a1, a2, if_pos (nI_in (by omega) (by omega)), lx_s, if_pos (nI_in (by omega) (by omega)), lx_s, fw_wi, fw_wi, nI_clamp (by omega), nI_clamp (by omega)]
    refine ⟨_, rfl, fun j hj => ?_, fun c hc => by rw [up_n1 hc, up_n1 hc, hM c hc]⟩
    by_cases e2 : j = 51 + 3 * t + 2
    · rw [e2, up_e rfl rfl]
    · by_cases e3 : j = 51 + 3 * t + 1
      · rw [e3, up_n2 (by omega), up_e rfl rfl]
      · rw [up_n2 e2, up_n2 e3, hS j hj, hs0 j e3 e2]
  | succ r ih =>
    intro n c p b s M hk hS ht hs0 hq hp hb hpl hd hn hM
    obtain ⟨n, rfl⟩ : ∃ x, n = x + 1 := ⟨n - 1, by omega⟩
    have b2 := hk.1.2.2.1.2
    obtain ⟨m1, m2, m3, -⟩ := mv_ok hk ht
    have hne : p ≠ q := by
      intro e
      rw [e, dst_0] at hd
      omega
    have hpv : sv s (51 + 3 * t + 1) = p := sv_of hp (by have := hpl.2.2.1; have := hpl.2.1; omega)
    obtain ⟨p', b', l', z1, z2, z3, z4, z5, z6, z7⟩ := tr_ok hk ht
    have ep : p' = p := z1.trans hpv
    have eb : b' = b := by
      rw [hb] at z4
      have h1 := z5.2.2.2
      have h2 := hpl.2.2.2
      exact nI_inj (by omega) (by omega) z4.symm
    rw [ep, eb] at z6 z7
    rw [z2] at z7
    have e1 := su_m hk hS ht
    rw [← (tst_ok hk ht).1] at e1
    have et : tst s t = 16 + 7 * sv s (51 + 3 * t) + 1 + p := by
      unfold tst
      rw [hpv]
    have hstne : ¬ s (tst s t) = s (16 + 7 * sv s (51 + 3 * t) + 1 + q) := by
      rw [et]
      exact fun e => hne ((st_pos hk m3 hpl.2.2.1 hq).mp e)
    obtain ⟨A, w1, w2, w3⟩ := mv_m hk hS ht
    rw [F_X9_arrivalOf_84, e1, bx_s, if_neg hstne, w1, bp_s, nI_1]
    have v2 : sv (stp s t) 2 = sv s 2 := sv_cong (stp_n (by omega))
    have vl : sv (stp s t) (51 + 3 * t) = sv s (51 + 3 * t) := sv_cong (stp_n (by omega))
    have vm : mvl (stp s t) t = mvl s t := by
      unfold mvl
      rw [vl]
      exact sv_cong (stp_n (by omega))
    have hq6 : q < 6 := by omega
    have es : s (16 + 7 * sv s (51 + 3 * t) + 1 + q) = (stp s t) (16 + 7 * sv (stp s t) (51 + 3 * t) + 1 + q) := by
      rw [vl]
      exact (stp_n (by omega)).symm
    rw [es]
    obtain ⟨M1, x1, x2, x3⟩ := ih n (c + 1) (nxp p b) (nxb p b (mvl s t)) (stp s t) A (stp_ok hk ht) w2 (by omega) (fun j j1 j2 => by rw [stp_n ⟨j1, j2⟩, hs0 j j1 j2]) (by rw [vm]; exact hq) (by rw [stp_1, z6]) (by rw [stp_2, z7]) (by rw [vm]; exact pl_nx hpl) (by rw [vm]; have := dst_nx hpl hq hne; omega) (by omega) (fun c hc => (w3 c hc).trans (hM c hc))
    exact ⟨M1, by rw [x1, Nat.add_assoc, Nat.add_comm 1 r], x2, x3⟩
/-- the model's arrival: the distance, or thrown -/
theorem av_m {s : Nat → Int32} (hk : ok s) {M2 : fw_M} (hS : Sm M2 s) {t a p b q : Nat} (ht : t < sv s 2) (ha : a < sv s 0) (hp : s (51 + 3 * t + 1) = nI p) (hb : s (51 + 3 * t + 2) = nI b) (hpl : pl p b (mvl s t)) (hq : q < mvl s t) (hqa : sv s (16 + 7 * sv s (51 + 3 * t) + 1 + q) = a) : ∃ M6, F_X9_arrivalOf M2 (nI t) (nI a) = some (nI (dst p b q (mvl s t)), M6) ∧ M6 378 6 = nI 0 ∧ sm M2 M6 ∧ M6 386 = M2 386 := by
  have b0 := hk.1.1
  have b2 := hk.1.2.2.1
  obtain ⟨m1, m2, m3, -⟩ := mv_ok hk ht
  obtain ⟨t1, -⟩ := hk.2.2.2.2.2.1 t ht
  have e0 : F_X9_ofTram M2 (nI t) 0 = some (nI (sv s (51 + 3 * t))) := by
    have hS' : ∀ j, j < 129 → M2 379 j = s j := hS
    unfold F_X9_ofTram
    simp (disch := omega) only [ix_i, ↓pn_m, pn_l0, pn_l1, pn_l2, pn_l3, pn_l4, pn_l5, pn_l6, pn_l7, pn_l8, pn_l9, pn_l10, pn_l11, pn_l12, pn_l16, pn_l18, pn_l20, pn_l31, pn_l32, pn_l40, pn_l45, pn_l48, pn_l51, pn_l57, pn_l59, pn_l60, pn_l62, pn_l64, pn_l69, pn_l97, pn_l98, pn_l99, pn_l100, pn_l101, pn_l105, pn_l107, pn_l108, pn_l114, pn_l115, pn_l116, pn_l117, pn_l119, pn_l126, pn_l129, pn_l240, pn_l903, pn_l1032, nI_add, pk_mul, pk_sub, nI_clamp, nI_leI, nI_ltI, nI_eq, pm_1, pm_2, pm_3, pm_4, pm_5, pm_6, pm_7, pm_8, pn_lt, pn_nlt, pn_le, pn_nle, pn_ne, pn_eq, not_true_eq_false, not_false_eq_true, true_and, and_true, false_and, and_false, true_or, or_true, false_or, or_false, or_self, and_self, ne_eq, reduceIte, if_true, if_false, Nat.add_zero, Nat.zero_add, Nat.mul_zero, Nat.reduceAdd, Nat.reduceMul, fw_ri, hS', t1]
  have hps := pos_some hk hS m3 hq
  rw [hqa] at hps
  have a0 : (51 + (3 * nI t) : Int32) = nI (51 + 3 * t) := by
    rw [show (51 : Int32) = nI 51 from rfl, show (3 : Int32) = nI 3 from rfl, pk_mul, nI_add]
  have a1 : nI (51 + 3 * t) + 1 = nI (51 + 3 * t + 1) := nI_1 _
  have a2 : nI (51 + 3 * t) + 2 = nI (51 + 3 * t + 2) := nI_add _ 2
  have hS3 : Sm (fw_up M2 378 6 (nI 0)) s := hS.u (by omega)
  have g1 : fw_ri (fw_up M2 378 6 0) 379 (nI (51 + 3 * t + 1)) = s (51 + 3 * t + 1) := by rw [fw_ri, nI_clamp (by omega)]; exact hS3 _ (by omega)
  have g2 : fw_ri (fw_up M2 378 6 0) 379 (nI (51 + 3 * t + 2)) = s (51 + 3 * t + 2) := by rw [fw_ri, nI_clamp (by omega)]; exact hS3 _ (by omega)
  have hsa : s (16 + 7 * sv s (51 + 3 * t) + 1 + q) = nI a := by
    rw [← hqa]
    exact (hk.2.2.2.1 _ q m3 hq).1
  obtain ⟨M1, x1, x2, x3⟩ := av_84 (M0 := fw_up M2 378 6 (nI 0)) (s0 := s) (t := t) (q := q) (dst p b q (mvl s t)) 64 0 p b s (fw_up M2 378 6 (nI 0)) hk hS3 ht (fun _ _ _ => rfl) hq hp hb hpl rfl (by have := dst_le hpl hq; omega) (fun _ _ => rfl)
  rw [hsa, Nat.zero_add] at x1
  unfold F_X9_arrivalOf F_X9_arrivalOf_45
  rw [it_Tram ht (by omega) ((hS 2 (by omega)).trans b2.1), bx_s, if_neg (show ¬ nI 1 = 0 by decide), it_Stop ha (by omega) ((hS 0 (by omega)).trans b0.1), bx_s, if_pos (show ¬ nI 1 = 0 by decide), e0, bx_s, hps, bx_s, if_pos (show (0 : Int32) ≤ nI q from nI_pos' (by omega)), lx_s, up_e rfl rfl, if_pos (show (0 : Int32) ≤ 0 by decide), a0, a1, a2, if_pos (nI_in (by omega) (by omega)), if_pos (nI_in (by omega) (by omega)), g1, g2]
  have x1' : F_X9_arrivalOf_84 (nI t) (nI a) 64 (nI (51 + 3 * t)) (s (51 + 3 * t + 1)) (s (51 + 3 * t + 2)) 0 (fw_up M2 378 6 0) = some (nI (dst p b q (mvl s t)), M1) := x1
  rw [x1']
  refine ⟨M1, rfl, by rw [x3 378 (by omega), up_e rfl rfl], ?_, by rw [x3 386 (by omega), up_n1 (by omega)]⟩
  have fr : ∀ c, c ≠ 379 → c ≠ 378 → M1 c = M2 c := fun c h1 h2 => by rw [x3 c h1, up_n1 h2]
  exact ⟨fun k h => fr k (by omega) (by omega), fun k h1 h2 => fr k (by omega) (by omega), fun j hj => by rw [x3 378 (by omega), up_n2 hj], fun j hj => (x2 j hj).trans (hS j hj).symm, fun k h1 h2 => fr k (by omega) (by omega)⟩
theorem av_n {s : Nat → Int32} (hk : ok s) {M2 : fw_M} (hS : Sm M2 s) {t a : Nat} (ht : t < sv s 2) (ha : a < sv s 0) (hno : ∀ q, q < mvl s t → s (16 + 7 * sv s (51 + 3 * t) + 1 + q) ≠ nI a) : F_X9_arrivalOf M2 (nI t) (nI a) = some (nI 0, fw_up M2 378 6 (nI 2)) := by
  have b0 := hk.1.1
  have b2 := hk.1.2.2.1
  obtain ⟨m1, m2, m3, -⟩ := mv_ok hk ht
  obtain ⟨t1, -⟩ := hk.2.2.2.2.2.1 t ht
  have e0 : F_X9_ofTram M2 (nI t) 0 = some (nI (sv s (51 + 3 * t))) := by
    have hS' : ∀ j, j < 129 → M2 379 j = s j := hS
    unfold F_X9_ofTram
    simp (disch := omega) only [ix_i, ↓pn_m, pn_l0, pn_l1, pn_l2, pn_l3, pn_l4, pn_l5, pn_l6, pn_l7, pn_l8, pn_l9, pn_l10, pn_l11, pn_l12, pn_l16, pn_l18, pn_l20, pn_l31, pn_l32, pn_l40, pn_l45, pn_l48, pn_l51, pn_l57, pn_l59, pn_l60, pn_l62, pn_l64, pn_l69, pn_l97, pn_l98, pn_l99, pn_l100, pn_l101, pn_l105, pn_l107, pn_l108, pn_l114, pn_l115, pn_l116, pn_l117, pn_l119, pn_l126, pn_l129, pn_l240, pn_l903, pn_l1032, nI_add, pk_mul, pk_sub, nI_clamp, nI_leI, nI_ltI, nI_eq, pm_1, pm_2, pm_3, pm_4, pm_5, pm_6, pm_7, pm_8, pn_lt, pn_nlt, pn_le, pn_nle, pn_ne, pn_eq, not_true_eq_false, not_false_eq_true, true_and, and_true, false_and, and_false, true_or, or_true, false_or, or_false, or_self, and_self, ne_eq, reduceIte, if_true, if_false, Nat.add_zero, Nat.zero_add, Nat.mul_zero, Nat.reduceAdd, Nat.reduceMul, fw_ri, hS', t1]
  unfold F_X9_arrivalOf F_X9_arrivalOf_45
  rw [it_Tram ht (by omega) ((hS 2 (by omega)).trans b2.1), bx_s, if_neg (show ¬ nI 1 = 0 by decide), it_Stop ha (by omega) ((hS 0 (by omega)).trans b0.1), bx_s, if_pos (show ¬ nI 1 = 0 by decide), e0, bx_s, pos_none hk hS m3 hno, bx_s, if_neg (show ¬ (0 : Int32) ≤ mI by decide), lx_s, up_e rfl rfl, if_neg (show ¬ (2 : Int32) ≤ 0 by decide)]
  rfl
/-! the class's ways -/
theorem tr_c {M : fw_M} {s : Nat → Int32} (hk : ok s) (hR : R M 0 s) {t p b : Nat} (ht : t < sv s 2) (hp : s (51 + 3 * t + 1) = nI p) (hb : s (51 + 3 * t + 2) = nI b) (hb2 : b < 2) : fw_ri M (0 + 11 + 1) (nI t) = nI (sv s (51 + 3 * t)) ∧ fw_ri M (0 + 11 + 2) (nI t) = nI p ∧ fw_ri M (0 + 11 + 3) (nI t) = (if b = 1 then mI else nI 1) ∧ fw_ri M (0 + 1 + 2) (nI (sv s (51 + 3 * t))) = nI (mvl s t) := by
  have b2 := hk.1.2.2.1.2
  obtain ⟨m1, m2, m3, -⟩ := mv_ok hk ht
  obtain ⟨t1, -⟩ := hk.2.2.2.2.2.1 t ht
  obtain ⟨-, -, rl, -, rt, ru, -⟩ := R0 hR
  refine ⟨?_, ?_, ?_, ?_⟩
  · rw [fw_ri, nI_clamp (by omega)]; exact (rt t (by omega)).1.trans t1
  · rw [fw_ri, nI_clamp (by omega)]; exact (rt t (by omega)).2.trans hp
  · rw [fw_ri, nI_clamp (by omega)]
    refine (ru t ht).trans ?_
    rw [hb]
    rcases (show b = 0 ∨ b = 1 by omega) with rfl | rfl <;> rfl
  · rw [fw_ri, nI_clamp (by omega)]; exact (rl _ m3).1.trans (hk.2.2.1 _ m3).1
theorem tf_some {M : fw_M} {s : Nat → Int32} (hk : ok s) (hR : R M 0 s) {t a p b q : Nat} (ht : t < sv s 2) (hp : s (51 + 3 * t + 1) = nI p) (hb : s (51 + 3 * t + 2) = nI b) (hpl : pl p b (mvl s t)) (hq : q < mvl s t) (hqa : sv s (16 + 7 * sv s (51 + 3 * t) + 1 + q) = a) : F_X7_ticksByFormula M 0 (nI t) (nI a) = some (nI (dst p b q (mvl s t))) := by
  have b2 := hk.1.2.2.1.2
  obtain ⟨m1, m2, m3, -⟩ := mv_ok hk ht
  obtain ⟨z1, z2, z3, z4⟩ := tr_c hk hR ht hp hb (by have := hpl.2.2.2; omega)
  obtain ⟨h1, h2, h3, h4⟩ := hpl
  have hps := pon_some hk hR m3 hq
  rw [hqa] at hps
  have e1 : nI (mvl s t) - 1 = nI (mvl s t - 1) := pk_sub (a := mvl s t) (b := 1) (by omega)
  unfold F_X7_ticksByFormula
  rw [if_pos (nI_in (by omega) (by omega)), z1, z2, z3, z4]
  simp only [Nat.zero_add] at hps ⊢
  rw [hps, bx_s, if_pos (fun e => by rw [show (-1 : Int32) = mI from rfl, pm_1 (by omega)] at e; exact e), if_pos (nI_in (by omega) (by omega)), e1]
  unfold dst
  rcases h4 with ⟨rfl, h4⟩ | ⟨rfl, h4⟩
  · rw [if_neg (show ¬ (if (0 : Nat) = 1 then mI else nI 1) ≤ 0 by decide), if_pos rfl]
    by_cases c : q < p
    · rw [if_pos (nI_lt c (by omega)), if_pos c, pk_sub (by omega), pk_sub (by omega), nI_add]
    · rw [if_neg (nI_nlt (by omega) (by omega)), if_neg c, pk_sub (by omega)]
  · rw [if_pos (show (if (1 : Nat) = 1 then mI else nI 1) ≤ 0 by decide), if_neg (show ¬ 1 = 0 by omega)]
    by_cases c : p < q
    · rw [if_pos (nI_lt c (by omega)), if_pos c, nI_add]
    · rw [if_neg (nI_nlt (by omega) (by omega)), if_neg c, pk_sub (by omega)]
theorem tf_none {M : fw_M} {s : Nat → Int32} (hk : ok s) (hR : R M 0 s) {t a p b : Nat} (ht : t < sv s 2) (hp : s (51 + 3 * t + 1) = nI p) (hb : s (51 + 3 * t + 2) = nI b) (hpl : pl p b (mvl s t)) (hno : ∀ q, q < mvl s t → s (16 + 7 * sv s (51 + 3 * t) + 1 + q) ≠ nI a) : F_X7_ticksByFormula M 0 (nI t) (nI a) = some mI := by
  have b2 := hk.1.2.2.1.2
  obtain ⟨m1, m2, m3, -⟩ := mv_ok hk ht
  obtain ⟨z1, z2, z3, z4⟩ := tr_c hk hR ht hp hb (by have := hpl.2.2.2; omega)
  have hps := pon_none hk hR m3 hno
  unfold F_X7_ticksByFormula
  rw [if_pos (nI_in (by omega) (by omega)), z1, z2, z3, z4]
  simp only [Nat.zero_add] at hps ⊢
  rw [hps, bx_s, if_neg (show ¬ ¬ mI = -1 from fun e => e rfl)]
  rfl
theorem ts_step {M : fw_M} {p b l : Nat} (h : pl p b l) : nI p + (if b = 1 then mI else nI 1) = nI (nxp p b) ∧ F_X1_turned M (nI (nxp p b)) (if b = 1 then mI else nI 1) (nI (l - 1)) = some (if nxb p b l = 1 then mI else nI 1) := by
  obtain ⟨h1, h2, h3, h4⟩ := h
  unfold nxb nxp F_X1_turned
  rcases h4 with ⟨rfl, h4⟩ | ⟨rfl, h4⟩
  · rw [if_neg (show ¬ 0 = 1 by omega), if_neg (show ¬ 0 = 1 by omega)]
    refine ⟨nI_1 p, ?_⟩
    by_cases c : p + 1 + 1 = l
    · rw [if_neg (nI_nlt (by omega) (by omega)), if_pos c]
      rfl
    · rw [if_pos (nI_lt (by omega) (by omega)), if_neg c, if_neg (show ¬ p + 1 = 0 by omega), if_pos (show (0 : Int32) < nI (p + 1) from nI_lt (a := 0) (by omega) (by omega))]
      rfl
  · rw [if_pos rfl, if_pos rfl, if_neg (show ¬ p - 1 + 1 = l by omega)]
    refine ⟨add_m h4, ?_⟩
    rw [if_pos (nI_lt (by omega) (by omega))]
    by_cases c : p - 1 = 0
    · rw [if_pos c, if_neg (show ¬ (0 : Int32) < nI (p - 1) by rw [c]; decide)]
      rfl
    · rw [if_neg c, if_pos (show (0 : Int32) < nI (p - 1) from nI_lt (a := 0) (by omega) (by omega))]
      rfl
theorem ts_48 {M : fw_M} {s : Nat → Int32} (hk : ok s) (hR : R M 0 s) {t l a : Nat} {a1 : Int32} (hl : l < 5) (hlm : sv s (16 + 7 * l) = t) : ∀ (r n c p b q : Nat), q < t → sv s (16 + 7 * l + 1 + q) = a → pl p b t → dst p b q t = r → c + r ≤ 10 → r < n → F_X7_ticksBySimulation_48 M 0 a1 (nI a) n (nI l) (nI (t - 1)) (nI p) (if b = 1 then mI else nI 1) (nI c) = some (nI (c + r)) := by
  obtain ⟨-, -, -, rs, -⟩ := R0 hR
  intro r
  induction r with
  | zero =>
    intro n c p b q hq hqa hpl hd hc hn
    obtain ⟨n, rfl⟩ : ∃ x, n = x + 1 := ⟨n - 1, by omega⟩
    have epq : p = q := by
      refine Decidable.byContradiction (fun hne => ?_)
      have := dst_nx hpl hq hne
      omega
    subst epq
    have g : fw_ri M (0 + 1 + 4 + (nI l).toNatClampNeg) (nI p) = nI a := by
      rw [fw_ri, nI_clamp (by omega), nI_clamp (by have := hpl.2.1; omega), ← hqa]
      exact (rs l p hl (by have := hpl.2.1; omega)).trans (hk.2.2.2.1 l p hl (by omega)).1
    rw [F_X7_ticksBySimulation_48, if_neg (show ¬ (10 : Int32) < nI c from nI_nlt (a := 10) (by omega) (by omega)), if_pos (nI_in hl (by omega)), if_pos (nI_in (by have := hpl.2.1; omega) (by omega)), g, if_neg (fun e => e rfl)]
    rfl
  | succ r ih =>
    intro n c p b q hq hqa hpl hd hc hn
    obtain ⟨n, rfl⟩ : ∃ x, n = x + 1 := ⟨n - 1, by omega⟩
    have hne : p ≠ q := by
      intro e
      rw [e, dst_0] at hd
      omega
    have g : fw_ri M (0 + 1 + 4 + (nI l).toNatClampNeg) (nI p) = s (16 + 7 * l + 1 + p) := by
      rw [fw_ri, nI_clamp (by omega), nI_clamp (by have := hpl.2.1; have := hpl.2.2.1; omega)]
      exact rs l p hl (by have := hpl.2.1; have := hpl.2.2.1; omega)
    have hst : ¬ s (16 + 7 * l + 1 + p) = nI a := by
      rw [← hqa, ← (hk.2.2.2.1 l q hl (by omega)).1]
      exact fun e => hne ((st_pos hk hl (by rw [hlm]; exact hpl.2.2.1) (by omega)).mp e)
    obtain ⟨s1, s2⟩ := ts_step (M := M) hpl
    rw [F_X7_ticksBySimulation_48, if_neg (show ¬ (10 : Int32) < nI c from nI_nlt (a := 10) (by omega) (by omega)), if_pos (nI_in hl (by omega)), if_pos (nI_in (by have := hpl.2.1; have := hpl.2.2.1; omega) (by omega)), g, if_pos hst, s1, s2, bx_s, nI_1]
    rw [ih n (c + 1) (nxp p b) (nxb p b t) q hq hqa (pl_nx hpl) (by have := dst_nx hpl hq hne; omega) (by omega) (by omega), Nat.add_assoc, Nat.add_comm 1 r]
theorem ts_48n {M : fw_M} {s : Nat → Int32} (hR : R M 0 s) {t l a : Nat} {a1 : Int32} (hl : l < 5) (hno : ∀ q, q < t → s (16 + 7 * l + 1 + q) ≠ nI a) : ∀ (r n c p b : Nat), pl p b t → c + r = 11 → r < n → F_X7_ticksBySimulation_48 M 0 a1 (nI a) n (nI l) (nI (t - 1)) (nI p) (if b = 1 then mI else nI 1) (nI c) = some mI := by
  obtain ⟨-, -, -, rs, -⟩ := R0 hR
  intro r
  induction r with
  | zero =>
    intro n c p b hpl hc hn
    obtain ⟨n, rfl⟩ : ∃ x, n = x + 1 := ⟨n - 1, by omega⟩
    rw [F_X7_ticksBySimulation_48, if_pos (show (10 : Int32) < nI c from nI_lt (a := 10) (by omega) (by omega))]
    rfl
  | succ r ih =>
    intro n c p b hpl hc hn
    obtain ⟨n, rfl⟩ : ∃ x, n = x + 1 := ⟨n - 1, by omega⟩
    have g : fw_ri M (0 + 1 + 4 + (nI l).toNatClampNeg) (nI p) = s (16 + 7 * l + 1 + p) := by
      rw [fw_ri, nI_clamp (by omega), nI_clamp (by have := hpl.2.1; have := hpl.2.2.1; omega)]
      exact rs l p hl (by have := hpl.2.1; have := hpl.2.2.1; omega)
    obtain ⟨s1, s2⟩ := ts_step (M := M) hpl
    rw [F_X7_ticksBySimulation_48, if_neg (show ¬ (10 : Int32) < nI c from nI_nlt (a := 10) (by omega) (by omega)), if_pos (nI_in hl (by omega)), if_pos (nI_in (by have := hpl.2.1; have := hpl.2.2.1; omega) (by omega)), g, if_pos (hno p hpl.2.2.1), s1, s2, bx_s, nI_1]
    exact ih n (c + 1) (nxp p b) (nxb p b t) (pl_nx hpl) (by omega) (by omega)
theorem q_19 {M : fw_M} (h : Inv M) (xs : Nat → Int32) (i : Int32) : ∃ M1, F_cs_19 M xs i = some M1 ∧ Inv M1 := by
  have hI := h
  obtain ⟨⟨s, hk, hR, hS⟩, -⟩ := h
  have hk0 := hk
  obtain ⟨⟨⟨c0, b0⟩, ⟨c1, b1⟩, ⟨c2, b2⟩, ⟨c3, b3⟩, c4, b4⟩, oz, ol, os, od, ot, op, oq⟩ := hk
  obtain ⟨⟨r0, r1, r2, -⟩, -⟩ := R0 hR
  unfold F_cs_19
  generalize xs (i + 1).toNatClampNeg = a
  generalize xs (i + 2).toNatClampNeg = b
  rcases px_o a (n := sv s 2) (by omega) with ⟨t, ht, rfl⟩ | ho
  · rcases px_o b (n := sv s 0) (by omega) with ⟨a, ha, rfl⟩ | hob
    · obtain ⟨p, b, l, z1, rfl, z3, z4, z5, -⟩ := tr_ok hk0 ht
      obtain ⟨m1, m2, m3, -⟩ := mv_ok hk0 ht
      rcases on_line hk0 (l := sv s (51 + 3 * t)) (k := a) m3 (by omega) with ⟨q, hq, hqa⟩ | hno
      · have := dst_le z5 hq
        refine fin_l hI (nI (dst p b q (mvl s t))) sm_0 ?_ (fun M2 h2 => av_m hk0 (hS.sm h2) ht ha z3 z4 z5 hq hqa)
        unfold F_L_arrivalOf F_X8_arrivalOf
        rw [rt_Tram ht (by omega) (r2.trans c2), bt_l, rt_Stop ha (by omega) (r0.trans c0), bt_l, tf_some hk0 hR ht z3 z4 z5 hq hqa, bx_s, fo_0 (by omega), bt_l, wl_s]
      · refine fin_e hI 2 (by omega) sm_0 ?_ (fun M2 h2 => ?_)
        · unfold F_L_arrivalOf F_X8_arrivalOf
          rw [rt_Tram ht (by omega) (r2.trans c2), bt_l, rt_Stop ha (by omega) (r0.trans c0), bt_l, tf_none hk0 hR ht z3 z4 z5 hno, bx_s, fo_1]
          rfl
        · rw [av_n hk0 (hS.sm h2) ht ha hno]
          exact lv_e
    · refine fin_e hI 1 (by omega) sm_0 ?_ (fun M2 h2 => ?_)
      · unfold F_L_arrivalOf F_X8_arrivalOf
        rw [rt_Tram ht (by omega) (r2.trans c2), bt_l, rq_Stop hob (r0.trans c0)]
        rfl
      · have hS2 := hS.sm h2
        unfold F_X9_arrivalOf F_X9_fails
        rw [it_Tram ht (by omega) ((hS2 2 (by omega)).trans c2), bx_s, if_neg (show ¬ nI 1 = 0 by decide), is_Stop hob (by omega) ((hS2 0 (by omega)).trans c0), bx_s, if_neg (show ¬ ¬ nI 0 = 0 from fun q => q rfl), lx_s, bp_s]
        exact lv_e
  · refine fin_e hI 1 (by omega) sm_0 ?_ (fun M2 h2 => ?_)
    · unfold F_L_arrivalOf F_X8_arrivalOf
      rw [rq_Tram ho (r2.trans c2)]
      rfl
    · have hS2 := hS.sm h2
      unfold F_X9_arrivalOf F_X9_fails
      rw [is_Tram ho (by omega) ((hS2 2 (by omega)).trans c2), bx_s, if_pos (show nI 0 = 0 from rfl), lx_s, bp_s]
      exact lv_e
theorem q_20 {M : fw_M} (h : Inv M) (xs : Nat → Int32) (i : Int32) : ∃ M1, F_cs_20 M xs i = some M1 ∧ Inv M1 := by
  have hI := h
  obtain ⟨⟨s, hk, hR, hS⟩, -⟩ := h
  have hk0 := hk
  obtain ⟨⟨⟨c0, b0⟩, ⟨c1, b1⟩, ⟨c2, b2⟩, ⟨c3, b3⟩, c4, b4⟩, oz, ol, os, od, ot, op, oq⟩ := hk
  obtain ⟨⟨r0, r1, r2, -⟩, -⟩ := R0 hR
  unfold F_cs_20
  generalize xs (i + 1).toNatClampNeg = a
  generalize xs (i + 2).toNatClampNeg = b
  rcases px_o a (n := sv s 2) (by omega) with ⟨t, ht, rfl⟩ | ho
  · rcases px_o b (n := sv s 0) (by omega) with ⟨a, ha, rfl⟩ | hob
    · obtain ⟨p, b, l, z1, rfl, z3, z4, z5, -⟩ := tr_ok hk0 ht
      obtain ⟨m1, m2, m3, -⟩ := mv_ok hk0 ht
      obtain ⟨y1, y2, y3, y4⟩ := tr_c hk0 hR ht z3 z4 (by have := z5.2.2.2; omega)
      have e1 : nI (mvl s t) - 1 = nI (mvl s t - 1) := pk_sub (a := mvl s t) (b := 1) (by omega)
      rcases on_line hk0 (l := sv s (51 + 3 * t)) (k := a) m3 (by omega) with ⟨q, hq, hqa⟩ | hno
      · have hdl := dst_le z5 hq
        refine fin_l hI (nI (dst p b q (mvl s t))) sm_0 ?_ (fun M2 h2 => ?_)
        · have w := ts_48 hk0 hR (a1 := nI t) m3 rfl (dst p b q (mvl s t)) 64 0 p b q hq hqa z5 rfl (by omega) (by omega)
          rw [Nat.zero_add] at w
          have w' : F_X7_ticksBySimulation_48 M 0 (nI t) (nI a) 64 (nI (sv s (51 + 3 * t))) (nI (mvl s t - 1)) (nI p) (if b = 1 then mI else nI 1) 0 = some (nI (dst p b q (mvl s t))) := w
          unfold F_L_arrivalBySimulation F_X8_arrivalBySimulation F_X7_ticksBySimulation
          rw [rt_Tram ht (by omega) (r2.trans c2), bt_l, rt_Stop ha (by omega) (r0.trans c0), bt_l, if_pos (nI_in (by omega) (by omega)), y1, y2, y3, y4, e1, if_pos (nI_in (by omega) (by omega)), w', bx_s, fo_0 (by omega), bt_l, wl_s]
        · obtain ⟨M6, w1, w2⟩ := av_m hk0 (hS.sm h2) ht ha z3 z4 z5 hq hqa
          unfold F_X9_arrivalBySimulation
          rw [w1, bp_s]
          exact ⟨M6, rfl, w2⟩
      · refine fin_e hI 2 (by omega) sm_0 ?_ (fun M2 h2 => ?_)
        · have w' : F_X7_ticksBySimulation_48 M 0 (nI t) (nI a) 64 (nI (sv s (51 + 3 * t))) (nI (mvl s t - 1)) (nI p) (if b = 1 then mI else nI 1) 0 = some mI := ts_48n hR (a1 := nI t) m3 hno 11 64 0 p b z5 rfl (by omega)
          unfold F_L_arrivalBySimulation F_X8_arrivalBySimulation F_X7_ticksBySimulation
          rw [rt_Tram ht (by omega) (r2.trans c2), bt_l, rt_Stop ha (by omega) (r0.trans c0), bt_l, if_pos (nI_in (by omega) (by omega)), y1, y2, y3, y4, e1, if_pos (nI_in (by omega) (by omega)), w', bx_s, fo_1]
          rfl
        · unfold F_X9_arrivalBySimulation
          rw [av_n hk0 (hS.sm h2) ht ha hno, bp_s]
          exact lv_e
    · refine fin_e hI 1 (by omega) sm_0 ?_ (fun M2 h2 => ?_)
      · unfold F_L_arrivalBySimulation F_X8_arrivalBySimulation
        rw [rt_Tram ht (by omega) (r2.trans c2), bt_l, rq_Stop hob (r0.trans c0)]
        rfl
      · have hS2 := hS.sm h2
        unfold F_X9_arrivalBySimulation F_X9_arrivalOf F_X9_fails
        rw [it_Tram ht (by omega) ((hS2 2 (by omega)).trans c2), bx_s, if_neg (show ¬ nI 1 = 0 by decide), is_Stop hob (by omega) ((hS2 0 (by omega)).trans c0), bx_s, if_neg (show ¬ ¬ nI 0 = 0 from fun q => q rfl), lx_s, bp_s, bp_s]
        exact lv_e
  · refine fin_e hI 1 (by omega) sm_0 ?_ (fun M2 h2 => ?_)
    · unfold F_L_arrivalBySimulation F_X8_arrivalBySimulation
      rw [rq_Tram ho (r2.trans c2)]
      rfl
    · have hS2 := hS.sm h2
      unfold F_X9_arrivalBySimulation F_X9_arrivalOf F_X9_fails
      rw [is_Tram ho (by omega) ((hS2 2 (by omega)).trans c2), bx_s, if_pos (show nI 0 = 0 from rfl), lx_s, bp_s, bp_s]
      exact lv_e
