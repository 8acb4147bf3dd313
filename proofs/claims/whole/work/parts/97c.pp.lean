/-! paths -/
def scr (M M1 : fw_M) : Prop := ∀ c, ¬ (355 ≤ c ∧ c < 360) → M1 c = M c
theorem scr.sm {M M1 : fw_M} (h : scr M M1) : sm M M1 := ⟨fun k a => h k (by omega), fun k a b => h k (by omega), fun j _ => by rw [h 378 (by omega)], fun j _ => by rw [h 379 (by omega)], fun k a b => h k (by omega)⟩
theorem fo_1 {M : fw_M} : F_X8_found M mI = some (.inr 3, M) := rfl
theorem fo_0 {M : fw_M} {k : Nat} (h : k < 2 ^ 31) : F_X8_found M (nI k) = some (.inl (nI k), M) := by
  unfold F_X8_found
  rw [if_pos (fun q => by rw [show (-1 : Int32) = mI from rfl, pm_1 h] at q; exact q)]
theorem dm_k {M2 : fw_M} {a b k : Nat} (i1 : F_X9_isStop M2 (nI a) = some (nI 1)) (i2 : F_X9_isStop M2 (nI b) = some (nI 1)) (hk : k < 2 ^ 31) (w : F_X9_widenings M2 (nI a) (nI b) 1 = some (nI k)) : F_X9_distance M2 (nI a) (nI b) = some (nI k, fw_up M2 378 6 (nI 0)) := by
  unfold F_X9_distance
  rw [i1, bx_s, if_neg (show ¬ nI 1 = 0 by decide), i2, bx_s, if_pos (show ¬ nI 1 = 0 by decide), w, bx_s, if_pos (show (0 : Int32) ≤ nI k from nI_pos' hk), lx_s, up_e rfl rfl, if_pos (show (0 : Int32) ≤ 0 by decide)]
  rfl
theorem dm_n {M2 : fw_M} {a b : Nat} (i1 : F_X9_isStop M2 (nI a) = some (nI 1)) (i2 : F_X9_isStop M2 (nI b) = some (nI 1)) (w : F_X9_widenings M2 (nI a) (nI b) 1 = some mI) : F_X9_distance M2 (nI a) (nI b) = some (nI 0, fw_up M2 378 6 (nI 2)) := by
  unfold F_X9_distance
  rw [i1, bx_s, if_neg (show ¬ nI 1 = 0 by decide), i2, bx_s, if_pos (show ¬ nI 1 = 0 by decide), w, bx_s, if_neg (show ¬ (0 : Int32) ≤ mI by decide), lx_s, up_e rfl rfl, if_neg (show ¬ (2 : Int32) ≤ 0 by decide)]
  rfl
theorem cm_k {M2 : fw_M} {a b k : Nat} (i1 : F_X9_isStop M2 (nI a) = some (nI 1)) (i2 : F_X9_isStop M2 (nI b) = some (nI 1)) (hk : k < 2 ^ 30) (w : F_X9_widenings M2 (nI a) (nI b) 0 = some (nI k)) : F_X9_changes M2 (nI a) (nI b) = some (nI (k - 1), fw_up M2 378 6 (nI 0)) := by
  have e : (if (0 : Int32) < nI k - 1 then nI k - 1 else 0) = nI (k - 1) := by
    cases k with
    | zero => rw [if_neg (show ¬ (0 : Int32) < nI 0 - 1 by decide)]; rfl
    | succ k =>
      rw [nI_pred, Nat.add_sub_cancel]
      by_cases h : 0 < k
      · rw [if_pos (show (0 : Int32) < nI k from nI_lt (a := 0) h (by omega))]
      · rw [if_neg (show ¬ (0 : Int32) < nI k from nI_nlt (a := 0) (by omega) (by omega))]
        obtain rfl : k = 0 := by omega
        rfl
  unfold F_X9_changes
  rw [i1, bx_s, if_neg (show ¬ nI 1 = 0 by decide), i2, bx_s, if_pos (show ¬ nI 1 = 0 by decide), w, bx_s, if_pos (show (0 : Int32) ≤ nI k from nI_pos' (by omega)), lx_s, up_e rfl rfl, if_pos (show (0 : Int32) ≤ 0 by decide), e]
  rfl
theorem cm_n {M2 : fw_M} {a b : Nat} (i1 : F_X9_isStop M2 (nI a) = some (nI 1)) (i2 : F_X9_isStop M2 (nI b) = some (nI 1)) (w : F_X9_widenings M2 (nI a) (nI b) 0 = some mI) : F_X9_changes M2 (nI a) (nI b) = some (nI 0, fw_up M2 378 6 (nI 2)) := by
  unfold F_X9_changes
  rw [i1, bx_s, if_neg (show ¬ nI 1 = 0 by decide), i2, bx_s, if_pos (show ¬ nI 1 = 0 by decide), w, bx_s, if_neg (show ¬ (0 : Int32) ≤ mI by decide), lx_s, up_e rfl rfl, if_neg (show ¬ (2 : Int32) ≤ 0 by decide)]
  rfl
/-- the model's changes: what the search over lines finds -/
theorem cm_ok {s : Nat → Int32} (hk : ok s) {a t : Nat} (ha : a < 10) (ht : t < 10) (hat : a ≠ t) {x : Int32} (hx : Rs1 (fun k => ∃ l, lev (AL s a) (EL s) k l ∧ onl s l t) x) {M2 : fw_M} (hS : Sm M2 s) : (∃ k, k < 16 ∧ x = nI k ∧ F_X9_widenings M2 (nI a) (nI t) 0 = some (nI (k + 1))) ∨ (x = mI ∧ F_X9_widenings M2 (nI a) (nI t) 0 = some mI) := by
  obtain ⟨w, w1, w2⟩ := ws_ok hk hS (b := 0) (by omega) ha ht
  have w1 : F_X9_widenings M2 (nI a) (nI t) 0 = some w := w1
  rcases w2 with ⟨k, h1, rfl, h2, h3⟩ | ⟨rfl, h2⟩
  · left
    cases k with
    | zero => exact absurd (show t = a from h2).symm hat
    | succ k =>
      have hp : ∃ l, lev (AL s a) (EL s) k l ∧ onl s l t := ((ls_k k t).mp h2).resolve_left (fun q => hat q.symm)
      have hr : Rs1 (fun k => ∃ l, lev (AL s a) (EL s) k l ∧ onl s l t) (nI k) := Or.inl ⟨k, by omega, rfl, hp, fun j hj q => h3 (j + 1) (by omega) ((ls_k j t).mpr (Or.inr q))⟩
      exact ⟨k, by omega, hx.one hr, w1⟩
  · right
    exact ⟨hx.one (Or.inr ⟨rfl, fun k q => h2 (k + 1) ((ls_k k t).mpr (Or.inr q))⟩), w1⟩
theorem q_40 {M : fw_M} (h : Inv M) (xs : Nat → Int32) (i : Int32) : ∃ M1, F_cs_40 M xs i = some M1 ∧ Inv M1 := by
  have hI := h
  obtain ⟨⟨s, hk, hR, hS⟩, -⟩ := h
  have hk0 := hk
  obtain ⟨⟨⟨c0, b0⟩, ⟨c1, b1⟩, ⟨c2, b2⟩, ⟨c3, b3⟩, c4, b4⟩, oz, ol, os, od, ot, op, oq⟩ := hk
  obtain ⟨⟨r0, -⟩, -⟩ := R0 hR
  unfold F_cs_40
  generalize xs (i + 1).toNatClampNeg = a
  generalize xs (i + 2).toNatClampNeg = b
  rcases px_o a (n := sv s 0) (by omega) with ⟨u, hu, rfl⟩ | ho
  · rcases px_o b (n := sv s 0) (by omega) with ⟨v, hv, rfl⟩ | hob
    · obtain ⟨x, M1, a1, a2, a3⟩ := sb_ok hk0 hR (a := u) (t := v) (by omega) (by omega)
      have hsc : sm M M1 := scr.sm (fun c hc => a3 c (by omega) (by omega) (by omega))
      rcases a2 with ⟨k, k1, rfl, k2⟩ | ⟨rfl, k2⟩
      · refine fin_l hI (nI k) hsc ?_ (fun M2 h2 => ?_)
        · unfold F_L_distance F_X8_distance
          rw [rt_Stop hu (by omega) (r0.trans c0), bt_l, rt_Stop hv (by omega) (r0.trans c0), bt_l, a1, bp_s, fo_0 (by omega), bt_l, wl_s]
        · have hS2 := hS.sm h2
          obtain ⟨w, w1, w2⟩ := ws_ok hk0 hS2 (b := 1) (a := u) (t := v) (by omega) (by omega) (by omega)
          have e := w2.one (Or.inl ⟨k, k1, rfl, k2⟩)
          rw [e] at w1
          rw [dm_k (it_Stop hu (by omega) ((hS2 0 (by omega)).trans c0)) (it_Stop hv (by omega) ((hS2 0 (by omega)).trans c0)) (by omega) w1]
          exact lv_0
      · refine fin_e hI 2 (by omega) hsc ?_ (fun M2 h2 => ?_)
        · unfold F_L_distance F_X8_distance
          rw [rt_Stop hu (by omega) (r0.trans c0), bt_l, rt_Stop hv (by omega) (r0.trans c0), bt_l, a1, bp_s, fo_1]
          rfl
        · have hS2 := hS.sm h2
          obtain ⟨w, w1, w2⟩ := ws_ok hk0 hS2 (b := 1) (a := u) (t := v) (by omega) (by omega) (by omega)
          have e := w2.one (Or.inr ⟨rfl, k2⟩)
          rw [e] at w1
          rw [dm_n (it_Stop hu (by omega) ((hS2 0 (by omega)).trans c0)) (it_Stop hv (by omega) ((hS2 0 (by omega)).trans c0)) w1]
          exact lv_e
    · refine fin_e hI 1 (by omega) sm_0 ?_ (fun M2 h2 => ?_)
      · unfold F_L_distance F_X8_distance
        rw [rt_Stop hu (by omega) (r0.trans c0), bt_l, rq_Stop hob (r0.trans c0)]
        rfl
      · have hS2 := hS.sm h2
        unfold F_X9_distance F_X9_fails
        rw [it_Stop hu (by omega) ((hS2 0 (by omega)).trans c0), bx_s, if_neg (show ¬ nI 1 = 0 by decide), is_Stop hob (by omega) ((hS2 0 (by omega)).trans c0), bx_s, if_neg (show ¬ ¬ nI 0 = 0 from fun q => q rfl), lx_s, bp_s]
        exact lv_e
  · refine fin_e hI 1 (by omega) sm_0 ?_ (fun M2 h2 => ?_)
    · unfold F_L_distance F_X8_distance
      rw [rq_Stop ho (r0.trans c0)]
      rfl
    · have hS2 := hS.sm h2
      unfold F_X9_distance F_X9_fails
      rw [is_Stop ho (by omega) ((hS2 0 (by omega)).trans c0), bx_s, if_pos (show nI 0 = 0 from rfl), lx_s, bp_s]
      exact lv_e
theorem q_41 {M : fw_M} (h : Inv M) (xs : Nat → Int32) (i : Int32) : ∃ M1, F_cs_41 M xs i = some M1 ∧ Inv M1 := by
  have hI := h
  obtain ⟨⟨s, hk, hR, hS⟩, -⟩ := h
  have hk0 := hk
  obtain ⟨⟨⟨c0, b0⟩, ⟨c1, b1⟩, ⟨c2, b2⟩, ⟨c3, b3⟩, c4, b4⟩, oz, ol, os, od, ot, op, oq⟩ := hk
  obtain ⟨⟨r0, -⟩, -⟩ := R0 hR
  unfold F_cs_41
  generalize xs (i + 1).toNatClampNeg = a
  generalize xs (i + 2).toNatClampNeg = b
  rcases px_o a (n := sv s 0) (by omega) with ⟨u, hu, rfl⟩ | ho
  · rcases px_o b (n := sv s 0) (by omega) with ⟨v, hv, rfl⟩ | hob
    · obtain ⟨x, M1, a1, a2, a3⟩ := sr_ok hk0 hR (a := u) (t := v) (by omega) (by omega)
      have hsc : sm M M1 := scr.sm (fun c hc => a3 c (by omega))
      rcases a2 with ⟨k, k1, rfl, k2⟩ | ⟨rfl, k2⟩
      · refine fin_l hI (nI k) hsc ?_ (fun M2 h2 => ?_)
        · unfold F_L_distanceByRelaxation F_X8_distanceByRelaxation
          rw [rt_Stop hu (by omega) (r0.trans c0), bt_l, rt_Stop hv (by omega) (r0.trans c0), bt_l, a1, bp_s, fo_0 (by omega), bt_l, wl_s]
        · have hS2 := hS.sm h2
          obtain ⟨w, w1, w2⟩ := ws_ok hk0 hS2 (b := 1) (a := u) (t := v) (by omega) (by omega) (by omega)
          have e := w2.one (Or.inl ⟨k, k1, rfl, k2⟩)
          rw [e] at w1
          unfold F_X9_distanceByRelaxation
          rw [dm_k (it_Stop hu (by omega) ((hS2 0 (by omega)).trans c0)) (it_Stop hv (by omega) ((hS2 0 (by omega)).trans c0)) (by omega) w1, bp_s]
          exact lv_0
      · refine fin_e hI 2 (by omega) hsc ?_ (fun M2 h2 => ?_)
        · unfold F_L_distanceByRelaxation F_X8_distanceByRelaxation
          rw [rt_Stop hu (by omega) (r0.trans c0), bt_l, rt_Stop hv (by omega) (r0.trans c0), bt_l, a1, bp_s, fo_1]
          rfl
        · have hS2 := hS.sm h2
          obtain ⟨w, w1, w2⟩ := ws_ok hk0 hS2 (b := 1) (a := u) (t := v) (by omega) (by omega) (by omega)
          have e := w2.one (Or.inr ⟨rfl, k2⟩)
          rw [e] at w1
          unfold F_X9_distanceByRelaxation
          rw [dm_n (it_Stop hu (by omega) ((hS2 0 (by omega)).trans c0)) (it_Stop hv (by omega) ((hS2 0 (by omega)).trans c0)) w1, bp_s]
          exact lv_e
    · refine fin_e hI 1 (by omega) sm_0 ?_ (fun M2 h2 => ?_)
      · unfold F_L_distanceByRelaxation F_X8_distanceByRelaxation
        rw [rt_Stop hu (by omega) (r0.trans c0), bt_l, rq_Stop hob (r0.trans c0)]
        rfl
      · have hS2 := hS.sm h2
        unfold F_X9_distanceByRelaxation F_X9_distance F_X9_fails
        rw [it_Stop hu (by omega) ((hS2 0 (by omega)).trans c0), bx_s, if_neg (show ¬ nI 1 = 0 by decide), is_Stop hob (by omega) ((hS2 0 (by omega)).trans c0), bx_s, if_neg (show ¬ ¬ nI 0 = 0 from fun q => q rfl), lx_s, bp_s, bp_s]
        exact lv_e
  · refine fin_e hI 1 (by omega) sm_0 ?_ (fun M2 h2 => ?_)
    · unfold F_L_distanceByRelaxation F_X8_distanceByRelaxation
      rw [rq_Stop ho (r0.trans c0)]
      rfl
    · have hS2 := hS.sm h2
      unfold F_X9_distanceByRelaxation F_X9_distance F_X9_fails
      rw [is_Stop ho (by omega) ((hS2 0 (by omega)).trans c0), bx_s, if_pos (show nI 0 = 0 from rfl), lx_s, bp_s, bp_s]
      exact lv_e
theorem cl_s {s : Nat → Int32} (hk : ok s) {M : fw_M} (hR : R M 0 s) {a : Nat} (ha : a < 10) : F_X5_linesBySearch M 1 (nI a) (nI a) = some (nI 0, M) ∧ F_X5_linesByGrowth M 1 (nI a) (nI a) = some (nI 0) := by
  unfold F_X5_linesBySearch F_X5_linesByGrowth
  exact ⟨if_neg (fun q => q rfl), if_neg (fun q => q rfl)⟩
theorem wz_0 {s : Nat → Int32} (hk : ok s) {M : fw_M} (hS : Sm M s) {a : Nat} (ha : a < 10) : F_X9_widenings M (nI a) (nI a) 0 = some (nI 0) := by
  obtain ⟨w, w1, w2⟩ := ws_ok hk hS (b := 0) (a := a) (t := a) (by omega) ha ha
  have e := w2.one (Or.inl ⟨0, by omega, rfl, rfl, fun j hj => by omega⟩)
  rw [e] at w1
  exact w1
theorem q_42 {M : fw_M} (h : Inv M) (xs : Nat → Int32) (i : Int32) : ∃ M1, F_cs_42 M xs i = some M1 ∧ Inv M1 := by
  have hI := h
  obtain ⟨⟨s, hk, hR, hS⟩, -⟩ := h
  have hk0 := hk
  obtain ⟨⟨⟨c0, b0⟩, ⟨c1, b1⟩, ⟨c2, b2⟩, ⟨c3, b3⟩, c4, b4⟩, oz, ol, os, od, ot, op, oq⟩ := hk
  obtain ⟨⟨r0, -⟩, -⟩ := R0 hR
  unfold F_cs_42
  generalize xs (i + 1).toNatClampNeg = a
  generalize xs (i + 2).toNatClampNeg = b
  rcases px_o a (n := sv s 0) (by omega) with ⟨u, hu, rfl⟩ | ho
  · rcases px_o b (n := sv s 0) (by omega) with ⟨v, hv, rfl⟩ | hob
    · by_cases huv : u = v
      · subst huv
        refine fin_l hI (nI 0) sm_0 ?_ (fun M2 h2 => ?_)
        · unfold F_L_changes F_X8_changes
          rw [rt_Stop hu (by omega) (r0.trans c0), bt_l, rt_Stop hu (by omega) (r0.trans c0), bt_l, (cl_s hk0 hR (a := u) (by omega)).1, bp_s, fo_0 (by omega), bt_l, wl_s]
        · have hS2 := hS.sm h2
          rw [cm_k (it_Stop hu (by omega) ((hS2 0 (by omega)).trans c0)) (it_Stop hu (by omega) ((hS2 0 (by omega)).trans c0)) (by omega) (wz_0 hk0 hS2 (by omega))]
          exact lv_0
      · obtain ⟨x, M1, a1, a2, a3⟩ := lb_ok hk0 hR (a := u) (t := v) (by omega) (by omega) huv
        have hsc : sm M M1 := scr.sm (fun c hc => a3 c (by omega) (by omega) (by omega))
        rcases cm_ok hk0 (by omega) (by omega) huv a2 hS with ⟨k, k1, rfl, -⟩ | ⟨rfl, -⟩
        · refine fin_l hI (nI k) hsc ?_ (fun M2 h2 => ?_)
          · unfold F_L_changes F_X8_changes
            rw [rt_Stop hu (by omega) (r0.trans c0), bt_l, rt_Stop hv (by omega) (r0.trans c0), bt_l, a1, bp_s, fo_0 (by omega), bt_l, wl_s]
          · have hS2 := hS.sm h2
            rcases cm_ok hk0 (by omega) (by omega) huv a2 hS2 with ⟨k2, k3, e, w⟩ | ⟨e, -⟩
            · have := (nI_eq (by omega) (by omega)).mp e
              subst this
              rw [cm_k (it_Stop hu (by omega) ((hS2 0 (by omega)).trans c0)) (it_Stop hv (by omega) ((hS2 0 (by omega)).trans c0)) (by omega) w]
              exact lv_0
            · rw [pm_1 (by omega)] at e
              exact e.elim
        · refine fin_e hI 2 (by omega) hsc ?_ (fun M2 h2 => ?_)
          · unfold F_L_changes F_X8_changes
            rw [rt_Stop hu (by omega) (r0.trans c0), bt_l, rt_Stop hv (by omega) (r0.trans c0), bt_l, a1, bp_s, fo_1]
            rfl
          · have hS2 := hS.sm h2
            rcases cm_ok hk0 (by omega) (by omega) huv a2 hS2 with ⟨k2, k3, e, w⟩ | ⟨-, w⟩
            · rw [pm_2 (by omega)] at e
              exact e.elim
            · rw [cm_n (it_Stop hu (by omega) ((hS2 0 (by omega)).trans c0)) (it_Stop hv (by omega) ((hS2 0 (by omega)).trans c0)) w]
              exact lv_e
    · refine fin_e hI 1 (by omega) sm_0 ?_ (fun M2 h2 => ?_)
      · unfold F_L_changes F_X8_changes
        rw [rt_Stop hu (by omega) (r0.trans c0), bt_l, rq_Stop hob (r0.trans c0)]
        rfl
      · have hS2 := hS.sm h2
        unfold F_X9_changes F_X9_fails
        rw [it_Stop hu (by omega) ((hS2 0 (by omega)).trans c0), bx_s, if_neg (show ¬ nI 1 = 0 by decide), is_Stop hob (by omega) ((hS2 0 (by omega)).trans c0), bx_s, if_neg (show ¬ ¬ nI 0 = 0 from fun q => q rfl), lx_s, bp_s]
        exact lv_e
  · refine fin_e hI 1 (by omega) sm_0 ?_ (fun M2 h2 => ?_)
    · unfold F_L_changes F_X8_changes
      rw [rq_Stop ho (r0.trans c0)]
      rfl
    · have hS2 := hS.sm h2
      unfold F_X9_changes F_X9_fails
      rw [is_Stop ho (by omega) ((hS2 0 (by omega)).trans c0), bx_s, if_pos (show nI 0 = 0 from rfl), lx_s, bp_s]
      exact lv_e
theorem q_43 {M : fw_M} (h : Inv M) (xs : Nat → Int32) (i : Int32) : ∃ M1, F_cs_43 M xs i = some M1 ∧ Inv M1 := by
  have hI := h
  obtain ⟨⟨s, hk, hR, hS⟩, -⟩ := h
  have hk0 := hk
  obtain ⟨⟨⟨c0, b0⟩, ⟨c1, b1⟩, ⟨c2, b2⟩, ⟨c3, b3⟩, c4, b4⟩, oz, ol, os, od, ot, op, oq⟩ := hk
  obtain ⟨⟨r0, -⟩, -⟩ := R0 hR
  unfold F_cs_43
  generalize xs (i + 1).toNatClampNeg = a
  generalize xs (i + 2).toNatClampNeg = b
  rcases px_o a (n := sv s 0) (by omega) with ⟨u, hu, rfl⟩ | ho
  · rcases px_o b (n := sv s 0) (by omega) with ⟨v, hv, rfl⟩ | hob
    · by_cases huv : u = v
      · subst huv
        refine fin_l hI (nI 0) sm_0 ?_ (fun M2 h2 => ?_)
        · unfold F_L_changesByGrowth F_X8_changesByGrowth
          rw [rt_Stop hu (by omega) (r0.trans c0), bt_l, rt_Stop hu (by omega) (r0.trans c0), bt_l, (cl_s hk0 hR (a := u) (by omega)).2, bx_s, fo_0 (by omega), bt_l, wl_s]
        · have hS2 := hS.sm h2
          unfold F_X9_changesByGrowth
          rw [cm_k (it_Stop hu (by omega) ((hS2 0 (by omega)).trans c0)) (it_Stop hu (by omega) ((hS2 0 (by omega)).trans c0)) (by omega) (wz_0 hk0 hS2 (by omega)), bp_s]
          exact lv_0
      · obtain ⟨x, a1, a2⟩ := lg_ok hk0 hR (a := u) (t := v) (by omega) (by omega) huv
        rcases cm_ok hk0 (by omega) (by omega) huv a2 hS with ⟨k, k1, rfl, -⟩ | ⟨rfl, -⟩
        · refine fin_l hI (nI k) sm_0 ?_ (fun M2 h2 => ?_)
          · unfold F_L_changesByGrowth F_X8_changesByGrowth
            rw [rt_Stop hu (by omega) (r0.trans c0), bt_l, rt_Stop hv (by omega) (r0.trans c0), bt_l, a1, bx_s, fo_0 (by omega), bt_l, wl_s]
          · have hS2 := hS.sm h2
            unfold F_X9_changesByGrowth
            rcases cm_ok hk0 (by omega) (by omega) huv a2 hS2 with ⟨k2, k3, e, w⟩ | ⟨e, -⟩
            · have := (nI_eq (by omega) (by omega)).mp e
              subst this
              rw [cm_k (it_Stop hu (by omega) ((hS2 0 (by omega)).trans c0)) (it_Stop hv (by omega) ((hS2 0 (by omega)).trans c0)) (by omega) w, bp_s]
              exact lv_0
            · rw [pm_1 (by omega)] at e
              exact e.elim
        · refine fin_e hI 2 (by omega) sm_0 ?_ (fun M2 h2 => ?_)
          · unfold F_L_changesByGrowth F_X8_changesByGrowth
            rw [rt_Stop hu (by omega) (r0.trans c0), bt_l, rt_Stop hv (by omega) (r0.trans c0), bt_l, a1, bx_s, fo_1]
            rfl
          · have hS2 := hS.sm h2
            unfold F_X9_changesByGrowth
            rcases cm_ok hk0 (by omega) (by omega) huv a2 hS2 with ⟨k2, k3, e, w⟩ | ⟨-, w⟩
            · rw [pm_2 (by omega)] at e
              exact e.elim
            · rw [cm_n (it_Stop hu (by omega) ((hS2 0 (by omega)).trans c0)) (it_Stop hv (by omega) ((hS2 0 (by omega)).trans c0)) w, bp_s]
              exact lv_e
    · refine fin_e hI 1 (by omega) sm_0 ?_ (fun M2 h2 => ?_)
      · unfold F_L_changesByGrowth F_X8_changesByGrowth
        rw [rt_Stop hu (by omega) (r0.trans c0), bt_l, rq_Stop hob (r0.trans c0)]
        rfl
      · have hS2 := hS.sm h2
        unfold F_X9_changesByGrowth F_X9_changes F_X9_fails
        rw [it_Stop hu (by omega) ((hS2 0 (by omega)).trans c0), bx_s, if_neg (show ¬ nI 1 = 0 by decide), is_Stop hob (by omega) ((hS2 0 (by omega)).trans c0), bx_s, if_neg (show ¬ ¬ nI 0 = 0 from fun q => q rfl), lx_s, bp_s, bp_s]
        exact lv_e
  · refine fin_e hI 1 (by omega) sm_0 ?_ (fun M2 h2 => ?_)
    · unfold F_L_changesByGrowth F_X8_changesByGrowth
      rw [rq_Stop ho (r0.trans c0)]
      rfl
    · have hS2 := hS.sm h2
      unfold F_X9_changesByGrowth F_X9_changes F_X9_fails
      rw [is_Stop ho (by omega) ((hS2 0 (by omega)).trans c0), bx_s, if_pos (show nI 0 = 0 from rfl), lx_s, bp_s, bp_s]
      exact lv_e
/-! consistency -/
theorem ck_c {M : fw_M} {s : Nat → Int32} (hk : ok s) (hR : R M 0 s) : ∀ (r n q : Nat), q + r = sv s 4 → r < n → F_X2_carriersKnow_2 M 22 n (nI q) = some (nI 1) := by
  obtain ⟨c4, b4⟩ := hk.1.2.2.2.2
  have b3 := hk.1.2.2.2.1.2
  obtain ⟨⟨r0, r1, r2, r3, r4, -⟩, -, -, -, -, -, -, rq⟩ := R0 hR
  intro r
  induction r with
  | zero =>
    intro n q h1 h2
    obtain ⟨n, rfl⟩ : ∃ x, n = x + 1 := ⟨n - 1, by omega⟩
    rw [F_X2_carriersKnow_2, r4, c4, if_pos (nI_le (by omega) (by omega))]
    rfl
  | succ r ih =>
    intro n q h1 h2
    obtain ⟨n, rfl⟩ : ∃ x, n = x + 1 := ⟨n - 1, by omega⟩
    obtain ⟨-, q2⟩ := hk.2.2.2.2.2.2.2 q (by omega)
    have g : fw_ri M (22 + 1) (nI q) = s (117 + 2 * q) := by rw [fw_ri, nI_clamp (by omega)]; exact (rq q (by omega)).1
    rw [F_X2_carriersKnow_2, r4, c4, if_neg (nI_ge (by omega) (by omega)), nI_1]
    unfold F_X2_isOut
    rw [if_pos (nI_in (by omega) (by omega)), g, show (-1 : Int32) = mI from rfl]
    rcases q2 with q2 | ⟨q2, q3, q4⟩
    · rw [if_neg (show ¬ ¬ s (117 + 2 * q) = mI from fun x => x q2), bx_s, if_pos (show ¬ (1 : Int32) = 0 by decide)]
      exact ih n (q + 1) (by omega) (by omega)
    · have hno : ¬ s (117 + 2 * q) = mI := fun x => by rw [q2, pm_1 (by omega)] at x; exact x
      have hh := hh_c hk hR (p := sv s (117 + 2 * q)) (q := q) (by omega) (by omega)
      rw [if_pos q4] at hh
      rw [if_pos hno, bx_s, if_neg (show ¬ ¬ (0 : Int32) = 0 from fun x => x rfl), if_pos (nI_in (by omega) (by omega)), q2, hh, bx_s, if_pos (show ¬ nI 1 = 0 by decide)]
      exact ih n (q + 1) (by omega) (by omega)
theorem ma_12 {s : Nat → Int32} (hk : ok s) {a : Nat} (ha : a < sv s 0) {k2 : Int32 → fw_M → Option (Int32 × fw_M)} : ∀ (r n t : Nat) (M : fw_M), t + r = sv s 0 → r < n → R M 0 s → ∃ M1, F_X5_methodsAgree_12 1 k2 n (nI a) (nI t) M = k2 (nI (a + 1)) M1 ∧ scr M M1 := by
  obtain ⟨c0, b0⟩ := hk.1.1
  intro r
  induction r with
  | zero =>
    intro n t M h1 h2 hR
    obtain ⟨n, rfl⟩ : ∃ x, n = x + 1 := ⟨n - 1, by omega⟩
    obtain ⟨⟨r0, -⟩, -⟩ := R0 hR
    rw [F_X5_methodsAgree_12, r0, c0, if_pos (nI_le (by omega) (by omega)), nI_1]
    exact ⟨M, rfl, fun _ _ => rfl⟩
  | succ r ih =>
    intro n t M h1 h2 hR
    obtain ⟨n, rfl⟩ : ∃ x, n = x + 1 := ⟨n - 1, by omega⟩
    obtain ⟨⟨r0, -⟩, -⟩ := R0 hR
    obtain ⟨x, A, a1, a2, a3⟩ := sb_ok hk hR (a := a) (t := t) (by omega) (by omega)
    have sA : scr M A := fun c hc => a3 c (by omega) (by omega) (by omega)
    have RA : R A 0 s := hR.cong (fun k _ h => sA k (by omega))
    obtain ⟨y, B, d1, d2, d3⟩ := sr_ok hk RA (a := a) (t := t) (by omega) (by omega)
    have sB : scr M B := fun c hc => (d3 c (by omega)).trans (sA c hc)
    have RB : R B 0 s := hR.cong (fun k _ h => sB k (by omega))
    have exy := a2.one d2
    rw [F_X5_methodsAgree_12, r0, c0, if_neg (nI_ge (by omega) (by omega)), a1, bp_s, d1, bp_s, if_neg (show ¬ ¬ x = y from fun q => q exy), nI_1]
    by_cases hat : a = t
    · subst hat
      obtain ⟨e1, e2⟩ := cl_s hk RB (a := a) (by omega)
      rw [e1, bp_s, e2, bx_s, if_pos rfl]
      obtain ⟨M1, w1, w2⟩ := ih n (a + 1) B (by omega) (by omega) RB
      exact ⟨M1, w1, fun c hc => (w2 c hc).trans (sB c hc)⟩
    · obtain ⟨u, C, e1, e2, e3⟩ := lb_ok hk RB (a := a) (t := t) (by omega) (by omega) hat
      have sC : scr M C := fun c hc => (e3 c (by omega) (by omega) (by omega)).trans (sB c hc)
      have RC : R C 0 s := hR.cong (fun k _ h => sC k (by omega))
      obtain ⟨v, f1, f2⟩ := lg_ok hk RC (a := a) (t := t) (by omega) (by omega) hat
      rw [e1, bp_s, f1, bx_s, if_pos (e2.one f2)]
      obtain ⟨M1, w1, w2⟩ := ih n (t + 1) C (by omega) (by omega) RC
      exact ⟨M1, w1, fun c hc => (w2 c hc).trans (sC c hc)⟩
theorem ma_2 {s : Nat → Int32} (hk : ok s) : ∀ (r n a : Nat) (M : fw_M), a + r = sv s 0 → r < n → R M 0 s → ∃ M1, F_X5_methodsAgree_2 1 n (nI a) M = some (nI 1, M1) ∧ scr M M1 := by
  obtain ⟨c0, b0⟩ := hk.1.1
  intro r
  induction r with
  | zero =>
    intro n a M h1 h2 hR
    obtain ⟨n, rfl⟩ : ∃ x, n = x + 1 := ⟨n - 1, by omega⟩
    obtain ⟨⟨r0, -⟩, -⟩ := R0 hR
    rw [F_X5_methodsAgree_2, r0, c0, if_pos (nI_le (by omega) (by omega))]
    exact ⟨M, rfl, fun _ _ => rfl⟩
  | succ r ih =>
    intro n a M h1 h2 hR
    obtain ⟨n, rfl⟩ : ∃ x, n = x + 1 := ⟨n - 1, by omega⟩
    obtain ⟨⟨r0, -⟩, -⟩ := R0 hR
    rw [F_X5_methodsAgree_2, r0, c0, if_neg (nI_ge (by omega) (by omega))]
    obtain ⟨A, a1, a2⟩ := ma_12 hk (a := a) (by omega) (k2 := fun x2 M => F_X5_methodsAgree_2 1 n x2 M) (sv s 0) 64 0 M (by omega) (by omega) hR
    obtain ⟨M1, w1, w2⟩ := ih n (a + 1) A (by omega) (by omega) (hR.cong (fun k _ h => a2 k (by omega)))
    exact ⟨M1, a1.trans w1, fun c hc => (w2 c hc).trans (a2 c hc)⟩
theorem q_49 {M : fw_M} (h : Inv M) (xs : Nat → Int32) (i : Int32) : ∃ M1, F_cs_49 M xs i = some M1 ∧ Inv M1 := by
  have hI := h
  obtain ⟨⟨s, hk, hR, hS⟩, -⟩ := h
  have b0 := hk.1.1.2
  have b4 := hk.1.2.2.2.2.2
  have e1 : F_X2_carriersKnow M 22 = some (nI 1) := ck_c hk hR (sv s 4) 64 0 (by omega) (by omega)
  obtain ⟨M1, w1, w2⟩ := ma_2 hk (sv s 0) 64 0 M (by omega) (by omega) hR
  have e2 : F_X5_methodsAgree M 1 = some (nI 1, M1) := w1
  unfold F_cs_49 F_X8_isConsistent F_X9_isConsistent
  rw [e1, bx_s, if_neg (show ¬ nI 1 = 0 by decide), e2, bp_s, if_neg (show ¬ nI 1 = 0 by decide), bp_s, lx_s, bp_s, if_pos rfl]
  exact ⟨_, rfl, hI.sm (sm_378 w2.sm)⟩
