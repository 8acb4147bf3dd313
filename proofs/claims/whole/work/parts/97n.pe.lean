/-! the commands of a text, one after another -/
theorem bxi {α : Type} {x : Option α} : (bd_x x fun r => some r) = x := by cases x <;> rfl
theorem cm {s : Nat → Int32} (hk : ok s) {m : Nat} (hm : m < 11) (a b c : Int32) : ∃ fa ap doo f t ans s1, Cmd s f t ans s1 fa ap doo ∧ (∀ M a2 a3 a4, (0 < dcount m → a2 = a) → (1 < dcount m → a3 = b) → (2 < dcount m → a4 = c) → F_X7_faultOfCommand M 0 (nI m) a2 a3 a4 = fa M ∧ F_X7_applyCommand M 0 (nI m) a2 a3 a4 = bd_p (ap M) (fun _ M1 => some M1)) ∧ (∀ M i, i < 12 → M 385 (4 * i) = nI (kc m) → (0 < dcount m → M 385 (4 * i + 1 + 0) = a) → (1 < dcount m → M 385 (4 * i + 1 + 1) = b) → (2 < dcount m → M 385 (4 * i + 1 + 2) = c) → F_X9_does M (nI i) = bd_p (doo M) (fun _ M1 => some M1)) := by
  have D : ∀ (M : fw_M) i, i < 12 → ∀ (k : Nat), M 385 (4 * i) = nI k → ∀ (P : Option fw_M), (if nI k = 97 then (bd_p (F_X9_doAlight M (M 385 (4 * i + 1 + 0))) fun _ M1 => some M1) else if nI k = 98 then (bd_p (F_X9_doBoard M (M 385 (4 * i + 1 + 0)) (M 385 (4 * i + 1 + 1))) fun _ M1 => some M1) else if nI k = 99 then (bd_p (F_X9_doAddSecret M (M 385 (4 * i + 1 + 0))) fun _ M1 => some M1) else if nI k = 101 then (bd_p (F_X9_doExtendLine M (M 385 (4 * i + 1 + 0)) (M 385 (4 * i + 1 + 1))) fun _ M1 => some M1) else if nI k = 105 then (bd_p (F_X9_doSellTicket M (M 385 (4 * i + 1 + 0)) (M 385 (4 * i + 1 + 1)) (M 385 (4 * i + 1 + 2))) fun _ M1 => some M1) else if nI k = 107 then (bd_p (F_X9_doTick M) fun _ M1 => some M1) else if nI k = 108 then (bd_p (F_X9_doAddLine M (M 385 (4 * i + 1 + 0)) (M 385 (4 * i + 1 + 1))) fun _ M1 => some M1) else if nI k = 114 then (bd_p (F_X9_doAddPassenger M (M 385 (4 * i + 1 + 0))) fun _ M1 => some M1) else if nI k = 115 then (bd_p (F_X9_doAddStop M (M 385 (4 * i + 1 + 0))) fun _ M1 => some M1) else if nI k = 116 then (bd_p (F_X9_doAddTram M (M 385 (4 * i + 1 + 0))) fun _ M1 => some M1) else (bd_p (F_X9_doWhisper M (M 385 (4 * i + 1 + 0)) (M 385 (4 * i + 1 + 1))) fun _ M1 => some M1)) = P → F_X9_does M (nI i) = P := by
    intro M i hi k h0 P hP
    have e0 : fw_ri M 385 (nI (4 * i)) = nI k := by rw [fw_ri, nI_clamp (by omega)]; exact h0
    have e1 : fw_ri M 385 (nI (4 * i + 1)) = M 385 (4 * i + 1 + 0) := by rw [fw_ri, nI_clamp (by omega)]
    have e2 : fw_ri M 385 (nI (4 * i + 2)) = M 385 (4 * i + 1 + 1) := by rw [fw_ri, nI_clamp (by omega)]
    have e3 : fw_ri M 385 (nI (4 * i + 3)) = M 385 (4 * i + 1 + 2) := by rw [fw_ri, nI_clamp (by omega)]
    unfold F_X9_does
    rw [show (4 : Int32) * nI i = nI (4 * i) from pk_mul 4 i, nI_1, show nI (4 * i) + 2 = nI (4 * i + 2) from nI_add _ 2, show nI (4 * i) + 3 = nI (4 * i + 3) from nI_add _ 3, if_pos (nI_in (by omega) (by omega)), if_pos (nI_in (by omega) (by omega)), if_pos (nI_in (by omega) (by omega)), if_pos (nI_in (show 4 * i + 3 < 240 by omega) (by omega)), e0, e1, e2, e3]
    simp only [ite_self]
    exact hP
  rcases (show m = 0 ∨ m = 1 ∨ m = 2 ∨ m = 3 ∨ m = 4 ∨ m = 5 ∨ m = 6 ∨ m = 7 ∨ m = 8 ∨ m = 9 ∨ m = 10 by omega) with rfl | rfl | rfl | rfl | rfl | rfl | rfl | rfl | rfl | rfl | rfl
  · obtain ⟨f, t, ans, s1, h, -⟩ := c_stop hk a
    refine ⟨_, _, _, f, t, ans, s1, h, fun M a2 a3 a4 h1 h2 h3 => ?_, fun M i hi h0 h1 h2 h3 => D M i hi _ h0 _ ?_⟩
    · rw [h1 (by decide)]; exact ⟨bxi, rfl⟩
    · rw [h1 (by decide)]; rfl
  · obtain ⟨f, t, ans, s1, h, -⟩ := c_line hk a b
    refine ⟨_, _, _, f, t, ans, s1, h, fun M a2 a3 a4 h1 h2 h3 => ?_, fun M i hi h0 h1 h2 h3 => D M i hi _ h0 _ ?_⟩
    · rw [h1 (by decide), h2 (by decide)]; exact ⟨bxi, rfl⟩
    · rw [h1 (by decide), h2 (by decide)]; rfl
  · obtain ⟨f, t, ans, s1, h, -⟩ := c_ext hk a b
    refine ⟨_, _, _, f, t, ans, s1, h, fun M a2 a3 a4 h1 h2 h3 => ?_, fun M i hi h0 h1 h2 h3 => D M i hi _ h0 _ ?_⟩
    · rw [h1 (by decide), h2 (by decide)]; exact ⟨bxi, rfl⟩
    · rw [h1 (by decide), h2 (by decide)]; rfl
  · obtain ⟨f, t, ans, s1, h, -⟩ := c_tram hk a
    refine ⟨_, _, _, f, t, ans, s1, h, fun M a2 a3 a4 h1 h2 h3 => ?_, fun M i hi h0 h1 h2 h3 => D M i hi _ h0 _ ?_⟩
    · rw [h1 (by decide)]; exact ⟨bxi, rfl⟩
    · rw [h1 (by decide)]; rfl
  · obtain ⟨f, t, ans, s1, h, -⟩ := c_ride hk a
    refine ⟨_, _, _, f, t, ans, s1, h, fun M a2 a3 a4 h1 h2 h3 => ?_, fun M i hi h0 h1 h2 h3 => D M i hi _ h0 _ ?_⟩
    · rw [h1 (by decide)]; exact ⟨bxi, rfl⟩
    · rw [h1 (by decide)]; rfl
  · obtain ⟨f, t, ans, s1, h, -⟩ := c_tick hk a b c
    refine ⟨_, _, _, f, t, ans, s1, h, fun M a2 a3 a4 h1 h2 h3 => ?_, fun M i hi h0 h1 h2 h3 => D M i hi _ h0 _ ?_⟩
    · rw [h1 (by decide), h2 (by decide), h3 (by decide)]; exact ⟨bxi, rfl⟩
    · rw [h1 (by decide), h2 (by decide), h3 (by decide)]; rfl
  · obtain ⟨f, t, ans, s1, h, -⟩ := c_bord hk a b
    refine ⟨_, _, _, f, t, ans, s1, h, fun M a2 a3 a4 h1 h2 h3 => ?_, fun M i hi h0 h1 h2 h3 => D M i hi _ h0 _ ?_⟩
    · rw [h1 (by decide), h2 (by decide)]; exact ⟨bxi, rfl⟩
    · rw [h1 (by decide), h2 (by decide)]; rfl
  · obtain ⟨f, t, ans, s1, h, -⟩ := c_alig hk a
    refine ⟨_, _, _, f, t, ans, s1, h, fun M a2 a3 a4 h1 h2 h3 => ?_, fun M i hi h0 h1 h2 h3 => D M i hi _ h0 _ ?_⟩
    · rw [h1 (by decide)]; exact ⟨bxi, rfl⟩
    · rw [h1 (by decide)]; rfl
  · obtain ⟨f, t, ans, s1, h, -⟩ := c_secr hk a
    refine ⟨_, _, _, f, t, ans, s1, h, fun M a2 a3 a4 h1 h2 h3 => ?_, fun M i hi h0 h1 h2 h3 => D M i hi _ h0 _ ?_⟩
    · rw [h1 (by decide)]; exact ⟨bxi, rfl⟩
    · rw [h1 (by decide)]; rfl
  · obtain ⟨f, t, ans, s1, h, -⟩ := c_whis hk a b
    refine ⟨_, _, _, f, t, ans, s1, h, fun M a2 a3 a4 h1 h2 h3 => ?_, fun M i hi h0 h1 h2 h3 => D M i hi _ h0 _ ?_⟩
    · rw [h1 (by decide), h2 (by decide)]; exact ⟨bxi, rfl⟩
    · rw [h1 (by decide), h2 (by decide)]; rfl
  · obtain ⟨f, t, ans, s1, h, -⟩ := c_tck hk
    refine ⟨_, _, _, f, t, ans, s1, h, fun M a2 a3 a4 h1 h2 h3 => ?_, fun M i hi h0 h1 h2 h3 => D M i hi _ h0 _ ?_⟩
    · exact ⟨rfl, rfl⟩
    · rfl
section RUN
variable {T : Nat → Nat} {n : Nat}
theorem KC.k {M M1 : fw_M} {c : Nat} (h : KC M T n c) (hc : c ≤ 12) (q : ∀ k, 32 ≤ k → M1 k = M k) : KC M1 T n c := by
  intro i hi
  obtain ⟨a, b⟩ := h i hi
  rw [q 362 (by omega)]
  refine ⟨a, fun j hj => ?_⟩
  rw [q _ (by omega)]
  exact b j hj
theorem run {tot : Nat} (htot : tot ≤ 12) : ∀ r i s, i + r = tot → ok s →
    (∃ s1, ok s1 ∧ (∀ M f, r < f → R M 0 s → M 360 3 = nI tot → KC M T n tot → ∃ M1, F_X8_firstFailing_2 f (nI i) M = some (mI, M1) ∧ R M1 0 s1 ∧ ∀ k, 32 ≤ k → M1 k = M k) ∧ (∀ M f, r < f → Sm M s → M 378 6 = nI 0 → M 378 16 = nI tot → KM M T n tot → ∃ M1, F_X9_execute_126 f (nI i) M = bd_p (F_X9_ends M1 (nI tot)) (fun r M => some (r, M)) ∧ Sm M1 s1 ∧ M1 378 6 = nI 0 ∧ md M M1))
    ∨ (∃ k, k < 12 ∧ (∀ M f, r < f → R M 0 s → M 360 3 = nI tot → KC M T n tot → ∃ M1, F_X8_firstFailing_2 f (nI i) M = some (nI k, M1) ∧ ∀ k, 32 ≤ k → M1 k = M k) ∧ (∀ M f, r < f → Sm M s → M 378 6 = nI 0 → M 378 16 = nI tot → KM M T n tot → ∃ M1, F_X9_execute_126 f (nI i) M = bd_p (F_X9_ends M1 0) (fun r M => some (r, M)) ∧ M1 378 6 = nI 2 ∧ M1 378 14 = nI k ∧ (∀ c, c ≠ 378 → c ≠ 379 → M1 c = M c) ∧ ∀ j, j ≠ 6 → j ≠ 14 → M1 378 j = M 378 j)) := by
  intro r
  induction r with
  | zero =>
    intro i s h1 hk
    refine Or.inl ⟨s, hk, fun M f hf hR h3 hK => ?_, fun M f hf hS h6 h16 hK => ?_⟩
    · obtain ⟨f, rfl⟩ : ∃ x, f = x + 1 := ⟨f - 1, by omega⟩
      rw [F_X8_firstFailing_2, h3, if_pos (nI_le (by omega) (by omega))]
      exact ⟨M, rfl, hR, fun _ _ => rfl⟩
    · obtain ⟨f, rfl⟩ : ∃ x, f = x + 1 := ⟨f - 1, by omega⟩
      rw [F_X9_execute_126, h16, if_pos (nI_le (by omega) (by omega))]
      exact ⟨M, rfl, hS, h6, md_0⟩
  | succ r ih =>
    intro i s h1 hk
    have hm := mm_lt (T := T) (n := n) (p := ps T n i)
    have hd := (dc_ok _ hm).2
    obtain ⟨fa, ap, doo, f0, t, ans, s1, ⟨c1, c2, c3, c4, c5⟩, hA, hB⟩ := cm hk (show gd T n i < 11 from hm) (nI (ga T n i 0)) (nI (ga T n i 1)) (nI (ga T n i 2))
    have eD : ∀ M, KM M T n tot → F_X9_does M (nI i) = bd_p (doo M) (fun _ M1 => some M1) := fun M hK => by
      obtain ⟨k1, k2⟩ := hK i (by omega)
      exact hB M i (by omega) k1 (fun x => k2 0 x) (fun x => k2 1 x) (fun x => k2 2 x)
    have eA : ∀ M, KC M T n tot → R M 0 s → F_X7_attempt M 0 (fw_ri M 362 (nI i)) (364 + (nI i).toNatClampNeg) 3 = if f0 = 0 then (bd_p (ap M) fun _ M1 => some (1, M1)) else some (0, M) := fun M hK hR => by
      obtain ⟨k1, k2⟩ := hK i (by omega)
      have e1 : fw_ri M 362 (nI i) = nI (gd T n i) := by rw [fw_ri, nI_clamp (by omega)]; exact k1
      obtain ⟨g1, g2⟩ := hA M (fw_ri M (364 + i) 0) (fw_ri M (364 + i) 1) (fw_ri M (364 + i) 2) (fun x => k2 0 x) (fun x => k2 1 x) (fun x => k2 2 x)
      rw [e1, nI_clamp (by omega)]
      unfold F_X7_attempt
      rw [if_pos (show (3 : Int32) ≤ nI 3 by decide), if_pos (show ix_i 0 3 by decide), if_pos (show ix_i 1 3 by decide), if_pos (show ix_i 2 3 by decide), g1, c1 M hR, bx_s]
      by_cases e : f0 = 0
      · rw [if_pos e, e, if_neg (show ¬ ¬ nI 0 = 0 from fun x => x rfl)]
        unfold F_X7_attempt_31
        rw [if_neg (show ¬ (1 : Int32) = 0 by decide), if_pos (show ix_i 0 3 by decide), if_pos (show ix_i 1 3 by decide), if_pos (show ix_i 2 3 by decide), g2]
        cases ap M with
        | none => rfl
        | some x => rfl
      · rw [if_neg e, if_pos (nI_ne0 (by omega) (by omega))]
        rfl
    by_cases e : f0 = 0
    · obtain ⟨hk1, hap⟩ := c3 e
      have hdo := c4 e
      have S : ∀ M f, R M 0 s → M 360 3 = nI tot → KC M T n tot → ∃ M1, F_X8_firstFailing_2 (f + 1) (nI i) M = F_X8_firstFailing_2 f (nI (i + 1)) M1 ∧ R M1 0 s1 ∧ ∀ k, 32 ≤ k → M1 k = M k := fun M f hR h3 hK => by
        obtain ⟨M1, m1, m2, m3⟩ := hap M hR
        rw [F_X8_firstFailing_2, h3, if_neg (nI_ge (by omega) (by omega)), if_pos (nI_in (by omega) (by omega)), eA M hK hR, if_pos e, m1, bp_s, bp_s, if_pos (show ¬ (1 : Int32) = 0 by decide), nI_1]
        exact ⟨M1, rfl, m2, m3⟩
      have U : ∀ M f, Sm M s → M 378 6 = nI 0 → M 378 16 = nI tot → KM M T n tot → ∃ M1, F_X9_execute_126 (f + 1) (nI i) M = F_X9_execute_126 f (nI (i + 1)) M1 ∧ Sm M1 s1 ∧ M1 378 6 = nI 0 ∧ md M M1 := fun M f hS h6 h16 hK => by
        obtain ⟨M1, m1, m2, m3, m4⟩ := hdo M hS h6
        rw [F_X9_execute_126, h16, if_neg (nI_ge (by omega) (by omega)), eD M hK, m1, bp_s, bx_s, m3, if_pos (show nI 0 ≤ 0 by decide), nI_1]
        exact ⟨M1, rfl, m2, m3, m4⟩
      rcases ih (i + 1) s1 (by omega) hk1 with ⟨s2, q1, q2, q3⟩ | ⟨k, q1, q2, q3⟩
      · refine Or.inl ⟨s2, q1, fun M f hf hR h3 hK => ?_, fun M f hf hS h6 h16 hK => ?_⟩
        · obtain ⟨f, rfl⟩ : ∃ x, f = x + 1 := ⟨f - 1, by omega⟩
          obtain ⟨M1, m1, m2, m3⟩ := S M f hR h3 hK
          obtain ⟨M2, u1, u2, u3⟩ := q2 M1 f (by omega) m2 (by rw [m3 360 (by omega), h3]) (hK.k htot m3)
          exact ⟨M2, by rw [m1, u1], u2, fun k x => by rw [u3 k x, m3 k x]⟩
        · obtain ⟨f, rfl⟩ : ∃ x, f = x + 1 := ⟨f - 1, by omega⟩
          obtain ⟨M1, m1, m2, m3, m4⟩ := U M f hS h6 h16 hK
          obtain ⟨M2, u1, u2, u3, u4⟩ := q3 M1 f (by omega) m2 m3 (by rw [m4.2 16 (by omega), h16]) (hK.k (fun i _ => by rw [m4.1 385 (by omega) (by omega)]))
          exact ⟨M2, by rw [m1, u1], u2, u3, md_t m4 u4⟩
      · refine Or.inr ⟨k, q1, fun M f hf hR h3 hK => ?_, fun M f hf hS h6 h16 hK => ?_⟩
        · obtain ⟨f, rfl⟩ : ∃ x, f = x + 1 := ⟨f - 1, by omega⟩
          obtain ⟨M1, m1, m2, m3⟩ := S M f hR h3 hK
          obtain ⟨M2, u1, u3⟩ := q2 M1 f (by omega) m2 (by rw [m3 360 (by omega), h3]) (hK.k htot m3)
          exact ⟨M2, by rw [m1, u1], fun k x => by rw [u3 k x, m3 k x]⟩
        · obtain ⟨f, rfl⟩ : ∃ x, f = x + 1 := ⟨f - 1, by omega⟩
          obtain ⟨M1, m1, m2, m3, m4⟩ := U M f hS h6 h16 hK
          obtain ⟨M2, u1, u2, u3, u4, u5⟩ := q3 M1 f (by omega) m2 m3 (by rw [m4.2 16 (by omega), h16]) (hK.k (fun i _ => by rw [m4.1 385 (by omega) (by omega)]))
          exact ⟨M2, by rw [m1, u1], u2, u3, fun c x y => by rw [u4 c x y, m4.1 c y x], fun j x y => by rw [u5 j x y, m4.2 j x]⟩
    · obtain ⟨ht, ht5, hb⟩ := c5 e
      refine Or.inr ⟨i, by omega, fun M f hf hR h3 hK => ?_, fun M f hf hS h6 h16 hK => ?_⟩
      · obtain ⟨f, rfl⟩ : ∃ x, f = x + 1 := ⟨f - 1, by omega⟩
        rw [F_X8_firstFailing_2, h3, if_neg (nI_ge (by omega) (by omega)), if_pos (nI_in (by omega) (by omega)), eA M hK hR, if_neg e, bp_s, if_neg (show ¬ ¬ (0 : Int32) = 0 from fun x => x rfl)]
        exact ⟨M, rfl, fun _ _ => rfl⟩
      · obtain ⟨f, rfl⟩ : ∃ x, f = x + 1 := ⟨f - 1, by omega⟩
        obtain ⟨M1, m1, m2, m3⟩ := hb M hS h6
        rw [F_X9_execute_126, h16, if_neg (nI_ge (by omega) (by omega)), eD M hK, m1, bp_s, bx_s, m2, if_neg (nI_nle ht (by omega)), lx_s]
        unfold F_X9_fails
        rw [lx_s, bp_s]
        exact ⟨_, rfl, up_e rfl rfl, by rw [up_n2 (by omega), up_e rfl rfl], fun c x y => by rw [up_n1 x, up_n1 x, m3.1 c y x], fun j x y => by rw [up_n2 x, up_n2 y, m3.2 j x]⟩
end RUN
