section EN
variable {s : State} {args : Array Value}
def evr (args : Array Value) (s : State) (t : Term) : Nat := match t.eval args s none [] s with
  | some (.ref a) => a
  | _ => 0
theorem evr_of {t : Term} {a : Nat} (h : t.eval args s none [] s = some (.ref a)) : evr args s t = a := by
  unfold evr
  rw [h]
theorem ev_ex {t : Term} {C : String} (h : (Cond.exactly t C).before args s = true) : t.eval args s none [] s = some (.ref (evr args s t)) := by
  obtain ⟨a, c, cA, kA, q1, -⟩ := Cond.exactly_spec (args := args) (first := s) (o := none) (s := s) (idx := []) (t := t) (cls := C) h
  rw [evr_of q1]
  exact q1
theorem mt {L : List Cond} {i : Nat} {w : Cond} (hs : ∀ w ∈ L, w.before args s = true) (h : L[i]? = some w) : w.before args s = true := hs w (List.mem_of_getElem? h)
theorem en_G (hts : ∀ w ∈ lw_tbl, w.before args s = true) : ∀ w ∈ fw_GW, w.before args s = true := by
  obtain ⟨a1, a2, a3, a4, a5⟩ := n_se
  intro w hw
  rcases List.mem_append.mp hw with h | h
  · rcases List.mem_cons.mp h with rfl | h
    · exact fw_selp (by decide +kernel) (mt hts a5) (mt hts a1) (mt hts a2) (by decide +kernel)
    · rcases List.mem_cons.mp h with rfl | h
      · exact fw_selp (by decide +kernel) (mt hts a5) (mt hts a3) (mt hts a4) (by decide +kernel)
      · cases h
  · exact hts w (List.mem_filter.mp h).1
theorem ac_of {ty : FieldType} (hty : ∀ C, ty ≠ .object C) (h : (Cond.arrayClass ty).before args s = true) : ∃ c : ClassId, ArrOfT s c ty ∧ va_RA s c ty := by
  obtain ⟨c, k, comp, h1, h2, h3⟩ := Cond.arrayClass_spec h
  refine ⟨c, fun n z => ⟨fun k h => (by cases h), k, h2, comp, h3⟩, ?_⟩
  cases ty <;> first | exact h1 | exact absurd rfl (hty _)
def tyl : List FieldType := [.int, .char, .array .int, .object "TramNetwork$State", .byte, .long, .double]
theorem en_A (hts : ∀ w ∈ lw_tbl, w.before args s = true) : ∃ kp : Nat → ClassId, ∀ (k : Nat) (ty : FieldType), tyl[k]? = some ty → ArrOfT s (kp k) ty ∧ va_RA s (kp k) ty := by
  obtain ⟨a0, a1, a2, a3, a4, a5, a6⟩ := n_ac
  have h : ∀ k : Nat, ∃ c : ClassId, ∀ ty, tyl[k]? = some ty → ArrOfT s c ty ∧ va_RA s c ty := by
    intro k
    match k with
    | 0 =>
      obtain ⟨c, h⟩ := ac_of (fun C h => by cases h) (mt hts a0)
      exact ⟨c, fun ty hq => by cases hq; exact h⟩
    | 1 =>
      obtain ⟨c, h⟩ := ac_of (fun C h => by cases h) (mt hts a1)
      exact ⟨c, fun ty hq => by cases hq; exact h⟩
    | 2 =>
      obtain ⟨comp, c, k, h1, -, h3, h4, h5⟩ := arrayOverA_spec (mt hts a2)
      exact ⟨c, fun ty hq => by cases hq; exact ⟨fun n z => ⟨fun k h => (by cases h), k, h3, comp, h4⟩, h5⟩⟩
    | 3 =>
      obtain ⟨comp, c, k, h1, -, h3, h4, h5⟩ := Cond.arrayOver_spec (mt hts a3)
      exact ⟨c, fun ty hq => by cases hq; exact ⟨fun n z => ⟨fun k h => (by cases h), k, h3, comp, h4⟩, k, comp, h3, h4, h1, h5⟩⟩
    | 4 =>
      obtain ⟨c, h⟩ := ac_of (fun C h => by cases h) (mt hts a4)
      exact ⟨c, fun ty hq => by cases hq; exact h⟩
    | 5 =>
      obtain ⟨c, h⟩ := ac_of (fun C h => by cases h) (mt hts a5)
      exact ⟨c, fun ty hq => by cases hq; exact h⟩
    | 6 =>
      obtain ⟨c, h⟩ := ac_of (fun C h => by cases h) (mt hts a6)
      exact ⟨c, fun ty hq => by cases hq; exact h⟩
    | k + 7 => exact ⟨0, fun ty hq => by simp [tyl] at hq⟩
  obtain ⟨f, hf⟩ := Classical.axiomOfChoice h
  exact ⟨f, hf⟩
theorem n_iz : lw_tbl[103]? = some (.instantiable RX8 10) ∧ lw_tbl[1690]? = some (.instantiable RX9 17) := by decide +kernel
theorem en_C (hts : ∀ w ∈ lw_tbl, w.before args s = true) : ∃ (dC : Nat → ClassId) (dI : Nat → Nat → Nat), ∀ (k : Nat) (q : vw_C), fw_cl[k]? = some q → u_Kn s q.1 q.2.1 q.2.2 (dC k) (dI k) := by
  have hG := en_G hts
  have h : ∀ k : Nat, ∃ x : ClassId × (Nat → Nat), ∀ q : vw_C, fw_cl[k]? = some q → u_Kn s q.1 q.2.1 q.2.2 x.1 x.2 := by
    intro k
    match k with
    | 0 =>
      obtain ⟨c, i, h⟩ := u_known hG in_X0 (hG _ wz_X0)
      exact ⟨(c, i), fun q hq => by cases hq; exact h⟩
    | 1 =>
      obtain ⟨c, i, h⟩ := u_known hG in_X1 (hG _ wz_X1)
      exact ⟨(c, i), fun q hq => by cases hq; exact h⟩
    | 2 =>
      obtain ⟨c, i, h⟩ := u_known hG in_X2 (hG _ wz_X2)
      exact ⟨(c, i), fun q hq => by cases hq; exact h⟩
    | 3 =>
      obtain ⟨c, i, h⟩ := u_known hG in_X3 (hG _ wz_X3)
      exact ⟨(c, i), fun q hq => by cases hq; exact h⟩
    | 4 =>
      obtain ⟨c, i, h⟩ := u_known hG in_X4 (hG _ wz_X4)
      exact ⟨(c, i), fun q hq => by cases hq; exact h⟩
    | 5 =>
      obtain ⟨c, i, h⟩ := u_known hG in_X5 (hG _ wz_X5)
      exact ⟨(c, i), fun q hq => by cases hq; exact h⟩
    | 6 =>
      obtain ⟨c, i, h⟩ := u_known hG in_X6 (hG _ wz_X6)
      exact ⟨(c, i), fun q hq => by cases hq; exact h⟩
    | 7 =>
      obtain ⟨c, i, h⟩ := u_known hG in_X7 (hG _ wz_X7)
      exact ⟨(c, i), fun q hq => by cases hq; exact h⟩
    | 8 =>
      obtain ⟨c, i, h⟩ := u_known hG in_X8 (mt hts n_iz.1)
      exact ⟨(c, i), fun q hq => by cases hq; exact h⟩
    | 9 =>
      obtain ⟨c, i, h⟩ := u_known hG in_X9 (mt hts n_iz.2)
      exact ⟨(c, i), fun q hq => by cases hq; exact h⟩
    | 10 =>
      obtain ⟨c, i, h⟩ := u_known hG in_J4 (hG _ wz_J4)
      exact ⟨(c, i), fun q hq => by cases hq; exact h⟩
    | k + 11 => exact ⟨(0, fun _ => 0), fun q hq => by simp [fw_cl] at hq⟩
  obtain ⟨f, hf⟩ := Classical.axiomOfChoice h
  exact ⟨fun k => (f k).1, fun k => (f k).2, hf⟩
theorem sg_t : ∀ i, i < 12 → sgt (10 + i) = tmS i ∧ sgt (30 + i) = tmV i := by decide +kernel
theorem sg_d : ∀ i, i < 12 → ∀ j, j < 12 → fw_wlen.getD i 0 = fw_wlen.getD j 0 → (∀ q, q < fw_wlen.getD i 0 → (fw_wbyt.getD i []).getD q 0 = (fw_wbyt.getD j []).getD q 0) → i = j := by decide +kernel
theorem sg_l : ∀ i, i < 12 → fw_wlen.getD i 0 < 8 := by decide +kernel
theorem en_S {A : Nat → Prop} (hs : ∀ w ∈ nr, w.before args s = true) (hA : ∀ a : Nat, a < s.heap.size → ¬ A a) : vk_S 12 fw_wlen fw_wbyt (fun i => evr args s (tmS i)) (fun i => evr args s (tmV i)) A s s.heap := by
  have h0 : ∀ i, i < 12 → va_O "java/lang/String" (evr args s (tmS i)) A s s.heap ∧ va_OF "java/lang/String" "coder" "B" (.int 0) (evr args s (tmS i)) A s s.heap ∧ va_OF "java/lang/String" "value" "[B" (.ref (evr args s (tmV i))) (evr args s (tmS i)) A s s.heap ∧ va_T .byte (evr args s (tmV i)) (fw_wlen.getD i 0) (fun j => .int ((fw_wbyt.getD i []).getD j 0)) A s s.heap := by
    intro i hi
    have hl := sg_l i hi
    obtain ⟨a, c, cA, kA, q1, q2, q3, q4, q5, q6, -⟩ := Cond.exactly_spec (args := args) (first := s) (o := none) (s := s) (idx := []) (t := tmS i) (cls := "java/lang/String") (mt hs (n_ex i hi))
    obtain ⟨t, ht, hT⟩ := va_Tof (f := fun j => .int ((fw_wbyt.getD i []).getD j 0)) (A := A) (by omega) (mt hs (n_ar i hi)) (va_eqt (mt hs (n_le i hi))) (fun j hj => va_eqt (mt hs (n_el i hi j hj))) hA
    rw [evr_of q1, evr_of ht]
    exact ⟨⟨cA, q3, q5, by rw [q6]; exact q2, hA a (Array.getElem?_eq_some_iff.mp q3).1⟩, vk_OFof q1 (va_eqt (mt hs (n_co i hi))) hA, vk_OFof q1 ht hA, hT⟩
  refine ⟨fun i hi => h0 i hi, fun i j hi hj e => ?_⟩
  have e : evr args s (tmS i) = evr args s (tmS j) := e
  obtain ⟨-, -, ⟨cf, k, n, f, cell, g1, g2, g3, g4, g5, g6⟩, ⟨cl, b1, b2, b3, b4, b5, b6, b7⟩⟩ := h0 i hi
  obtain ⟨-, -, ⟨cf', k', n', f', cell', g1', g2', g3', g4', g5', g6'⟩, ⟨cl', b1', b2', b3', b4', b5', b6', b7'⟩⟩ := h0 j hj
  rw [g1] at g1'
  cases Option.some.inj g1'
  rw [← e, g3] at g3'
  cases Option.some.inj g3'
  rw [g5] at g5'
  have ev : evr args s (tmV i) = evr args s (tmV j) := by
    have := Option.some.inj g5'
    injection this
  rw [← ev, b1] at b1'
  cases Option.some.inj b1'
  have hl := sg_l i hi
  have hl' := sg_l j hj
  have el : fw_wlen.getD i 0 = fw_wlen.getD j 0 := nI_inj (by omega) (by omega) (b5.symm.trans b5')
  refine sg_d i hi j hj el (fun q hq => ?_)
  have h1 := b6 q hq
  have h2 := b6' q (by omega)
  rw [h1] at h2
  have := Option.some.inj h2
  injection this
theorem en_X (hts : ∀ w ∈ lw_tbl, w.before args s = true) (hs : ∀ w ∈ nr, w.before args s = true) (ad : Nat → Nat) : ∃ X : fw_X, fw_ad X = ad ∧ fw_z0 X = s.heap.size ∧ fw_T X s ∧ fw_V X s s.heap ∧ fw_N s := by
  obtain ⟨dC, dI, hC⟩ := en_C hts
  obtain ⟨kp, hK⟩ := en_A hts
  obtain ⟨X, hX⟩ : ∃ X : fw_X, X = (dC, dI, ad, kp, fun i => evr args s (sgt i), s.heap.size) := ⟨_, rfl⟩
  have hA : ∀ a : Nat, a < s.heap.size → ¬ fw_A X a := fun a h h2 => by rw [hX] at h2; exact absurd h2 (Nat.not_le.mpr h)
  have hsg : ∀ i, fw_sg X i = evr args s (sgt i) := fun i => by rw [hX]
  obtain ⟨l1, l2, l3, l4, l5, l6, l7⟩ := n_ls
  obtain ⟨i1, i2, i3, i4, i5⟩ := n_in
  obtain ⟨r1, r2, r3, r4⟩ := n_re
  obtain ⟨x1, x2, x3, x4, x5, x6⟩ := n_sl
  obtain ⟨t0, e0, hT0⟩ := va_Tof (N := 11) (f := fun j => .int (fw_dig.getD j 0)) (A := fw_A X) (by decide) (mt hs x1) (va_eqt (mt hs x2)) (fun j hj => va_eqt (mt hs (n_dk j hj))) hA
  obtain ⟨t1, e1, hT1⟩ := va_Tof (N := 100) (f := fun j => .int (nI (48 + j / 10))) (A := fw_A X) (by decide) (mt hs x3) (va_eqt (mt hs x4)) (fun j hj => va_eqt (mt hs (n_dt j hj))) hA
  obtain ⟨t2, e2, hT2⟩ := va_Tof (N := 100) (f := fun j => .int (nI (48 + j % 10))) (A := fw_A X) (by decide) (mt hs x5) (va_eqt (mt hs x6)) (fun j hj => va_eqt (mt hs (n_do j hj))) hA
  have s0 : fw_sg X 0 = t0 := (hsg 0).trans (evr_of e0)
  have s1 : fw_sg X 1 = t1 := (hsg 1).trans (evr_of e1)
  have s2 : fw_sg X 2 = t2 := (hsg 2).trans (evr_of e2)
  refine ⟨X, by rw [hX], by rw [hX], ⟨⟨fun k q hq => by rw [hX]; exact hC k q hq, fun k q hq => ?_⟩, fun q hq => ?_, va_Nw.of rfl (mt hts n_mn), fun q hq => ?_, fun i j hi hj hij => va_Nc.of (hs _ (n_nc i hi j hj hij)), fun i hi => va_Nw.of rfl (mt hts (n_ca i hi)), fun y hy => ?_⟩, ⟨vx_Zqof (mt hts l1) (mt hts i1) (mt hs r1) hA, vx_Zqof (mt hts l2) (mt hts i1) (mt hs r2) hA, ?_, ?_, ?_, va_Zof (mt hts l4) (mt hts i3) (va_eqi (mt hs r4)) hA, ?_, ?_, ?_, ?_, (vx_Zqof (mt hts l3) (mt hts i2) (mt hs r3) hA).1⟩, ⟨show (Cond.arrayOver (.array .int)).before args s = true from mt hts n_ac.2.2.1, va_AO.of (mt hts n_ac.2.2.2.1)⟩⟩
  · rw [hX] at hq
    match k, hq with
    | 0, hq => cases hq; exact hK 0 _ rfl
    | 1, hq => cases hq; exact hK 1 _ rfl
    | 2, hq => cases hq; exact hK 2 _ rfl
    | 3, hq => cases hq; exact hK 3 _ rfl
    | 4, hq => cases hq; exact hK 4 _ rfl
    | 5, hq => cases hq; exact hK 5 _ rfl
    | 6, hq => cases hq; exact hK 6 _ rfl
    | k + 7, hq => simp [fw_tys] at hq
  · obtain ⟨j, hj⟩ := List.mem_iff_getElem?.mp hq
    have hlt : j < 50 := by rw [← n_k.1]; exact (List.getElem?_eq_some_iff.mp hj).1
    have e : fw_nest.getD j ("", 0, "", "", "", "") = q := by rw [List.getD_eq_getElem?_getD, hj]; rfl
    have h := n_ne j hlt
    rw [e] at h
    exact va_Nw.of rfl (mt hts h)
  · obtain ⟨j, hj⟩ := List.mem_iff_getElem?.mp hq
    have hlt : j < 47 := by rw [← n_k.2]; exact (List.getElem?_eq_some_iff.mp hj).1
    have e : fw_strs.getD j ("", 0, "", 0) = q := by rw [List.getD_eq_getElem?_getD, hj]; rfl
    obtain ⟨h1, h2, h3⟩ := n_st j hlt
    rw [e] at h1 h2 h3
    have ev := ev_ex (mt hs h1)
    rw [hsg]
    refine vk_R.of (A := args) (mt hts h3) ?_
    rcases h2 with h2 | h2
    · rw [h2]; exact ev
    · exact va_eqR (mt hs h2) ev
  · rcases List.mem_cons.mp hy with rfl | hy
    · exact va_Nw.of rfl (mt hts n_de.1)
    · rcases List.mem_cons.mp hy with rfl | hy
      · exact va_Nw.of rfl (mt hts n_de.2.1)
      · rcases List.mem_cons.mp hy with rfl | hy
        · exact va_Nw.of rfl (mt hts n_de.2.2)
        · cases hy
  · rw [s0]; exact va_Zof (mt hts l5) (mt hts i4) e0 hA
  · rw [s0]; exact hT0
  · have h := en_S hs hA
    refine ⟨fun i hi => ?_, fun i j hi hj e => ?_⟩
    · have h1 := h.1 i hi
      show va_O "java/lang/String" (fw_sg X (10 + i)) _ _ _ ∧ va_OF "java/lang/String" "coder" "B" (.int 0) (fw_sg X (10 + i)) _ _ _ ∧ va_OF "java/lang/String" "value" "[B" (.ref (fw_sg X (30 + i))) (fw_sg X (10 + i)) _ _ _ ∧ va_T .byte (fw_sg X (30 + i)) _ _ _ _ _
      rw [hsg, hsg, (sg_t i hi).1, (sg_t i hi).2]
      exact h1
    · have e : fw_sg X (10 + i) = fw_sg X (10 + j) := e
      rw [hsg, hsg, (sg_t i hi).1, (sg_t j hj).1] at e
      exact h.2 i j hi hj e
  · rw [s1]; exact va_Zof (mt hts l6) (mt hts i5) e1 hA
  · rw [s1]; exact hT1
  · rw [s2]; exact va_Zof (mt hts l7) (mt hts i5) e2 hA
  · rw [s2]; exact hT2
end EN
