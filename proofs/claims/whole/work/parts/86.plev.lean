/-! levels of a graph on 0 .. N-1, and what a search must find -/
def lev (A : Nat → Prop) (E : Nat → Nat → Prop) : Nat → Nat → Prop
  | 0, v => A v
  | k + 1, v => lev A E k v ∨ ∃ u, lev A E k u ∧ E u v
theorem lev_up {A : Nat → Prop} {E : Nat → Nat → Prop} {j k v : Nat} (h : lev A E j v) (hjk : j ≤ k) : lev A E k v := by
  induction k with
  | zero =>
    obtain rfl : j = 0 := by omega
    exact h
  | succ k ih =>
    by_cases e : j = k + 1
    · subst e; exact h
    · exact Or.inl (ih (by omega))
theorem lev_lt {A : Nat → Prop} {E : Nat → Nat → Prop} {N : Nat} (hA : ∀ v, A v → v < N) (hE : ∀ u v, E u v → v < N) : ∀ k v, lev A E k v → v < N := by
  intro k
  induction k with
  | zero => exact hA
  | succ k ih =>
    intro v h
    rcases h with h | ⟨u, -, h⟩
    · exact ih v h
    · exact hE u v h
/-- a fixed level is the last -/
theorem lev_stop {A : Nat → Prop} {E : Nat → Nat → Prop} {j : Nat} (h : ∀ v, lev A E (j + 1) v → lev A E j v) : ∀ k v, lev A E k v → lev A E j v := by
  intro k
  induction k with
  | zero => intro v hv; exact lev_up hv (by omega)
  | succ k ih =>
    intro v hv
    rcases hv with hv | ⟨u, hu, he⟩
    · exact ih v hv
    · exact h v (Or.inr ⟨u, ih u hu, he⟩)
noncomputable def lvb (A : Nat → Prop) (E : Nat → Nat → Prop) (k : Nat) : Nat → Bool := fun v => @decide (lev A E k v) (Classical.propDecidable _)
theorem lvb_t {A : Nat → Prop} {E : Nat → Nat → Prop} {k v : Nat} : lvb A E k v = true ↔ lev A E k v := by
  unfold lvb
  exact @decide_eq_true_iff _ (Classical.propDecidable _)
theorem lev_grow {A : Nat → Prop} {E : Nat → Nat → Prop} {N a : Nat} (hA : ∀ v, A v → v < N) (hE : ∀ u v, E u v → v < N) (ha : A a) : ∀ k, (∃ j, j < k ∧ ∀ v, lev A E (j + 1) v → lev A E j v) ∨ k + 1 ≤ fb_ct (lvb A E k) N := by
  intro k
  induction k with
  | zero =>
    right
    exact fb_ct_pos.mpr ⟨a, hA a ha, lvb_t.mpr ha⟩
  | succ k ih =>
    rcases ih with ⟨j, hj, h⟩ | ih
    · exact Or.inl ⟨j, by omega, h⟩
    · by_cases h : ∀ v, lev A E (k + 1) v → lev A E k v
      · exact Or.inl ⟨k, by omega, h⟩
      · right
        obtain ⟨v, hv⟩ := Classical.not_forall.mp h
        obtain ⟨hv1, hv2⟩ := Classical.not_imp.mp hv
        have hvN := lev_lt hA hE _ _ hv1
        have h1 := fb_ct_upd (lvb A E k) true (i := v) (n := N) hvN
        have h2 : lvb A E k v = false := by
          rw [Bool.eq_false_iff]
          exact fun q => hv2 (lvb_t.mp q)
        rw [h2] at h1
        simp only [Bool.false_eq_true, if_false, if_true] at h1
        have h3 : fb_ct (fun x => if x = v then true else lvb A E k x) N ≤ fb_ct (lvb A E (k + 1)) N := fb_ct_sub (fun x _ hx => by
          by_cases e : x = v
          · subst e
            exact lvb_t.mpr hv1
          · rw [if_neg e] at hx
            exact lvb_t.mpr (Or.inl (lvb_t.mp hx)))
        omega
theorem lev_fix {A : Nat → Prop} {E : Nat → Nat → Prop} {N : Nat} (hN : 0 < N) (hA : ∀ v, A v → v < N) (hE : ∀ u v, E u v → v < N) {k v : Nat} (h : lev A E k v) : lev A E (N - 1) v := by
  by_cases ha : ∃ a, A a
  · obtain ⟨a, ha⟩ := ha
    rcases lev_grow hA hE ha N with ⟨j, hj, hs⟩ | hc
    · exact lev_up (lev_stop hs k v h) (by omega)
    · have := fb_ct_le (lvb A E N) N
      omega
  · exfalso
    have : ∀ k v, ¬ lev A E k v := by
      intro k
      induction k with
      | zero => intro v hv; exact ha ⟨v, hv⟩
      | succ k ih =>
        intro v hv
        rcases hv with hv | ⟨u, hu, -⟩
        · exact ih v hv
        · exact ih u hu
    exact this k v h
/-- r is the least k with P k, or NONE -/
def Rs1 (P : Nat → Prop) (r : Int32) : Prop := (∃ k, k < 16 ∧ r = nI k ∧ P k ∧ ∀ j, j < k → ¬ P j) ∨ (r = mI ∧ ∀ k, ¬ P k)
theorem Rs1.one {P : Nat → Prop} {r r1 : Int32} (h : Rs1 P r) (q : Rs1 P r1) : r = r1 := by
  rcases h with ⟨k, h1, rfl, h2, h3⟩ | ⟨rfl, h⟩ <;> rcases q with ⟨k1, q1, rfl, q2, q3⟩ | ⟨rfl, q⟩
  · rcases Nat.lt_trichotomy k k1 with a | a | a
    · exact absurd h2 (q3 k a)
    · rw [a]
    · exact absurd q2 (h3 k1 a)
  · exact absurd h2 (q k)
  · exact absurd q2 (h k1)
  · rfl
/-! the queue of a search: d the depths, q the queue, n how many, h how many of them are done; all depths at most e -/
def Bq (A : Nat → Prop) (E : Nat → Nat → Prop) (N : Nat) (St Q : Nat → Int32) (n : Nat) : Prop :=
  n ≤ N ∧ (∀ i, i < n → Q i = nI (sv Q i) ∧ sv Q i < N ∧ St (sv Q i) = nI (sv St (sv Q i)) ∧ sv St (sv Q i) < 16 ∧ lev A E (sv St (sv Q i)) (sv Q i)) ∧
  (∀ i j, i < j → j < n → sv Q i ≠ sv Q j ∧ sv St (sv Q i) ≤ sv St (sv Q j)) ∧
  (∀ v, v < N → St v = mI ∨ ∃ i, i < n ∧ sv Q i = v)
/-- v is queued, no deeper than k -/
def qd (St Q : Nat → Int32) (n v k : Nat) : Prop := (∃ i, i < n ∧ sv Q i = v) ∧ sv St v ≤ k
theorem Bq.push {A : Nat → Prop} {E : Nat → Nat → Prop} {N : Nat} {St Q : Nat → Int32} {n e w : Nat} (hN : N < 2 ^ 31) (h : Bq A E N St Q n) (he : ∀ i, i < n → sv St (sv Q i) ≤ e) (he2 : e < 16) (hw : w < N) (hl : lev A E e w) (hn : St w = mI) : n < N ∧ Bq A E N (upd St w (nI e)) (upd Q n (nI w)) (n + 1) ∧ (∀ i, i < n + 1 → sv (upd St w (nI e)) (sv (upd Q n (nI w)) i) ≤ e) ∧ (∀ i, i < n → sv (upd Q n (nI w)) i = sv Q i ∧ sv (upd St w (nI e)) (sv Q i) = sv St (sv Q i)) ∧ qd (upd St w (nI e)) (upd Q n (nI w)) (n + 1) w e := by
  obtain ⟨h1, h2, h3, h4⟩ := h
  have hnew : ∀ i, i < n → sv Q i ≠ w := by
    intro i hi eq
    have := (h2 i hi).2.2.1
    rw [eq, hn] at this
    have hb := (h2 i hi).2.2.2.1
    rw [eq] at hb
    rw [pm_2 (by omega)] at this
    exact this
  have hlt : n < N := by
    refine Nat.lt_of_not_le (fun hc => ?_)
    have : n = N := by omega
    have := fb_holes N (N + 1) (fun i => if i < N then sv Q i else w) (fun i hi => by
      by_cases e : i < N
      · rw [if_pos e]; exact (h2 i (by omega)).2.1
      · rw [if_neg e]; exact hw) (fun i j hij hj => by
      by_cases e : j < N
      · rw [if_pos (by omega), if_pos e]; exact (h3 i j hij (by omega)).1
      · rw [if_pos (by omega), if_neg e]; exact hnew i (by omega))
    omega
  have eQ : ∀ i, i < n → sv (upd Q n (nI w)) i = sv Q i := fun i hi => sv_cong (pk_un (by omega))
  have eQn : sv (upd Q n (nI w)) n = w := sv_of pk_us (by omega)
  have eS : ∀ i, i < n → sv (upd St w (nI e)) (sv Q i) = sv St (sv Q i) := fun i hi => sv_cong (pk_un (hnew i hi))
  have eSw : sv (upd St w (nI e)) w = e := sv_of pk_us (by omega)
  refine ⟨hlt, ⟨by omega, ?_, ?_, ?_⟩, ?_, fun i hi => ⟨eQ i hi, eS i hi⟩, ⟨n, by omega, eQn⟩, by omega⟩
  · intro i hi
    by_cases ei : i = n
    · subst ei
      rw [eQn, eSw]
      exact ⟨pk_us, hw, pk_us, he2, hl⟩
    · rw [eQ i (by omega), eS i (by omega), pk_un ei, pk_un (hnew i (by omega))]
      exact h2 i (by omega)
  · intro i j hij hj
    by_cases ej : j = n
    · subst ej
      rw [eQn, eQ i (by omega), eSw, eS i (by omega)]
      exact ⟨hnew i (by omega), he i (by omega)⟩
    · rw [eQ i (by omega), eQ j (by omega), eS i (by omega), eS j (by omega)]
      exact h3 i j hij (by omega)
  · intro v hv
    by_cases ev : v = w
    · right
      exact ⟨n, by omega, by rw [eQn, ev]⟩
    · rw [pk_un ev]
      rcases h4 v hv with h | ⟨i, hi, h⟩
      · exact Or.inl h
      · exact Or.inr ⟨i, by omega, by rw [eQ i hi, h]⟩
  · intro i hi
    by_cases ei : i = n
    · subst ei
      rw [eQn, eSw]
      exact Nat.le_refl e
    · rw [eQ i (by omega), eS i (by omega)]
      exact he i (by omega)
/-- if all that lies less deep than k is done, level k is queued -/
theorem Bq.done {A : Nat → Prop} {E : Nat → Nat → Prop} {St Q : Nat → Int32} {n h : Nat} (h0 : ∀ v, A v → qd St Q n v 0) (hd : ∀ i v, i < h → E (sv Q i) v → qd St Q n v (sv St (sv Q i) + 1)) : ∀ k, (∀ i, i < n → sv St (sv Q i) < k → i < h) → ∀ v, lev A E k v → qd St Q n v k := by
  intro k
  induction k with
  | zero => intro _ v hv; exact h0 v hv
  | succ k ih =>
    intro hk v hv
    have ih := ih (fun i hi hlt => hk i hi (by omega))
    rcases hv with hv | ⟨u, hu, he⟩
    · exact ⟨(ih v hv).1, by have := (ih v hv).2; omega⟩
    · obtain ⟨⟨i, hi, rfl⟩, hle⟩ := ih u hu
      obtain ⟨a, b⟩ := hd i v (hk i hi (by omega)) he
      exact ⟨a, by omega⟩
