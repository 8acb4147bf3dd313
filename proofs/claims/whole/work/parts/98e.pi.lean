/-! the world at the start is sound -/
def s00 : Nat → Int32 := fun _ => 0
theorem sv0 (j : Nat) : sv s00 j = 0 := by unfold sv s00; exact z_0
theorem M0_z {k : Nat} (h1 : k ≠ 352) (h2 : k ≠ 378) (h3 : k ≠ 377) : M0 k = fun _ => 0 := by unfold M0; rw [if_neg h1, if_neg h2, if_neg h3]
theorem ok00 : ok s00 := by
  refine ⟨⟨⟨?_, ?_⟩, ⟨?_, ?_⟩, ⟨?_, ?_⟩, ⟨?_, ?_⟩, ?_, ?_⟩, fun j hj => ?_, fun l hl => ⟨?_, ?_, fun h => ?_, fun _ => sv0 _⟩, fun l p hl hp => ?_, fun l p q hl hp hq => ?_, fun t ht => ?_, fun p hp => ?_, fun q hq => ?_⟩
  · rw [sv0]; rfl
  · rw [sv0]; omega
  · rw [sv0]; rfl
  · rw [sv0]; omega
  · rw [sv0]; rfl
  · rw [sv0]; omega
  · rw [sv0]; rfl
  · rw [sv0]; omega
  · rw [sv0]; rfl
  · rw [sv0]; omega
  · rw [sv0]; exact ⟨rfl, by omega⟩
  · rw [sv0]; rfl
  · rw [sv0]; omega
  · rw [sv0] at h; omega
  · rw [sv0] at hp; omega
  · rw [sv0] at hq; omega
  · rw [sv0] at ht; omega
  · rw [sv0] at hp; omega
  · rw [sv0] at hq; omega
theorem R00 : R M0 0 s00 := by
  refine ⟨⟨rfl, rfl, rfl, rfl, rfl, rfl⟩, fun j hj => ?_, fun l hl => ⟨?_, ?_⟩, fun l p hl hp => ?_, fun t ht => ⟨?_, ?_⟩, fun t ht => ?_, fun p hp => ⟨?_, ?_, ?_, ?_, ?_, ?_⟩, fun q hq => ⟨?_, ?_⟩⟩
  · rw [M0_z (by omega) (by omega) (by omega)]; rfl
  · rw [M0_z (by omega) (by omega) (by omega)]; rfl
  · have e : lset s00 l = 0 := by unfold lset; rw [sv0]; rfl
    rw [M0_z (by omega) (by omega) (by omega), e]; rfl
  · rw [M0_z (by omega) (by omega) (by omega)]; rfl
  · rw [M0_z (by omega) (by omega) (by omega)]; rfl
  · rw [M0_z (by omega) (by omega) (by omega)]; rfl
  · rw [sv0] at ht; omega
  · rw [M0_z (by omega) (by omega) (by omega)]; rfl
  · rw [M0_z (by omega) (by omega) (by omega)]; rfl
  · rw [M0_z (by omega) (by omega) (by omega)]; rfl
  · rw [M0_z (by omega) (by omega) (by omega)]; rfl
  · rw [M0_z (by omega) (by omega) (by omega)]; rfl
  · rw [M0_z (by omega) (by omega) (by omega)]; rfl
  · rw [M0_z (by omega) (by omega) (by omega)]; rfl
  · rw [M0_z (by omega) (by omega) (by omega)]; rfl
theorem Inv0 : Inv M0 := by
  have hc : fw_cap M0 = 16 := by decide +kernel
  refine ⟨⟨s00, ok00, R00, fun j _ => by rw [M0_z (by omega) (by omega) (by omega)]; rfl⟩, Or.inl ⟨rfl, rfl⟩, ⟨fun _ => s00, 0, by omega, ⟨rfl, 0, by omega, rfl, fun i hi => absurd hi (Nat.not_lt_zero i)⟩, ⟨rfl, fun i j hi => absurd hi (Nat.not_lt_zero i)⟩, fun i hi => absurd hi (Nat.not_lt_zero i)⟩, ⟨0, by omega, rfl, rfl, fun j hj => absurd hj (Nat.not_lt_zero j)⟩, ⟨rfl, rfl, Or.inl rfl, Or.inl rfl⟩, ⟨rfl, by omega, by omega, fun j hj => ?_, 0, by omega, by omega, rfl, rfl, fun j hj => absurd hj (Nat.not_lt_zero j)⟩⟩
  have e : M0 377 j = 0 := by
    show (if j = 1000 then (16 : Int32) else 0) = 0
    rw [if_neg (by omega)]
  rw [e]
  decide
theorem law_0 {L : Nat} (hL : L ≤ 2048) (xs : Nat → Int32) : F_law L xs 600 0 M0 = some () := law_ok hL xs 600 0 M0 Inv0 rfl (by omega)
