/-! the world that the two constructors leave -/
def eb (q : Nat) : Nat := if q = 0 then 1 else if q = 1 then 26 else if q = 2 then 51 else 3 + 25 * q
def et (j : Nat) : Nat := if j = 0 then 0 else if j = 1 then 76 else if j = 2 then 77 else 275 + j
def ep (k : Nat) : Nat := if k < 352 then eb (k / 32) + k % 32 else et (k - 352)
def M0 : fw_M := fun k => if k = 352 then (fun j => if j = 8 then -1 else if j = 9 then -1 else 0) else if k = 378 then (fun j => if j = 13 then -1 else if j = 14 then -1 else 0) else if k = 377 then (fun j => if j = 1000 then 16 else 0) else fun _ => 0
theorem ep_nd : va_nd (fw_dom.map ep) = true := by decide +kernel
theorem ep_S {q j : Nat} (hq : q < 11) (hj : j < 32) : ep (32 * q + j) = eb q + j := by
  unfold ep
  rw [if_pos (by omega), show (32 * q + j) / 32 = q by omega, show (32 * q + j) % 32 = j by omega]
theorem fd_c {k : Nat} (h : k ∈ fw_dom) : (∃ q j, q < 11 ∧ j < 25 ∧ k = 32 * q + j) ∨ ∃ j, j < 36 ∧ k = 352 + j := by
  rcases List.mem_append.mp h with h | h
  · obtain ⟨q, hq, h⟩ := List.mem_flatMap.mp h
    obtain ⟨j, hj, rfl⟩ := List.mem_map.mp h
    exact Or.inl ⟨q, j, List.mem_range.mp hq, List.mem_range.mp hj, rfl⟩
  · obtain ⟨j, hj, rfl⟩ := List.mem_map.mp h
    exact Or.inr ⟨j, List.mem_range.mp hj, rfl⟩
theorem arrV_c {c : ClassId} {n : Nat} {f g : Nat → Value} (h : ∀ i, i < n → f i = g i) : arrV c n f = arrV c n g := by
  unfold arrV
  have e : (fun j : Fin n => f j.val) = fun j : Fin n => g j.val := funext fun j => h j.val j.isLt
  rw [e]
theorem at_q {D : va_G} {cl : List vw_C} {q n : Nat} {c : ClassId} {f g : Nat → Option Nat} {H : Heap} (h : va_at D cl (q, .inl (c, n, .inr (.inr (.inr (.inr f))))) H) (e : ∀ i, i < n → f i = g i) : va_at D cl (q, .inl (c, n, .inr (.inr (.inr (.inr g))))) H := by
  have h : H[q]? = some (vp_cell c (n, .inr (.inr (.inr (.inr f))))) := h
  show H[q]? = some (vp_cell c (n, .inr (.inr (.inr (.inr g)))))
  rw [h, vp_cell_q, vp_cell_q, arrV_c (fun i hi => by rw [e i hi])]
theorem at_i {D : va_G} {cl : List vw_C} {q n : Nat} {c : ClassId} {f g : Nat → Int32} {H : Heap} (h : va_at D cl (q, .inl (c, n, .inl f)) H) (e : ∀ i, i < n → f i = g i) : va_at D cl (q, .inl (c, n, .inl g)) H := by
  have h : H[q]? = some (vp_cell c (n, .inl f)) := h
  show H[q]? = some (vp_cell c (n, .inl g))
  rw [h, vp_cell_i, vp_cell_i, arrV_c (fun i hi => by rw [e i hi])]
section WO
variable {X : fw_X} {H : Heap} {s : State}
theorem cn_l {a : Nat} {A B : List va_E} (h : cn_B X H a (A ++ B)) : cn_B X H a A := fun j e hj => h j e (by
  rw [List.getElem?_append_left (List.getElem?_eq_some_iff.mp hj).1]
  exact hj)
theorem cn_r {a o : Nat} {A B : List va_E} (h : cn_B X H a (A ++ B)) (ho : A.length = o) : cn_B X H (a + o) B := fun j e hj => by
  have := h (o + j) e (by
    rw [List.getElem?_append_right (by omega), ho, Nat.add_sub_cancel_left]
    exact hj)
  rw [Nat.add_assoc]
  exact this
theorem cn_t {a : Nat} {x : va_E} {A : List va_E} (h : cn_B X H a (x :: A)) : cn_B X H (a + 1) A := fun j e hj => by
  have := h (j + 1) e hj
  rw [Nat.add_assoc, Nat.add_comm 1 j]
  exact this
theorem at_S {u : Nat} {r : Nat → Nat} (hr : ∀ i, i < 25 → r i = u + i) (hB : cn_B X H u (stB X u)) : ∀ j, j < 25 → va_at (fw_D X) fw_cl (u + j, fw_St X r j (fun _ => 0)) H := by
  intro j hj
  rcases (show j = 0 ∨ j = 1 ∨ j = 2 ∨ j = 3 ∨ j = 4 ∨ j = 5 ∨ j = 6 ∨ j = 7 ∨ j = 8 ∨ j = 9 ∨ j = 10 ∨ j = 11 ∨ j = 12 ∨ j = 13 ∨ j = 14 ∨ j = 15 ∨ j = 16 ∨ j = 17 ∨ j = 18 ∨ j = 19 ∨ j = 20 ∨ j = 21 ∨ j = 22 ∨ j = 23 ∨ j = 24 by omega) with rfl | rfl | rfl | rfl | rfl | rfl | rfl | rfl | rfl | rfl | rfl | rfl | rfl | rfl | rfl | rfl | rfl | rfl | rfl | rfl | rfl | rfl | rfl | rfl | rfl
  · show va_at _ _ (u + 0, .inr (7, [.ref (r 1), .ref (r 11), .ref (r 15), .ref (r 22), .int 0])) H
    rw [hr 1 (by omega), hr 11 (by omega), hr 15 (by omega), hr 22 (by omega)]
    exact hB 0 _ rfl
  · show va_at _ _ (u + 1, .inr (3, [.int 0, .int 0, .ref (r 2), .ref (r 3), .ref (r 4), .ref (r 10)])) H
    rw [hr 2 (by omega), hr 3 (by omega), hr 4 (by omega), hr 10 (by omega)]
    exact hB 1 _ rfl
  · exact hB 2 _ rfl
  · exact hB 3 _ rfl
  · exact at_q (hB 4 _ rfl) (fun i hi => by show _ = some (r (5 + i)); rw [hr (5 + i) (by omega)]; exact congrArg some (by omega))
  · exact hB 5 _ rfl
  · exact hB 6 _ rfl
  · exact hB 7 _ rfl
  · exact hB 8 _ rfl
  · exact hB 9 _ rfl
  · exact hB 10 _ rfl
  · show va_at _ _ (u + 11, .inr (1, [.int 0, .ref (r 12), .ref (r 13), .ref (r 14)])) H
    rw [hr 12 (by omega), hr 13 (by omega), hr 14 (by omega)]
    exact hB 11 _ rfl
  · exact hB 12 _ rfl
  · exact hB 13 _ rfl
  · exact hB 14 _ rfl
  · show va_at _ _ (u + 15, .inr (6, [.int 0, .ref (r 16), .ref (r 17), .ref (r 18), .ref (r 19), .ref (r 20), .ref (r 21)])) H
    rw [hr 16 (by omega), hr 17 (by omega), hr 18 (by omega), hr 19 (by omega), hr 20 (by omega), hr 21 (by omega)]
    exact hB 15 _ rfl
  · exact hB 16 _ rfl
  · exact hB 17 _ rfl
  · exact hB 18 _ rfl
  · exact hB 19 _ rfl
  · exact hB 20 _ rfl
  · exact hB 21 _ rfl
  · show va_at _ _ (u + 22, .inr (2, [.int 0, .ref (r 23), .ref (r 24)])) H
    rw [hr 23 (by omega), hr 24 (by omega)]
    exact hB 22 _ rfl
  · exact hB 23 _ rfl
  · exact hB 24 _ rfl
theorem at_H {z : Nat} (hB : cn_B X H z (((tnB X z ++ mdB X (z + 301)) ++ [.inl (fw_kp X 5, 1, .inr (.inl (fun _ => (0 : Int32).toInt64)))]) ++ [.inl (fw_kp X 6, 1, .inr (.inr (.inr (.inl (fun _ => 0)))))])) (hAd : ∀ k, fw_ad X k = z + ep k) : ∀ k ∈ fw_dom, va_at (fw_D X) fw_cl (fw_rho X (z + 300) k, fw_E X (z + 300) k (M0 k)) H := by
  have B1 := cn_l (cn_l hB)
  have Bl := cn_r (cn_l hB) (o := 309) (by simp [tnB_len, mdB_len])
  have Bd := cn_r hB (o := 310) (by simp [tnB_len, mdB_len])
  have Bm := cn_r B1 (o := 301) tnB_len
  have Bt := cn_l B1
  have Bt0 : cn_B X H z (.inr (8, [.ref (z + 1), .ref (z + 26), .ref (z + 51), .ref (z + 76), .ref (z + 278), .ref (z + 283), .ref (z + 299), .int 0, .int (-1), .int (-1)]) :: ((((((([] ++ stB X (z + 1)) ++ stB X (z + 26)) ++ stB X (z + 51)) ++ hiB X (z + 76)) ++ pfB X (z + 278)) ++ ctB X (z + 283)) ++ sbB X (z + 299))) := Bt
  have T := cn_t Bt0
  have Bsb : cn_B X H (z + 299) (sbB X (z + 299)) := cn_r T (o := 298) (by simp [stB_len, hiB_len, pfB_len, ctB_len])
  have Bct : cn_B X H (z + 283) (ctB X (z + 283)) := cn_r (cn_l T) (o := 282) (by simp [stB_len, hiB_len, pfB_len])
  have Bpf : cn_B X H (z + 278) (pfB X (z + 278)) := cn_r (cn_l (cn_l T)) (o := 277) (by simp [stB_len, hiB_len])
  have Bhi : cn_B X H (z + 76) (hiB X (z + 76)) := cn_r (cn_l (cn_l (cn_l T))) (o := 75) (by simp [stB_len])
  have Bs2 : cn_B X H (z + 51) (stB X (z + 51)) := cn_r (cn_l (cn_l (cn_l (cn_l T)))) (o := 50) (by simp [stB_len])
  have Bs1 : cn_B X H (z + 26) (stB X (z + 26)) := cn_r (cn_l (cn_l (cn_l (cn_l (cn_l T))))) (o := 25) (by simp [stB_len])
  have Bs0 : cn_B X H (z + 1) (stB X (z + 1)) := cn_l (cn_l (cn_l (cn_l (cn_l T))))
  have U := cn_t (cn_t Bhi)
  have Bh7 : cn_B X H (z + 253) (stB X (z + 253)) := cn_r U (o := 175) (by simp [stB_len])
  have Bh6 : cn_B X H (z + 228) (stB X (z + 228)) := cn_r (cn_l U) (o := 150) (by simp [stB_len])
  have Bh5 : cn_B X H (z + 203) (stB X (z + 203)) := cn_r (cn_l (cn_l U)) (o := 125) (by simp [stB_len])
  have Bh4 : cn_B X H (z + 178) (stB X (z + 178)) := cn_r (cn_l (cn_l (cn_l U))) (o := 100) (by simp [stB_len])
  have Bh3 : cn_B X H (z + 153) (stB X (z + 153)) := cn_r (cn_l (cn_l (cn_l (cn_l U)))) (o := 75) (by simp [stB_len])
  have Bh2 : cn_B X H (z + 128) (stB X (z + 128)) := cn_r (cn_l (cn_l (cn_l (cn_l (cn_l U))))) (o := 50) (by simp [stB_len])
  have Bh1 : cn_B X H (z + 103) (stB X (z + 103)) := cn_r (cn_l (cn_l (cn_l (cn_l (cn_l (cn_l U)))))) (o := 25) (by simp [stB_len])
  have Bh0 : cn_B X H (z + 78) (stB X (z + 78)) := (cn_l (cn_l (cn_l (cn_l (cn_l (cn_l (cn_l U)))))))
  have hrho : ∀ k, fw_rho X (z + 300) k = z + ep k := by
    intro k
    unfold fw_rho
    by_cases e : k = 377
    · rw [if_pos e, e]; rfl
    · rw [if_neg e, hAd]
  intro k hk
  rw [hrho]
  rcases fd_c hk with ⟨q, j, hq, hj, rfl⟩ | ⟨j, hj, rfl⟩
  · have hM : M0 (32 * q + j) = fun _ => 0 := by unfold M0; rw [if_neg (by omega), if_neg (by omega), if_neg (by omega)]
    rw [ep_S hq (by omega), fw_ES hq (by omega), hM, ← Nat.add_assoc]
    have hr : ∀ i, i < 25 → fw_ad X (32 * q + i) = z + eb q + i := fun i hi => by rw [hAd, ep_S hq (by omega), Nat.add_assoc]
    refine at_S (u := z + eb q) hr ?_ j hj
    rcases (show q = 0 ∨ q = 1 ∨ q = 2 ∨ q = 3 ∨ q = 4 ∨ q = 5 ∨ q = 6 ∨ q = 7 ∨ q = 8 ∨ q = 9 ∨ q = 10 by omega) with rfl | rfl | rfl | rfl | rfl | rfl | rfl | rfl | rfl | rfl | rfl
    · exact Bs0
    · exact Bs1
    · exact Bs2
    · exact Bh0
    · exact Bh1
    · exact Bh2
    · exact Bh3
    · exact Bh4
    · exact Bh5
    · exact Bh6
    · exact Bh7
  · rw [fw_ET]
    rcases (show j = 0 ∨ j = 1 ∨ j = 2 ∨ j = 3 ∨ j = 4 ∨ j = 5 ∨ j = 6 ∨ j = 7 ∨ j = 8 ∨ j = 9 ∨ j = 10 ∨ j = 11 ∨ j = 12 ∨ j = 13 ∨ j = 14 ∨ j = 15 ∨ j = 16 ∨ j = 17 ∨ j = 18 ∨ j = 19 ∨ j = 20 ∨ j = 21 ∨ j = 22 ∨ j = 23 ∨ j = 24 ∨ j = 25 ∨ j = 26 ∨ j = 27 ∨ j = 28 ∨ j = 29 ∨ j = 30 ∨ j = 31 ∨ j = 32 ∨ j = 33 ∨ j = 34 ∨ j = 35 by omega) with rfl | rfl | rfl | rfl | rfl | rfl | rfl | rfl | rfl | rfl | rfl | rfl | rfl | rfl | rfl | rfl | rfl | rfl | rfl | rfl | rfl | rfl | rfl | rfl | rfl | rfl | rfl | rfl | rfl | rfl | rfl | rfl | rfl | rfl | rfl | rfl
    · show va_at _ _ (z + 0, .inr (8, [.ref (fw_ad X 0), .ref (fw_ad X 32), .ref (fw_ad X 64), .ref (fw_ad X 353), .ref (fw_ad X 355), .ref (fw_ad X 360), .ref (fw_ad X 376), .int 0, .int (-1), .int (-1)])) H
      rw [show fw_ad X 0 = z + 1 from hAd 0, show fw_ad X 32 = z + 26 from hAd 32, show fw_ad X 64 = z + 51 from hAd 64, show fw_ad X 353 = z + 76 from hAd 353, show fw_ad X 355 = z + 278 from hAd 355, show fw_ad X 360 = z + 283 from hAd 360, show fw_ad X 376 = z + 299 from hAd 376]
      exact Bt0 0 _ rfl
    · show va_at _ _ (z + 76, .inr (4, [.ref (fw_ad X 354), .int 0, .int 0])) H
      rw [show fw_ad X 354 = z + 77 from hAd 354]
      exact Bhi 0 _ rfl
    · refine at_q (Bhi 1 _ rfl) (fun i hi => ?_)
      show _ = some (fw_ad X (96 + 32 * i))
      rw [show 96 + 32 * i = 32 * (3 + i) + 0 by omega, hAd, ep_S (by omega) (by omega)]
      rcases (show i = 0 ∨ i = 1 ∨ i = 2 ∨ i = 3 ∨ i = 4 ∨ i = 5 ∨ i = 6 ∨ i = 7 by omega) with rfl | rfl | rfl | rfl | rfl | rfl | rfl | rfl <;> rfl
    · show va_at _ _ (z + 278, .inr (5, [.ref (fw_ad X 356), .ref (fw_ad X 357), .ref (fw_ad X 358), .ref (fw_ad X 359), .int 0])) H
      rw [show fw_ad X 356 = z + 279 from hAd 356, show fw_ad X 357 = z + 280 from hAd 357, show fw_ad X 358 = z + 281 from hAd 358, show fw_ad X 359 = z + 282 from hAd 359]
      exact Bpf 0 _ rfl
    · exact Bpf 1 _ rfl
    · exact Bpf 2 _ rfl
    · exact Bpf 3 _ rfl
    · exact Bpf 4 _ rfl
    · show va_at _ _ (z + 283, .inr (0, [.int 0, .ref (fw_ad X 361), .int 0, .int 0, .ref (fw_ad X 362), .ref (fw_ad X 363)])) H
      rw [show fw_ad X 361 = z + 284 from hAd 361, show fw_ad X 362 = z + 285 from hAd 362, show fw_ad X 363 = z + 286 from hAd 363]
      exact Bct 0 _ rfl
    · exact Bct 1 _ rfl
    · exact Bct 2 _ rfl
    · refine at_q (Bct 3 _ rfl) (fun i hi => ?_)
      show _ = some (fw_ad X (364 + i))
      rw [hAd]
      rcases (show i = 0 ∨ i = 1 ∨ i = 2 ∨ i = 3 ∨ i = 4 ∨ i = 5 ∨ i = 6 ∨ i = 7 ∨ i = 8 ∨ i = 9 ∨ i = 10 ∨ i = 11 by omega) with rfl | rfl | rfl | rfl | rfl | rfl | rfl | rfl | rfl | rfl | rfl | rfl <;> rfl
    · exact Bct 4 _ rfl
    · exact Bct 5 _ rfl
    · exact Bct 6 _ rfl
    · exact Bct 7 _ rfl
    · exact Bct 8 _ rfl
    · exact Bct 9 _ rfl
    · exact Bct 10 _ rfl
    · exact Bct 11 _ rfl
    · exact Bct 12 _ rfl
    · exact Bct 13 _ rfl
    · exact Bct 14 _ rfl
    · exact Bct 15 _ rfl
    · exact Bsb 0 _ rfl
    · exact at_i (Bsb 1 _ rfl) (fun i hi => by show (0 : Int32) = if i = 1000 then 16 else 0; rw [if_neg (by have : i < 16 := hi; omega)])
    · show va_at _ _ (z + 301, .inr (9, [.ref (fw_ad X 379), .ref (fw_ad X 380), .ref (fw_ad X 381), .int 0, .ref (fw_ad X 382), .int 0, .int 0, .ref (fw_ad X 383), .int 0, .ref (fw_ad X 384), .int 0, .int 0, .int 0, .int (-1), .int (-1), .ref (fw_ad X 385), .int 0])) H
      rw [show fw_ad X 379 = z + 302 from hAd 379, show fw_ad X 380 = z + 303 from hAd 380, show fw_ad X 381 = z + 304 from hAd 381, show fw_ad X 382 = z + 305 from hAd 382, show fw_ad X 383 = z + 306 from hAd 383, show fw_ad X 384 = z + 307 from hAd 384, show fw_ad X 385 = z + 308 from hAd 385]
      exact Bm 0 _ rfl
    · exact Bm 1 _ rfl
    · exact Bm 2 _ rfl
    · exact Bm 3 _ rfl
    · exact Bm 4 _ rfl
    · exact Bm 5 _ rfl
    · exact Bm 6 _ rfl
    · exact Bm 7 _ rfl
    · exact Bl 0 _ rfl
    · have h : H[z + 310]? = some (vp_cell (fw_kp X 6) (1, .inr (.inr (.inr (.inl (fun _ => 0)))))) := Bd 0 _ rfl
      show H[z + 310]? = some (vp_cell (fw_kp X 6) (1, .inr (.inr (.inr (.inl (fun j => if j = 0 then fw_dbl 0 0 else 0))))))
      rw [h, vp_cell_d, vp_cell_d, arrV_c (fun i hi => ?_)]
      obtain rfl : i = 0 := by omega
      rfl
theorem at_F {z : Nat} {locs : List Loc} (hz : fw_z0 X = z) (hs : s.heap.size = z) (hB : cn_H X s z (((tnB X z ++ mdB X (z + 301)) ++ [.inl (fw_kp X 5, 1, .inr (.inl (fun _ => (0 : Int32).toInt64)))]) ++ [.inl (fw_kp X 6, 1, .inr (.inr (.inr (.inl (fun _ => 0)))))]) H locs) (hAd : ∀ k, fw_ad X k = z + ep k) : fr_H X s M0 H locs := by
  obtain ⟨b1, b2, b3, b4⟩ := hB
  have hrho : ∀ k, fw_rho X (z + 300) k = z + ep k := by
    intro k
    unfold fw_rho
    by_cases e : k = 377
    · rw [if_pos e, e]; rfl
    · rw [if_neg e, hAd]
  have hL : ∀ (q : Nat) (p : Nat × va_E), (fw_L X (z + 300) M0)[q]? = some p → ∃ k, fw_dom[q]? = some k ∧ p = (fw_rho X (z + 300) k, fw_E X (z + 300) k (M0 k)) := by
    intro q p h
    unfold fw_L at h
    rw [List.getElem?_map] at h
    cases e : fw_dom[q]? with
    | none => rw [e] at h; cases h
    | some k => rw [e] at h; exact ⟨k, rfl, (Option.some.inj h).symm⟩
  refine ⟨z + 300, fun q p h => ?_, ⟨fun i j p q hp hq e => ?_, fun q p h => ?_⟩, ?_, fun q hq _ => b3 q (by rw [← hs]; exact hq), fun l hl => ?_⟩
  · obtain ⟨k, hk, rfl⟩ := hL q p h
    exact at_H b2 hAd k (List.mem_of_getElem? hk)
  · obtain ⟨k, hk, rfl⟩ := hL i p hp
    obtain ⟨k', hk', rfl⟩ := hL j q hq
    have e : fw_rho X (z + 300) k = fw_rho X (z + 300) k' := e
    rw [hrho, hrho] at e
    have e2 : ep k = ep k' := by omega
    exact va_nd_inj _ ep_nd i j (ep k) (by rw [List.getElem?_map, hk]; rfl) (by rw [List.getElem?_map, hk', e2]; rfl)
  · obtain ⟨k, hk, rfl⟩ := hL q p h
    show fw_z0 X ≤ fw_rho X (z + 300) k
    rw [hrho, hz]
    omega
  · rw [hs, b1]
    omega
  · show fw_z0 X ≤ l.base
    rw [hz]
    exact b4 l hl
end WO
