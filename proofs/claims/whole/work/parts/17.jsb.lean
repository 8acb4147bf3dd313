/-! the StringBuilder's methods that write -/
def fw_Pb (X : fw_X) (M : fw_M) (b : Nat) (av : List Value) : Array Value → State → Prop := va_Pc av (fun U => (va_P (fw_D X) fw_cl (fw_L X b M) U.heap ∧ va_D (fw_A X) (fw_L X b M)) ∧ fw_T X U ∧ fw_V X U U.heap ∧ fw_z0 X ≤ U.heap.size)
theorem fw_blindb (X : fw_X) (M : fw_M) (b : Nat) (av : List Value) : FrameBlind (fw_Pb X M b av) := fun a U g mk q => ⟨q.1, q.2.1, q.2.2.1.call g mk a, fw_V.moved (u := U) (U := U.calling g mk a) (Vm.Alike.refl U.vm) q.2.2.2.1, q.2.2.2.2⟩
/-- the world behind a growth: n places, the first old ones kept -/
def fw_gr (M : fw_M) (n : Int32) : fw_M := fw_w M 377 (fun j => if j = 1000 then n else va_cpy (M 377) (fun _ => 0) 0 0 (fw_cap M) j)
def ct_mv (l : Launch) (X : fw_X) (y : MethodName) (cc : ByteArray) (maxL : Nat) (rm : Room) (M : fw_M) (av : List Value) (M1 : fw_M) : Prop := Met l y (.code y cc maxL none :: fw_GW) rm (fw_P X M av) (va_Qv (fun u : fw_M => u = M1) (fw_B X) (fw_A X)) rm.cells rm.slots (fw_A X)
def ct_mr (l : Launch) (X : fw_X) (y : MethodName) (cc : ByteArray) (maxL : Nat) (ret : Option FieldType) (rm : Room) (M : fw_M) (av : List Value) (M1 : fw_M) : Prop := Met l y (.code y cc maxL ret :: fw_GW) rm (fw_P X M av) (va_Qr (fun u : fw_M => u = M1) (fun u a t => a = fw_ad X 376 ∧ fw_B X u t) (fw_A X)) rm.cells rm.slots (fw_A X)
/-- copyOf: a new row at the heap's end -/
def cp_Q (X : fw_X) (n : Nat) (g : Nat → Int32) (h0 : Nat) : Array Value → State → Outcome → State → Prop := va_Qr (fun _ : Unit => True) (fun _ a t => a = h0 ∧ t.heap[a]? = some (vp_cell (fw_kp X 4) (n, .inl g))) (fun _ => False)
theorem fw_openb {l : Launch} {X : fw_X} {y : MethodName} {cc : ByteArray} {maxL : Nat} {ret : Option FieldType} {rm : Room} {M : fw_M} {b : Nat} {av : List Value} {Qc : Array Value → State → Outcome → State → Prop} {mc ms : Nat} {free : Addr → Prop} (P9 : Nat → Prop) (hy : plainName y.cls = true) (hml : (lg_sl av).length ≤ maxL)
    (body : ∀ (p : Program) (e : Env) (s : State) (m : MethodId) (below : List Frame) (meth : Method) (c : Code) (ls : Array Slot), P9 s.heap.size → fr_C X p c cc maxL y.cls s m av.toArray → meth.sig.returnType = ret → meth.locks = false → lv_has ls maxL (lv_args 0 av) → fr_Hb X s M b s.heap [] →
      W p l e rm s m av.toArray below meth c s.heap [] 0 0 (MQ below Qc av.toArray s mc ms free) (F0 m 0 ls [])) : Met l y (.code y cc maxL ret :: fw_GW) rm (fun a U => fw_Pb X M b av a U ∧ P9 U.heap.size) Qc mc ms free := by
  refine Met.ofW (cc := cc) (maxL := maxL) (ret := ret) hy rfl ?_
  intro p e s m args below meth c s₁ B hml2 hv
  obtain ⟨⟨rfl, hB, hT, hV, hz⟩, h9⟩ := hv
  have hts := atoms_spec (ws := .code y cc maxL ret :: fw_GW) B.pre
  have hl := lv_entry av (n := maxL) hml
  rw [lg_entry_eq]
  exact body p e s m below meth c _ h9 ⟨⟨B.exec, B.bytes, hml2, findClass_of_methodNamed B.named, fun w hw => hts w (List.mem_cons_of_mem _ hw)⟩, hT, hV, hz⟩ B.returns B.notSynchronized hl ⟨hB.1, hB.2, va_S.rf⟩
theorem fw_Lk {X : fw_X} {b : Nat} {M : fw_M} {k : Nat} {p : Nat × va_E} (h : (fw_L X b M)[k]? = some p) : ∃ d, fw_dom[k]? = some d ∧ p = (fw_rho X b d, fw_E X b d (M d)) := by
  unfold fw_L at h
  rw [List.getElem?_map] at h
  cases e : fw_dom[k]? with
  | none => rw [e] at h; cases h
  | some d =>
    rw [e] at h
    exact ⟨d, rfl, (Option.some.inj h).symm⟩
theorem fw_Lm {X : fw_X} {b : Nat} {M : fw_M} {k d : Nat} (h : fw_dom[k]? = some d) : (fw_L X b M)[k]? = some (fw_rho X b d, fw_E X b d (M d)) := by
  unfold fw_L
  rw [List.getElem?_map, h]
  rfl
theorem gr_n {M : fw_M} {n : Int32} {k : Nat} (h : k ≠ 377) : fw_gr M n k = M k := fw_w_n h
theorem gr_7 {M : fw_M} {n : Int32} : fw_gr M n 377 1000 = n := by
  unfold fw_gr
  rw [fw_w_s]
  exact if_pos rfl
theorem fr_grow {X : fw_X} {s : State} {M : fw_M} {b q i : Nat} {n : Int32} {H H1 : Heap} {locs locs1 : List Loc} (B : fr_Hb X s M b H locs) (hi : fw_dom[i]? = some 376) (h1 : va_P (fw_D X) fw_cl ((fw_L X b M).set i (fw_ad X 376, .inr (10, [.ref q, .int (M 376 1), .int (M 376 2), .int (M 376 3)]))) H1) (hS : va_S (fw_A X) s.heap H1 locs1) (hq : H1[q]? = some (vp_cell (fw_kp X 4) (n.toNatClampNeg, .inl (fw_gr M n 377)))) (hlt : H.size ≤ q) (hz : fw_z0 X ≤ q) : fr_Hb X s (fw_gr M n) q H1 locs1 := by
  obtain ⟨hP, hD, -⟩ := B
  have hil : i < (fw_L X b M).length := (List.getElem?_eq_some_iff.mp (fw_Lm (X := X) (b := b) (M := M) hi)).1
  have hne : ∀ {k d : Nat}, fw_dom[k]? = some d → d ≠ 377 → fw_ad X d ≠ q := by
    intro k d hk hd e
    have h3 := va_at.lt (hP k _ (fw_Lm hk))
    rw [fw_rho_ne hd] at h3
    have h4 : fw_ad X d < H.size := h3
    omega
  refine ⟨fun k p hk => ?_, ⟨fun k k' p p' hk hk' he => ?_, fun k p hk => ?_⟩, hS⟩
  · obtain ⟨d, hd, rfl⟩ := fw_Lk hk
    by_cases h7 : d = 377
    · subst h7
      rw [rho_7, e_377, gr_7]
      exact hq
    · by_cases h6 : d = 376
      · subst h6
        have hki : k = i := va_nd_inj fw_dom fw_nd k i 376 hd hi
        subst hki
        rw [fw_rho_ne h7, e_376, gr_n h7]
        exact h1 k _ (by rw [List.getElem?_set, if_pos rfl, if_pos hil])
      · have hki : i ≠ k := fun e => by subst e; exact h6 (Option.some.inj (hd.symm.trans hi))
        have h3 := h1 k (fw_rho X b d, fw_E X b d (M d)) (by rw [List.getElem?_set, if_neg hki]; exact fw_Lm hd)
        rw [fw_rho_ne h7] at h3 ⊢
        rw [gr_n h7, ← fw_Eb (b := b) h6]
        exact h3
  · obtain ⟨d, hd, rfl⟩ := fw_Lk hk
    obtain ⟨d', hd', rfl⟩ := fw_Lk hk'
    have he : fw_rho X q d = fw_rho X q d' := he
    by_cases h7 : d = 377
    · by_cases h7' : d' = 377
      · subst h7
        subst h7'
        exact va_nd_inj fw_dom fw_nd k k' 377 hd hd'
      · subst h7
        rw [rho_7, fw_rho_ne h7'] at he
        exact absurd he.symm (hne hd' h7')
    · by_cases h7' : d' = 377
      · subst h7'
        rw [rho_7, fw_rho_ne h7] at he
        exact absurd he (hne hd h7)
      · rw [fw_rho_ne h7, fw_rho_ne h7'] at he
        exact hD.1 k k' _ _ (fw_Lm hd) (fw_Lm hd') (by show fw_rho X b d = fw_rho X b d'; rw [fw_rho_ne h7, fw_rho_ne h7', he])
  · obtain ⟨d, hd, rfl⟩ := fw_Lk hk
    by_cases h7 : d = 377
    · subst h7
      show fw_A X (fw_rho X q 377)
      rw [rho_7]
      exact hz
    · have h3 := hD.2 k _ (fw_Lm hd)
      show fw_A X (fw_rho X q d)
      rw [fw_rho_ne h7] at h3 ⊢
      exact h3
theorem arr_cg {cA : ClassId} {n : Nat} {f g : Nat → Value} (h : ∀ j, j < n → f j = g j) : arrV cA n f = arrV cA n g := by
  unfold arrV
  have e : (Array.ofFn (n := n) fun j => f j.val) = Array.ofFn (n := n) fun j => g j.val := by
    congr 1
    funext j
    exact h j.val j.isLt
  rw [e]
abbrev gw_ok (M : fw_M) (n : Int32) : Prop := fw_cap M < n.toNatClampNeg ∧ n.toNatClampNeg ≤ 100 ∧ ¬ n < 0 ∧ ∀ j, j < fw_cap M → fits .byte (.int (M 377 j)) = true
theorem wa_b : Cond.arrayClass .byte ∈ fw_GW := fw_in (i := 372) (by decide +kernel) (by decide +kernel)
set_option maxHeartbeats 4000000 in
set_option maxRecDepth 100000 in
theorem cm_J7_copyOf {l : Launch} {X : fw_X} {M : fw_M} {b h0 : Nat} {a1 : Int32} (hg : gw_ok M a1) : Met l yJ7_copyOf_9075b (.code yJ7_copyOf_9075b cJ7_copyOf_9075b 3 (some (.array .byte)) :: fw_GW) ({ frames := 1, cells := 1, slots := 100, locals := 60 } : Room) (fun a U => fw_Pb X M b [.ref b, .int a1] a U ∧ h0 = U.heap.size) (cp_Q X a1.toNatClampNeg (va_cpy (M 377) (fun _ => 0) 0 0 (fw_cap M)) h0) 1 100 (fun q => h0 ≤ q ∨ q = b) := by
  refine fw_openb (fun z => h0 = z) rfl (Nat.le_of_ble_eq_true rfl) (fun p e s m below meth c ls h9 C hr hlk hl B => ?_)
  have C : fr_C X p c cJ7_copyOf_9075b 3 RJ7 s m ([.ref b, .int a1] : List Value).toArray := C
  have hx := C.1.1
  have hb := C.1.2.1
  have hl : lv_has ls 3 [(0, .ref b), (1, .int a1)] := hl
  obtain ⟨g1, g2, g3, g4⟩ := hg
  have hcl : fw_cap M < 2 ^ 31 := by omega
  have e1 : (nI (fw_cap M)).toNatClampNeg = fw_cap M := nI_clamp hcl
  have e0 : (0 : Int32).toNatClampNeg = 0 := rfl
  refine lv_iload_n hx hb dJ7_copyOf_9075b_0 rfl (lv_at hl 1 rfl) ?_
  refine lv_aload_n hx hb dJ7_copyOf_9075b_1 rfl (lv_at hl 0 rfl) ?_
  refine jb_al C B rfl dJ7_copyOf_9075b_2 ?_
  refine lv_icmp_ne (tgt := 14) hx hb dJ7_copyOf_9075b_3 (by decide) (fun c1 => ?_) (fun c1 => ?_)
  · refine lv_iload_n hx hb dJ7_copyOf_9075b_14 rfl (lv_at hl 1 rfl) ?_
    obtain ⟨hP, hD, hS⟩ := B
    obtain ⟨i7, hi7, hq7⟩ := fw_get (X := X) (b := b) (M := M) k_377
    rw [rho_7, e_377] at hq7
    have hb7 : s.heap[b]? = some (vp_cell (fw_kp X 4) (fw_cap M, .inl (M 377))) := hP i7 _ hq7
    have hblt : b < s.heap.size := va_at.lt (hP i7 _ hq7)
    refine va_newaK (atype := .byte) (h := s.heap.size) (N := a1.toNatClampNeg) hx hb (C.1.2.2.2.2 _ wa_b) rfl dJ7_copyOf_9075b_15 rfl g3 rfl (by show a1.toNatClampNeg * 1 ≤ _; omega) (Nat.le_of_ble_eq_true rfl) (by show 0 + _ ≤ 100; omega) rfl (fun H1 cA n1 n2 n3 n4 n5 => ?_)
    have hcA : cA = fw_kp X 4 := Option.some.inj (n5.symm.trans (C.2.1.1.2 4 _ rfl).2)
    subst hcA
    show W p l e _ s m _ below meth c H1 [] 1 (0 + a1.toNatClampNeg) _ (F0 m 17 ls [.ref s.heap.size])
    obtain ⟨ws2, hw2⟩ : ∃ ws2 : va_W, ws2 = [(b, .inl (fw_kp X 4, fw_cap M, .inl (M 377))), (s.heap.size, .inl (fw_kp X 4, a1.toNatClampNeg, .inl (fun _ => 0)))] := ⟨_, rfl⟩
    have w0 : ws2[0]? = some (b, .inl (fw_kp X 4, fw_cap M, .inl (M 377))) := by rw [hw2]; rfl
    have w1 : ws2[1]? = some (s.heap.size, .inl (fw_kp X 4, a1.toNatClampNeg, .inl (fun _ => 0))) := by rw [hw2]; rfl
    have hP2 : va_P (fw_D X) fw_cl ws2 H1 := by
      intro k q hk
      rw [hw2] at hk
      rcases k with _ | _ | k
      · cases Option.some.inj hk
        show H1[b]? = _
        rw [n3 b hblt]
        exact hb7
      · cases Option.some.inj hk
        exact n1
      · cases hk
    have hD2 : va_D (fun q => s.heap.size ≤ q ∨ q = b) ws2 := by
      refine ⟨fun i j q q' h1 h2 he => ?_, fun k q hk => ?_⟩
      · rw [hw2] at h1 h2
        rcases i with _ | _ | i <;> rcases j with _ | _ | j
        · rfl
        · cases Option.some.inj h1
          cases Option.some.inj h2
          have he : b = s.heap.size := he
          omega
        · cases h2
        · cases Option.some.inj h1
          cases Option.some.inj h2
          have he : s.heap.size = b := he
          omega
        · rfl
        · cases h2
        · cases h1
        · cases h1
        · cases h1
      · rw [hw2] at hk
        rcases k with _ | _ | k
        · cases Option.some.inj hk
          exact Or.inr rfl
        · cases Option.some.inj hk
          exact Or.inl (Nat.le_refl _)
        · cases hk
    have hS2 : va_S (fun q => s.heap.size ≤ q ∨ q = b) s.heap H1 [] := ⟨by omega, fun q h1 h2 => n3 q h1, fun z hz => nomatch hz⟩
    refine lv_astore_n (lv' := [(2, .ref s.heap.size), (0, .ref b), (1, .int a1)]) hx hb dJ7_copyOf_9075b_17 rfl hl (by decide) rfl (fun ls hl => ?_)
    refine lv_aload_n hx hb dJ7_copyOf_9075b_18 rfl (lv_at hl 1 rfl) ?_
    refine lv_iconst (v := 0) hx hb dJ7_copyOf_9075b_19 (by decide) ?_
    refine lv_aload_n hx hb dJ7_copyOf_9075b_20 rfl (lv_at hl 0 rfl) ?_
    refine lv_iconst (v := 0) hx hb dJ7_copyOf_9075b_21 (by decide) ?_
    refine lv_aload_n hx hb dJ7_copyOf_9075b_22 rfl (lv_at hl 1 rfl) ?_
    refine va_alen hx hb C.2.1.1 hP2 0 4 w0 rfl rfl dJ7_copyOf_9075b_23 ?_
    refine lv_iload_n hx hb dJ7_copyOf_9075b_24 rfl (lv_at hl 2 rfl) ?_
    refine va_mmin hx hb (C.1.2.2.1.trans hl.1.symm) C.1.2.2.2.1 (C.1.2.2.2.2 _ wm_J7_304) (C.1.2.2.2.2 _ wt_Mmin) (C.1.2.2.2.2 _ wi_Math) (C.1.2.2.2.2 _ wc_Mmin) (Nat.le_of_ble_eq_true rfl) (Nat.le_of_ble_eq_true rfl) (Nat.le_of_ble_eq_true rfl) (by show 0 + a1.toNatClampNeg ≤ 100; omega) dJ7_copyOf_9075b_25 ?_
    have e2 : (if a1 < Int32.ofNat (fw_cap M) then a1 else Int32.ofNat (fw_cap M)) = nI (fw_cap M) := by
      refine if_neg (fun h => ?_)
      rw [Int32.lt_iff_toInt_lt] at h
      have h2 : (Int32.ofNat (fw_cap M)).toInt = (fw_cap M : Int) := nI_toInt hcl
      rw [h2] at h
      have h3 : a1.toNatClampNeg = a1.toInt.toNat := rfl
      omega
    rw [e2]
    refine va_copyi (locs := []) hx hb (C.1.2.2.1.trans hl.1.symm) C.1.2.2.2.1 (C.1.2.2.2.2 _ wm_J7_150) (C.1.2.2.2.2 _ wn_cp) (C.1.2.2.2.2 _ wt_cp) (C.1.2.2.2.2 _ wi_sys) C.2.1.1 hP2 hD2 hS2 0 1 4 4 w0 w1 rfl rfl rfl (by decide) (by decide) (nI_pos hcl) (by rw [e0, e1]; omega) (by rw [e0, e1]; omega) (fun i hi => ?_) (Nat.le_of_ble_eq_true rfl) (Nat.le_of_ble_eq_true rfl) dJ7_copyOf_9075b_28 (fun H3 locs3 hP3 hD3 hS3 => ?_)
    · rw [e1] at hi
      have h7 := g4 i hi
      rw [e0, Nat.zero_add]
      exact h7
    · rw [e0, e1] at hP3
      have r0 : H3[b]? = s.heap[b]? := by
        have h8 : va_at (fw_D X) fw_cl (b, .inl (fw_kp X 4, fw_cap M, .inl (M 377))) H3 := hP3 0 _ (by rw [hw2]; rfl)
        exact h8.trans hb7.symm
      have r1 : H3[s.heap.size]? = some (vp_cell (fw_kp X 4) (a1.toNatClampNeg, .inl (va_cpy (M 377) (fun _ => 0) 0 0 (fw_cap M)))) := (show va_at (fw_D X) fw_cl (s.heap.size, .inl (fw_kp X 4, a1.toNatClampNeg, .inl (va_cpy (M 377) (fun _ => 0) 0 0 (fw_cap M)))) H3 from hP3 1 _ (by rw [hw2]; rfl))
      refine lv_aload_n hx hb dJ7_copyOf_9075b_31 rfl (lv_at hl 0 rfl) ?_
      refine W.widen (k := 1) (n := 100) (Nat.le_refl _) (by show 0 + a1.toNatClampNeg ≤ 100; omega) (W.aret hx hb hr (Or.inr ⟨_, rfl⟩) (Or.inr ⟨_, rfl⟩) (fun t ht hW => ?_) (fun q hq => ?_) dJ7_copyOf_9075b_32 hlk)
      · refine ⟨⟨(), s.heap.size, rfl, trivial, h9.symm, by rw [ht]; exact r1⟩, by rw [ht]; exact hS3.1, fun q h1 _ => ?_⟩
        rw [ht]
        by_cases hqb : q = b
        · rw [hqb]; exact r0
        · exact hS3.2.1 q h1 (fun h => by rcases h with h | h; omega; exact hqb h)
      · have h8 := hS3.2.2 q hq
        rw [h9]
        exact h8
  · have h2 : a1.toNatClampNeg = fw_cap M := by rw [c1]; exact e1
    omega
/-- AbstractStringBuilder.ensureCapacityInternal -/
def F_J5_ensureCapacityInternal_d00df (M : fw_M) (a1 : Int32) : Option fw_M :=
  if (a1 - (Int32.ofNat (fw_cap M) >>> ((M 376 1) &&& 31))) ≤ 0 then some M
  else
    bd_x (F_J5_newCapacity_0f7a4 M a1) fun r =>
    if gw_ok M (r <<< ((M 376 1) &&& 31)) then some (fw_gr M (r <<< ((M 376 1) &&& 31))) else none
set_option maxHeartbeats 4000000 in
set_option maxRecDepth 100000 in
theorem cm_J5_ensure {l : Launch} {X : fw_X} {M : fw_M} {a1 : Int32} {o : fw_M} (hF : F_J5_ensureCapacityInternal_d00df M a1 = some o) : ct_mv l X yJ5_ensureCapacityInternal_d00df cJ5_ensureCapacityInternal_d00df 3 ({ frames := 3, cells := 1, slots := 100, locals := 160 } : Room) M [.ref (fw_ad X 376), .int a1] o := by
  refine fw_openR rfl (Nat.le_of_ble_eq_true rfl) (fun p e s m below meth c ls b C hr hlk hl B => ?_)
  have C : fr_C X p c cJ5_ensureCapacityInternal_d00df 3 RJ5 s m ([.ref (fw_ad X 376), .int a1] : List Value).toArray := C
  have hx := C.1.1
  have hb := C.1.2.1
  have hl : lv_has ls 3 [(0, .ref (fw_ad X 376)), (1, .int a1)] := hl
  refine lv_aload_n hx hb dJ5_ensureCapacityInternal_d00df_0 rfl (lv_at hl 0 rfl) ?_
  refine jb_get (j := 0) C B (by decide) in_J4 wf_J5_15 (fun _ h => h) rfl dJ5_ensureCapacityInternal_d00df_1 ?_
  refine jb_al C B rfl dJ5_ensureCapacityInternal_d00df_4 ?_
  refine lv_aload_n hx hb dJ5_ensureCapacityInternal_d00df_5 rfl (lv_at hl 0 rfl) ?_
  refine jb_get (j := 1) C B (by decide) in_J4 wf_J5_22 (fun _ h => h) rfl dJ5_ensureCapacityInternal_d00df_6 ?_
  refine lv_ishr hx hb dJ5_ensureCapacityInternal_d00df_9 ?_
  refine lv_istore_n (lv' := [(2, .int (Int32.ofNat (fw_cap M) >>> ((M 376 1) &&& 31))), (0, .ref (fw_ad X 376)), (1, .int a1)]) hx hb dJ5_ensureCapacityInternal_d00df_10 rfl hl (by decide) rfl (fun ls hl => ?_)
  refine lv_iload_n hx hb dJ5_ensureCapacityInternal_d00df_11 rfl (lv_at hl 2 rfl) ?_
  refine lv_iload_n hx hb dJ5_ensureCapacityInternal_d00df_12 rfl (lv_at hl 0 rfl) ?_
  refine lv_isub hx hb dJ5_ensureCapacityInternal_d00df_13 ?_
  unfold F_J5_ensureCapacityInternal_d00df at hF
  refine lv_if_le (tgt := 38) hx hb dJ5_ensureCapacityInternal_d00df_14 (by decide) (fun c1 => ?_) (fun c1 => ?_)
  · have hF := it_t hF c1
    cases Option.some.inj hF
    obtain ⟨hP, hD, hS⟩ := B
    exact W.widen (k := 1) (n := 100) (Nat.zero_le _) (Nat.zero_le _) (W.vret hx hb hr (fun t ht hW => ⟨⟨M, rfl, rfl, b, by rw [ht]; exact hP, hD⟩, hS.F ht⟩) hS.2.2 dJ5_ensureCapacityInternal_d00df_38 hlk)
  · have hF := it_f hF c1
    obtain ⟨r, hn, hF⟩ := bx_e hF
    obtain ⟨hg, hF⟩ := of_g hF
    cases Option.some.inj hF
    refine lv_aload_n hx hb dJ5_ensureCapacityInternal_d00df_17 rfl (lv_at hl 1 rfl) ?_
    refine lv_aload_n hx hb dJ5_ensureCapacityInternal_d00df_18 rfl (lv_at hl 1 rfl) ?_
    refine jb_get (j := 0) C B (by decide) in_J4 wf_J5_15 (fun _ h => h) rfl dJ5_ensureCapacityInternal_d00df_19 ?_
    refine lv_aload_n hx hb dJ5_ensureCapacityInternal_d00df_22 rfl (lv_at hl 1 rfl) ?_
    refine lv_iload_n hx hb dJ5_ensureCapacityInternal_d00df_23 rfl (lv_at hl 2 rfl) ?_
    refine jr_U (As := [.int a1]) (rest := [.ref b, .ref (fw_ad X 376)]) C B (cr_J5_newCapacity_0f7a4 hn) yu_J5_newCapacity_0f7a4 wm_J5_104 rfl hl.1 rfl (Nat.le_of_ble_eq_true rfl) ⟨Nat.le_of_ble_eq_true rfl, Nat.le_of_ble_eq_true rfl⟩ ⟨rfl, rfl⟩ ⟨Nat.zero_le _, Nat.zero_le _⟩ dJ5_ensureCapacityInternal_d00df_24 ?_
    refine lv_aload_n hx hb dJ5_ensureCapacityInternal_d00df_27 rfl (lv_at hl 1 rfl) ?_
    refine jb_get (j := 1) C B (by decide) in_J4 wf_J5_22 (fun _ h => h) rfl dJ5_ensureCapacityInternal_d00df_28 ?_
    refine lv_ishl hx hb dJ5_ensureCapacityInternal_d00df_31 ?_
    obtain ⟨N, hN⟩ : ∃ N, N = r <<< ((M 376 1) &&& 31) := ⟨_, rfl⟩
    rw [← hN] at hg
    show W p l e _ s m _ below meth c s.heap [] 0 0 _ (F0 m 32 ls (.int (r <<< ((M 376 1) &&& 31)) :: .ref b :: [.ref (fw_ad X 376)]))
    rw [← hN]
    have B0 := B
    obtain ⟨hP, hD, hS⟩ := B0
    have hbA : fw_A X b := by
      obtain ⟨i7, hi7, hq7⟩ := fw_get (X := X) (b := b) (M := M) k_377
      have h3 := hD.2 i7 _ hq7
      rw [rho_7] at h3
      exact h3
    have cw := fr_cws (R := ({ frames := 3, cells := 1, slots := 100, locals := 160 } : Room)) (rm := ({ frames := 1, cells := 1, slots := 100, locals := 60 } : Room)) C yw_J7_copyOf_9075b wm_J5_108 ⟨Nat.le_of_ble_eq_true rfl, Nat.le_of_ble_eq_true rfl⟩
    refine va_callr (va_runS (As := [.ref b, .int N]) (rest := [.ref (fw_ad X 376)]) C.1 (cm_J7_copyOf (b := b) (h0 := s.heap.size) hg) cw ⟨fun a U g mk q => ⟨fw_blindb X M b _ a U g mk q.1, q.2⟩, fun U hU hW => ?_⟩ rfl rfl hl.1 rfl (lv_room (Nat.le_of_ble_eq_true rfl)) dJ5_ensureCapacityInternal_d00df_32 ⟨Nat.le_of_ble_eq_true rfl, Nat.le_of_ble_eq_true rfl⟩) hS (fun q _ h => h.elim) (fun q h => ?_) (fun u q t H1 locs1 ht hvm hpo hBu hz1 hk1 hS1 => ?_)
    · obtain ⟨-, ⟨b9, hP9, hD9⟩, hT9, hV9, hz9⟩ := fr_pre C B.h hU hW [.ref b, .int N]
      exact ⟨⟨rfl, ⟨by rw [hU]; exact hP, hD⟩, hT9, hV9, hz9⟩, by rw [hU]⟩
    · rcases h with h | h
      · exact Nat.le_trans C.2.2.2 h
      · rw [h]; exact hbA
    · obtain ⟨hqe, hqc⟩ := hBu
      rw [ht] at hqc
      have hqA : fw_A X q := by rw [hqe]; exact C.2.2.2
      have hP1 : va_P (fw_D X) fw_cl (fw_L X b M) H1 := hP.kept (fun k z hz => hk1 z.1 (va_at.lt (hP k z hz)) (fun h => h))
      obtain ⟨i6, hi6, hq6⟩ := fw_get (X := X) (b := b) (M := M) k_376
      rw [fw_rho_ne (by decide), e_376] at hq6
      have hil : i6 < (fw_L X b M).length := (List.getElem?_eq_some_iff.mp hq6).1
      have hPw : va_P (fw_D X) fw_cl (fw_L X b M ++ [(q, .inl (fw_kp X 4, N.toNatClampNeg, .inl (va_cpy (M 377) (fun _ => 0) 0 0 (fw_cap M))))]) H1 := hP1.app (fun k z hz => by
        rcases k with _ | k
        · cases Option.some.inj hz
          exact hqc
        · cases hz)
      have hDw : va_D (fw_A X) (fw_L X b M ++ [(q, .inl (fw_kp X 4, N.toNatClampNeg, .inl (va_cpy (M 377) (fun _ => 0) 0 0 (fw_cap M))))]) := hD.push hP hqe hqA
      refine va_put (ci := 10) hx hb C.1.2.2.2.2 in_J4 tyJ4 tyJ4_ok nmJ4 C.1.2.2.2.1 C.2.1.1 hPw hDw hS1 i6 (by rw [List.getElem?_append_left hil]; exact hq6) rfl 0 (by decide) (C.1.2.2.2.2 _ wf_J5_15) (fun _ h => h) rfl (tyJ4_ok 0 (by decide)) rfl rfl (by simp) dJ5_ensureCapacityInternal_d00df_35 (fun H2 locs2 hP2 hD2 hS2 => ?_)
      have hP2 : va_P (fw_D X) fw_cl ((fw_L X b M ++ ([(q, .inl (fw_kp X 4, N.toNatClampNeg, .inl (va_cpy (M 377) (fun _ => 0) 0 0 (fw_cap M))))] : va_W)).set i6 (fw_ad X 376, .inr (10, [.ref q, .int (M 376 1), .int (M 376 2), .int (M 376 3)]))) H2 := hP2
      have h1 : va_P (fw_D X) fw_cl ((fw_L X b M).set i6 (fw_ad X 376, .inr (10, [.ref q, .int (M 376 1), .int (M 376 2), .int (M 376 3)]))) H2 := fun k z hz => hP2 k z (by
        rw [List.set_append_left _ _ hil, List.getElem?_append_left (List.getElem?_eq_some_iff.mp hz).1]
        exact hz)
      have h2 : H2[q]? = some (vp_cell (fw_kp X 4) (N.toNatClampNeg, .inl (va_cpy (M 377) (fun _ => 0) 0 0 (fw_cap M)))) := by
        have h7 : va_at (fw_D X) fw_cl (q, .inl (fw_kp X 4, N.toNatClampNeg, .inl (va_cpy (M 377) (fun _ => 0) 0 0 (fw_cap M)))) H2 := hP2 (fw_L X b M).length _ (by
          rw [List.set_append_left _ _ hil, List.getElem?_append_right (by rw [List.length_set]; exact Nat.le_refl _), List.length_set, Nat.sub_self]
          rfl)
        exact h7
      have h3 : vp_cell (fw_kp X 4) (N.toNatClampNeg, .inl (va_cpy (M 377) (fun _ => 0) 0 0 (fw_cap M))) = vp_cell (fw_kp X 4) (N.toNatClampNeg, .inl (fw_gr M N 377)) := by
        have hn9 := hg.2.1
        show arrV (fw_kp X 4) N.toNatClampNeg (fun j => .int (va_cpy (M 377) (fun _ => 0) 0 0 (fw_cap M) j)) = arrV (fw_kp X 4) N.toNatClampNeg (fun j => .int (fw_gr M N 377 j))
        exact arr_cg (fun j hj => by
          unfold fw_gr
          rw [fw_w_s, if_neg (by omega)])
      have B3 : fr_Hb X s (fw_gr M N) q H2 locs2 := fr_grow B hi6 h1 hS2 (h2.trans (congrArg some h3)) (by omega) hqA
      obtain ⟨hP3, hD3, hS3⟩ := B3
      exact W.widen (k := 1) (n := 100) (Nat.le_refl _) (Nat.le_refl _) (W.vret hx hb hr (fun t ht hW => ⟨⟨fw_gr M N, rfl, rfl, q, by rw [ht]; exact hP3, hD3⟩, hS3.F ht⟩) hS3.2.2 dJ5_ensureCapacityInternal_d00df_38 hlk)
