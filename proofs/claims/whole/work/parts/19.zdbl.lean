/-! answers that are doubles and floats -/
abbrev fw_Od : Type := (UInt64 ⊕ Nat) × fw_M
abbrev fw_Of : Type := (UInt32 ⊕ Nat) × fw_M
def dO (o : fw_Od) : fw_O := match o with
  | (.inl _, M) => (.inl 0, M)
  | (.inr e, M) => (.inr e, M)
def fO (o : fw_Of) : fw_O := match o with
  | (.inl _, M) => (.inl 0, M)
  | (.inr e, M) => (.inr e, M)
abbrev fw_Qdd (X : fw_X) (o : fw_Od) : Array Value → State → Outcome → State → Prop := va_Qd (fun (r : UInt64) (u : fw_M) => o = (.inl r, u)) (fw_B X) (fw_A X)
abbrev fw_Qff (X : fw_X) (o : fw_Of) : Array Value → State → Outcome → State → Prop := va_Qf (fun (r : UInt32) (u : fw_M) => o = (.inl r, u)) (fw_B X) (fw_A X)
def ct_d (l : Launch) (X : fw_X) (y : MethodName) (cc : ByteArray) (maxL : Nat) (ret : Option FieldType) (rm : Room) (M : fw_M) (av : List Value) (o : fw_Od) : Prop := vx_Met l y (.code y cc maxL ret :: fw_GW) rm (fw_P X M av) (fw_Qdd X o) (fw_Qx X (dO o)) rm.cells rm.slots (fw_A X)
def ct_f (l : Launch) (X : fw_X) (y : MethodName) (cc : ByteArray) (maxL : Nat) (ret : Option FieldType) (rm : Room) (M : fw_M) (av : List Value) (o : fw_Of) : Prop := vx_Met l y (.code y cc maxL ret :: fw_GW) rm (fw_P X M av) (fw_Qff X o) (fw_Qx X (fO o)) rm.cells rm.slots (fw_A X)
abbrev vn_d (r : UInt64) : Prop := r &&& 0x7fffffffffffffff ≤ 0x7ff0000000000000
abbrev vn_f (r : UInt32) : Prop := r &&& 0x7fffffff ≤ 0x7f800000
section DB
variable {p : Program} {l : Launch} {e : Env} {R : Room} {s : State} {m : MethodId} {args : Array Value} {below : List Frame} {meth : Method} {c : Code} {H : Heap} {locs : List Loc} {cells slots : Nat} {Q : State → Prop}
variable {cc : ByteArray} {pc nL : Nat} {ls : Array Slot} {rest : List Value} {X : fw_X} {M : fw_M} {own : String} {k : Nat}
theorem fr_dret (C : fr_C X p c cc nL own s m args) (B : fr_H X s M H locs) {v : UInt64} {o : fw_Od} {XC : String → State → State → Prop} {mc ms : Nat} (hr : meth.sig.returnType = some .double) (hlk : meth.locks = false) (ho : o = (.inl v, M)) (hc : cells ≤ mc) (hs : slots ≤ ms) (hdg : decode cc pc = .ok (.dreturn, 1)) : W p l e R s m args below meth c H locs cells slots (vx_MQ below (fw_Qdd X o) XC args s mc ms (fw_A X)) (F0 m pc ls [.double v]) := by
  obtain ⟨b, hP, hD, hS⟩ := B
  exact vx_ret (W.widen hc hs (W.dret C.1.1 C.1.2.1 hr (fun t ht hW => ⟨⟨v, M, rfl, ho, b, by rw [ht]; exact hP, hD⟩, hS.F ht⟩) hS.2.2 hdg hlk))
theorem fr_fret (C : fr_C X p c cc nL own s m args) (B : fr_H X s M H locs) {v : UInt32} {o : fw_Of} {XC : String → State → State → Prop} {mc ms : Nat} (hr : meth.sig.returnType = some .float) (hlk : meth.locks = false) (ho : o = (.inl v, M)) (hc : cells ≤ mc) (hs : slots ≤ ms) (hdg : decode cc pc = .ok (.freturn, 1)) : W p l e R s m args below meth c H locs cells slots (vx_MQ below (fw_Qff X o) XC args s mc ms (fw_A X)) (F0 m pc ls [.float v]) := by
  obtain ⟨b, hP, hD, hS⟩ := B
  exact vx_ret (W.widen hc hs (W.fret C.1.1 C.1.2.1 hr (fun t ht hW => ⟨⟨v, M, rfl, ho, b, by rw [ht]; exact hP, hD⟩, hS.F ht⟩) hS.2.2 hdg hlk))
theorem fr_cVd (C : fr_C X p c cc nL own s m args) (B : fr_H X s M H locs) {y : MethodName} {bytes : ByteArray} {maxL n index : Nat} {ret : Option FieldType} {rm : Room} {o : fw_Od} {As st0 : List Value} {T9 : u_T} {N ci : Nat} {fs : (Nat → Int32) → List Value} (hM : ct_d l X y bytes maxL ret rm M (.ref (fw_ad X k) :: As) o) (ho : ob_j X k ci fs) (hc : fw_cl[ci]? = some (y.cls, T9, N)) (hw : yw_V y bytes maxL ret n) (hl : Cond.methodLink own index y ∈ fw_GW) (hn : As.length = n) (hls : ls.size = nL) (hst : st0 = As.reverse ++ .ref (fw_ad X k) :: rest) (hrs : (rest.map fun v => v.category).sum ≤ 8) (hR : rm.frames + 1 ≤ R.frames ∧ 8 + (maxL + 11) + rm.locals ≤ R.locals) (hf : cells + rm.cells ≤ R.cells ∧ slots + rm.slots ≤ R.slots) (hdg : decode cc pc = .ok (.invokevirtual index, 3))
    (kx : fr_X p l e R s m args below meth c (cells + rm.cells) (slots + rm.slots) Q X (dO o) pc ls rest)
    (kk : ∀ (r : UInt64) (M1 : fw_M) (H1 : Heap) (locs1 : List Loc), o = (.inl r, M1) → fr_H X s M1 H1 locs1 → W p l e R s m args below meth c H1 locs1 (cells + rm.cells) (slots + rm.slots) Q (F0 m (pc + 3) ls (.double r :: rest))) : W p l e R s m args below meth c H locs cells slots Q (F0 m pc ls st0) := by
  have B0 := B
  obtain ⟨b, hP, hD, hS⟩ := B0
  refine vx_calld (vx_runV (As := As) (rest := rest) C.1 hM (fr_cw C hw hl hR) ⟨fw_blind X M _, fr_recv C B ho hc, fun U hU hW => fr_pre C B hU hW _⟩ rfl hn hls hst (lv_room hrs) hdg hf) hS (fun _ _ h => h) (fun _ h => h) (fun _ _ h => h) ?_ ?_
  · intro E ce q9 u t H1 locs1 ht hvm hpx hB hz1 hk1 hS1 hce hcv hcl
    obtain ⟨rfl, b1, hP1, hD1⟩ := hB
    rw [ht] at hP1
    exact kx u.1 u.2 ce q9 H1 locs1 hpx ⟨b1, hP1, hD1, hS1⟩ hce hcv hcl
  · intro r u t H1 locs1 ht hvm hpx hB hz1 hk1 hS1
    obtain ⟨b1, hP1, hD1⟩ := hB
    rw [ht] at hP1
    exact kk r u H1 locs1 hpx ⟨b1, hP1, hD1, hS1⟩
theorem fr_cVf (C : fr_C X p c cc nL own s m args) (B : fr_H X s M H locs) {y : MethodName} {bytes : ByteArray} {maxL n index : Nat} {ret : Option FieldType} {rm : Room} {o : fw_Of} {As st0 : List Value} {T9 : u_T} {N ci : Nat} {fs : (Nat → Int32) → List Value} (hM : ct_f l X y bytes maxL ret rm M (.ref (fw_ad X k) :: As) o) (ho : ob_j X k ci fs) (hc : fw_cl[ci]? = some (y.cls, T9, N)) (hw : yw_V y bytes maxL ret n) (hl : Cond.methodLink own index y ∈ fw_GW) (hn : As.length = n) (hls : ls.size = nL) (hst : st0 = As.reverse ++ .ref (fw_ad X k) :: rest) (hrs : (rest.map fun v => v.category).sum ≤ 8) (hR : rm.frames + 1 ≤ R.frames ∧ 8 + (maxL + 11) + rm.locals ≤ R.locals) (hf : cells + rm.cells ≤ R.cells ∧ slots + rm.slots ≤ R.slots) (hdg : decode cc pc = .ok (.invokevirtual index, 3))
    (kx : fr_X p l e R s m args below meth c (cells + rm.cells) (slots + rm.slots) Q X (fO o) pc ls rest)
    (kk : ∀ (r : UInt32) (M1 : fw_M) (H1 : Heap) (locs1 : List Loc), o = (.inl r, M1) → fr_H X s M1 H1 locs1 → W p l e R s m args below meth c H1 locs1 (cells + rm.cells) (slots + rm.slots) Q (F0 m (pc + 3) ls (.float r :: rest))) : W p l e R s m args below meth c H locs cells slots Q (F0 m pc ls st0) := by
  have B0 := B
  obtain ⟨b, hP, hD, hS⟩ := B0
  refine vx_callf (vx_runV (As := As) (rest := rest) C.1 hM (fr_cw C hw hl hR) ⟨fw_blind X M _, fr_recv C B ho hc, fun U hU hW => fr_pre C B hU hW _⟩ rfl hn hls hst (lv_room hrs) hdg hf) hS (fun _ _ h => h) (fun _ h => h) (fun _ _ h => h) ?_ ?_
  · intro E ce q9 u t H1 locs1 ht hvm hpx hB hz1 hk1 hS1 hce hcv hcl
    obtain ⟨rfl, b1, hP1, hD1⟩ := hB
    rw [ht] at hP1
    exact kx u.1 u.2 ce q9 H1 locs1 hpx ⟨b1, hP1, hD1, hS1⟩ hce hcv hcl
  · intro r u t H1 locs1 ht hvm hpx hB hz1 hk1 hS1
    obtain ⟨b1, hP1, hD1⟩ := hB
    rw [ht] at hP1
    exact kk r u H1 locs1 hpx ⟨b1, hP1, hD1, hS1⟩
end DB
def wr_d (x : Option fw_Od) : Option (Int32 × fw_M) := match x with
  | none => none
  | some (.inl r, M) => some (0, fw_dw M r)
  | some (.inr e, M) => if e = 5 then some (1, M) else none
def wr_f (x : Option fw_Of) : Option (Int32 × fw_M) := match x with
  | none => none
  | some (.inl r, M) => if vn_d (FP.f2d r) then some (0, fw_dw M (FP.f2d r)) else none
  | some (.inr e, M) => if e = 5 then some (1, M) else none
theorem wd_e {x : Option fw_Od} {o : Int32 × fw_M} (h : wr_d x = some o) : ∃ oc, x = some oc ∧ wr_d (some oc) = some o := by
  cases x with
  | none => cases h
  | some a => exact ⟨a, rfl, h⟩
theorem wf_e {x : Option fw_Of} {o : Int32 × fw_M} (h : wr_f x = some o) : ∃ oc, x = some oc ∧ wr_f (some oc) = some o := by
  cases x with
  | none => cases h
  | some a => exact ⟨a, rfl, h⟩
theorem wd_r {oc : fw_Od} {e9 : Nat} {M1 : fw_M} {o : Int32 × fw_M} (h : wr_d (some oc) = some o) (ho : dO oc = (.inr e9, M1)) : e9 = 5 ∧ ((1 : Int32), M1) = o := by
  obtain ⟨r | e, M⟩ := oc
  · cases ho
  · cases ho
    change (if e9 = 5 then some ((1 : Int32), M1) else none) = some o at h
    by_cases hc : e9 = 5
    · rw [if_pos hc] at h
      exact ⟨hc, Option.some.inj h⟩
    · rw [if_neg hc] at h
      cases h
theorem wf_r {oc : fw_Of} {e9 : Nat} {M1 : fw_M} {o : Int32 × fw_M} (h : wr_f (some oc) = some o) (ho : fO oc = (.inr e9, M1)) : e9 = 5 ∧ ((1 : Int32), M1) = o := by
  obtain ⟨r | e, M⟩ := oc
  · cases ho
  · cases ho
    change (if e9 = 5 then some ((1 : Int32), M1) else none) = some o at h
    by_cases hc : e9 = 5
    · rw [if_pos hc] at h
      exact ⟨hc, Option.some.inj h⟩
    · rw [if_neg hc] at h
      cases h
