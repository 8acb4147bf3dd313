/-! methods with handlers (the law's wrappers), the law's long and double cells -/
def ct_h (l : Launch) (X : fw_X) (y : MethodName) (cc : ByteArray) (maxL : Nat) (hh : List (Nat × Nat × Nat × Nat)) (rm : Room) (M : fw_M) (av : List Value) (o : fw_O) : Prop := vx_Met l y (.codeWith y cc maxL (some .int) hh :: fw_GW) rm (fw_P X M av) (fw_Qi X o) (fw_Qx X o) rm.cells rm.slots (fw_A X)
theorem fw_openH {l : Launch} {X : fw_X} {y : MethodName} {cc : ByteArray} {maxL : Nat} {hh : List (Nat × Nat × Nat × Nat)} {rm : Room} {M : fw_M} {av : List Value} {Qc : Array Value → State → Outcome → State → Prop} {XC : String → State → State → Prop} {mc ms : Nat} (hy : plainName y.cls = true) (hml : (lg_sl av).length ≤ maxL)
    (body : ∀ (p : Program) (e : Env) (s : State) (m : MethodId) (below : List Frame) (meth : Method) (c : Code) (ls : Array Slot), fr_C X p c cc maxL y.cls s m av.toArray → meth.sig.returnType = some .int → meth.locks = false → c.exceptionTable.toList = tableOf hh → lv_has ls maxL (lv_args 0 av) → fr_H X s M s.heap [] →
      W p l e rm s m av.toArray below meth c s.heap [] 0 0 (vx_MQ below Qc XC av.toArray s mc ms (fw_A X)) (F0 m 0 ls [])) : vx_Met l y (.codeWith y cc maxL (some .int) hh :: fw_GW) rm (fw_P X M av) Qc XC mc ms (fw_A X) := by
  refine vx_ofWH (cc := cc) (maxL := maxL) (ret := some .int) (hh := hh) hy rfl ?_
  intro p e s m args below meth c s₁ B hml2 hv
  obtain ⟨rfl, hB, hT, hV, hz⟩ := hv
  have hts := atoms_spec (ws := .codeWith y cc maxL (some .int) hh :: fw_GW) B.pre
  have htab := vx_table (x := y) B (hts _ List.mem_cons_self)
  have hl := lv_entry av (n := maxL) hml
  rw [lg_entry_eq]
  obtain ⟨b, hP, hD⟩ := hB
  exact body p e s m below meth c _ ⟨⟨B.exec, B.bytes, hml2, findClass_of_methodNamed B.named, fun w hw => hts w (List.mem_cons_of_mem _ hw)⟩, hT, hV, hz⟩ B.returns B.notSynchronized htab hl ⟨b, hP, hD, va_S.rf⟩
theorem k_386 : 386 ∈ fw_dom := fw_dT (j := 34) (by decide)
theorem k_387 : 387 ∈ fw_dom := fw_dT (j := 35) (by decide)
theorem e_386 {X : fw_X} {b : Nat} {f : Nat → Int32} : fw_E X b 386 f = .inl (fw_kp X 5, 1, .inr (.inl (fun j => (f j).toInt64))) := by rw [show 386 = 352 + 34 from rfl, fw_ET]; rfl
theorem e_387 {X : fw_X} {b : Nat} {f : Nat → Int32} : fw_E X b 387 f = .inl (fw_kp X 6, 1, .inr (.inr (.inr (.inl (fun j => if j = 0 then fw_dbl (f 0) (f 1) else 0))))) := by rw [show 387 = 352 + 35 from rfl, fw_ET]; rfl
def fw_dw (M : fw_M) (v : UInt64) : fw_M := fw_w M 387 (fun j => if j = 0 then (v >>> 32).toUInt32.toInt32 else v.toUInt32.toInt32)
theorem dbl_rt (v : UInt64) : fw_dbl (v >>> 32).toUInt32.toInt32 v.toUInt32.toInt32 = v := by
  unfold fw_dbl
  rw [UInt32.toUInt32_toInt32, UInt32.toUInt32_toInt32]
  apply UInt64.toBitVec_inj.mp
  simp only [UInt64.toBitVec_or, UInt64.toBitVec_shiftLeft, UInt32.toBitVec_toUInt64, UInt64.toBitVec_toUInt32, UInt64.toBitVec_shiftRight]
  apply BitVec.eq_of_getLsbD_eq
  intro i hi
  simp
  by_cases h : i < 32
  · simp [h]
    exact fun _ => hi
  · have a1 : i - 32 < 64 := by omega
    have a2 : i - 32 < 32 := by omega
    have a3 : 32 + (i - 32) = i := by omega
    simp [h, hi, a1, a2, a3]
theorem in_01 : ix_i 0 1 := by decide
section HD
variable {p : Program} {l : Launch} {e : Env} {R : Room} {s : State} {m : MethodId} {args : Array Value} {below : List Frame} {meth : Method} {c : Code} {H : Heap} {locs : List Loc} {cells slots : Nat} {Q : State → Prop}
variable {cc : ByteArray} {pc nL : Nat} {ls : Array Slot} {rest : List Value} {X : fw_X} {M : fw_M} {own : String} {k : Nat}
theorem fr_ll (C : fr_C X p c cc nL own s m args) (B : fr_H X s M H locs) (hdg : decode cc pc = .ok (.laload, 1))
    (kk : W p l e R s m args below meth c H locs cells slots Q (F0 m (pc + 1) ls (.long (M 386 0).toInt64 :: rest))) : W p l e R s m args below meth c H locs cells slots Q (F0 m pc ls (.int 0 :: .ref (fw_ad X 386) :: rest)) := by
  obtain ⟨b, hP, hD, hS⟩ := B
  obtain ⟨q, -, hq⟩ := fw_get (X := X) (b := b) (M := M) k_386
  rw [fw_rho_ne (by decide), e_386] at hq
  exact va_lald C.1.1 C.1.2.1 C.2.1.1 hP q 5 hq rfl in_01 hdg kk
theorem fr_dl (C : fr_C X p c cc nL own s m args) (B : fr_H X s M H locs) (hdg : decode cc pc = .ok (.daload, 1))
    (kk : W p l e R s m args below meth c H locs cells slots Q (F0 m (pc + 1) ls (.double (fw_dbl (M 387 0) (M 387 1)) :: rest))) : W p l e R s m args below meth c H locs cells slots Q (F0 m pc ls (.int 0 :: .ref (fw_ad X 387) :: rest)) := by
  obtain ⟨b, hP, hD, hS⟩ := B
  obtain ⟨q, -, hq⟩ := fw_get (X := X) (b := b) (M := M) k_387
  rw [fw_rho_ne (by decide), e_387] at hq
  exact va_dald C.1.1 C.1.2.1 C.2.1.1 hP q 6 hq rfl in_01 hdg kk
theorem fr_ls (C : fr_C X p c cc nL own s m args) (B : fr_H X s M H locs) {x : Int32} (hdg : decode cc pc = .ok (.lastore, 1))
    (kk : ∀ (H1 : Heap) (locs1 : List Loc), fr_H X s (fw_up M 386 0 x) H1 locs1 → W p l e R s m args below meth c H1 locs1 cells slots Q (F0 m (pc + 1) ls rest)) : W p l e R s m args below meth c H locs cells slots Q (F0 m pc ls (.long x.toInt64 :: .int 0 :: .ref (fw_ad X 386) :: rest)) := by
  obtain ⟨b, hP, hD, hS⟩ := B
  obtain ⟨q, hq0, hq⟩ := fw_get (X := X) (b := b) (M := M) k_386
  rw [fw_rho_ne (by decide), e_386] at hq
  have he : vp_updL (fun j => (M 386 j).toInt64) (0 : Int32).toNatClampNeg x.toInt64 = fun j => ((upd (M 386) 0 x) j).toInt64 := by
    funext j
    show (if j = 0 then x.toInt64 else (M 386 j).toInt64) = ((if j = 0 then x else M 386 j) : Int32).toInt64
    by_cases h : j = 0
    · rw [if_pos h, if_pos h]
    · rw [if_neg h, if_neg h]
  refine va_last C.1.1 C.1.2.1 C.2.1.1 hP hD hS q 5 hq rfl in_01 hdg (fun H1 locs1 hP1 hD1 hS1 => kk H1 locs1 ⟨b, ?_, ?_, hS1⟩)
  · rw [he, ← e_386 (X := X) (b := b), ← fw_rho_ne (X := X) (b := b) (k := 386) (by decide), fw_set hq0] at hP1
    exact hP1
  · rw [he, ← e_386 (X := X) (b := b), ← fw_rho_ne (X := X) (b := b) (k := 386) (by decide), fw_set hq0] at hD1
    exact hD1
theorem fr_ds (C : fr_C X p c cc nL own s m args) (B : fr_H X s M H locs) {x : UInt64} (hdg : decode cc pc = .ok (.dastore, 1))
    (kk : ∀ (H1 : Heap) (locs1 : List Loc), fr_H X s (fw_dw M x) H1 locs1 → W p l e R s m args below meth c H1 locs1 cells slots Q (F0 m (pc + 1) ls rest)) : W p l e R s m args below meth c H locs cells slots Q (F0 m pc ls (.double x :: .int 0 :: .ref (fw_ad X 387) :: rest)) := by
  obtain ⟨b, hP, hD, hS⟩ := B
  obtain ⟨q, hq0, hq⟩ := fw_get (X := X) (b := b) (M := M) k_387
  rw [fw_rho_ne (by decide), e_387] at hq
  have he : vf_upd (fun j => if j = 0 then fw_dbl (M 387 0) (M 387 1) else 0) (0 : Int32).toNatClampNeg x = fun j => if j = 0 then fw_dbl ((fun j : Nat => if j = 0 then (x >>> 32).toUInt32.toInt32 else x.toUInt32.toInt32) 0) ((fun j : Nat => if j = 0 then (x >>> 32).toUInt32.toInt32 else x.toUInt32.toInt32) 1) else 0 := by
    funext j
    show (if j = 0 then x else if j = 0 then _ else 0) = _
    by_cases h : j = 0
    · rw [if_pos h, if_pos h]
      exact (dbl_rt x).symm
    · rw [if_neg h, if_neg h, if_neg h]
  refine va_dast C.1.1 C.1.2.1 C.2.1.1 hP hD hS q 6 hq rfl in_01 hdg (fun H1 locs1 hP1 hD1 hS1 => kk H1 locs1 ⟨b, ?_, ?_, hS1⟩)
  · rw [he, ← e_387 (X := X) (b := b) (f := (fun j : Nat => if j = 0 then (x >>> 32).toUInt32.toInt32 else x.toUInt32.toInt32)), ← fw_rho_ne (X := X) (b := b) (k := 387) (by decide), fw_set hq0] at hP1
    exact hP1
  · rw [he, ← e_387 (X := X) (b := b) (f := (fun j : Nat => if j = 0 then (x >>> 32).toUInt32.toInt32 else x.toUInt32.toInt32)), ← fw_rho_ne (X := X) (b := b) (k := 387) (by decide), fw_set hq0] at hD1
    exact hD1
/-- behind a call that threw, at a handler of its own class -/
theorem fr_catch (C : fr_C X p c cc nL own s m args) {q9 : Nat} {ce : Cell} {e9 : Nat} (ps : List (ExceptionTableEntry × Nat)) (x : ExceptionTableEntry) (suf : List ExceptionTableEntry) (hT : c.exceptionTable.toList = ps.map Prod.fst ++ x :: suf) (hps : ∀ q ∈ ps, q.1.catchType ≠ 0 ∧ q.2 < 6 ∧ e9 ≠ q.2 ∧ Cond.classLink own q.1.catchType (fw_xn q.2) ∈ fw_GW) (he : e9 < 6) (hx : covers x pc = true) (h0 : x.catchType ≠ 0) (hl : Cond.classLink own x.catchType (fw_xn e9) ∈ fw_GW) (hce : H[q9]? = some ce) (hcv : ce.vm = .none) (hcl : s.vm.findClass (fw_xn e9) = some ce.cls)
    (kk : W p l e R s m args below meth c H locs cells slots Q (F0 m x.handlerPc ls [.ref q9])) : vx_W p l e R s m args below meth c H locs cells slots Q (F0 m pc ls rest) q9 := by
  refine vx_catch C.1.2.2.2.1 (ps.map Prod.fst) x suf hT (fun z hz => ?_) hx h0 (C.1.2.2.2.2 _ hl) (va_Nw.use rfl (C.2.1.2.2.2.2.2.1 e9 he)) hce hcv hcl kk
  obtain ⟨q, hq, rfl⟩ := List.mem_map.mp hz
  obtain ⟨h1, h2, h3, h4⟩ := hps q hq
  exact Or.inr ⟨h1, fw_xn q.2, C.1.2.2.2.2 _ h4, C.2.1.2.2.2.2.1 e9 q.2 he h2 h3⟩
theorem fr_cHi (C : fr_C X p c cc nL own s m args) (B : fr_H X s M H locs) {y : MethodName} {bytes : ByteArray} {maxL n index : Nat} {hh : List (Nat × Nat × Nat × Nat)} {rm : Room} {o : Int32 × fw_M} {As st0 : List Value} (hM : ct_h l X y bytes maxL hh rm M As (.inl o.1, o.2)) (hw : Cond.static y ∈ fw_GW ∧ Cond.initialized y.cls ∈ fw_GW ∧ Cond.codeWith y bytes maxL (some .int) hh ∈ fw_GW ∧ y.cls ≠ "java/lang/invoke/MethodHandle" ∧ y.cls ≠ "java/lang/invoke/VarHandle" ∧ (parseMethodDescriptor y.desc).map (fun d => d.parameters.length) = some n) (hl : Cond.methodLink own index y ∈ fw_GW) (hn : As.length = n) (hls : ls.size = nL) (hst : st0 = As.reverse ++ rest) (hrs : (rest.map fun v => v.category).sum ≤ 8) (hR : rm.frames + 1 ≤ R.frames ∧ 8 + (maxL + 11) + rm.locals ≤ R.locals) (hf : cells + rm.cells ≤ R.cells ∧ slots + rm.slots ≤ R.slots) (hdg : decode cc pc = .ok (.invokestatic index, 3))
    (kk : ∀ (H1 : Heap) (locs1 : List Loc), fr_H X s o.2 H1 locs1 → W p l e R s m args below meth c H1 locs1 (cells + rm.cells) (slots + rm.slots) Q (F0 m (pc + 3) ls (.int o.1 :: rest))) : W p l e R s m args below meth c H locs cells slots Q (F0 m pc ls st0) := by
  obtain ⟨h1, h3, h4, h5, h6, h7⟩ := hw
  have B0 := B
  obtain ⟨b, hP, hD, hS⟩ := B0
  have hcw : vx_CSW R s args own index y bytes maxL (some .int) hh (.codeWith y bytes maxL (some .int) hh :: fw_GW) rm rm.cells rm.slots n := by
    refine vx_cwSW n C.1.2.2.2.2 ?_ rfl rfl rfl ⟨h5, h6, h7⟩ hR
    intro w hw
    have hm : w ∈ fw_GW := by
      unfold va_wsS at hw
      simp only [List.cons_append, List.nil_append, List.mem_cons] at hw
      rcases hw with rfl | rfl | rfl | rfl | h
      · exact hl
      · exact h1
      · exact h3
      · exact h4
      · exact h
    exact ⟨hm, fw_good w hm⟩
  refine vx_calli (vx_runSX (As := As) (rest := rest) C.1 hM hcw ⟨fw_blind X M _, fun U hU hW => fr_pre C B hU hW _⟩ rfl hn hls hst (lv_room hrs) hdg hf) hS (fun _ _ h => h) (fun _ h => h) (fun _ _ h => h) ?_ ?_
  · intro E ce q9 u t H1 locs1 ht hvm hpx hB hz1 hk1 hS1 hce hcv hcl
    cases hpx
  · intro r u t H1 locs1 ht hvm hpx hB hz1 hk1 hS1
    obtain ⟨b1, hP1, hD1⟩ := hB
    rw [ht] at hP1
    obtain ⟨h8, h9⟩ := oi_e hpx
    subst h8
    subst h9
    exact kk H1 locs1 ⟨b1, hP1, hD1, hS1⟩
end HD
/-- the wrapper's own picture -/
def wr_l (x : Option fw_O) (es : List Nat) : Option (Int32 × fw_M) := match x with
  | none => none
  | some (.inl r, M) => some (0, fw_up M 386 0 r)
  | some (.inr e, M) => if e ∈ es then some (nI (es.idxOf e + 1), M) else none
def wr_b (x : Option fw_O) (es : List Nat) : Option (Int32 × fw_M) := match x with
  | none => none
  | some (.inl r, M) => some (0, fw_up M 386 0 (if r = 0 then 0 else 1))
  | some (.inr e, M) => if e ∈ es then some (nI (es.idxOf e + 1), M) else none
theorem wl_e {x : Option fw_O} {es : List Nat} {o : Int32 × fw_M} (h : wr_l x es = some o) : ∃ oc, x = some oc ∧ wr_l (some oc) es = some o := by
  cases x with
  | none => cases h
  | some a => exact ⟨a, rfl, h⟩
theorem wb_e {x : Option fw_O} {es : List Nat} {o : Int32 × fw_M} (h : wr_b x es = some o) : ∃ oc, x = some oc ∧ wr_b (some oc) es = some o := by
  cases x with
  | none => cases h
  | some a => exact ⟨a, rfl, h⟩
theorem wl_r {e9 : Nat} {M1 : fw_M} {es : List Nat} {o : Int32 × fw_M} (h : wr_l (some (.inr e9, M1)) es = some o) : e9 ∈ es ∧ (nI (es.idxOf e9 + 1), M1) = o := by
  change (if e9 ∈ es then some (nI (es.idxOf e9 + 1), M1) else none) = some o at h
  by_cases hc : e9 ∈ es
  · rw [if_pos hc] at h
    exact ⟨hc, Option.some.inj h⟩
  · rw [if_neg hc] at h
    cases h
theorem wb_r {e9 : Nat} {M1 : fw_M} {es : List Nat} {o : Int32 × fw_M} (h : wr_b (some (.inr e9, M1)) es = some o) : e9 ∈ es ∧ (nI (es.idxOf e9 + 1), M1) = o := by
  change (if e9 ∈ es then some (nI (es.idxOf e9 + 1), M1) else none) = some o at h
  by_cases hc : e9 ∈ es
  · rw [if_pos hc] at h
    exact ⟨hc, Option.some.inj h⟩
  · rw [if_neg hc] at h
    cases h
