/-! the JDK's own methods: texts, the StringBuilder. What leaves the heap as it is answers by fw_QR. -/
def fw_QR (v : Option Value) : Array Value → State → Outcome → State → Prop := fun _ st o t => o = .returned v ∧ t.heap = st.heap
def ct_r (l : Launch) (X : fw_X) (y : MethodName) (cc : ByteArray) (maxL : Nat) (ret : Option FieldType) (rm : Room) (M : fw_M) (av : List Value) (v : Option Value) : Prop := Met l y (.code y cc maxL ret :: fw_GW) rm (fw_P X M av) (fw_QR v) 0 0 (fun _ => False)
def fr_Hb (X : fw_X) (s : State) (M : fw_M) (b : Nat) (H : Heap) (locs : List Loc) : Prop := va_P (fw_D X) fw_cl (fw_L X b M) H ∧ va_D (fw_A X) (fw_L X b M) ∧ va_S (fw_A X) s.heap H locs
theorem k_376 : 376 ∈ fw_dom := fw_dT (j := 24) (by decide)
theorem k_377 : 377 ∈ fw_dom := fw_dT (j := 25) (by decide)
def fw_cap (M : fw_M) : Nat := (M 377 1000).toNatClampNeg
theorem rho_7 {X : fw_X} {b : Nat} : fw_rho X b 377 = b := if_pos rfl
theorem e_376 {X : fw_X} {b : Nat} {f : Nat → Int32} : fw_E X b 376 f = .inr (10, [.ref b, .int (f 1), .int (f 2), .int (f 3)]) := by
  rw [show 376 = 352 + 24 from rfl, fw_ET]
  rfl
theorem e_377 {X : fw_X} {b : Nat} {f : Nat → Int32} : fw_E X b 377 f = .inl (fw_kp X 4, (f 1000).toNatClampNeg, .inl f) := by rw [show 377 = 352 + 25 from rfl, fw_ET]; rfl
def fw_nb (x : Int32) : Int32 := vp_nar .byte x
theorem fw_openR {l : Launch} {X : fw_X} {y : MethodName} {cc : ByteArray} {maxL : Nat} {ret : Option FieldType} {rm : Room} {M : fw_M} {av : List Value} {Qc : Array Value → State → Outcome → State → Prop} {mc ms : Nat} {free : Addr → Prop} (hy : plainName y.cls = true) (hml : (lg_sl av).length ≤ maxL)
    (body : ∀ (p : Program) (e : Env) (s : State) (m : MethodId) (below : List Frame) (meth : Method) (c : Code) (ls : Array Slot) (b : Nat), fr_C X p c cc maxL y.cls s m av.toArray → meth.sig.returnType = ret → meth.locks = false → lv_has ls maxL (lv_args 0 av) → fr_Hb X s M b s.heap [] →
      W p l e rm s m av.toArray below meth c s.heap [] 0 0 (MQ below Qc av.toArray s mc ms free) (F0 m 0 ls [])) : Met l y (.code y cc maxL ret :: fw_GW) rm (fw_P X M av) Qc mc ms free := by
  refine Met.ofW (cc := cc) (maxL := maxL) (ret := ret) hy rfl ?_
  intro p e s m args below meth c s₁ B hml2 hv
  obtain ⟨rfl, hB, hT, hV, hz⟩ := hv
  have hts := atoms_spec (ws := .code y cc maxL ret :: fw_GW) B.pre
  have hl := lv_entry av (n := maxL) hml
  rw [lg_entry_eq]
  obtain ⟨b, hP, hD⟩ := hB
  exact body p e s m below meth c _ b ⟨⟨B.exec, B.bytes, hml2, findClass_of_methodNamed B.named, fun w hw => hts w (List.mem_cons_of_mem _ hw)⟩, hT, hV, hz⟩ B.returns B.notSynchronized hl ⟨hP, hD, va_S.rf⟩
section JR
variable {p : Program} {l : Launch} {e : Env} {R : Room} {s : State} {m : MethodId} {args : Array Value} {below : List Frame} {meth : Method} {c : Code} {H : Heap} {locs : List Loc} {cells slots : Nat} {Q : State → Prop}
variable {cc : ByteArray} {pc nL : Nat} {ls : Array Slot} {rest : List Value} {X : fw_X} {M : fw_M} {own : String} {b : Nat}
theorem fr_Hb.h (B : fr_Hb X s M b H locs) : fr_H X s M H locs := ⟨b, B⟩
/-- fields of the StringBuilder -/
theorem jb_get (C : fr_C X p c cc nL own s m args) (B : fr_Hb X s M b H locs) {j index : Nat} (hj : j < 4) (hin : ∀ w ∈ u_ws RJ4 TJ4 4, w ∈ fw_GW) (hl : Cond.fieldLink own index "java/lang/AbstractStringBuilder" (TJ4 j).2.1 (TJ4 j).2.2.1 ∈ fw_GW) (hsame : ∀ x, s.fieldFound? (TJ4 j).1 (TJ4 j).2.1 (TJ4 j).2.2.1 = some x → s.fieldFound? "java/lang/AbstractStringBuilder" (TJ4 j).2.1 (TJ4 j).2.2.1 = some x) {v : Value} (hv : ([.ref b, .int (M 376 1), .int (M 376 2), .int (M 376 3)] : List Value)[j]? = some v) (hdg : decode cc pc = .ok (.getfield index, 3))
    (kk : W p l e R s m args below meth c H locs cells slots Q (F0 m (pc + 3) ls (v :: rest))) : W p l e R s m args below meth c H locs cells slots Q (F0 m pc ls (.ref (fw_ad X 376) :: rest)) := by
  obtain ⟨hP, hD, hS⟩ := B
  obtain ⟨q, -, hq⟩ := fw_get (X := X) (b := b) (M := M) k_376
  rw [fw_rho_ne (by decide), e_376] at hq
  exact va_get C.1.1 C.1.2.1 C.1.2.2.2.2 hin C.1.2.2.2.1 C.2.1.1 hP q hq (ci := 10) rfl j hj (C.1.2.2.2.2 _ hl) hsame hv hdg kk
theorem jb_put (C : fr_C X p c cc nL own s m args) (B : fr_Hb X s M b H locs) {j index : Nat} (hj : j < 4) (hin : ∀ w ∈ u_ws RJ4 TJ4 4, w ∈ fw_GW) (hl : Cond.fieldLink own index "java/lang/AbstractStringBuilder" (TJ4 j).2.1 (TJ4 j).2.2.1 ∈ fw_GW) (hsame : ∀ x, s.fieldFound? (TJ4 j).1 (TJ4 j).2.1 (TJ4 j).2.2.1 = some x → s.fieldFound? "java/lang/AbstractStringBuilder" (TJ4 j).2.1 (TJ4 j).2.2.1 = some x) (hfin : (TJ4 j).2.2.2 = false) {x : Int32} (hn : narrow (tyJ4 j) (.int x) = .int x) (hfit : fits (tyJ4 j) (.int x) = true)
    (hv : ([.ref b, .int (M 376 1), .int (M 376 2), .int (M 376 3)] : List Value).set j (.int x) = [.ref b, .int ((upd (M 376) j x) 1), .int ((upd (M 376) j x) 2), .int ((upd (M 376) j x) 3)]) (hdg : decode cc pc = .ok (.putfield index, 3))
    (kk : ∀ (H1 : Heap) (locs1 : List Loc), fr_Hb X s (fw_up M 376 j x) b H1 locs1 → W p l e R s m args below meth c H1 locs1 cells slots Q (F0 m (pc + 3) ls rest)) : W p l e R s m args below meth c H locs cells slots Q (F0 m pc ls (.int x :: .ref (fw_ad X 376) :: rest)) := by
  obtain ⟨hP, hD, hS⟩ := B
  obtain ⟨q, hq0, hq⟩ := fw_get (X := X) (b := b) (M := M) k_376
  rw [fw_rho_ne (by decide), e_376] at hq
  refine va_put C.1.1 C.1.2.1 C.1.2.2.2.2 hin tyJ4 tyJ4_ok nmJ4 C.1.2.2.2.1 C.2.1.1 hP hD hS q hq (ci := 10) rfl j hj (C.1.2.2.2.2 _ hl) hsame hfin (tyJ4_ok j hj) hn hfit (by simpa using hj) hdg (fun H1 locs1 hP1 hD1 hS1 => kk H1 locs1 ⟨?_, ?_, hS1⟩)
  · rw [hv, ← e_376 (X := X) (b := b) (f := upd (M 376) j x), ← fw_rho_ne (X := X) (b := b) (k := 376) (by decide), fw_set hq0] at hP1
    exact hP1
  · rw [hv, ← e_376 (X := X) (b := b) (f := upd (M 376) j x), ← fw_rho_ne (X := X) (b := b) (k := 376) (by decide), fw_set hq0] at hD1
    exact hD1
theorem jb_al (C : fr_C X p c cc nL own s m args) (B : fr_Hb X s M b H locs) {v : Int32} (hv : Int32.ofNat (fw_cap M) = v) (hdg : decode cc pc = .ok (.arraylength, 1))
    (kk : W p l e R s m args below meth c H locs cells slots Q (F0 m (pc + 1) ls (.int v :: rest))) : W p l e R s m args below meth c H locs cells slots Q (F0 m pc ls (.ref b :: rest)) := by
  obtain ⟨hP, hD, hS⟩ := B
  obtain ⟨q, -, hq⟩ := fw_get (X := X) (b := b) (M := M) k_377
  rw [rho_7, e_377] at hq
  exact va_alen C.1.1 C.1.2.1 C.2.1.1 hP q 4 hq rfl hv hdg kk
theorem jb_ba (C : fr_C X p c cc nL own s m args) (B : fr_Hb X s M b H locs) {i : Int32} (hin : ix_i i (fw_cap M)) (hdg : decode cc pc = .ok (.baload, 1))
    (kk : W p l e R s m args below meth c H locs cells slots Q (F0 m (pc + 1) ls (.int (fw_ri M 377 i) :: rest))) : W p l e R s m args below meth c H locs cells slots Q (F0 m pc ls (.int i :: .ref b :: rest)) := by
  obtain ⟨hP, hD, hS⟩ := B
  obtain ⟨q, -, hq⟩ := fw_get (X := X) (b := b) (M := M) k_377
  rw [rho_7, e_377] at hq
  exact va_bald C.1.1 C.1.2.1 C.2.1.1 hP q 4 hq rfl hin hdg kk
theorem jb_bs (C : fr_C X p c cc nL own s m args) (B : fr_Hb X s M b H locs) (hm : fw_cap M ≤ 1000) {i x : Int32} (hin : ix_i i (fw_cap M)) (hdg : decode cc pc = .ok (.bastore, 1))
    (kk : ∀ (H1 : Heap) (locs1 : List Loc), fr_Hb X s (fw_wi M 377 i (fw_nb x)) b H1 locs1 → W p l e R s m args below meth c H1 locs1 cells slots Q (F0 m (pc + 1) ls rest)) : W p l e R s m args below meth c H locs cells slots Q (F0 m pc ls (.int x :: .int i :: .ref b :: rest)) := by
  obtain ⟨hP, hD, hS⟩ := B
  obtain ⟨q, hq0, hq⟩ := fw_get (X := X) (b := b) (M := M) k_377
  rw [rho_7, e_377] at hq
  have hlt : i.toNatClampNeg < fw_cap M := Nat.not_le.mp fun q => hin (Or.inr q)
  have hlt2 : i.toNatClampNeg ≠ 1000 := by omega
  have e1 : (upd (M 377) i.toNatClampNeg (fw_nb x)) 1000 = M 377 1000 := if_neg (Ne.symm hlt2)
  have e2 : (.inl (fw_kp X 4, (M 377 1000).toNatClampNeg, .inl (upd (M 377) i.toNatClampNeg (fw_nb x))) : va_E) = fw_E X b 377 (upd (M 377) i.toNatClampNeg (fw_nb x)) := by rw [e_377, e1]
  refine va_bast C.1.1 C.1.2.1 C.2.1.1 hP hD hS q 4 hq rfl hin hdg (fun H1 locs1 hP1 hD1 hS1 => kk H1 locs1 ⟨?_, ?_, hS1⟩)
  · have hP1 : va_P (fw_D X) fw_cl ((fw_L X b M).set q (b, .inl (fw_kp X 4, (M 377 1000).toNatClampNeg, .inl (upd (M 377) i.toNatClampNeg (fw_nb x))))) H1 := hP1
    rw [e2] at hP1
    have h3 : (fw_L X b M).set q (b, fw_E X b 377 (upd (M 377) i.toNatClampNeg (fw_nb x))) = fw_L X b (fw_wi M 377 i (fw_nb x)) := by
      have h4 := fw_set (X := X) (b := b) (M := M) (g := upd (M 377) i.toNatClampNeg (fw_nb x)) hq0
      rw [rho_7] at h4
      exact h4
    rw [h3] at hP1
    exact hP1
  · have hD1 : va_D (fw_A X) ((fw_L X b M).set q (b, .inl (fw_kp X 4, (M 377 1000).toNatClampNeg, .inl (upd (M 377) i.toNatClampNeg (fw_nb x))))) := hD1
    rw [e2] at hD1
    have h3 : (fw_L X b M).set q (b, fw_E X b 377 (upd (M 377) i.toNatClampNeg (fw_nb x))) = fw_L X b (fw_wi M 377 i (fw_nb x)) := by
      have h4 := fw_set (X := X) (b := b) (M := M) (g := upd (M 377) i.toNatClampNeg (fw_nb x)) hq0
      rw [rho_7] at h4
      exact h4
    rw [h3] at hD1
    exact hD1
/-- a super call, a private call: the receiver is the StringBuilder -/
theorem jb_recv (C : fr_C X p c cc nL own s m args) (B : fr_Hb X s M b H locs) : ∃ cell : Cell, H[fw_ad X 376]? = some cell ∧ cell.vm.isStatics = false ∧ s.vm.findClass RJ4 = some cell.cls := by
  obtain ⟨hP, hD, hS⟩ := B
  obtain ⟨q, -, hq⟩ := fw_get (X := X) (b := b) (M := M) k_376
  rw [fw_rho_ne (by decide), e_376] at hq
  exact va_recv C.2.1.1 hP (ci := 10) rfl hq
/-- behind a call that left the heap as it was -/
theorem fr_rd {v : Option Value} {a : Array Value} {st0 : List Value} (hr : va_Run p l e R s m args below meth c H locs cells slots 0 0 (F0 m pc ls st0) rest (fw_QR v a) (fun _ => False))
    (kk : W p l e R s m args below meth c H locs cells slots Q (F0 m (pc + 3) ls (v.toList ++ rest))) : W p l e R s m args below meth c H locs cells slots Q (F0 m pc ls st0) := by
  intro T hT X9
  obtain ⟨v', st₀, t, T', L, h0, X', hL, e1, e2, ⟨hv, hh⟩, st⟩ := hr T hT X9
  cases hv
  obtain ⟨t2, a1, b1⟩ := kk T' (by rw [e1, hh, h0]) (Stand.forget X' (fun q h => (hL q h).elim))
  exact ⟨t2, st t2 a1, b1⟩
theorem jr_S (C : fr_C X p c cc nL own s m args) (B : fr_H X s M H locs) {y : MethodName} {bytes : ByteArray} {maxL n index : Nat} {ret : Option FieldType} {rm : Room} {As st0 : List Value} {v : Option Value} (hM : ct_r l X y bytes maxL ret rm M As v) (hw : yw_S y bytes maxL ret n) (hl : Cond.methodLink own index y ∈ fw_GW) (hn : As.length = n) (hls : ls.size = nL) (hst : st0 = As.reverse ++ rest) (hrs : (rest.map fun v => v.category).sum ≤ 8) (hR : rm.frames + 1 ≤ R.frames ∧ 8 + (maxL + 11) + rm.locals ≤ R.locals) (h0 : rm.cells = 0 ∧ rm.slots = 0) (hf : cells ≤ R.cells ∧ slots ≤ R.slots) (hdg : decode cc pc = .ok (.invokestatic index, 3))
    (kk : W p l e R s m args below meth c H locs cells slots Q (F0 m (pc + 3) ls (v.toList ++ rest))) : W p l e R s m args below meth c H locs cells slots Q (F0 m pc ls st0) := by
  have cw := fr_cws C hw hl hR
  rw [h0.1, h0.2] at cw
  exact fr_rd (va_runS (As := As) (rest := rest) C.1 hM cw ⟨fw_blind X M _, fun U hU hW => fr_pre C B hU hW _⟩ rfl hn hls hst (lv_room hrs) hdg hf) kk
theorem jr_V (C : fr_C X p c cc nL own s m args) (B : fr_H X s M H locs) {y : MethodName} {bytes : ByteArray} {maxL n index a0 : Nat} {ret : Option FieldType} {rm : Room} {As st0 : List Value} {v : Option Value} (hM : ct_r l X y bytes maxL ret rm M (.ref a0 :: As) v) (hrv : ∃ cell : Cell, H[a0]? = some cell ∧ cell.vm.isStatics = false ∧ s.vm.findClass y.cls = some cell.cls) (hw : yw_V y bytes maxL ret n) (hl : Cond.methodLink own index y ∈ fw_GW) (hn : As.length = n) (hls : ls.size = nL) (hst : st0 = As.reverse ++ .ref a0 :: rest) (hrs : (rest.map fun v => v.category).sum ≤ 8) (hR : rm.frames + 1 ≤ R.frames ∧ 8 + (maxL + 11) + rm.locals ≤ R.locals) (h0 : rm.cells = 0 ∧ rm.slots = 0) (hf : cells ≤ R.cells ∧ slots ≤ R.slots) (hdg : decode cc pc = .ok (.invokevirtual index, 3))
    (kk : W p l e R s m args below meth c H locs cells slots Q (F0 m (pc + 3) ls (v.toList ++ rest))) : W p l e R s m args below meth c H locs cells slots Q (F0 m pc ls st0) := by
  have cw := fr_cw C hw hl hR
  rw [h0.1, h0.2] at cw
  exact fr_rd (va_runV (As := As) (rest := rest) C.1 hM cw ⟨fw_blind X M _, hrv, fun U hU hW => fr_pre C B hU hW _⟩ rfl hn hls hst (lv_room hrs) hdg hf) kk
/-- a method of the StringBuilder's superclass, called on the StringBuilder by name -/
def yw_U (y : MethodName) (cc : ByteArray) (maxL : Nat) (ret : Option FieldType) (n : Nat) : Prop := Cond.instanceMethod y ∈ fw_GW ∧ Cond.selects RJ4 y y ∈ fw_GW ∧ Cond.initialized y.cls ∈ fw_GW ∧ Cond.code y cc maxL ret ∈ fw_GW ∧ y.cls ≠ "java/lang/invoke/MethodHandle" ∧ y.cls ≠ "java/lang/invoke/VarHandle" ∧ (parseMethodDescriptor y.desc).map (fun d => d.parameters.length) = some n
theorem jb_cw {y : MethodName} {bytes : ByteArray} {maxL n index : Nat} {ret : Option FieldType} {rm : Room} (C : fr_C X p c cc nL own s m args) (hw : yw_U y bytes maxL ret n) (hl : Cond.methodLink own index y ∈ fw_GW) (hR : rm.frames + 1 ≤ R.frames ∧ 8 + (maxL + 11) + rm.locals ≤ R.locals) : CallW R s args own RJ4 index y bytes maxL ret (.code y bytes maxL ret :: fw_GW) rm rm.cells rm.slots n := by
  obtain ⟨h1, h2, h3, h4, h5, h6, h7⟩ := hw
  refine ⟨callB_of n C.1.2.2.2.2 ?_ rfl rfl rfl (C.1.2.2.2.2 _ h3) (C.1.2.2.2.2 _ hl) ⟨h5, h6, h7⟩ hR, C.1.2.2.2.2 _ h1, C.1.2.2.2.2 _ h2⟩
  intro w hw
  have hm : w ∈ fw_GW := by
    rcases List.mem_cons.mp hw with rfl | h
    · exact h4
    · exact h
  exact ⟨hm, fw_good w hm⟩
theorem jr_U (C : fr_C X p c cc nL own s m args) (B : fr_Hb X s M b H locs) {y : MethodName} {bytes : ByteArray} {maxL n index : Nat} {ret : Option FieldType} {rm : Room} {As st0 : List Value} {v : Option Value} (hM : ct_r l X y bytes maxL ret rm M (.ref (fw_ad X 376) :: As) v) (hw : yw_U y bytes maxL ret n) (hl : Cond.methodLink own index y ∈ fw_GW) (hn : As.length = n) (hls : ls.size = nL) (hst : st0 = As.reverse ++ .ref (fw_ad X 376) :: rest) (hrs : (rest.map fun v => v.category).sum ≤ 8) (hR : rm.frames + 1 ≤ R.frames ∧ 8 + (maxL + 11) + rm.locals ≤ R.locals) (h0 : rm.cells = 0 ∧ rm.slots = 0) (hf : cells ≤ R.cells ∧ slots ≤ R.slots) (hdg : decode cc pc = .ok (.invokevirtual index, 3))
    (kk : W p l e R s m args below meth c H locs cells slots Q (F0 m (pc + 3) ls (v.toList ++ rest))) : W p l e R s m args below meth c H locs cells slots Q (F0 m pc ls st0) := by
  have cw := jb_cw C hw hl hR
  rw [h0.1, h0.2] at cw
  exact fr_rd (va_runV (C := RJ4) (As := As) (rest := rest) C.1 hM cw ⟨fw_blind X M _, jb_recv C B, fun U hU hW => fr_pre C B.h hU hW _⟩ rfl hn hls hst (lv_room hrs) hdg hf) kk
/-- super.m(..) on the StringBuilder -/
def yw_P (y : MethodName) (cc : ByteArray) (maxL : Nat) (ret : Option FieldType) (n : Nat) : Prop := Cond.sameMethod y.cls y.cls y.name y.desc ∈ fw_GW ∧ Cond.superclass RJ4 y.cls ∈ fw_GW ∧ Cond.instanceMethod y ∈ fw_GW ∧ Cond.initialized y.cls ∈ fw_GW ∧ Cond.code y cc maxL ret ∈ fw_GW ∧ y.name ≠ "<init>" ∧ (parseMethodDescriptor y.desc).map (fun d => d.parameters.length) = some n
theorem jb_cp {y : MethodName} {bytes : ByteArray} {maxL n index : Nat} {ret : Option FieldType} {rm : Room} (C : fr_C X p c cc nL RJ4 s m args) (hw : yw_P y bytes maxL ret n) (hl : Cond.methodLink RJ4 index y ∈ fw_GW) (hR : rm.frames + 1 ≤ R.frames ∧ 8 + (maxL + 11) + rm.locals ≤ R.locals) : va_CS R s args RJ4 index y bytes maxL ret (.code y bytes maxL ret :: fw_GW) rm rm.cells rm.slots n := by
  obtain ⟨h1, h2, h3, h4, h5, h6, h7⟩ := hw
  refine va_cwSU n C.1.2.2.2.2 ?_ rfl rfl rfl ⟨h6, h7⟩ hR
  intro w hw
  have hm : w ∈ fw_GW := by
    unfold va_wsSU at hw
    simp only [List.cons_append, List.nil_append, List.mem_cons] at hw
    rcases hw with rfl | rfl | rfl | rfl | rfl | rfl | h
    · exact hl
    · exact h1
    · exact h2
    · exact h3
    · exact h4
    · exact h5
    · exact h
  exact ⟨hm, fw_good w hm⟩
theorem jr_P (C : fr_C X p c cc nL RJ4 s m args) (B : fr_Hb X s M b H locs) {y : MethodName} {bytes : ByteArray} {maxL n index : Nat} {ret : Option FieldType} {rm : Room} {As st0 : List Value} {v : Option Value} (hM : ct_r l X y bytes maxL ret rm M (.ref (fw_ad X 376) :: As) v) (hw : yw_P y bytes maxL ret n) (hl : Cond.methodLink RJ4 index y ∈ fw_GW) (hn : As.length = n) (hls : ls.size = nL) (hst : st0 = As.reverse ++ .ref (fw_ad X 376) :: rest) (hrs : (rest.map fun v => v.category).sum ≤ 8) (hR : rm.frames + 1 ≤ R.frames ∧ 8 + (maxL + 11) + rm.locals ≤ R.locals) (h0 : rm.cells = 0 ∧ rm.slots = 0) (hf : cells ≤ R.cells ∧ slots ≤ R.slots) (hdg : decode cc pc = .ok (.invokespecial index, 3))
    (kk : W p l e R s m args below meth c H locs cells slots Q (F0 m (pc + 3) ls (v.toList ++ rest))) : W p l e R s m args below meth c H locs cells slots Q (F0 m pc ls st0) := by
  have cw := jb_cp C hw hl hR
  rw [h0.1, h0.2] at cw
  exact fr_rd (va_runSU (C := RJ4) (As := As) (rest := rest) (C.2.1.1.1 10 _ rfl).2 C.1 hM cw ⟨fw_blind X M _, jb_recv C B, fun U hU hW => fr_pre C B.h hU hW _⟩ rfl hn hls hst (lv_room hrs) hdg hf) kk
/-- ends of such a method -/
theorem jr_i (C : fr_C X p c cc nL own s m args) {ty : FieldType} {v : Int32} (hr : meth.sig.returnType = some ty) (hn : narrow ty (.int v) = .int v) (hlk : meth.locks = false) {o : Option Value} (ho : some (.int v) = o) (hdg : decode cc pc = .ok (.ireturn, 1)) : W p l e R s m args below meth c s.heap [] 0 0 (MQ below (fw_QR o) args s 0 0 (fun _ => False)) (F0 m pc ls [.int v]) :=
  W.zret C.1.1 C.1.2.1 hr hn (fun t ht hW => ⟨by rw [ho], ht⟩) (fun q hq => nomatch hq) hdg hlk
theorem jr_v (C : fr_C X p c cc nL own s m args) (hr : meth.sig.returnType = none) (hlk : meth.locks = false) (hdg : decode cc pc = .ok (.return_, 1)) : W p l e R s m args below meth c s.heap [] 0 0 (MQ below (fw_QR none) args s 0 0 (fun _ => False)) (F0 m pc ls []) :=
  W.vret C.1.1 C.1.2.1 hr (fun t ht hW => ⟨rfl, ht⟩) (fun q hq => nomatch hq) hdg hlk
end JR
