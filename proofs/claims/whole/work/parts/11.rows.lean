/-! rows over the flat world -/
abbrev fw_O : Type := (Int32 ⊕ Nat) × fw_M
abbrev fw_Qi (X : fw_X) (o : fw_O) : Array Value → State → Outcome → State → Prop := va_Qi (fun (r : Int32) (u : fw_M) => o = (.inl r, u)) (fw_B X) (fw_A X)
abbrev fw_Qv (X : fw_X) (o : fw_O) : Array Value → State → Outcome → State → Prop := va_Qv (fun (u : fw_M) => o = (.inl 0, u)) (fw_B X) (fw_A X)
abbrev fw_Qx (X : fw_X) (o : fw_O) : String → State → State → Prop := vx_X (fun (u : Nat × fw_M) => o = (.inr u.1, u.2)) (fun E u t => E = fw_xn u.1 ∧ fw_B X u.2 t) (fw_A X)
def ct_i (l : Launch) (X : fw_X) (y : MethodName) (cc : ByteArray) (maxL : Nat) (ret : Option FieldType) (rm : Room) (M : fw_M) (av : List Value) (o : fw_O) : Prop := vx_Met l y (.code y cc maxL ret :: fw_GW) rm (fw_P X M av) (fw_Qi X o) (fw_Qx X o) rm.cells rm.slots (fw_A X)
def ct_v (l : Launch) (X : fw_X) (y : MethodName) (cc : ByteArray) (maxL : Nat) (ret : Option FieldType) (rm : Room) (M : fw_M) (av : List Value) (o : fw_O) : Prop := vx_Met l y (.code y cc maxL ret :: fw_GW) rm (fw_P X M av) (fw_Qv X o) (fw_Qx X o) rm.cells rm.slots (fw_A X)
theorem fw_open {l : Launch} {X : fw_X} {y : MethodName} {cc : ByteArray} {maxL : Nat} {ret : Option FieldType} {rm : Room} {M : fw_M} {av : List Value} {Qc : Array Value → State → Outcome → State → Prop} {XC : String → State → State → Prop} {mc ms : Nat} (hy : plainName y.cls = true) (hml : (lg_sl av).length ≤ maxL)
    (body : ∀ (p : Program) (e : Env) (s : State) (m : MethodId) (below : List Frame) (meth : Method) (c : Code) (ls : Array Slot), fr_C X p c cc maxL y.cls s m av.toArray → meth.sig.returnType = ret → meth.locks = false → meth.name = y.name → (∀ x ∈ c.exceptionTable.toList, False) → lv_has ls maxL (lv_args 0 av) → fr_H X s M s.heap [] →
      W p l e rm s m av.toArray below meth c s.heap [] 0 0 (vx_MQ below Qc XC av.toArray s mc ms (fw_A X)) (F0 m 0 ls [])) : vx_Met l y (.code y cc maxL ret :: fw_GW) rm (fw_P X M av) Qc XC mc ms (fw_A X) := by
  refine vx_ofW (cc := cc) (maxL := maxL) (ret := ret) hy rfl ?_
  intro p e s m args below meth c s₁ B hml2 hex hv
  obtain ⟨rfl, hB, hT, hV, hz⟩ := hv
  have hts := atoms_spec (ws := .code y cc maxL ret :: fw_GW) B.pre
  have hl := lv_entry av (n := maxL) hml
  rw [lg_entry_eq]
  obtain ⟨b, hP, hD⟩ := hB
  exact body p e s m below meth c _ ⟨⟨B.exec, B.bytes, hml2, findClass_of_methodNamed B.named, fun w hw => hts w (List.mem_cons_of_mem _ hw)⟩, hT, hV, hz⟩ B.returns B.notSynchronized (name_of_methodNamed B.named B.method).1 hex hl ⟨b, hP, hD, va_S.rf⟩
def ar_I (X : fw_X) (k n : Nat) : Prop := k ∈ fw_dom ∧ k ≠ 377 ∧ ∀ (b : Nat) (f : Nat → Int32), fw_E X b k f = fw_ai X n f
def ar_C (X : fw_X) (k n : Nat) : Prop := k ∈ fw_dom ∧ k ≠ 377 ∧ ∀ (b : Nat) (f : Nat → Int32), fw_E X b k f = fw_ac X n f
def ob_j (X : fw_X) (k ci : Nat) (fs : (Nat → Int32) → List Value) : Prop := k ∈ fw_dom ∧ k ≠ 377 ∧ ∀ (b : Nat) (f : Nat → Int32), fw_E X b k f = .inr (ci, fs f)
abbrev ix_i (i : Int32) (n : Nat) : Prop := ¬ (i < 0 ∨ n ≤ i.toNatClampNeg)
/-- place i (a number of the machine's) of the row k becomes x -/
def fw_wi (M : fw_M) (k : Nat) (i x : Int32) : fw_M := fw_up M k i.toNatClampNeg x
def fw_ri (M : fw_M) (k : Nat) (i : Int32) : Int32 := M k i.toNatClampNeg
def fw_nc (x : Int32) : Int32 := vp_nar .char x
section FR
variable {p : Program} {l : Launch} {e : Env} {R : Room} {s : State} {m : MethodId} {args : Array Value} {below : List Frame} {meth : Method} {c : Code} {H : Heap} {locs : List Loc} {cells slots : Nat} {Q : State → Prop}
variable {cc : ByteArray} {pc nL : Nat} {ls : Array Slot} {rest : List Value} {X : fw_X} {M : fw_M} {own : String} {k : Nat}
theorem fr_get (C : fr_C X p c cc nL own s m args) (B : fr_H X s M H locs) {C9 : String} {T9 : u_T} {N ci j index : Nat} {fs : (Nat → Int32) → List Value} (ho : ob_j X k ci fs) (hc : fw_cl[ci]? = some (C9, T9, N)) (hin : ∀ w ∈ u_ws C9 T9 N, w ∈ fw_GW) (hj : j < N) (hl : Cond.fieldLink own index (T9 j).1 (T9 j).2.1 (T9 j).2.2.1 ∈ fw_GW) {v : Value} (hv : (fs (M k))[j]? = some v) (hdg : decode cc pc = .ok (.getfield index, 3))
    (kk : W p l e R s m args below meth c H locs cells slots Q (F0 m (pc + 3) ls (v :: rest))) : W p l e R s m args below meth c H locs cells slots Q (F0 m pc ls (.ref (fw_ad X k) :: rest)) := by
  obtain ⟨b, hP, hD, hS⟩ := B
  obtain ⟨hk, h7, hE⟩ := ho
  obtain ⟨q, -, hq⟩ := fw_get (X := X) (b := b) (M := M) hk
  rw [fw_rho_ne h7, hE] at hq
  exact va_get C.1.1 C.1.2.1 C.1.2.2.2.2 hin C.1.2.2.2.1 C.2.1.1 hP q hq hc j hj (C.1.2.2.2.2 _ hl) (fun _ h => h) hv hdg kk
theorem fr_getN (C : fr_C X p c cc nL own s m args) (B : fr_H X s M H locs) {C9 host : String} {T9 : u_T} {N ci j index : Nat} {fs : (Nat → Int32) → List Value} (ho : ob_j X k ci fs) (hc : fw_cl[ci]? = some (C9, T9, N)) (hin : ∀ w ∈ u_ws C9 T9 N, w ∈ fw_GW) (hj : j < N) (hl : (own, index, (T9 j).1, (T9 j).2.1, (T9 j).2.2.1, host) ∈ fw_nest) {v : Value} (hv : (fs (M k))[j]? = some v) (hdg : decode cc pc = .ok (.getfield index, 3))
    (kk : W p l e R s m args below meth c H locs cells slots Q (F0 m (pc + 3) ls (v :: rest))) : W p l e R s m args below meth c H locs cells slots Q (F0 m pc ls (.ref (fw_ad X k) :: rest)) := by
  obtain ⟨b, hP, hD, hS⟩ := B
  obtain ⟨hk, h7, hE⟩ := ho
  obtain ⟨q, -, hq⟩ := fw_get (X := X) (b := b) (M := M) hk
  rw [fw_rho_ne h7, hE] at hq
  exact va_getN C.1.1 C.1.2.1 C.1.2.2.2.2 hin C.1.2.2.2.1 C.2.1.1 hP q hq hc j hj (va_Nw.use rfl (C.2.1.2.1 _ hl)) (fun _ h => h) hv hdg kk
theorem fr_put (C : fr_C X p c cc nL own s m args) (B : fr_H X s M H locs) {C9 : String} {T9 : u_T} {N ci j index : Nat} {fs : (Nat → Int32) → List Value} (ho : ob_j X k ci fs) (hc : fw_cl[ci]? = some (C9, T9, N)) (hin : ∀ w ∈ u_ws C9 T9 N, w ∈ fw_GW) (ty0 : Nat → FieldType) (hty : ∀ k, k < N → parseFieldDescriptor (T9 k).2.2.1 = some (ty0 k)) (hnm : ∀ a, a < N → ∀ b, b < N → a ≠ b → (T9 a).2.1 ≠ (T9 b).2.1) (hj : j < N) (hl : Cond.fieldLink own index (T9 j).1 (T9 j).2.1 (T9 j).2.2.1 ∈ fw_GW) (hfin : (T9 j).2.2.2 = false) {x : Int32} (hn : narrow (ty0 j) (.int x) = .int x) (hfit : fits (ty0 j) (.int x) = true) (hlen : j < (fs (M k)).length) (hv : (fs (M k)).set j (.int x) = fs (upd (M k) j x)) (hdg : decode cc pc = .ok (.putfield index, 3))
    (kk : ∀ (H1 : Heap) (locs1 : List Loc), fr_H X s (fw_up M k j x) H1 locs1 → W p l e R s m args below meth c H1 locs1 cells slots Q (F0 m (pc + 3) ls rest)) : W p l e R s m args below meth c H locs cells slots Q (F0 m pc ls (.int x :: .ref (fw_ad X k) :: rest)) := by
  obtain ⟨b, hP, hD, hS⟩ := B
  obtain ⟨hk, h7, hE⟩ := ho
  obtain ⟨q, hq0, hq⟩ := fw_get (X := X) (b := b) (M := M) hk
  rw [fw_rho_ne h7, hE] at hq
  refine va_put C.1.1 C.1.2.1 C.1.2.2.2.2 hin ty0 hty hnm C.1.2.2.2.1 C.2.1.1 hP hD hS q hq hc j hj (C.1.2.2.2.2 _ hl) (fun _ h => h) hfin (hty j hj) hn hfit hlen hdg (fun H1 locs1 hP1 hD1 hS1 => kk H1 locs1 ⟨b, ?_, ?_, hS1⟩)
  · rw [hv, ← hE b, ← fw_rho_ne (X := X) (b := b) h7, fw_set hq0] at hP1
    exact hP1
  · rw [hv, ← hE b, ← fw_rho_ne (X := X) (b := b) h7, fw_set hq0] at hD1
    exact hD1
theorem fr_ia (C : fr_C X p c cc nL own s m args) (B : fr_H X s M H locs) {n : Nat} (ha : ar_I X k n) {i : Int32} (hin : ix_i i n) (hdg : decode cc pc = .ok (.iaload, 1))
    (kk : W p l e R s m args below meth c H locs cells slots Q (F0 m (pc + 1) ls (.int (fw_ri M k i) :: rest))) : W p l e R s m args below meth c H locs cells slots Q (F0 m pc ls (.int i :: .ref (fw_ad X k) :: rest)) := by
  obtain ⟨b, hP, hD, hS⟩ := B
  obtain ⟨hk, h7, hE⟩ := ha
  obtain ⟨q, -, hq⟩ := fw_get (X := X) (b := b) (M := M) hk
  rw [fw_rho_ne h7, hE] at hq
  exact va_iald C.1.1 C.1.2.1 C.2.1.1 hP q 0 hq rfl hin hdg kk
theorem fr_ca (C : fr_C X p c cc nL own s m args) (B : fr_H X s M H locs) {n : Nat} (ha : ar_C X k n) {i : Int32} (hin : ix_i i n) (hdg : decode cc pc = .ok (.caload, 1))
    (kk : W p l e R s m args below meth c H locs cells slots Q (F0 m (pc + 1) ls (.int (fw_ri M k i) :: rest))) : W p l e R s m args below meth c H locs cells slots Q (F0 m pc ls (.int i :: .ref (fw_ad X k) :: rest)) := by
  obtain ⟨b, hP, hD, hS⟩ := B
  obtain ⟨hk, h7, hE⟩ := ha
  obtain ⟨q, -, hq⟩ := fw_get (X := X) (b := b) (M := M) hk
  rw [fw_rho_ne h7, hE] at hq
  exact va_cald C.1.1 C.1.2.1 C.2.1.1 hP q 1 hq rfl hin hdg kk
theorem fr_is (C : fr_C X p c cc nL own s m args) (B : fr_H X s M H locs) {n : Nat} (ha : ar_I X k n) {i x : Int32} (hin : ix_i i n) (hdg : decode cc pc = .ok (.iastore, 1))
    (kk : ∀ (H1 : Heap) (locs1 : List Loc), fr_H X s (fw_wi M k i x) H1 locs1 → W p l e R s m args below meth c H1 locs1 cells slots Q (F0 m (pc + 1) ls rest)) : W p l e R s m args below meth c H locs cells slots Q (F0 m pc ls (.int x :: .int i :: .ref (fw_ad X k) :: rest)) := by
  obtain ⟨b, hP, hD, hS⟩ := B
  obtain ⟨hk, h7, hE⟩ := ha
  obtain ⟨q, hq0, hq⟩ := fw_get (X := X) (b := b) (M := M) hk
  rw [fw_rho_ne h7, hE] at hq
  refine va_iast C.1.1 C.1.2.1 C.2.1.1 hP hD hS q 0 hq rfl hin hdg (fun H1 locs1 hP1 hD1 hS1 => kk H1 locs1 ⟨b, ?_, ?_, hS1⟩)
  · have hP1 : va_P (fw_D X) fw_cl ((fw_L X b M).set q (fw_ad X k, fw_ai X n (upd (M k) i.toNatClampNeg x))) H1 := hP1
    rw [← hE b, ← fw_rho_ne (X := X) (b := b) h7, fw_set hq0] at hP1
    exact hP1
  · have hD1 : va_D (fw_A X) ((fw_L X b M).set q (fw_ad X k, fw_ai X n (upd (M k) i.toNatClampNeg x))) := hD1
    rw [← hE b, ← fw_rho_ne (X := X) (b := b) h7, fw_set hq0] at hD1
    exact hD1
theorem fr_cs (C : fr_C X p c cc nL own s m args) (B : fr_H X s M H locs) {n : Nat} (ha : ar_C X k n) {i x : Int32} (hin : ix_i i n) (hdg : decode cc pc = .ok (.castore, 1))
    (kk : ∀ (H1 : Heap) (locs1 : List Loc), fr_H X s (fw_wi M k i (fw_nc x)) H1 locs1 → W p l e R s m args below meth c H1 locs1 cells slots Q (F0 m (pc + 1) ls rest)) : W p l e R s m args below meth c H locs cells slots Q (F0 m pc ls (.int x :: .int i :: .ref (fw_ad X k) :: rest)) := by
  obtain ⟨b, hP, hD, hS⟩ := B
  obtain ⟨hk, h7, hE⟩ := ha
  obtain ⟨q, hq0, hq⟩ := fw_get (X := X) (b := b) (M := M) hk
  rw [fw_rho_ne h7, hE] at hq
  refine va_cast C.1.1 C.1.2.1 C.2.1.1 hP hD hS q 1 hq rfl hin hdg (fun H1 locs1 hP1 hD1 hS1 => kk H1 locs1 ⟨b, ?_, ?_, hS1⟩)
  · have hP1 : va_P (fw_D X) fw_cl ((fw_L X b M).set q (fw_ad X k, fw_ac X n (upd (M k) i.toNatClampNeg (fw_nc x)))) H1 := hP1
    rw [← hE b, ← fw_rho_ne (X := X) (b := b) h7, fw_set hq0] at hP1
    exact hP1
  · have hD1 : va_D (fw_A X) ((fw_L X b M).set q (fw_ad X k, fw_ac X n (upd (M k) i.toNatClampNeg (fw_nc x)))) := hD1
    rw [← hE b, ← fw_rho_ne (X := X) (b := b) h7, fw_set hq0] at hD1
    exact hD1
/-- rows of references: int[][] (kind 2), State[] (kind 3) -/
def ar_Q (X : fw_X) (k t n : Nat) (g : Nat → Nat) : Prop := k ∈ fw_dom ∧ k ≠ 377 ∧ (t = 2 ∨ t = 3) ∧ (∀ i, i < n → g i ≠ 377) ∧ ∀ (b : Nat) (f : Nat → Int32), fw_E X b k f = fw_aq (fw_kp X t) n (fun i => fw_ad X (g i))
theorem fr_aa (C : fr_C X p c cc nL own s m args) (B : fr_H X s M H locs) {t n : Nat} {g : Nat → Nat} (ha : ar_Q X k t n g) {i : Int32} (hin : ix_i i n) (hdg : decode cc pc = .ok (.aaload, 1))
    (kk : W p l e R s m args below meth c H locs cells slots Q (F0 m (pc + 1) ls (.ref (fw_ad X (g i.toNatClampNeg)) :: rest))) : W p l e R s m args below meth c H locs cells slots Q (F0 m pc ls (.int i :: .ref (fw_ad X k) :: rest)) := by
  obtain ⟨b, hP, hD, hS⟩ := B
  obtain ⟨hk, h7, ht, hg, hE⟩ := ha
  obtain ⟨q, -, hq⟩ := fw_get (X := X) (b := b) (M := M) hk
  rw [fw_rho_ne h7, hE] at hq
  have hlt : i.toNatClampNeg < n := Nat.not_le.mp fun q => hin (Or.inr q)
  rcases ht with rfl | rfl
  · exact W.aald (v := .ref (fw_ad X (g i.toNatClampNeg))) (ty := .array .int) C.1.1 C.1.2.1 (hP q _ hq) ((C.2.1.1.2 2 _ rfl).1 n (fun j => va_rf (some (fw_ad X (g j))))) rfl (fun q => by cases q) (by show ¬ (i < 0 ∨ (arrV _ _ _).slots.size ≤ _); rw [arrV_size]; exact hin) (by show (arrV _ _ _).slots[_]? = _; rw [arrV_read _ _ hlt]; rfl) rfl rfl hdg kk
  · exact W.aald (v := .ref (fw_ad X (g i.toNatClampNeg))) (ty := .object "TramNetwork$State") C.1.1 C.1.2.1 (hP q _ hq) ((C.2.1.1.2 3 _ rfl).1 n (fun j => va_rf (some (fw_ad X (g j))))) rfl (fun q => by cases q) (by show ¬ (i < 0 ∨ (arrV _ _ _).slots.size ≤ _); rw [arrV_size]; exact hin) (by show (arrV _ _ _).slots[_]? = _; rw [arrV_read _ _ hlt]; rfl) rfl rfl hdg kk
theorem fr_al (C : fr_C X p c cc nL own s m args) (B : fr_H X s M H locs) {n : Nat} (ha : ar_I X k n) {v : Int32} (hv : Int32.ofNat n = v) (hdg : decode cc pc = .ok (.arraylength, 1))
    (kk : W p l e R s m args below meth c H locs cells slots Q (F0 m (pc + 1) ls (.int v :: rest))) : W p l e R s m args below meth c H locs cells slots Q (F0 m pc ls (.ref (fw_ad X k) :: rest)) := by
  obtain ⟨b, hP, hD, hS⟩ := B
  obtain ⟨hk, h7, hE⟩ := ha
  obtain ⟨q, -, hq⟩ := fw_get (X := X) (b := b) (M := M) hk
  rw [fw_rho_ne h7, hE] at hq
  exact va_alen C.1.1 C.1.2.1 C.2.1.1 hP q 0 hq rfl hv hdg kk
/-! calls -/
def yw_V (y : MethodName) (cc : ByteArray) (maxL : Nat) (ret : Option FieldType) (n : Nat) : Prop := Cond.instanceMethod y ∈ fw_GW ∧ Cond.selects y.cls y y ∈ fw_GW ∧ Cond.initialized y.cls ∈ fw_GW ∧ Cond.code y cc maxL ret ∈ fw_GW ∧ y.cls ≠ "java/lang/invoke/MethodHandle" ∧ y.cls ≠ "java/lang/invoke/VarHandle" ∧ (parseMethodDescriptor y.desc).map (fun d => d.parameters.length) = some n
def yw_S (y : MethodName) (cc : ByteArray) (maxL : Nat) (ret : Option FieldType) (n : Nat) : Prop := Cond.static y ∈ fw_GW ∧ Cond.initialized y.cls ∈ fw_GW ∧ Cond.code y cc maxL ret ∈ fw_GW ∧ y.cls ≠ "java/lang/invoke/MethodHandle" ∧ y.cls ≠ "java/lang/invoke/VarHandle" ∧ (parseMethodDescriptor y.desc).map (fun d => d.parameters.length) = some n
theorem fr_cw {y : MethodName} {bytes : ByteArray} {maxL n index : Nat} {ret : Option FieldType} {rm : Room} (C : fr_C X p c cc nL own s m args) (hw : yw_V y bytes maxL ret n) (hl : Cond.methodLink own index y ∈ fw_GW) (hR : rm.frames + 1 ≤ R.frames ∧ 8 + (maxL + 11) + rm.locals ≤ R.locals) : CallW R s args own y.cls index y bytes maxL ret (.code y bytes maxL ret :: fw_GW) rm rm.cells rm.slots n := by
  obtain ⟨h1, h2, h3, h4, h5, h6, h7⟩ := hw
  refine cwV n C.1.2.2.2.2 ?_ rfl rfl rfl ⟨rfl, h5, h6, h7⟩ hR
  intro w hw
  have hm : w ∈ fw_GW := by
    unfold wsV at hw
    simp only [List.cons_append, List.nil_append, List.mem_cons] at hw
    rcases hw with rfl | rfl | rfl | rfl | rfl | h
    · exact hl
    · exact h1
    · exact h2
    · exact h3
    · exact h4
    · exact h
  exact ⟨hm, fw_good w hm⟩
theorem fr_cws {y : MethodName} {bytes : ByteArray} {maxL n index : Nat} {ret : Option FieldType} {rm : Room} (C : fr_C X p c cc nL own s m args) (hw : yw_S y bytes maxL ret n) (hl : Cond.methodLink own index y ∈ fw_GW) (hR : rm.frames + 1 ≤ R.frames ∧ 8 + (maxL + 11) + rm.locals ≤ R.locals) : CallB R s args own index y bytes maxL ret (.code y bytes maxL ret :: fw_GW) rm rm.cells rm.slots n ∧ (Cond.static y).before args s = true := by
  obtain ⟨h1, h3, h4, h5, h6, h7⟩ := hw
  refine va_cwS n C.1.2.2.2.2 ?_ rfl rfl rfl ⟨h5, h6, h7⟩ hR
  intro w hw
  have hm : w ∈ fw_GW := by
    unfold va_wsS at hw
    simp only [List.cons_append, List.nil_append, List.mem_cons] at hw
    rcases hw with rfl | rfl | rfl | rfl | h
    · exact hl
    · exact h1
    · exact h3
    · exact h4
    · exact h
  exact ⟨hm, fw_good w hm⟩
theorem fr_recv (C : fr_C X p c cc nL own s m args) (B : fr_H X s M H locs) {C9 : String} {T9 : u_T} {N ci : Nat} {fs : (Nat → Int32) → List Value} (ho : ob_j X k ci fs) (hc : fw_cl[ci]? = some (C9, T9, N)) : ∃ cell : Cell, H[fw_ad X k]? = some cell ∧ cell.vm.isStatics = false ∧ s.vm.findClass C9 = some cell.cls := by
  obtain ⟨b, hP, hD, hS⟩ := B
  obtain ⟨hk, h7, hE⟩ := ho
  obtain ⟨q, -, hq⟩ := fw_get (X := X) (b := b) (M := M) hk
  rw [fw_rho_ne h7, hE] at hq
  exact va_recv C.2.1.1 hP hc hq
/-- behind a call that threw -/
def fr_X (p : Program) (l : Launch) (e : Env) (R : Room) (s : State) (m : MethodId) (args : Array Value) (below : List Frame) (meth : Method) (c : Code) (cells slots : Nat) (Q : State → Prop) (X : fw_X) (o : fw_O) (pc : Nat) (ls : Array Slot) (rest : List Value) : Prop :=
  ∀ (e9 : Nat) (M1 : fw_M) (ce : Cell) (q9 : Nat) (H1 : Heap) (locs1 : List Loc), o = (.inr e9, M1) → fr_H X s M1 H1 locs1 → H1[q9]? = some ce → ce.vm = .none → s.vm.findClass (fw_xn e9) = some ce.cls → vx_W p l e R s m args below meth c H1 locs1 cells slots Q (F0 m pc ls rest) q9
theorem fr_cVi (C : fr_C X p c cc nL own s m args) (B : fr_H X s M H locs) {y : MethodName} {bytes : ByteArray} {maxL n index : Nat} {ret : Option FieldType} {rm : Room} {o : fw_O} {As st0 : List Value} {T9 : u_T} {N ci : Nat} {fs : (Nat → Int32) → List Value} (hM : ct_i l X y bytes maxL ret rm M (.ref (fw_ad X k) :: As) o) (ho : ob_j X k ci fs) (hc : fw_cl[ci]? = some (y.cls, T9, N)) (hw : yw_V y bytes maxL ret n) (hl : Cond.methodLink own index y ∈ fw_GW) (hn : As.length = n) (hls : ls.size = nL) (hst : st0 = As.reverse ++ .ref (fw_ad X k) :: rest) (hrs : (rest.map fun v => v.category).sum ≤ 8) (hR : rm.frames + 1 ≤ R.frames ∧ 8 + (maxL + 11) + rm.locals ≤ R.locals) (hf : cells + rm.cells ≤ R.cells ∧ slots + rm.slots ≤ R.slots) (hdg : decode cc pc = .ok (.invokevirtual index, 3))
    (kx : fr_X p l e R s m args below meth c (cells + rm.cells) (slots + rm.slots) Q X o pc ls rest)
    (kk : ∀ (r : Int32) (M1 : fw_M) (H1 : Heap) (locs1 : List Loc), o = (.inl r, M1) → fr_H X s M1 H1 locs1 → W p l e R s m args below meth c H1 locs1 (cells + rm.cells) (slots + rm.slots) Q (F0 m (pc + 3) ls (.int r :: rest))) : W p l e R s m args below meth c H locs cells slots Q (F0 m pc ls st0) := by
  have B0 := B
  obtain ⟨b, hP, hD, hS⟩ := B0
  refine vx_calli (vx_runV (As := As) (rest := rest) C.1 hM (fr_cw C hw hl hR) ⟨fw_blind X M _, fr_recv C B ho hc, fun U hU hW => fr_pre C B hU hW _⟩ rfl hn hls hst (lv_room hrs) hdg hf) hS (fun _ _ h => h) (fun _ h => h) (fun _ _ h => h) ?_ ?_
  · intro E ce q9 u t H1 locs1 ht hvm hpx hB hz1 hk1 hS1 hce hcv hcl
    obtain ⟨rfl, b1, hP1, hD1⟩ := hB
    rw [ht] at hP1
    exact kx u.1 u.2 ce q9 H1 locs1 hpx ⟨b1, hP1, hD1, hS1⟩ hce hcv hcl
  · intro r u t H1 locs1 ht hvm hpx hB hz1 hk1 hS1
    obtain ⟨b1, hP1, hD1⟩ := hB
    rw [ht] at hP1
    exact kk r u H1 locs1 hpx ⟨b1, hP1, hD1, hS1⟩
theorem fr_cVv (C : fr_C X p c cc nL own s m args) (B : fr_H X s M H locs) {y : MethodName} {bytes : ByteArray} {maxL n index : Nat} {ret : Option FieldType} {rm : Room} {o : fw_O} {As st0 : List Value} {T9 : u_T} {N ci : Nat} {fs : (Nat → Int32) → List Value} (hM : ct_v l X y bytes maxL ret rm M (.ref (fw_ad X k) :: As) o) (ho : ob_j X k ci fs) (hc : fw_cl[ci]? = some (y.cls, T9, N)) (hw : yw_V y bytes maxL ret n) (hl : Cond.methodLink own index y ∈ fw_GW) (hn : As.length = n) (hls : ls.size = nL) (hst : st0 = As.reverse ++ .ref (fw_ad X k) :: rest) (hrs : (rest.map fun v => v.category).sum ≤ 8) (hR : rm.frames + 1 ≤ R.frames ∧ 8 + (maxL + 11) + rm.locals ≤ R.locals) (hf : cells + rm.cells ≤ R.cells ∧ slots + rm.slots ≤ R.slots) (hdg : decode cc pc = .ok (.invokevirtual index, 3))
    (kx : fr_X p l e R s m args below meth c (cells + rm.cells) (slots + rm.slots) Q X o pc ls rest)
    (kk : ∀ (M1 : fw_M) (H1 : Heap) (locs1 : List Loc), o = (.inl 0, M1) → fr_H X s M1 H1 locs1 → W p l e R s m args below meth c H1 locs1 (cells + rm.cells) (slots + rm.slots) Q (F0 m (pc + 3) ls rest)) : W p l e R s m args below meth c H locs cells slots Q (F0 m pc ls st0) := by
  have B0 := B
  obtain ⟨b, hP, hD, hS⟩ := B0
  refine vx_callv (vx_runV (As := As) (rest := rest) C.1 hM (fr_cw C hw hl hR) ⟨fw_blind X M _, fr_recv C B ho hc, fun U hU hW => fr_pre C B hU hW _⟩ rfl hn hls hst (lv_room hrs) hdg hf) hS (fun _ _ h => h) (fun _ h => h) (fun _ _ h => h) ?_ ?_
  · intro E ce q9 u t H1 locs1 ht hvm hpx hB hz1 hk1 hS1 hce hcv hcl
    obtain ⟨rfl, b1, hP1, hD1⟩ := hB
    rw [ht] at hP1
    exact kx u.1 u.2 ce q9 H1 locs1 hpx ⟨b1, hP1, hD1, hS1⟩ hce hcv hcl
  · intro u t H1 locs1 ht hvm hpx hB hz1 hk1 hS1
    obtain ⟨b1, hP1, hD1⟩ := hB
    rw [ht] at hP1
    exact kk u H1 locs1 hpx ⟨b1, hP1, hD1, hS1⟩
theorem fr_cSi (C : fr_C X p c cc nL own s m args) (B : fr_H X s M H locs) {y : MethodName} {bytes : ByteArray} {maxL n index : Nat} {ret : Option FieldType} {rm : Room} {o : fw_O} {As st0 : List Value} (hM : ct_i l X y bytes maxL ret rm M As o) (hw : yw_S y bytes maxL ret n) (hl : Cond.methodLink own index y ∈ fw_GW) (hn : As.length = n) (hls : ls.size = nL) (hst : st0 = As.reverse ++ rest) (hrs : (rest.map fun v => v.category).sum ≤ 8) (hR : rm.frames + 1 ≤ R.frames ∧ 8 + (maxL + 11) + rm.locals ≤ R.locals) (hf : cells + rm.cells ≤ R.cells ∧ slots + rm.slots ≤ R.slots) (hdg : decode cc pc = .ok (.invokestatic index, 3))
    (kx : fr_X p l e R s m args below meth c (cells + rm.cells) (slots + rm.slots) Q X o pc ls rest)
    (kk : ∀ (r : Int32) (M1 : fw_M) (H1 : Heap) (locs1 : List Loc), o = (.inl r, M1) → fr_H X s M1 H1 locs1 → W p l e R s m args below meth c H1 locs1 (cells + rm.cells) (slots + rm.slots) Q (F0 m (pc + 3) ls (.int r :: rest))) : W p l e R s m args below meth c H locs cells slots Q (F0 m pc ls st0) := by
  have B0 := B
  obtain ⟨b, hP, hD, hS⟩ := B0
  refine vx_calli (vx_runS (As := As) (rest := rest) C.1 hM (fr_cws C hw hl hR) ⟨fw_blind X M _, fun U hU hW => fr_pre C B hU hW _⟩ rfl hn hls hst (lv_room hrs) hdg hf) hS (fun _ _ h => h) (fun _ h => h) (fun _ _ h => h) ?_ ?_
  · intro E ce q9 u t H1 locs1 ht hvm hpx hB hz1 hk1 hS1 hce hcv hcl
    obtain ⟨rfl, b1, hP1, hD1⟩ := hB
    rw [ht] at hP1
    exact kx u.1 u.2 ce q9 H1 locs1 hpx ⟨b1, hP1, hD1, hS1⟩ hce hcv hcl
  · intro r u t H1 locs1 ht hvm hpx hB hz1 hk1 hS1
    obtain ⟨b1, hP1, hD1⟩ := hB
    rw [ht] at hP1
    exact kk r u H1 locs1 hpx ⟨b1, hP1, hD1, hS1⟩
theorem fr_cSv (C : fr_C X p c cc nL own s m args) (B : fr_H X s M H locs) {y : MethodName} {bytes : ByteArray} {maxL n index : Nat} {ret : Option FieldType} {rm : Room} {o : fw_O} {As st0 : List Value} (hM : ct_v l X y bytes maxL ret rm M As o) (hw : yw_S y bytes maxL ret n) (hl : Cond.methodLink own index y ∈ fw_GW) (hn : As.length = n) (hls : ls.size = nL) (hst : st0 = As.reverse ++ rest) (hrs : (rest.map fun v => v.category).sum ≤ 8) (hR : rm.frames + 1 ≤ R.frames ∧ 8 + (maxL + 11) + rm.locals ≤ R.locals) (hf : cells + rm.cells ≤ R.cells ∧ slots + rm.slots ≤ R.slots) (hdg : decode cc pc = .ok (.invokestatic index, 3))
    (kx : fr_X p l e R s m args below meth c (cells + rm.cells) (slots + rm.slots) Q X o pc ls rest)
    (kk : ∀ (M1 : fw_M) (H1 : Heap) (locs1 : List Loc), o = (.inl 0, M1) → fr_H X s M1 H1 locs1 → W p l e R s m args below meth c H1 locs1 (cells + rm.cells) (slots + rm.slots) Q (F0 m (pc + 3) ls rest)) : W p l e R s m args below meth c H locs cells slots Q (F0 m pc ls st0) := by
  have B0 := B
  obtain ⟨b, hP, hD, hS⟩ := B0
  refine vx_callv (vx_runS (As := As) (rest := rest) C.1 hM (fr_cws C hw hl hR) ⟨fw_blind X M _, fun U hU hW => fr_pre C B hU hW _⟩ rfl hn hls hst (lv_room hrs) hdg hf) hS (fun _ _ h => h) (fun _ h => h) (fun _ _ h => h) ?_ ?_
  · intro E ce q9 u t H1 locs1 ht hvm hpx hB hz1 hk1 hS1 hce hcv hcl
    obtain ⟨rfl, b1, hP1, hD1⟩ := hB
    rw [ht] at hP1
    exact kx u.1 u.2 ce q9 H1 locs1 hpx ⟨b1, hP1, hD1, hS1⟩ hce hcv hcl
  · intro u t H1 locs1 ht hvm hpx hB hz1 hk1 hS1
    obtain ⟨b1, hP1, hD1⟩ := hB
    rw [ht] at hP1
    exact kk u H1 locs1 hpx ⟨b1, hP1, hD1, hS1⟩
/-- a callee that never throws -/
theorem fr_nx {o : fw_O} {r : Int32} {M1 : fw_M} (ho : o = (.inl r, M1)) : fr_X p l e R s m args below meth c cells slots Q X o pc ls rest := by
  intro e9 M2 ce q9 H1 locs1 h
  rw [ho] at h
  cases h
/-- an exception that goes through -/
theorem fr_thru (C : fr_C X p c cc nL own s m args) (hex : ∀ x ∈ c.exceptionTable.toList, False) (hlk : meth.locks = false) {o o2 : fw_O} {Qc : Array Value → State → Outcome → State → Prop} {mc ms : Nat} (ho : ∀ e9 M1, o = (.inr e9, M1) → o2 = (.inr e9, M1)) (hc : cells ≤ mc) (hs : slots ≤ ms) : fr_X p l e R s m args below meth c cells slots (vx_MQ below Qc (fw_Qx X o2) args s mc ms (fw_A X)) X o pc ls rest := by
  intro e9 M1 ce q9 H1 locs1 h B hce hcv hcl
  obtain ⟨b, hP, hD, hS⟩ := B
  refine vx_outP C.1.2.2.2.1 hlk (fun z hz => (hex z hz).elim) hce hcv hcl (fun t ht hvm => ⟨(e9, M1), ho e9 M1 h, ⟨rfl, b, by rw [ht]; exact hP, hD⟩, ?_⟩) hS.2.2 hc hs
  exact ⟨by rw [ht]; exact hS.1, fun q h1 h2 => by rw [ht]; exact hS.2.1 q h1 h2⟩
/-- what the tables say of the exception n, thrown by own -/
def xw_t (own : String) (n ik ic : Nat) (names : List String) : Prop := n < 6 ∧ Cond.classLink own ik (fw_xn n) ∈ fw_GW ∧ Cond.initialized (fw_xn n) ∈ fw_GW ∧ (∀ w ∈ (vx_atS own ic (fw_xn n) names).filter goodWord, w ∈ fw_GW) ∧ (∀ w ∈ (vx_atS own ic (fw_xn n) names).filter (fun w => !goodWord w), w ∈ Cond.castable (fw_xn n) (fw_xn n) :: fw_dcl.map Cond.declares) ∧ (∀ w ∈ Cond.classLink own ik (fw_xn n) :: Cond.initialized (fw_xn n) :: vx_atS own ic (fw_xn n) names, vx_ot w = true) ∧ Bundle.fit (fw_xn n) = true ∧ (∀ n ∈ names, Bundle.fit n = true)
theorem fr_bad (C : fr_C X p c cc nL own s m args) {n : Nat} (hn : n < 6) : ∀ w ∈ Cond.castable (fw_xn n) (fw_xn n) :: fw_dcl.map Cond.declares, w.before args s = true := by
  intro w hw
  rcases List.mem_cons.mp hw with rfl | hw
  · exact va_Nw.use rfl (C.2.1.2.2.2.2.2.1 n hn)
  · obtain ⟨y, hy, rfl⟩ := List.mem_map.mp hw
    exact va_Nw.use rfl (C.2.1.2.2.2.2.2.2 y hy)
theorem fr_hat (C : fr_C X p c cc nL own s m args) {n ik ic : Nat} {names : List String} (hw : xw_t own n ik ic names) : ∀ w ∈ vx_atS own ic (fw_xn n) names, w.before args s = true := by
  obtain ⟨hn, h1, h2, h3, h4, h5, h6, h7⟩ := hw
  exact vx_hat (B := Cond.castable (fw_xn n) (fw_xn n) :: fw_dcl.map Cond.declares) (fun w hw => C.1.2.2.2.2 w (h3 w hw)) h4 (fr_bad C hn)
/-- the same of NoSuchElementException, whose constructor calls by place 13 -/
def xw_n (own : String) (ik ic : Nat) : Prop := Cond.classLink own ik (fw_xn 3) ∈ fw_GW ∧ Cond.initialized (fw_xn 3) ∈ fw_GW ∧ (∀ w ∈ (xa_at own ic (fw_xn 3) 13 prog_39_method_4_code "java/lang/RuntimeException" ["java/lang/Exception"]).filter goodWord, w ∈ fw_GW) ∧ (∀ w ∈ (xa_at own ic (fw_xn 3) 13 prog_39_method_4_code "java/lang/RuntimeException" ["java/lang/Exception"]).filter (fun w => !goodWord w), w ∈ Cond.castable (fw_xn 3) (fw_xn 3) :: fw_dcl.map Cond.declares) ∧ (∀ w ∈ Cond.classLink own ik (fw_xn 3) :: Cond.initialized (fw_xn 3) :: xa_at own ic (fw_xn 3) 13 prog_39_method_4_code "java/lang/RuntimeException" ["java/lang/Exception"], vx_ot w = true)
theorem xn_0 : decode prog_39_method_4_code 0 = .ok (.aload_n 0, 1) := by decide +kernel
theorem xn_1 : decode prog_39_method_4_code 1 = .ok (.aload_n 1, 1) := by decide +kernel
theorem xn_2 : decode prog_39_method_4_code 2 = .ok (.invokespecial 13, 3) := by decide +kernel
theorem xn_5 : decode prog_39_method_4_code 5 = .ok (.return_, 1) := by decide +kernel
theorem fr_throwN (C : fr_C X p c cc nL own s m args) (B : fr_H X s M H locs) (hlt : l.stackTraces = false) (hex : ∀ x ∈ c.exceptionTable.toList, False) (hlk : meth.locks = false) {ik ic is id pk : Nat} {text : String} (hw : xw_n own ik ic) (hstr : (own, is, text, id) ∈ fw_strs) {o : fw_O} {Qc : Array Value → State → Outcome → State → Prop} {mc ms : Nat} (ho : o = (.inr 3, M)) (hls : ls.size = nL) (hRf : 5 < R.frames) (hRl : (rest.map fun v => v.category).sum + 82 ≤ R.locals) (hRc : cells + 1 ≤ R.cells) (hRs : slots + 6 ≤ R.slots) (hc : cells + 1 ≤ mc) (hs : slots + 6 ≤ ms) (d0 : decode cc pc = .ok (.new ik, 3)) (d3 : decode cc (pc + 3) = .ok (.dup, 1)) (d4 : (decode cc (pc + 4) = .ok (.ldc is, 2) ∧ pk = pc + 6) ∨ (decode cc (pc + 4) = .ok (.ldc_w is, 3) ∧ pk = pc + 7)) (d6 : decode cc pk = .ok (.invokespecial ic, 3)) (d9 : decode cc (pk + 3) = .ok (.athrow, 1)) :
    W p l e R s m args below meth c H locs cells slots (vx_MQ below Qc (fw_Qx X o) args s mc ms (fw_A X)) (F0 m pc ls rest) := by
  obtain ⟨h1, h2, h3, h4, h5⟩ := hw
  have hat : ∀ w ∈ xa_at own ic (fw_xn 3) 13 prog_39_method_4_code "java/lang/RuntimeException" ["java/lang/Exception"], w.before args s = true := vx_hat (B := Cond.castable (fw_xn 3) (fw_xn 3) :: fw_dcl.map Cond.declares) (fun w hw => C.1.2.2.2.2 w (h3 w hw)) h4 (fr_bad C (by decide))
  obtain ⟨b, hP, hD, hS⟩ := B
  refine xa_throw C.1.1 C.1.2.1 hlt xn_0 xn_1 xn_2 xn_5 C.1.2.2.2.1 (by decide +kernel) (by decide +kernel) (by decide +kernel) (C.1.2.2.2.2 _ h1) (C.1.2.2.2.2 _ h2) (C.2.1.2.2.2.1 _ hstr) hat h5 C.2.2.1.1 C.2.2.1.2.1 hS (hls.trans C.1.2.2.1.symm) d0 d3 d4 d6 d9 (fun x hx => (hex x hx).elim) hRf hRl hRc hRs hlk ?_ hS.2.2 hc hs
  intro t hvm hsz hsm
  exact ⟨(3, M), ho, ⟨rfl, b, hP.kept (fun k q hq => hsm q.1 (va_at.lt (hP k q hq))), hD⟩, Nat.le_trans hS.1 hsz, fun q hq hA => by rw [hsm q (Nat.lt_of_lt_of_le hq hS.1)]; exact hS.2.1 q hq hA⟩
theorem fr_throw (C : fr_C X p c cc nL own s m args) (B : fr_H X s M H locs) (hlt : l.stackTraces = false) (hex : ∀ x ∈ c.exceptionTable.toList, False) (hlk : meth.locks = false) {n ik ic is id : Nat} {names : List String} {text : String} (hw : xw_t own n ik ic names) (hstr : (own, is, text, id) ∈ fw_strs) {o : fw_O} {Qc : Array Value → State → Outcome → State → Prop} {mc ms : Nat} (ho : o = (.inr n, M)) (hls : ls.size = nL) (hRf : names.length + 3 < R.frames) (hRl : (rest.map fun v => v.category).sum + (13 * (names.length + 1) + 43) ≤ R.locals) (hRc : cells + 1 ≤ R.cells) (hRs : slots + 6 ≤ R.slots) (hc : cells + 1 ≤ mc) (hs : slots + 6 ≤ ms) (d0 : decode cc pc = .ok (.new ik, 3)) (d3 : decode cc (pc + 3) = .ok (.dup, 1)) (d4 : decode cc (pc + 4) = .ok (.ldc is, 2)) (d6 : decode cc (pc + 6) = .ok (.invokespecial ic, 3)) (d9 : decode cc (pc + 9) = .ok (.athrow, 1)) :
    W p l e R s m args below meth c H locs cells slots (vx_MQ below Qc (fw_Qx X o) args s mc ms (fw_A X)) (F0 m pc ls rest) := by
  have hat := fr_hat C hw
  obtain ⟨hn, h1, h2, h3, h4, h5, h6, h7⟩ := hw
  obtain ⟨b, hP, hD, hS⟩ := B
  refine vx_throwS C.1.1 C.1.2.1 hlt C.1.2.2.2.1 h6 h7 (C.1.2.2.2.2 _ h1) (C.1.2.2.2.2 _ h2) (C.2.1.2.2.2.1 _ hstr) hat h5 C.2.2.1.1 C.2.2.1.2.1 hS (hls.trans C.1.2.2.1.symm) d0 d3 d4 d6 d9 (fun x hx => (hex x hx).elim) hRf hRl hRc hRs hlk ?_ hS.2.2 hc hs
  intro t hvm hsz hsm
  exact ⟨(n, M), ho, ⟨rfl, b, hP.kept (fun k q hq => hsm q.1 (va_at.lt (hP k q hq))), hD⟩, Nat.le_trans hS.1 hsz, fun q hq hA => by rw [hsm q (Nat.lt_of_lt_of_le hq hS.1)]; exact hS.2.1 q hq hA⟩
theorem fr_throwW (C : fr_C X p c cc nL own s m args) (B : fr_H X s M H locs) (hlt : l.stackTraces = false) (hex : ∀ x ∈ c.exceptionTable.toList, False) (hlk : meth.locks = false) {n ik ic is id : Nat} {names : List String} {text : String} (hw : xw_t own n ik ic names) (hstr : (own, is, text, id) ∈ fw_strs) {o : fw_O} {Qc : Array Value → State → Outcome → State → Prop} {mc ms : Nat} (ho : o = (.inr n, M)) (hls : ls.size = nL) (hRf : names.length + 3 < R.frames) (hRl : (rest.map fun v => v.category).sum + (13 * (names.length + 1) + 43) ≤ R.locals) (hRc : cells + 1 ≤ R.cells) (hRs : slots + 6 ≤ R.slots) (hc : cells + 1 ≤ mc) (hs : slots + 6 ≤ ms) (d0 : decode cc pc = .ok (.new ik, 3)) (d3 : decode cc (pc + 3) = .ok (.dup, 1)) (d4 : decode cc (pc + 4) = .ok (.ldc_w is, 3)) (d7 : decode cc (pc + 7) = .ok (.invokespecial ic, 3)) (d10 : decode cc (pc + 10) = .ok (.athrow, 1)) :
    W p l e R s m args below meth c H locs cells slots (vx_MQ below Qc (fw_Qx X o) args s mc ms (fw_A X)) (F0 m pc ls rest) := by
  have hat := fr_hat C hw
  obtain ⟨hn, h1, h2, h3, h4, h5, h6, h7⟩ := hw
  obtain ⟨b, hP, hD, hS⟩ := B
  refine vx_throwSW C.1.1 C.1.2.1 hlt C.1.2.2.2.1 h6 h7 (C.1.2.2.2.2 _ h1) (C.1.2.2.2.2 _ h2) (C.2.1.2.2.2.1 _ hstr) hat h5 C.2.2.1.1 C.2.2.1.2.1 hS (hls.trans C.1.2.2.1.symm) d0 d3 d4 d7 d10 (fun x hx => (hex x hx).elim) hRf hRl hRc hRs hlk ?_ hS.2.2 hc hs
  intro t hvm hsz hsm
  exact ⟨(n, M), ho, ⟨rfl, b, hP.kept (fun k q hq => hsm q.1 (va_at.lt (hP k q hq))), hD⟩, Nat.le_trans hS.1 hsz, fun q hq hA => by rw [hsm q (Nat.lt_of_lt_of_le hq hS.1)]; exact hS.2.1 q hq hA⟩
/-! ends -/
theorem fr_iret (C : fr_C X p c cc nL own s m args) (B : fr_H X s M H locs) {ty : FieldType} {v : Int32} {o : fw_O} {XC : String → State → State → Prop} {mc ms : Nat} (hr : meth.sig.returnType = some ty) (hn : narrow ty (.int v) = .int v) (hlk : meth.locks = false) (ho : o = (.inl v, M)) (hc : cells ≤ mc) (hs : slots ≤ ms) (hdg : decode cc pc = .ok (.ireturn, 1)) : W p l e R s m args below meth c H locs cells slots (vx_MQ below (fw_Qi X o) XC args s mc ms (fw_A X)) (F0 m pc ls [.int v]) := by
  obtain ⟨b, hP, hD, hS⟩ := B
  exact vx_ret (W.widen hc hs (W.zret C.1.1 C.1.2.1 hr hn (fun t ht hW => ⟨⟨v, M, rfl, ho, b, by rw [ht]; exact hP, hD⟩, hS.F ht⟩) hS.2.2 hdg hlk))
theorem fr_vret (C : fr_C X p c cc nL own s m args) (B : fr_H X s M H locs) {o : fw_O} {XC : String → State → State → Prop} {mc ms : Nat} (hr : meth.sig.returnType = none) (hlk : meth.locks = false) (ho : o = (.inl 0, M)) (hc : cells ≤ mc) (hs : slots ≤ ms) (hdg : decode cc pc = .ok (.return_, 1)) : W p l e R s m args below meth c H locs cells slots (vx_MQ below (fw_Qv X o) XC args s mc ms (fw_A X)) (F0 m pc ls []) := by
  obtain ⟨b, hP, hD, hS⟩ := B
  exact vx_ret (W.widen hc hs (W.vret C.1.1 C.1.2.1 hr (fun t ht hW => ⟨⟨M, rfl, ho, b, by rw [ht]; exact hP, hD⟩, hS.F ht⟩) hS.2.2 hdg hlk))
end FR
/-! the words in which the F's are written, and how a walk takes them apart -/
def lt_x {α β : Type} (x : α) (f : α → β) : β := f x
theorem lt_e {α β : Type} {x : α} {f : α → Option β} {o : β} (h : lt_x x f = some o) : ∃ y, y = x ∧ f y = some o := ⟨x, rfl, h⟩
theorem it_t {c : Prop} [Decidable c] {α : Type} {A B : Option α} {o : α} (h : (if c then A else B) = some o) (hc : c) : A = some o := by rwa [if_pos hc] at h
theorem it_f {c : Prop} [Decidable c] {α : Type} {A B : Option α} {o : α} (h : (if c then A else B) = some o) (hc : ¬ c) : B = some o := by rwa [if_neg hc] at h
theorem of_g {c : Prop} [Decidable c] {α : Type} {A : Option α} {o : α} (h : (if c then A else none) = some o) : c ∧ A = some o := by
  by_cases hc : c
  · exact ⟨hc, by rwa [if_pos hc] at h⟩
  · rw [if_neg hc] at h
    cases h
def bd_x {α β : Type} (x : Option α) (f : α → Option β) : Option β := match x with
  | none => none
  | some a => f a
theorem bx_e {α β : Type} {x : Option α} {f : α → Option β} {o : β} (h : bd_x x f = some o) : ∃ a, x = some a ∧ f a = some o := by
  cases x with
  | none => cases h
  | some a => exact ⟨a, rfl, h⟩
def bd_p {α γ β : Type} (x : Option (α × γ)) (f : α → γ → Option β) : Option β := match x with
  | none => none
  | some a => f a.1 a.2
theorem bp_e {α γ β : Type} {x : Option (α × γ)} {f : α → γ → Option β} {o : β} (h : bd_p x f = some o) : ∃ a c, x = some (a, c) ∧ f a c = some o := by
  cases x with
  | none => cases h
  | some a => exact ⟨a.1, a.2, rfl, h⟩
def bd_t (x : Option fw_O) (f : Int32 → fw_M → Option fw_O) : Option fw_O := match x with
  | none => none
  | some (.inl r, m) => f r m
  | some (.inr e, m) => some (.inr e, m)
theorem bt_e {x : Option fw_O} {f : Int32 → fw_M → Option fw_O} {o : fw_O} (h : bd_t x f = some o) : ∃ oc, x = some oc ∧ bd_t (some oc) f = some o := by
  cases x with
  | none => cases h
  | some a => exact ⟨a, rfl, h⟩
theorem oi_e {r r9 : Int32} {M M9 : fw_M} (h : ((.inl r, M) : fw_O) = (.inl r9, M9)) : r = r9 ∧ M = M9 := by
  cases h
  exact ⟨rfl, rfl⟩
theorem nz_b {v : Int32} (h : v = 0 ∨ v = 1) : narrow .boolean (.int v) = .int v := by rcases h with rfl | rfl <;> rfl
theorem nz_c {v : Int32} (h : fw_nc v = v) : narrow .char (.int v) = .int v := by
  have e : narrow .char (.int v) = .int (fw_nc v) := by
    unfold fw_nc
    rw [vp_nar_char]
    rfl
  rw [e, h]
def fw_cp (M : fw_M) (k k1 sp dp n : Nat) : fw_M := fw_w M k1 (va_cpy (M k) (M k1) sp dp n)
theorem fw_inl {ws : List Cond} (ps : List Nat) (h : ws = ps.filterMap (fun i => lw_tbl[i]?)) (hg : ws.all goodWord = true) : ∀ w ∈ ws, w ∈ fw_GW := by
  intro w hw
  have h1 := List.all_eq_true.mp hg w hw
  rw [h] at hw
  obtain ⟨i, -, hi⟩ := List.mem_filterMap.mp hw
  exact fw_in hi h1
section FR2
variable {p : Program} {l : Launch} {e : Env} {R : Room} {s : State} {m : MethodId} {args : Array Value} {below : List Frame} {meth : Method} {c : Code} {H : Heap} {locs : List Loc} {cells slots : Nat} {Q : State → Prop}
variable {cc : ByteArray} {pc nL : Nat} {ls : Array Slot} {rest : List Value} {X : fw_X} {M : fw_M} {own : String} {k : Nat}
theorem fr_sw (hexec : p.tables.exec = Jvm.exec) (hb : c.code = cc) {dflt lo hi : Int} {offs : Array Int} {len tgt : Nat} {x : Int32} (hdg : decode cc pc = .ok (.tableswitch dflt lo hi offs, len)) (hall : ∀ v : Int, lo ≤ v → v ≤ hi → x = Int32.ofInt v → offs[(v - lo).toNat]? = some dflt) (ht : (pc : Int) + dflt = (tgt : Int))
    (kk : W p l e R s m args below meth c H locs cells slots Q (F0 m tgt ls rest)) : W p l e R s m args below meth c H locs cells slots Q (F0 m pc ls (.int x :: rest)) := by
  by_cases h : x.toInt < lo ∨ hi < x.toInt
  · exact lv_tableOut hexec hb hdg h ht kk
  · have h1 : ¬ x.toInt < lo := fun q => h (Or.inl q)
    have h2 : ¬ hi < x.toInt := fun q => h (Or.inr q)
    exact lv_tableIn hexec hb hdg h1 h2 (hall x.toInt (by omega) (by omega) (by simp)) ht kk
theorem fr_cNi (C : fr_C X p c cc nL RX7 s m args) (B : fr_H X s M H locs) {rm : Room} {o : fw_O} {As st0 : List Value} (hM : ct_i l X yX8_isZone cX8_isZone 1 (some .boolean) rm M As o) (hw : yw_S yX8_isZone cX8_isZone 1 (some .boolean) 1) (hn : As.length = 1) (hls : ls.size = nL) (hst : st0 = As.reverse ++ rest) (hrs : (rest.map fun v => v.category).sum ≤ 8) (hR : rm.frames + 1 ≤ R.frames ∧ 8 + (1 + 11) + rm.locals ≤ R.locals) (hf : cells + rm.cells ≤ R.cells ∧ slots + rm.slots ≤ R.slots) (hdg : decode cc pc = .ok (.invokestatic 56, 3))
    (kx : fr_X p l e R s m args below meth c (cells + rm.cells) (slots + rm.slots) Q X o pc ls rest)
    (kk : ∀ (r : Int32) (M1 : fw_M) (H1 : Heap) (locs1 : List Loc), o = (.inl r, M1) → fr_H X s M1 H1 locs1 → W p l e R s m args below meth c H1 locs1 (cells + rm.cells) (slots + rm.slots) Q (F0 m (pc + 3) ls (.int r :: rest))) : W p l e R s m args below meth c H locs cells slots Q (F0 m pc ls st0) := by
  have B0 := B
  obtain ⟨b, hP, hD, hS⟩ := B0
  obtain ⟨h1, h3, h4, h5, h6, h7⟩ := hw
  have hG : GoodIn fw_GW (.code yX8_isZone cX8_isZone 1 (some .boolean) :: fw_GW) := fun w hw => by
    have hm : w ∈ fw_GW := by
      rcases List.mem_cons.mp hw with rfl | h
      · exact h4
      · exact h
    exact ⟨hm, fw_good w hm⟩
  refine vx_calli (vx_runSN (As := As) (rest := rest) (rm := rm) (mc := rm.cells) (ms := rm.slots) C.1 hM ⟨va_cnB 1 C.1.2.2.2.2 hG rfl rfl rfl C.2.1.2.2.1 (C.1.2.2.2.2 _ h3) ⟨h5, h6, h7⟩ hR, C.1.2.2.2.2 _ h1, trivial⟩ ⟨fw_blind X M _, fun U hU hW => fr_pre C B hU hW _⟩ rfl hn hls hst (lv_room hrs) hdg hf) hS (fun _ _ h => h) (fun _ h => h) (fun _ _ h => h) ?_ ?_
  · intro E ce q9 u t H1 locs1 ht hvm hpx hB hz1 hk1 hS1 hce hcv hcl
    obtain ⟨rfl, b1, hP1, hD1⟩ := hB
    rw [ht] at hP1
    exact kx u.1 u.2 ce q9 H1 locs1 hpx ⟨b1, hP1, hD1, hS1⟩ hce hcv hcl
  · intro r u t H1 locs1 ht hvm hpx hB hz1 hk1 hS1
    obtain ⟨b1, hP1, hD1⟩ := hB
    rw [ht] at hP1
    exact kk r u H1 locs1 hpx ⟨b1, hP1, hD1, hS1⟩
theorem fr_copy (C : fr_C X p c cc nL own s m args) (B : fr_H X s M H locs) {k1 n0 n1 index : Nat} (ha0 : ar_I X k n0) (ha1 : ar_I X k1 n1) {sp dp n : Int32} (hl : Cond.methodLink own index arraycopyName ∈ fw_GW) (hnat : Cond.native arraycopyName ∈ fw_GW) (hsta : Cond.static arraycopyName ∈ fw_GW) (hsys : Cond.initialized "java/lang/System" ∈ fw_GW) (hls : ls.size = nL) (hg : ¬ sp < 0 ∧ ¬ dp < 0 ∧ ¬ n < 0 ∧ sp.toNatClampNeg + n.toNatClampNeg ≤ n0 ∧ dp.toNatClampNeg + n.toNatClampNeg ≤ n1) (hRf : 1 ≤ R.frames) (hRl : (rest.map fun v => v.category).sum + (nativeFrameWords "java/lang/System" "arraycopy" 5 + 11) ≤ R.locals) (hdg : decode cc pc = .ok (.invokestatic index, 3))
    (kk : ∀ (H1 : Heap) (locs1 : List Loc), fr_H X s (fw_cp M k k1 sp.toNatClampNeg dp.toNatClampNeg n.toNatClampNeg) H1 locs1 → W p l e R s m args below meth c H1 locs1 cells slots Q (F0 m (pc + 3) ls rest)) : W p l e R s m args below meth c H locs cells slots Q (F0 m pc ls (.int n :: .int dp :: .ref (fw_ad X k1) :: .int sp :: .ref (fw_ad X k) :: rest)) := by
  obtain ⟨b, hP, hD, hS⟩ := B
  obtain ⟨hk, h7, hE⟩ := ha0
  obtain ⟨hk1, h71, hE1⟩ := ha1
  obtain ⟨q, hq0, hq⟩ := fw_get (X := X) (b := b) (M := M) hk
  obtain ⟨q1, hq10, hq1⟩ := fw_get (X := X) (b := b) (M := M) hk1
  rw [fw_rho_ne h7, hE] at hq
  rw [fw_rho_ne h71, hE1] at hq1
  obtain ⟨g1, g2, g3, g4, g5⟩ := hg
  refine va_copyi C.1.1 C.1.2.1 (C.1.2.2.1.trans hls.symm) C.1.2.2.2.1 (C.1.2.2.2.2 _ hl) (C.1.2.2.2.2 _ hnat) (C.1.2.2.2.2 _ hsta) (C.1.2.2.2.2 _ hsys) C.2.1.1 hP hD hS q q1 0 0 hq hq1 rfl rfl rfl g1 g2 g3 g4 g5 (fun _ _ => rfl) hRf hRl hdg (fun H1 locs1 hP1 hD1 hS1 => kk H1 locs1 ⟨b, ?_, ?_, hS1⟩)
  · have hP1 : va_P (fw_D X) fw_cl ((fw_L X b M).set q1 (fw_ad X k1, fw_ai X n1 (va_cpy (M k) (M k1) sp.toNatClampNeg dp.toNatClampNeg n.toNatClampNeg))) H1 := hP1
    rw [← hE1 b, ← fw_rho_ne (X := X) (b := b) h71, fw_set hq10] at hP1
    exact hP1
  · have hD1 : va_D (fw_A X) ((fw_L X b M).set q1 (fw_ad X k1, fw_ai X n1 (va_cpy (M k) (M k1) sp.toNatClampNeg dp.toNatClampNeg n.toNatClampNeg))) := hD1
    rw [← hE1 b, ← fw_rho_ne (X := X) (b := b) h71, fw_set hq10] at hD1
    exact hD1
end FR2
