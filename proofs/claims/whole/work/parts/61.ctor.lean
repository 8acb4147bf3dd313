/-! objects in the making: a block of cells from a on, at the heap's end -/
def cn_B (X : fw_X) (H : Heap) (a : Nat) (ws : List va_E) : Prop := ∀ (j : Nat) (e : va_E), ws[j]? = some e → va_at (fw_D X) fw_cl (a + j, e) H
def cn_H (X : fw_X) (s : State) (a : Nat) (ws : List va_E) (H : Heap) (locs : List Loc) : Prop := H.size = a + ws.length ∧ cn_B X H a ws ∧ (∀ q, q < a → H[q]? = s.heap[q]?) ∧ ∀ l ∈ locs, a ≤ l.base
/-- the array classes over arrays and over states -/
def fw_N (U : State) : Prop := (Cond.arrayOver (.array .int)).before #[] U = true ∧ va_AO "TramNetwork$State" U
def cn_P (X : fw_X) (a : Nat) (av : List Value) (e0 : va_E) : Array Value → State → Prop := va_Pc av (fun U => (U.heap.size = a + 1 ∧ va_at (fw_D X) fw_cl (a, e0) U.heap) ∧ fw_T X U ∧ fw_V X U U.heap ∧ fw_z0 X ≤ a ∧ fw_N U)
def cn_Q (X : fw_X) (a : Nat) (ws : List va_E) : Array Value → State → Outcome → State → Prop := fun _ st oc t => oc = .returned none ∧ t.heap.size = a + ws.length ∧ cn_B X t.heap a ws ∧ ∀ q, q < a → t.heap[q]? = st.heap[q]?
def ct_n (l : Launch) (X : fw_X) (y : MethodName) (cc : ByteArray) (maxL : Nat) (rm : Room) (a : Nat) (av : List Value) (e0 : va_E) (ws : List va_E) : Prop := Met l y (.code y cc maxL none :: fw_GW) rm (cn_P X a av e0) (cn_Q X a ws) rm.cells rm.slots (fun q => a ≤ q)
theorem mw_overB (vm : Vm) (comp : ClassId) : (vm.bare.classes.findIdx? fun (x : Class) => match x.kind with | .array component _ => component == comp | _ => false) = (vm.classes.findIdx? fun (x : Class) => match x.kind with | .array component _ => component == comp | _ => false) := va_idx_bare vm comp
theorem cn_blind (X : fw_X) (a : Nat) (av : List Value) (e0 : va_E) : FrameBlind (cn_P X a av e0) := fun b U g mk q => ⟨q.1, q.2.1, q.2.2.1.call g mk b, fw_V.moved (u := U) (U := U.calling g mk b) (Vm.Alike.refl U.vm) q.2.2.2.1, q.2.2.2.2.1, q.2.2.2.2.2.1, q.2.2.2.2.2.2⟩
section CN
variable {p : Program} {l : Launch} {e : Env} {R : Room} {s : State} {m : MethodId} {args : Array Value} {below : List Frame} {meth : Method} {c : Code} {H : Heap} {locs : List Loc} {cells slots : Nat} {Q : State → Prop}
variable {cc : ByteArray} {pc nL : Nat} {ls : Array Slot} {rest : List Value} {X : fw_X} {own : String} {a : Nat} {ws : List va_E}
theorem cn_open {y : MethodName} {maxL : Nat} {rm : Room} {av : List Value} {e0 : va_E} {Qc : Array Value → State → Outcome → State → Prop} {mc ms : Nat} {free : Addr → Prop} (hy : plainName y.cls = true) (hml : (lg_sl av).length ≤ maxL)
    (body : ∀ (p : Program) (e : Env) (s : State) (m : MethodId) (below : List Frame) (meth : Method) (c : Code) (ls : Array Slot), fr_C X p c cc maxL y.cls s m av.toArray → fw_N s → s.heap.size = a + 1 → fw_z0 X ≤ a → meth.sig.returnType = none → meth.locks = false → meth.name = y.name → lv_has ls maxL (lv_args 0 av) → cn_H X s a [e0] s.heap [] →
      W p l e rm s m av.toArray below meth c s.heap [] 0 0 (MQ below Qc av.toArray s mc ms free) (F0 m 0 ls [])) : Met l y (.code y cc maxL none :: fw_GW) rm (cn_P X a av e0) Qc mc ms free := by
  refine Met.ofW (cc := cc) (maxL := maxL) (ret := none) hy rfl ?_
  intro p e s m args below meth c s₁ B hml2 hv
  obtain ⟨rfl, ⟨hsz, hat⟩, hT, hV, hz, hN⟩ := hv
  have hts := atoms_spec (ws := .code y cc maxL none :: fw_GW) B.pre
  have hl := lv_entry av (n := maxL) hml
  rw [lg_entry_eq]
  refine body p e s m below meth c _ ⟨⟨B.exec, B.bytes, hml2, findClass_of_methodNamed B.named, fun w hw => hts w (List.mem_cons_of_mem _ hw)⟩, hT, hV, by omega⟩ hN hsz hz B.returns B.notSynchronized (name_of_methodNamed B.named B.method).1 hl ⟨hsz, fun j e9 hj => ?_, fun q _ => rfl, fun l hl => nomatch hl⟩
  rcases j with _ | j
  · cases Option.some.inj hj
    exact hat
  · cases hj
theorem cn_add {H1 : Heap} {xs : List va_E} (B : cn_H X s a ws H locs) (z1 : H1.size = H.size + xs.length) (o1 : ∀ q, q < H.size → H1[q]? = H[q]?) (hx : ∀ j e, xs[j]? = some e → va_at (fw_D X) fw_cl (a + ws.length + j, e) H1) {L : List Loc} (hL : ∀ l ∈ L, a ≤ l.base) : cn_H X s a (ws ++ xs) H1 (locs ++ L) := by
  obtain ⟨hz, hB, hO, hl⟩ := B
  refine ⟨by rw [z1, hz, List.length_append]; omega, fun j e9 hj => ?_, fun q hq => (o1 q (by omega)).trans (hO q hq), fun l h => ?_⟩
  · by_cases h : j < ws.length
    · rw [List.getElem?_append_left h] at hj
      exact (hB j e9 hj).kept (o1 (a + j) (by omega))
    · rw [List.getElem?_append_right (by omega)] at hj
      have h2 := hx _ _ hj
      rw [show a + ws.length + (j - ws.length) = a + j by omega] at h2
      exact h2
  · rcases List.mem_append.mp h with h | h
    · exact hl l h
    · exact hL l h
theorem cn_new (C : fr_C X p c cc nL own s m args) (B : cn_H X s a ws H locs) {C9 : String} {T9 : u_T} {N ci index q : Nat} (hc : fw_cl[ci]? = some (C9, T9, N)) (hin : ∀ w ∈ u_ws C9 T9 N, w ∈ fw_GW) (ty : Nat → FieldType) (hty : ∀ k, k < N → parseFieldDescriptor (T9 k).2.2.1 = some (ty k)) (hcl : Cond.classLink own index C9 ∈ fw_GW) (hinst : Cond.instantiable C9 N ∈ fw_GW) (hini : Cond.initialized C9 ∈ fw_GW) {fs : List Value} (hfs : ∀ j, j < N → defaultValue (ty j) = vp_V fs j) (hq : a + ws.length = q) (hcells : cells + 1 ≤ R.cells) (hslots : slots + N ≤ R.slots) (hdg : decode cc pc = .ok (.new index, 3))
    (kk : ∀ H1 : Heap, cn_H X s a (ws ++ [.inr (ci, fs)]) H1 locs → W p l e R s m args below meth c H1 locs (cells + 1) (slots + N) Q (F0 m (pc + 3) ls (.ref q :: rest))) : W p l e R s m args below meth c H locs cells slots Q (F0 m pc ls rest) := by
  subst hq
  have hKn := C.2.1.1.1 ci _ hc
  refine W.newcK C.1.1 C.1.2.1 C.1.2.2.2.1 (C.1.2.2.2.2 _ hcl) (C.1.2.2.2.2 _ hinst) (C.1.2.2.2.2 _ hini) rfl hdg hcells hslots hKn.2.1 B.1 fun H1 kC hkC e1 z1 o1 => ?_
  have h9 := cn_add (xs := [.inr (ci, fs)]) (L := []) (H1 := H1) B (by rw [z1, B.1]; rfl) (fun q hq => o1 q (by rw [← B.1]; exact hq)) (fun j e9 hj => by
    rcases j with _ | j
    · cases Option.some.inj hj
      exact ⟨_, hc, (u_born ty C.1.2.2.2.2 hin hKn hkC e1 hty).to hfs⟩
    · cases hj) (fun l h => nomatch h)
  rw [List.append_nil] at h9
  exact kk H1 h9
theorem cn_newa (C : fr_C X p c cc nL own s m args) (B : cn_H X s a ws H locs) {atype : ArrayType} {ty : FieldType} {k q : Nat} (hty : newarray.typeOf atype = ty) (hk : (fw_tys X)[k]? = some (fw_kp X k, ty)) (hra : va_RA s (fw_kp X k) ty → s.vm.findClass ("[" ++ ty.toString) = some (fw_kp X k)) (hw : Cond.arrayClass ty ∈ fw_GW) {n : Int32} {N : Nat} {a0 : vp_A} (ha : vp_cell (fw_kp X k) a0 = arrV (fw_kp X k) N (fun _ => defaultValue ty)) (hn : ¬ n < 0) (hN : n.toNatClampNeg = N) (hbytes : N * componentBytes ty ≤ 536870912) (hq : a + ws.length = q) (hcells : cells + 1 ≤ R.cells) (hslots : slots + N ≤ R.slots) (hdg : decode cc pc = .ok (.newarray atype, 2))
    (kk : ∀ H1 : Heap, cn_H X s a (ws ++ [.inl (fw_kp X k, a0)]) H1 locs → W p l e R s m args below meth c H1 locs (cells + 1) (slots + N) Q (F0 m (pc + 2) ls (.ref q :: rest))) : W p l e R s m args below meth c H locs cells slots Q (F0 m pc ls (.int n :: rest)) := by
  subst hq
  subst hty
  refine va_newaK C.1.1 C.1.2.1 (C.1.2.2.2.2 _ hw) rfl hdg rfl hn hN hbytes hcells hslots B.1 fun H1 cA e1 z1 o1 hAr hNm => ?_
  have hcA : cA = fw_kp X k := Option.some.inj (hNm.symm.trans (hra (C.2.1.1.2 k _ hk).2))
  subst hcA
  have h9 := cn_add (xs := [.inl (fw_kp X k, a0)]) (L := []) (H1 := H1) B (by rw [z1, B.1]; rfl) (fun q hq => o1 q (by rw [← B.1]; exact hq)) (fun j e9 hj => by
    rcases j with _ | j
    · cases Option.some.inj hj
      show H1[a + ws.length]? = some (vp_cell _ a0)
      rw [ha]
      exact e1
    · cases hj) (fun l h => nomatch h)
  rw [List.append_nil] at h9
  exact kk H1 h9
theorem cn_set {e0 e1 : va_E} {H1 : Heap} {j0 : Nat} (B : cn_H X s a (e0 :: ws) H locs) (z : H1.size = H.size) (o : ∀ q, q ≠ a → H1[q]? = H[q]?) (h : va_at (fw_D X) fw_cl (a, e1) H1) : cn_H X s a (e1 :: ws) H1 (locs ++ [⟨a, j0⟩]) := by
  obtain ⟨hz, hB, hO, hl⟩ := B
  refine ⟨by rw [z, hz]; rfl, fun j e9 hj => ?_, fun q hq => (o q (Nat.ne_of_lt hq)).trans (hO q hq), fun l h => ?_⟩
  · rcases j with _ | j
    · cases Option.some.inj hj
      exact h
    · exact (hB (j + 1) e9 hj).kept (o (a + (j + 1)) (by omega))
  · rcases List.mem_append.mp h with h | h
    · exact hl l h
    · rcases List.mem_singleton.mp h with rfl
      exact Nat.le_refl _
theorem cn_put (C : fr_C X p c cc nL own s m args) {fs : List Value} {ci : Nat} (B : cn_H X s a (.inr (ci, fs) :: ws) H locs) {C9 ref : String} {T9 : u_T} {N index j : Nat} (hc : fw_cl[ci]? = some (C9, T9, N)) (hin : ∀ w ∈ u_ws C9 T9 N, w ∈ fw_GW) (ty0 : Nat → FieldType) (hty : ∀ k, k < N → parseFieldDescriptor (T9 k).2.2.1 = some (ty0 k)) (hnm : ∀ a, a < N → ∀ b, b < N → a ≠ b → (T9 a).2.1 ≠ (T9 b).2.1) (hj : j < N) (hl : Cond.fieldLink own index ref (T9 j).2.1 (T9 j).2.2.1 ∈ fw_GW) (hsame : ∀ x, s.fieldFound? (T9 j).1 (T9 j).2.1 (T9 j).2.2.1 = some x → s.fieldFound? ref (T9 j).2.1 (T9 j).2.2.1 = some x) (hfin : (T9 j).2.2.2 = false ∨ (meth.name = "<init>" ∧ (T9 j).1 = own)) {v : Value} (hn : narrow (ty0 j) v = v) (hfit : fits (ty0 j) v = true) (hlen : j < fs.length) (hdg : decode cc pc = .ok (.putfield index, 3))
    (kk : ∀ (H1 : Heap) (locs1 : List Loc), cn_H X s a (.inr (ci, fs.set j v) :: ws) H1 locs1 → W p l e R s m args below meth c H1 locs1 cells slots Q (F0 m (pc + 3) ls rest)) : W p l e R s m args below meth c H locs cells slots Q (F0 m pc ls (v :: .ref a :: rest)) := by
  have hK := C.2.1.1
  have hap := va_apart (own := own) C.1.2.2.2.2 hin ty0 hty hnm hK hc
  obtain ⟨r, h1, cell, q1, q2, q3, q4⟩ := B.2.1 0 _ rfl
  have hr : r = (C9, T9, N) := Option.some.inj (h1.symm.trans hc)
  subst hr
  obtain ⟨hS, hfc, kC, hkC, hkind⟩ := hK.1 ci _ hc
  obtain ⟨cf, kf, fi, f, hi, hsl⟩ := hS j hj
  have hlay := C.1.2.2.2.2 _ (hin _ (u_in_lay hj))
  have hst := (u_facts hfc hkC (u_lays C.1.2.2.2.2 hin hj) hi).1
  have hfin2 : ∀ (H' : Heap), H'[a]? = some (cell.setSlot f.slot v) → H'.size = H.size → (∀ q, q ≠ a → H'[q]? = H[q]?) → cn_H X s a (.inr (ci, fs.set j v) :: ws) H' (locs ++ [⟨a, f.slot⟩]) := fun H' e1 e2 e3 => by
    rw [hsl] at e1 ⊢
    exact cn_set B e2 e3 ⟨_, hc, t_OB.to (V := updV (vp_V fs) j v) ⟨_, e1, q2, q3, t_set q4 hap hj v⟩ (fun i _ => vp_updV_set hlen v i)⟩
  rcases hfin with hfin | ⟨hin2, hdecl⟩
  · unfold u_lay at hlay
    by_cases hF : (T9 j).2.2.2 = true
    · rw [hF] at hfin
      cases hfin
    · rw [if_neg hF] at hlay
      have h6 := u_store hfc hkC hkind hlay hi (hty j hj) hn hfit
      exact W.putK C.1.1 C.1.2.1 (f := f) ⟨C.1.2.2.2.1, C.1.2.2.2.2 _ hl, ⟨_, _, _, hsame _ hi⟩, hst⟩ (by rw [q2]; exact h6) q1 q3 (by rw [hsl]; exact k2_hasslot (q4 j hj)) rfl rfl hdg fun H' e1 e2 e3 => kk H' _ (hfin2 H' e1 e2 e3)
  · unfold u_lay at hlay
    by_cases hF : (T9 j).2.2.2 = true
    · rw [if_pos hF] at hlay
      have hcf : m.cls = cf := by
        obtain ⟨_, _, c', _, _, _, -, -, hf', -, -, -, hown2, -⟩ := Cond.laysFinal_spec hlay
        have e1 : c' = cf := by
          have h9 := hi.symm.trans hf'
          simp at h9
          exact h9.1.symm
        rw [hdecl] at hown2
        rw [← e1]
        exact Option.some.inj (C.1.2.2.2.1.symm.trans hown2)
      have h6 := u_fits hfc hkC hkind (Or.inr hlay) hi (hty j hj) hn hfit
      exact W.putFinK C.1.1 C.1.2.1 C.1.2.2.2.1 (C.1.2.2.2.2 _ hl) (hsame _ hi) hst hcf hin2 (by rw [q2]; exact h6) q1 q3 (by rw [hsl]; exact k2_hasslot (q4 j hj)) rfl rfl hdg fun H' e1 e2 e3 => kk H' _ (hfin2 H' e1 e2 e3)
    · rw [if_neg hF] at hlay
      have h6 := u_store hfc hkC hkind hlay hi (hty j hj) hn hfit
      exact W.putK C.1.1 C.1.2.1 (f := f) ⟨C.1.2.2.2.1, C.1.2.2.2.2 _ hl, ⟨_, _, _, hsame _ hi⟩, hst⟩ (by rw [q2]; exact h6) q1 q3 (by rw [hsl]; exact k2_hasslot (q4 j hj)) rfl rfl hdg fun H' e1 e2 e3 => kk H' _ (hfin2 H' e1 e2 e3)
/-- Object's constructor -/
theorem cn_obj (C : fr_C X p c cc nL own s m args) {index x : Nat} (hl : Cond.methodLink own index Lib.objectInit ∈ fw_GW) (hi : Cond.instanceMethod Lib.objectInit ∈ fw_GW) (hc : Cond.code Lib.objectInit ⟨#[0xb1]⟩ 1 none ∈ fw_GW) (hls : ls.size = nL) (hRf : 1 ≤ R.frames) (hRl : (rest.map fun v => v.category).sum + 12 ≤ R.locals) (hdg : decode cc pc = .ok (.invokespecial index, 3))
    (kk : W p l e R s m args below meth c H locs cells slots Q (F0 m (pc + 3) ls rest)) : W p l e R s m args below meth c H locs cells slots Q (F0 m pc ls (.ref x :: rest)) :=
  W.objInit C.1.1 C.1.2.1 C.1.2.2.2.1 (C.1.2.2.2.2 _ hl) (C.1.2.2.2.2 _ hi) (C.1.2.2.2.2 _ hc) rfl (hls.trans C.1.2.2.1.symm) rfl hdg hRf (by show 2 * 0 + _ + 12 ≤ _; omega) kk
/-- a constructor, called on the object that was made last -/
def yw_I (y : MethodName) (cc : ByteArray) (maxL n : Nat) : Prop := Cond.instanceMethod y ∈ fw_GW ∧ Cond.initialized y.cls ∈ fw_GW ∧ Cond.code y cc maxL none ∈ fw_GW ∧ y.name = "<init>" ∧ y.cls ≠ "java/lang/invoke/MethodHandle" ∧ y.cls ≠ "java/lang/invoke/VarHandle" ∧ (parseMethodDescriptor y.desc).map (fun d => d.parameters.length) = some n
theorem mw_overI {u : State} (h : (Cond.arrayOver (.array .int)).before #[] u = true) : ∃ comp c k, u.vm.findClass (FieldType.array .int).toString = some comp ∧ (u.vm.classes.findIdx? fun (x : Class) => match x.kind with | .array component _ => component == comp | _ => false) = some c ∧ u.vm.classes[c]? = some k ∧ k.kind = .array comp (.array .int) ∧ u.vm.findClass ("[" ++ (FieldType.array .int).toString) = some c := by
  simp only [Cond.before, Cond.holds, Cond.value, beq_iff_eq] at h
  cases hc : u.vm.findClass (FieldType.array .int).toString with
  | none => simp [hc] at h
  | some comp =>
    simp only [hc, Option.bind_some, Option.bind_eq_some_iff, Option.map_eq_some_iff] at h
    obtain ⟨c, hi, k, hk, hb⟩ := h
    obtain ⟨hlt, hp, -⟩ := Array.findIdx?_eq_some_iff_getElem.mp hi
    have hkk : u.vm.classes[c] = k := (Array.getElem?_eq_some_iff.mp hk).2
    rw [hkk] at hp
    cases hkind : k.kind with
    | array component ty =>
      rw [hkind] at hb hp
      simp at hb hp
      exact ⟨comp, c, k, rfl, hi, hk, by rw [hkind, hp, hb.1], hb.2⟩
    | _ => rw [hkind] at hb; simp at hb
theorem mw_overM {u U : State} (hvm : u.vm.Alike U.vm) (h : (Cond.arrayOver (.array .int)).before #[] u = true) : (Cond.arrayOver (.array .int)).before #[] U = true := by
  obtain ⟨comp, c, k, h1, h2, h3, h4, h5⟩ := mw_overI h
  obtain ⟨k', hk', he⟩ := hvm.2.2 _ _ h3
  have hi : (U.vm.classes.findIdx? fun (x : Class) => match x.kind with | .array component _ => component == comp | _ => false) = some c := by
    have e1 := mw_overB U.vm comp
    have e2 := mw_overB u.vm comp
    have e3 : (U.vm.bare.classes.findIdx? fun (x : Class) => match x.kind with | .array component _ => component == comp | _ => false) = (u.vm.bare.classes.findIdx? fun (x : Class) => match x.kind with | .array component _ => component == comp | _ => false) := by
      first | rw [hvm.bare_eq] | rw [← hvm.bare_eq]
    exact e1.symm.trans (e3.trans (e2.trans h2))
  have hkind : k'.kind = .array comp (.array .int) := by rw [he]; exact h4
  have f1 : U.vm.findClass (FieldType.array .int).toString = some comp := by rw [hvm.findClass]; exact h1
  have f2 : U.vm.findClass ("[" ++ (FieldType.array .int).toString) = some c := by rw [hvm.findClass]; exact h5
  unfold Cond.before Cond.holds
  simp only [Cond.value]
  rw [f1, Option.bind_some]
  refine (congrArg (fun o : Option Nat => (o.bind (fun c => (U.vm.classes[c]?).map fun (k : Class) => match k.kind with | .array _ ty => decide (ty = FieldType.array .int) && decide (U.vm.findClass ("[" ++ (FieldType.array .int).toString) = some c) | _ => false) == some true)) hi).trans ?_
  simp [hk', hkind, f2]
theorem fw_N.moved {u U : State} (hv : u.vm.Alike U.vm) (h : fw_N u) : fw_N U := ⟨mw_overM hv h.1, va_AO.moved hv h.2⟩
theorem cn_multi (C : fr_C X p c cc nL own s m args) (hN : fw_N s) (B : cn_H X s a ws H locs) {index q : Nat} (hl : Cond.classLink own index "[[I" ∈ fw_GW) (hwi : Cond.arrayClass .int ∈ fw_GW) {n k : Int32} {N K : Nat} (hn : ¬ n < 0) (hk : ¬ k < 0) (hnN : n.toNatClampNeg = N) (hkK : k.toNatClampNeg = K) (hb1 : N ≤ 1000) (hb2 : K ≤ 1000) (hq : a + ws.length = q) (hcells : cells + (1 + N) ≤ R.cells) (hslots : slots + (N + N * K) ≤ R.slots) (hdg : decode cc pc = .ok (.multianewarray index 2, 4))
    (kk : ∀ (H1 : Heap) (locs1 : List Loc), cn_H X s a (ws ++ (.inl (fw_kp X 2, N, .inr (.inr (.inr (.inr (fun j => some (q + 1 + j)))))) :: List.replicate N (.inl (fw_kp X 0, K, .inl (fun _ => 0))))) H1 locs1 → W p l e R s m args below meth c H1 locs1 (cells + 1 + N) (slots + N + N * K) Q (F0 m (pc + 4) ls (.ref q :: rest))) : W p l e R s m args below meth c H locs cells slots Q (F0 m pc ls (.int k :: .int n :: rest)) := by
  subst hq
  subst hnN
  subst hkK
  have hz := B.1
  refine W.mwa C.1.1 C.1.2.1 C.1.2.2.2.1 (C.1.2.2.2.2 _ hl) hN.1 (C.1.2.2.2.2 _ hwi) hdg hn hk hb1 hb2 hcells hslots (fun H1 cA comp f1 f2 z1 o1 e1 r1 => ?_)
  have hA : cA = fw_kp X 2 := Option.some.inj (f1.symm.trans (C.2.1.1.2 2 _ rfl).2)
  have hC : comp = fw_kp X 0 := Option.some.inj (f2.symm.trans (C.2.1.1.2 0 _ rfl).2)
  subst hA
  subst hC
  rw [hz] at z1 o1 e1 r1 ⊢
  refine kk H1 _ (cn_add B (by rw [z1, hz, List.length_cons, List.length_replicate]; omega) (fun q hq => o1 q (by rw [← hz]; exact hq)) (fun j e9 hj => ?_) (fun l h => ?_))
  · rcases j with _ | j
    · cases Option.some.inj hj
      exact e1
    · have h2 : (List.replicate n.toNatClampNeg (Sum.inl (fw_kp X 0, k.toNatClampNeg, Sum.inl (fun _ => 0)) : va_E))[j]? = some e9 := hj
      have hjl : j < n.toNatClampNeg := by
        have h3 := (List.getElem?_eq_some_iff.mp h2).1
        rwa [List.length_replicate] at h3
      rw [List.getElem?_replicate, if_pos hjl] at h2
      cases Option.some.inj h2
      have h4 := r1 j hjl
      rw [show a + ws.length + 1 + j = a + ws.length + (j + 1) by omega] at h4
      exact h4
  · obtain ⟨j, -, rfl⟩ := List.mem_map.mp h
    exact Nat.le_add_right _ _
/-- new State[n], and what is put into it -/
theorem cn_newq (C : fr_C X p c cc nL own s m args) (hN : fw_N s) (B : cn_H X s a ws H locs) {index q : Nat} (hl : Cond.classLink own index "TramNetwork$State" ∈ fw_GW) {n : Int32} {N : Nat} (hn : ¬ n < 0) (hnN : n.toNatClampNeg = N) (hb1 : N ≤ 1000) (hq : a + ws.length = q) (hcells : cells + 1 ≤ R.cells) (hslots : slots + N ≤ R.slots) (hdg : decode cc pc = .ok (.anewarray index, 3))
    (kk : ∀ H1 : Heap, cn_H X s a (ws ++ [.inl (fw_kp X 3, N, .inr (.inr (.inr (.inr (fun _ => none)))))]) H1 locs → W p l e R s m args below meth c H1 locs (cells + 1) (slots + N) Q (F0 m (pc + 3) ls (.ref q :: rest))) : W p l e R s m args below meth c H locs cells slots Q (F0 m pc ls (.int n :: rest)) := by
  subst hq
  subst hnN
  have hz := B.1
  refine W.anew C.1.1 C.1.2.1 C.1.2.2.2.1 (C.1.2.2.2.2 _ hl) (va_AO.use hN.2) rfl hdg rfl hn (by omega) hcells hslots fun cA kA comp f1 f2 f3 f4 => ?_
  have hA : cA = fw_kp X 3 := by
    obtain ⟨k9, c9, h1, h2, h3, h4⟩ := (C.2.1.1.2 3 _ rfl).2
    exact Option.some.inj (f1.symm.trans h4)
  subst hA
  rw [hz]
  have h9 := cn_add (xs := [.inl (fw_kp X 3, n.toNatClampNeg, .inr (.inr (.inr (.inr (fun _ => none)))))]) (L := []) (H1 := H.push ({ cls := fw_kp X 3, slots := Array.replicate n.toNatClampNeg .null, vm := .none } : Cell)) B (by rw [Array.size_push]; rfl) (fun q hq => by rw [Array.getElem?_push, if_neg (Nat.ne_of_lt hq)]) (fun j e9 hj => by
    rcases j with _ | j
    · cases Option.some.inj hj
      show (H.push _)[a + ws.length]? = some (vp_cell _ _)
      rw [vp_cell_q, ← hz, Array.getElem?_push_size, arrV_new]
      rfl
    · cases hj) (fun l h => nomatch h)
  rw [List.append_nil] at h9
  exact kk _ h9
theorem cn_aast (C : fr_C X p c cc nL own s m args) {f : Nat → Option Nat} {N q : Nat} {e0 : va_E} (B : cn_H X s a (e0 :: .inl (fw_kp X 3, N, .inr (.inr (.inr (.inr f)))) :: ws) H locs) {i : Int32} {k : Nat} {vs : List Value} (hv : ws[k]? = some (.inr (7, vs))) (hq : a + 2 + k = q) (hin : ix_i i N) (hdg : decode cc pc = .ok (.aastore, 1))
    (kk : ∀ (H1 : Heap) (locs1 : List Loc), cn_H X s a (e0 :: .inl (fw_kp X 3, N, .inr (.inr (.inr (.inr (va_up f i.toNatClampNeg (some q)))))) :: ws) H1 locs1 → W p l e R s m args below meth c H1 locs1 cells slots Q (F0 m (pc + 1) ls rest)) : W p l e R s m args below meth c H locs cells slots Q (F0 m pc ls (.ref q :: .int i :: .ref (a + 1) :: rest)) := by
  subst hq
  have hlt : i.toNatClampNeg < N := Nat.not_le.mp fun q => hin (Or.inr q)
  have h0 : ¬ i < 0 := fun q => hin (Or.inl q)
  obtain ⟨hz, hB, hO, hl⟩ := B
  have h1 : H[a + 1]? = some (vp_cell (fw_kp X 3) (N, .inr (.inr (.inr (.inr f))))) := hB 1 _ rfl
  have h2 : va_at (fw_D X) fw_cl (a + (k + 2), .inr (7, vs)) H := hB (k + 2) _ hv
  rw [show a + (k + 2) = a + 2 + k by omega] at h2
  obtain ⟨r', hr', cellV, g1, g2, g3, -⟩ := h2
  have hcls := (C.2.1.1.1 7 _ rfl).2
  obtain ⟨kA, comp, k1, k2, k3, -⟩ := (C.2.1.1.2 3 _ rfl).2
  have hcomp : comp = (fw_D X).1 7 := Option.some.inj (k3.symm.trans hcls.1)
  subst hcomp
  obtain ⟨kC, hkC, -⟩ := hcls.2
  refine W.aast C.1.1 C.1.2.1 h1 (fun q h => by cases h) (fun h => by cases h) k1 k2 rfl hkC ⟨h0, by show _ < (arrV _ _ _).slots.size; rw [arrV_size]; exact hlt⟩ g1 (fun q h => by rw [g3] at h; cases h) (by rw [g2]; exact hkC) (by rw [g2]; exact va_assign hcls) rfl rfl hdg fun H1 e9 z oq => ?_
  refine kk H1 _ ⟨by rw [z, hz]; rfl, fun j e8 hj => ?_, fun q hq => (oq q (Nat.ne_of_lt (Nat.lt_succ_of_lt hq))).trans (hO q hq), fun l h => ?_⟩
  · rcases j with _ | _ | j
    · exact (hB 0 e8 hj).kept (oq _ (by show a + 0 ≠ a + 1; omega))
    · cases Option.some.inj hj
      show H1[a + 1]? = some (vp_cell _ _)
      rw [e9, vp_cell_q, vp_cell_q, arrV_store]
      congr 2
      funext q
      by_cases hq : q = i.toNatClampNeg
      · subst hq
        simp [updV, va_up, va_rf]
      · simp [updV, va_up, hq]
    · exact (hB (j + 2) e8 hj).kept (oq _ (by show a + (j + 2) ≠ a + 1; omega))
  · rcases List.mem_append.mp h with h | h
    · exact hl l h
    · rcases List.mem_singleton.mp h with rfl
      exact Nat.le_add_right _ _
theorem cn_call (C : fr_C X p c cc nL own s m args) (hN : fw_N s) {e0 : va_E} (B : cn_H X s a (ws ++ [e0]) H locs) (hz : fw_z0 X ≤ a) {y : MethodName} {bytes : ByteArray} {maxL n index q : Nat} {rm : Room} {As st0 : List Value} {bl : List va_E} (hq : a + ws.length = q) (hM : ct_n l X y bytes maxL rm q (.ref q :: As) e0 bl) (hw : yw_I y bytes maxL n) (hl : Cond.methodLink own index y ∈ fw_GW) (hn : As.length = n) (hls : ls.size = nL) (hst : st0 = As.reverse ++ .ref q :: rest) (hrs : (rest.map fun v => v.category).sum ≤ 8) (hR : rm.frames + 1 ≤ R.frames ∧ 8 + (maxL + 11) + rm.locals ≤ R.locals) (hf : cells + rm.cells ≤ R.cells ∧ slots + rm.slots ≤ R.slots) (hdg : decode cc pc = .ok (.invokespecial index, 3))
    (kk : ∀ (H1 : Heap) (locs1 : List Loc), cn_H X s a (ws ++ bl) H1 locs1 → W p l e R s m args below meth c H1 locs1 (cells + rm.cells) (slots + rm.slots) Q (F0 m (pc + 3) ls rest)) : W p l e R s m args below meth c H locs cells slots Q (F0 m pc ls st0) := by
  obtain ⟨h1, h3, h4, h5, h6, h7, h8⟩ := hw
  obtain ⟨bz, bB, bO, bL⟩ := B
  rw [List.length_append] at bz
  have bz : H.size = a + (ws.length + 1) := bz
  have hcb : CallB R s args own index y bytes maxL none (.code y bytes maxL none :: fw_GW) rm rm.cells rm.slots n := by
    refine callB_of n C.1.2.2.2.2 (fun w hw => ?_) rfl rfl rfl (C.1.2.2.2.2 _ h3) (C.1.2.2.2.2 _ hl) ⟨h6, h7, h8⟩ hR
    have hm : w ∈ fw_GW := by
      rcases List.mem_cons.mp hw with rfl | h
      · exact h4
      · exact h
    exact ⟨hm, fw_good w hm⟩
  have hpre : PreS s H (cn_P X q (.ref q :: As) e0) (.ref q :: As) := by
    subst hq
    refine ⟨cn_blind X _ _ _, fun U hU hW => ⟨rfl, ⟨by rw [hU]; omega, ?_⟩, C.2.1.moved hW, ?_, by omega, hN.moved hW.alike⟩⟩
    · rw [hU]
      exact bB ws.length e0 (by rw [List.getElem?_append_right (Nat.le_refl _), Nat.sub_self]; rfl)
    · rw [hU]
      exact (C.2.2.1.kept (fun q h1 h2 => bO q (Nat.not_le.mp fun h => h2 (Nat.le_trans hz h)))).moved hW.alike
  have hr := va_runI (p := p) (l := l) (e := e) (below := below) (meth := meth) (As := As) (rest := rest) (H := H) (locs := locs) (cells := cells) (slots := slots) (g := F0 m pc ls st0) C.1 hM ⟨hcb, h5, C.1.2.2.2.2 _ h1⟩ hpre rfl hn hls hst (lv_room hrs) hdg hf
  intro T hT X9
  obtain ⟨v, st₀, t, T', L, h0, X', hL, e1, e2, ⟨hv, hz1, hB1, hO1⟩, st⟩ := hr T hT X9
  cases hv
  have hk : cn_H X s a (ws ++ bl) t.heap (locs ++ L) := by
    subst hq
    refine ⟨by rw [hz1, List.length_append]; omega, fun j e9 hj => ?_, fun q hq => ?_, fun l h => ?_⟩
    · by_cases h : j < ws.length
      · have h9 := bB j e9 (by rw [List.getElem?_append_left h] at hj ⊢; exact hj)
        exact h9.kept (by rw [← h0]; exact hO1 (a + j) (by omega))
      · rw [List.getElem?_append_right (by omega)] at hj
        have h9 := hB1 _ _ hj
        rw [show a + ws.length + (j - ws.length) = a + j by omega] at h9
        exact h9
    · have h9 := hO1 q (by omega)
      rw [h0] at h9
      exact h9.trans (bO q hq)
    · rcases List.mem_append.mp h with h | h
      · exact bL l h
      · exact Nat.le_trans (Nat.le_add_right _ _) (hL l h)
  obtain ⟨t2, a1, b1⟩ := kk t.heap (locs ++ L) hk T' e1 X'
  exact ⟨t2, st t2 a1, b1⟩
theorem cn_get (C : fr_C X p c cc nL own s m args) {fs : List Value} {ci : Nat} (B : cn_H X s a (.inr (ci, fs) :: ws) H locs) {C9 : String} {T9 : u_T} {N index j : Nat} (hc : fw_cl[ci]? = some (C9, T9, N)) (hin : ∀ w ∈ u_ws C9 T9 N, w ∈ fw_GW) (hj : j < N) (hl : Cond.fieldLink own index (T9 j).1 (T9 j).2.1 (T9 j).2.2.1 ∈ fw_GW) {v : Value} (hv : fs[j]? = some v) (hdg : decode cc pc = .ok (.getfield index, 3))
    (kk : W p l e R s m args below meth c H locs cells slots Q (F0 m (pc + 3) ls (v :: rest))) : W p l e R s m args below meth c H locs cells slots Q (F0 m pc ls (.ref a :: rest)) := by
  have hP : va_P (fw_D X) fw_cl [(a, .inr (ci, fs))] H := by
    intro k q hk
    rcases k with _ | k
    · cases Option.some.inj hk
      exact B.2.1 0 _ rfl
    · cases hk
  exact va_get C.1.1 C.1.2.1 C.1.2.2.2.2 hin C.1.2.2.2.1 C.2.1.1 hP 0 rfl hc j hj (C.1.2.2.2.2 _ hl) (fun _ h => h) hv hdg kk
theorem cn_gets (C : fr_C X p c cc nL own s m args) {e0 : va_E} (B : cn_H X s a (e0 :: ws) H locs) (h1 : s.heap.size = a + 1) (hz : fw_z0 X ≤ a) {index : Nat} (hl : Cond.fieldLink own index "java/lang/String" "COMPACT_STRINGS" "Z" ∈ fw_GW) (hdg : decode cc pc = .ok (.getstatic index, 3))
    (kk : W p l e R s m args below meth c H locs cells slots Q (F0 m (pc + 3) ls (.int 1 :: rest))) : W p l e R s m args below meth c H locs cells slots Q (F0 m pc ls rest) := by
  have hS : va_S (fw_A X) s.heap H locs := by
    refine ⟨?_, fun q h2 h3 => ?_, fun l hl => ?_⟩
    · rw [h1, B.1]
      show a + 1 ≤ a + (ws.length + 1)
      omega
    · exact B.2.2.1 q (Nat.not_le.mp fun h => h3 (Nat.le_trans hz h))
    · exact Nat.le_trans hz (B.2.2.2 l hl)
  exact va_gets C.1.1 C.1.2.1 C.2.2.1.2.2.2.2.2.1 hS C.1.2.2.2.1 (C.1.2.2.2.2 _ hl) (fun _ h => h) hdg kk
theorem cn_ret (C : fr_C X p c cc nL own s m args) (B : cn_H X s a ws H locs) {mc ms : Nat} (hr : meth.sig.returnType = none) (hlk : meth.locks = false) (hc : cells ≤ mc) (hs : slots ≤ ms) (hdg : decode cc pc = .ok (.return_, 1)) : W p l e R s m args below meth c H locs cells slots (MQ below (cn_Q X a ws) args s mc ms (fun q => a ≤ q)) (F0 m pc ls []) :=
  W.widen hc hs (W.vret C.1.1 C.1.2.1 hr (fun t ht hW => ⟨rfl, by rw [ht]; exact B.1, by rw [ht]; exact B.2.1, fun q hq => by rw [ht]; exact B.2.2.1 q hq⟩) B.2.2.2 hdg hlk)
end CN
theorem nth_app {A B : List va_E} {k : Nat} (h : A.length = k) : (A ++ B)[k]? = B[0]? := by
  subst h
  rw [List.getElem?_append_right (Nat.le_refl _), Nat.sub_self]
