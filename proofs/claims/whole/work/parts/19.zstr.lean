/-! texts: constants, length(), charAt(i), the row of digits -/
section ST
variable {p : Program} {l : Launch} {e : Env} {R : Room} {s : State} {m : MethodId} {args : Array Value} {below : List Frame} {meth : Method} {c : Code} {H : Heap} {locs : List Loc} {cells slots : Nat} {Q : State → Prop}
variable {cc : ByteArray} {pc nL : Nat} {ls : Array Slot} {rest : List Value} {X : fw_X} {M : fw_M} {own : String} {k : Nat}
theorem fr_ldcs (C : fr_C X p c cc nL own s m args) {is id : Nat} {text : String} (hstr : (own, is, text, id) ∈ fw_strs) (hdg : decode cc pc = .ok (.ldc is, 2))
    (kk : W p l e R s m args below meth c H locs cells slots Q (F0 m (pc + 2) ls (.ref (fw_sg X id) :: rest))) : W p l e R s m args below meth c H locs cells slots Q (F0 m pc ls rest) := by
  intro T hT Xs
  obtain ⟨t, a, b⟩ := kk T hT Xs
  have h := C.2.1.2.2.2.1 _ hstr
  exact ⟨t, Xs.ldcString C.1.1 (own := own) (text := text) (index := is) (a := fw_sg X id) C.1.2.2.2.1 h.1 h.2 (g := F0 m pc ls rest) rfl (by rw [C.1.2.1]; exact hdg) _ a, b⟩
theorem fr_sV (C : fr_C X p c cc nL own s m args) (B : fr_H X s M H locs) {i : Nat} (hi : i < 12) {y : MethodName} {bytes : ByteArray} {maxL n index : Nat} {ret : Option FieldType} {rm : Room} {As st0 : List Value} {v : Option Value} (hM : ct_r l X y bytes maxL ret rm M (.ref (fw_sg X (10 + i)) :: As) v) (hc : y.cls = "java/lang/String") (hw : yw_V y bytes maxL ret n) (hl : Cond.methodLink own index y ∈ fw_GW) (hn : As.length = n) (hls : ls.size = nL) (hst : st0 = As.reverse ++ .ref (fw_sg X (10 + i)) :: rest) (hrs : (rest.map fun v => v.category).sum ≤ 8) (hR : rm.frames + 1 ≤ R.frames ∧ 8 + (maxL + 11) + rm.locals ≤ R.locals) (h0 : rm.cells = 0 ∧ rm.slots = 0) (hf : cells ≤ R.cells ∧ slots ≤ R.slots) (hdg : decode cc pc = .ok (.invokevirtual index, 3))
    (kk : W p l e R s m args below meth c H locs cells slots Q (F0 m (pc + 3) ls (v.toList ++ rest))) : W p l e R s m args below meth c H locs cells slots Q (F0 m pc ls st0) := by
  have hrv : ∃ cell : Cell, H[fw_sg X (10 + i)]? = some cell ∧ cell.vm.isStatics = false ∧ s.vm.findClass y.cls = some cell.cls := by
    obtain ⟨b, Bb⟩ := fr_op B
    rw [hc]
    exact vk_recv (i := i) C.2.2.1.2.2.2.2.1 hi Bb.2.2
  exact jr_V C B hM hrv hw hl hn hls hst hrs hR h0 hf hdg kk
theorem fr_dk (C : fr_C X p c cc nL RX0 s m args) (B : fr_H X s M H locs) (hdg : decode cc pc = .ok (.getstatic 46, 3))
    (kk : W p l e R s m args below meth c H locs cells slots Q (F0 m (pc + 3) ls (.ref (fw_sg X 0) :: rest))) : W p l e R s m args below meth c H locs cells slots Q (F0 m pc ls rest) := by
  obtain ⟨b, Bb⟩ := fr_op B
  exact va_getsN C.1.1 C.1.2.1 C.2.2.1.2.2.1 Bb.2.2 C.1.2.2.2.1 (va_Nw.use rfl (C.2.1.2.1 ("TramNetwork$CommandText", 46, "TramNetwork", "DIGITS_OF_KIND", "[I", "TramNetwork") (by decide +kernel))) (fun _ h => h) hdg kk
def fw_dk (i : Int32) : Int32 := fw_dig.getD i.toNatClampNeg 0
theorem fr_dki (C : fr_C X p c cc nL own s m args) (B : fr_H X s M H locs) {i : Int32} (hin : ix_i i 11) (hdg : decode cc pc = .ok (.iaload, 1))
    (kk : W p l e R s m args below meth c H locs cells slots Q (F0 m (pc + 1) ls (.int (fw_dk i) :: rest))) : W p l e R s m args below meth c H locs cells slots Q (F0 m pc ls (.int i :: .ref (fw_sg X 0) :: rest)) := by
  obtain ⟨b, Bb⟩ := fr_op B
  exact va_ti C.1.1 C.1.2.1 C.2.2.1.2.2.2.1 Bb.2.2 hin rfl hdg kk
theorem jr_a (C : fr_C X p c cc nL own s m args) {i o : Nat} {n : String} (hr : meth.sig.returnType = some (.object n)) (hlk : meth.locks = false) (ho : i = 10 + o) (hdg : decode cc pc = .ok (.areturn, 1)) : W p l e R s m args below meth c s.heap [] 0 0 (MQ below (fw_QR (some (.ref (fw_sg X (10 + o))))) args s 0 0 (fun _ => False)) (F0 m pc ls [.ref (fw_sg X i)]) :=
  W.aret C.1.1 C.1.2.1 hr (Or.inl ⟨n, rfl⟩) (Or.inr ⟨_, rfl⟩) (fun t ht hW => ⟨by rw [ho], ht⟩) (fun q hq => nomatch hq) hdg hlk
end ST
