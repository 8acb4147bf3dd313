section JM
variable {p : Program} {l : Launch} {e : Env} {R : Room} {s : State} {m : MethodId} {args : Array Value} {below : List Frame} {meth : Method} {c : Code} {H : Heap} {locs : List Loc} {cells slots : Nat} {Q : State → Prop}
variable {cc : ByteArray} {pc nL : Nat} {ls : Array Slot} {rest : List Value} {X : fw_X} {M M1 : fw_M} {own : String} {b : Nat}
theorem fr_op (B : fr_H X s M H locs) : ∃ b, fr_Hb X s M b H locs := B
theorem jm_U (C : fr_C X p c cc nL own s m args) (B : fr_Hb X s M b H locs) {y : MethodName} {bytes : ByteArray} {maxL n index : Nat} {rm : Room} {As st0 : List Value} (hM : ct_mv l X y bytes maxL rm M (.ref (fw_ad X 376) :: As) M1) (hw : yw_U y bytes maxL none n) (hl : Cond.methodLink own index y ∈ fw_GW) (hn : As.length = n) (hls : ls.size = nL) (hst : st0 = As.reverse ++ .ref (fw_ad X 376) :: rest) (hrs : (rest.map fun v => v.category).sum ≤ 8) (hR : rm.frames + 1 ≤ R.frames ∧ 8 + (maxL + 11) + rm.locals ≤ R.locals) (hf : cells + rm.cells ≤ R.cells ∧ slots + rm.slots ≤ R.slots) (hdg : decode cc pc = .ok (.invokevirtual index, 3))
    (kk : ∀ (H1 : Heap) (locs1 : List Loc), fr_H X s M1 H1 locs1 → W p l e R s m args below meth c H1 locs1 (cells + rm.cells) (slots + rm.slots) Q (F0 m (pc + 3) ls rest)) : W p l e R s m args below meth c H locs cells slots Q (F0 m pc ls st0) := by
  refine va_callv (va_runV (C := RJ4) (As := As) (rest := rest) C.1 hM (jb_cw C hw hl hR) ⟨fw_blind X M _, jb_recv C B, fun U hU hW => fr_pre C B.h hU hW _⟩ rfl hn hls hst (lv_room hrs) hdg hf) B.2.2 (fun _ _ h => h) (fun _ h => h) ?_
  intro u t H1 locs1 ht hvm hpo hB hz1 hk1 hS1
  subst hpo
  obtain ⟨b1, hP1, hD1⟩ := hB
  rw [ht] at hP1
  exact kk H1 locs1 ⟨b1, hP1, hD1, hS1⟩
theorem jm_P (C : fr_C X p c cc nL RJ4 s m args) (B : fr_Hb X s M b H locs) {y : MethodName} {bytes : ByteArray} {maxL n index : Nat} {rm : Room} {As st0 : List Value} (hM : ct_mv l X y bytes maxL rm M (.ref (fw_ad X 376) :: As) M1) (hw : yw_P y bytes maxL none n) (hl : Cond.methodLink RJ4 index y ∈ fw_GW) (hn : As.length = n) (hls : ls.size = nL) (hst : st0 = As.reverse ++ .ref (fw_ad X 376) :: rest) (hrs : (rest.map fun v => v.category).sum ≤ 8) (hR : rm.frames + 1 ≤ R.frames ∧ 8 + (maxL + 11) + rm.locals ≤ R.locals) (hf : cells + rm.cells ≤ R.cells ∧ slots + rm.slots ≤ R.slots) (hdg : decode cc pc = .ok (.invokespecial index, 3))
    (kk : ∀ (H1 : Heap) (locs1 : List Loc), fr_H X s M1 H1 locs1 → W p l e R s m args below meth c H1 locs1 (cells + rm.cells) (slots + rm.slots) Q (F0 m (pc + 3) ls rest)) : W p l e R s m args below meth c H locs cells slots Q (F0 m pc ls st0) := by
  refine va_callv (va_runSU (C := RJ4) (As := As) (rest := rest) (C.2.1.1.1 10 _ rfl).2 C.1 hM (jb_cp C hw hl hR) ⟨fw_blind X M _, jb_recv C B, fun U hU hW => fr_pre C B.h hU hW _⟩ rfl hn hls hst (lv_room hrs) hdg hf) B.2.2 (fun _ _ h => h) (fun _ h => h) ?_
  intro u t H1 locs1 ht hvm hpo hB hz1 hk1 hS1
  subst hpo
  obtain ⟨b1, hP1, hD1⟩ := hB
  rw [ht] at hP1
  exact kk H1 locs1 ⟨b1, hP1, hD1, hS1⟩
theorem jm_Pr (C : fr_C X p c cc nL RJ4 s m args) (B : fr_Hb X s M b H locs) {y : MethodName} {bytes : ByteArray} {maxL n index : Nat} {ret : Option FieldType} {rm : Room} {As st0 : List Value} (hM : ct_mr l X y bytes maxL ret rm M (.ref (fw_ad X 376) :: As) M1) (hw : yw_P y bytes maxL ret n) (hl : Cond.methodLink RJ4 index y ∈ fw_GW) (hn : As.length = n) (hls : ls.size = nL) (hst : st0 = As.reverse ++ .ref (fw_ad X 376) :: rest) (hrs : (rest.map fun v => v.category).sum ≤ 8) (hR : rm.frames + 1 ≤ R.frames ∧ 8 + (maxL + 11) + rm.locals ≤ R.locals) (hf : cells + rm.cells ≤ R.cells ∧ slots + rm.slots ≤ R.slots) (hdg : decode cc pc = .ok (.invokespecial index, 3))
    (kk : ∀ (H1 : Heap) (locs1 : List Loc), fr_H X s M1 H1 locs1 → W p l e R s m args below meth c H1 locs1 (cells + rm.cells) (slots + rm.slots) Q (F0 m (pc + 3) ls (.ref (fw_ad X 376) :: rest))) : W p l e R s m args below meth c H locs cells slots Q (F0 m pc ls st0) := by
  refine va_callr (va_runSU (C := RJ4) (As := As) (rest := rest) (C.2.1.1.1 10 _ rfl).2 C.1 hM (jb_cp C hw hl hR) ⟨fw_blind X M _, jb_recv C B, fun U hU hW => fr_pre C B.h hU hW _⟩ rfl hn hls hst (lv_room hrs) hdg hf) B.2.2 (fun _ _ h => h) (fun _ h => h) ?_
  intro u ra t H1 locs1 ht hvm hpo hB hz1 hk1 hS1
  subst hpo
  obtain ⟨rfl, b1, hP1, hD1⟩ := hB
  rw [ht] at hP1
  exact kk H1 locs1 ⟨b1, hP1, hD1, hS1⟩
/-- called by name on the StringBuilder from outside -/
theorem jm_V (C : fr_C X p c cc nL own s m args) (B : fr_H X s M H locs) {y : MethodName} {bytes : ByteArray} {maxL n index : Nat} {rm : Room} {As st0 : List Value} (hM : ct_mv l X y bytes maxL rm M (.ref (fw_ad X 376) :: As) M1) (hc : y.cls = RJ4) (hw : yw_V y bytes maxL none n) (hl : Cond.methodLink own index y ∈ fw_GW) (hn : As.length = n) (hls : ls.size = nL) (hst : st0 = As.reverse ++ .ref (fw_ad X 376) :: rest) (hrs : (rest.map fun v => v.category).sum ≤ 8) (hR : rm.frames + 1 ≤ R.frames ∧ 8 + (maxL + 11) + rm.locals ≤ R.locals) (hf : cells + rm.cells ≤ R.cells ∧ slots + rm.slots ≤ R.slots) (hdg : decode cc pc = .ok (.invokevirtual index, 3))
    (kk : ∀ (H1 : Heap) (locs1 : List Loc), fr_H X s M1 H1 locs1 → W p l e R s m args below meth c H1 locs1 (cells + rm.cells) (slots + rm.slots) Q (F0 m (pc + 3) ls rest)) : W p l e R s m args below meth c H locs cells slots Q (F0 m pc ls st0) := by
  obtain ⟨b, B⟩ := fr_op B
  refine va_callv (va_runV (As := As) (rest := rest) C.1 hM (fr_cw C hw hl hR) ⟨fw_blind X M _, by rw [hc]; exact jb_recv C B, fun U hU hW => fr_pre C B.h hU hW _⟩ rfl hn hls hst (lv_room hrs) hdg hf) B.2.2 (fun _ _ h => h) (fun _ h => h) ?_
  intro u t H1 locs1 ht hvm hpo hB hz1 hk1 hS1
  subst hpo
  obtain ⟨b1, hP1, hD1⟩ := hB
  rw [ht] at hP1
  exact kk H1 locs1 ⟨b1, hP1, hD1, hS1⟩
theorem jm_Vr (C : fr_C X p c cc nL own s m args) (B : fr_H X s M H locs) {y : MethodName} {bytes : ByteArray} {maxL n index : Nat} {ret : Option FieldType} {rm : Room} {As st0 : List Value} (hM : ct_mr l X y bytes maxL ret rm M (.ref (fw_ad X 376) :: As) M1) (hc : y.cls = RJ4) (hw : yw_V y bytes maxL ret n) (hl : Cond.methodLink own index y ∈ fw_GW) (hn : As.length = n) (hls : ls.size = nL) (hst : st0 = As.reverse ++ .ref (fw_ad X 376) :: rest) (hrs : (rest.map fun v => v.category).sum ≤ 8) (hR : rm.frames + 1 ≤ R.frames ∧ 8 + (maxL + 11) + rm.locals ≤ R.locals) (hf : cells + rm.cells ≤ R.cells ∧ slots + rm.slots ≤ R.slots) (hdg : decode cc pc = .ok (.invokevirtual index, 3))
    (kk : ∀ (H1 : Heap) (locs1 : List Loc), fr_H X s M1 H1 locs1 → W p l e R s m args below meth c H1 locs1 (cells + rm.cells) (slots + rm.slots) Q (F0 m (pc + 3) ls (.ref (fw_ad X 376) :: rest))) : W p l e R s m args below meth c H locs cells slots Q (F0 m pc ls st0) := by
  obtain ⟨b, B⟩ := fr_op B
  refine va_callr (va_runV (As := As) (rest := rest) C.1 hM (fr_cw C hw hl hR) ⟨fw_blind X M _, by rw [hc]; exact jb_recv C B, fun U hU hW => fr_pre C B.h hU hW _⟩ rfl hn hls hst (lv_room hrs) hdg hf) B.2.2 (fun _ _ h => h) (fun _ h => h) ?_
  intro u ra t H1 locs1 ht hvm hpo hB hz1 hk1 hS1
  subst hpo
  obtain ⟨rfl, b1, hP1, hD1⟩ := hB
  rw [ht] at hP1
  exact kk H1 locs1 ⟨b1, hP1, hD1, hS1⟩
/-- the same of a method that only reads: length(), charAt(i) -/
theorem jm_Vq (C : fr_C X p c cc nL own s m args) (B : fr_H X s M H locs) {y : MethodName} {bytes : ByteArray} {maxL n index : Nat} {ret : Option FieldType} {rm : Room} {As st0 : List Value} {v : Option Value} (hM : ct_r l X y bytes maxL ret rm M (.ref (fw_ad X 376) :: As) v) (hc : y.cls = RJ4) (hw : yw_V y bytes maxL ret n) (hl : Cond.methodLink own index y ∈ fw_GW) (hn : As.length = n) (hls : ls.size = nL) (hst : st0 = As.reverse ++ .ref (fw_ad X 376) :: rest) (hrs : (rest.map fun v => v.category).sum ≤ 8) (hR : rm.frames + 1 ≤ R.frames ∧ 8 + (maxL + 11) + rm.locals ≤ R.locals) (h0 : rm.cells = 0 ∧ rm.slots = 0) (hf : cells ≤ R.cells ∧ slots ≤ R.slots) (hdg : decode cc pc = .ok (.invokevirtual index, 3))
    (kk : W p l e R s m args below meth c H locs cells slots Q (F0 m (pc + 3) ls (v.toList ++ rest))) : W p l e R s m args below meth c H locs cells slots Q (F0 m pc ls st0) := by
  obtain ⟨b, B⟩ := fr_op B
  exact jr_V C B.h hM (by rw [hc]; exact jb_recv C B) hw hl hn hls hst hrs hR h0 hf hdg kk
/-- ends -/
theorem jm_v (C : fr_C X p c cc nL own s m args) (B : fr_H X s M H locs) {mc ms : Nat} (hr : meth.sig.returnType = none) (hlk : meth.locks = false) (ho : M = M1) (hc : cells ≤ mc) (hs : slots ≤ ms) (hdg : decode cc pc = .ok (.return_, 1)) : W p l e R s m args below meth c H locs cells slots (MQ below (va_Qv (fun u : fw_M => u = M1) (fw_B X) (fw_A X)) args s mc ms (fw_A X)) (F0 m pc ls []) := by
  obtain ⟨b, hP, hD, hS⟩ := B
  exact W.widen hc hs (W.vret C.1.1 C.1.2.1 hr (fun t ht hW => ⟨⟨M, rfl, ho, b, by rw [ht]; exact hP, hD⟩, hS.F ht⟩) hS.2.2 hdg hlk)
theorem jm_r (C : fr_C X p c cc nL own s m args) (B : fr_H X s M H locs) {mc ms : Nat} {n : String} (hr : meth.sig.returnType = some (.object n)) (hlk : meth.locks = false) (ho : M = M1) (hc : cells ≤ mc) (hs : slots ≤ ms) (hdg : decode cc pc = .ok (.areturn, 1)) : W p l e R s m args below meth c H locs cells slots (MQ below (va_Qr (fun u : fw_M => u = M1) (fun u a t => a = fw_ad X 376 ∧ fw_B X u t) (fw_A X)) args s mc ms (fw_A X)) (F0 m pc ls [.ref (fw_ad X 376)]) := by
  obtain ⟨b, hP, hD, hS⟩ := B
  exact W.widen hc hs (W.aret C.1.1 C.1.2.1 hr (Or.inl ⟨n, rfl⟩) (Or.inr ⟨_, rfl⟩) (fun t ht hW => ⟨⟨M, fw_ad X 376, rfl, ho, rfl, b, by rw [ht]; exact hP, hD⟩, hS.F ht⟩) hS.2.2 hdg hlk)
/-- Integer.getChars: into the row at b -/
def ct_gc (l : Launch) (X : fw_X) (rm : Room) (M : fw_M) (b : Nat) (a1 a2 : Int32) (o : Int32 × fw_M) : Prop := Met l yJ6_getChars_ba4f3 (.code yJ6_getChars_ba4f3 cJ6_getChars_ba4f3 7 (some .int) :: fw_GW) rm (fun a U => fw_Pb X M b [.int a1, .int a2, .ref b] a U ∧ True) (va_Qi (fun (r : Int32) (u : fw_M) => o = (r, u)) (fun u t => va_P (fw_D X) fw_cl (fw_L X b u) t.heap ∧ va_D (fw_A X) (fw_L X b u)) (fw_A X)) rm.cells rm.slots (fw_A X)
theorem jm_gi (C : fr_C X p c cc nL own s m args) (B : fr_Hb X s M b H locs) {mc ms : Nat} {v : Int32} {o : Int32 × fw_M} (hr : meth.sig.returnType = some .int) (hlk : meth.locks = false) (ho : o = (v, M)) (hc : cells ≤ mc) (hs : slots ≤ ms) (hdg : decode cc pc = .ok (.ireturn, 1)) : W p l e R s m args below meth c H locs cells slots (MQ below (va_Qi (fun (r : Int32) (u : fw_M) => o = (r, u)) (fun u t => va_P (fw_D X) fw_cl (fw_L X b u) t.heap ∧ va_D (fw_A X) (fw_L X b u)) (fw_A X)) args s mc ms (fw_A X)) (F0 m pc ls [.int v]) := by
  obtain ⟨hP, hD, hS⟩ := B
  exact W.widen hc hs (W.zret C.1.1 C.1.2.1 hr rfl (fun t ht hW => ⟨⟨v, M, rfl, ho, by rw [ht]; exact hP, hD⟩, hS.F ht⟩) hS.2.2 hdg hlk)
theorem jm_gc (C : fr_C X p c cc nL own s m args) (B : fr_Hb X s M b H locs) {rm : Room} {a1 a2 : Int32} {o : Int32 × fw_M} {index : Nat} (hM : ct_gc l X rm M b a1 a2 o) (hl : Cond.methodLink own index yJ6_getChars_ba4f3 ∈ fw_GW) (hls : ls.size = nL) (hrs : (rest.map fun v => v.category).sum ≤ 8) (hR : rm.frames + 1 ≤ R.frames ∧ 8 + (7 + 11) + rm.locals ≤ R.locals) (hf : cells + rm.cells ≤ R.cells ∧ slots + rm.slots ≤ R.slots) (hdg : decode cc pc = .ok (.invokestatic index, 3))
    (kk : ∀ (H1 : Heap) (locs1 : List Loc), fr_Hb X s o.2 b H1 locs1 → W p l e R s m args below meth c H1 locs1 (cells + rm.cells) (slots + rm.slots) Q (F0 m (pc + 3) ls (.int o.1 :: rest))) : W p l e R s m args below meth c H locs cells slots Q (F0 m pc ls (.ref b :: .int a2 :: .int a1 :: rest)) := by
  have B0 := B
  obtain ⟨hP, hD, hS⟩ := B0
  refine va_calli (va_runS (As := [.int a1, .int a2, .ref b]) (rest := rest) C.1 hM (fr_cws C yw_J6_getChars_ba4f3 hl hR) ⟨fun a U g mk q => ⟨fw_blindb X M b _ a U g mk q.1, q.2⟩, fun U hU hW => ?_⟩ rfl rfl hls rfl (lv_room hrs) hdg hf) hS (fun _ _ h => h) (fun _ h => h) ?_
  · obtain ⟨-, ⟨b9, hP9, hD9⟩, hT9, hV9, hz9⟩ := fr_pre C B.h hU hW [.int a1, .int a2, .ref b]
    exact ⟨⟨rfl, ⟨by rw [hU]; exact hP, hD⟩, hT9, hV9, hz9⟩, trivial⟩
  · intro r u t H1 locs1 ht hvm hpo hB hz1 hk1 hS1
    obtain ⟨hP1, hD1⟩ := hB
    rw [ht] at hP1
    subst hpo
    exact kk H1 locs1 ⟨hP1, hD1, hS1⟩
end JM
def F_J6_getChars_ba4f3 (M : fw_M) (a1 : Int32) (a2 : Int32) : Option (Int32 × fw_M) :=
  if 0 ≤ a1 then
    if (-100) < (-a1) then
      if ix_i (-(-a1)) 100 then
      if fw_cap M ≤ 1000 then
      if ix_i (a2 + (-1)) (fw_cap M) then
      lt_x (fw_wi M 377 (a2 + (-1)) (fw_nb (nI (48 + (-(-a1)).toNatClampNeg % 10)))) fun M7 =>
      if (-9) ≤ (-a1) then
        some ((a2 + (-1)), M7)
      else
        if fw_cap M7 ≤ 1000 then
        if ix_i ((a2 + (-1)) + (-1)) (fw_cap M7) then
        lt_x (fw_wi M7 377 ((a2 + (-1)) + (-1)) (fw_nb (nI (48 + (-(-a1)).toNatClampNeg / 10)))) fun M12 =>
        some (((a2 + (-1)) + (-1)), M12)
        else none
        else none
      else none
      else none
      else none
    else
      none
  else
    if (-100) < a1 then
      if ix_i (-a1) 100 then
      if fw_cap M ≤ 1000 then
      if ix_i (a2 + (-1)) (fw_cap M) then
      lt_x (fw_wi M 377 (a2 + (-1)) (fw_nb (nI (48 + (-a1).toNatClampNeg % 10)))) fun M19 =>
      if (-9) ≤ a1 then
        if fw_cap M19 ≤ 1000 then
        if ix_i ((a2 + (-1)) + (-1)) (fw_cap M19) then
        lt_x (fw_wi M19 377 ((a2 + (-1)) + (-1)) (fw_nb 45)) fun M24 =>
        some (((a2 + (-1)) + (-1)), M24)
        else none
        else none
      else
        if fw_cap M19 ≤ 1000 then
        if ix_i ((a2 + (-1)) + (-1)) (fw_cap M19) then
        lt_x (fw_wi M19 377 ((a2 + (-1)) + (-1)) (fw_nb (nI (48 + (-a1).toNatClampNeg / 10)))) fun M27 =>
        if fw_cap M27 ≤ 1000 then
        if ix_i (((a2 + (-1)) + (-1)) + (-1)) (fw_cap M27) then
        lt_x (fw_wi M27 377 (((a2 + (-1)) + (-1)) + (-1)) (fw_nb 45)) fun M31 =>
        some ((((a2 + (-1)) + (-1)) + (-1)), M31)
        else none
        else none
        else none
        else none
      else none
      else none
      else none
    else
      none
set_option maxHeartbeats 4000000 in
set_option maxRecDepth 100000 in
theorem cm_J6_getChars_ba4f3 {l : Launch} {X : fw_X} {M : fw_M} {b : Nat} {a1 : Int32} {a2 : Int32} {o : Int32 × fw_M} (hF : F_J6_getChars_ba4f3 M a1 a2 = some o) : ct_gc l X ({ frames := 0, cells := 0, slots := 0, locals := 0 } : Room) M b a1 a2 o := by
  refine fw_openb (fun _ => True) rfl (Nat.le_of_ble_eq_true rfl) (fun p e s m below meth c ls _ C hr hlk hl B => ?_)
  have C : fr_C X p c cJ6_getChars_ba4f3 7 RJ6 s m ([.int a1, .int a2, .ref b] : List Value).toArray := C
  have hx := C.1.1
  have hb := C.1.2.1
  have hl : lv_has ls 7 [(0, .int a1), (1, .int a2), (2, .ref b)] := hl
  unfold F_J6_getChars_ba4f3 at hF
  refine lv_iload_n hx hb dJ6_getChars_ba4f3_0 rfl (lv_at hl 1 rfl) ?_
  refine lv_istore (lv' := [(5, .int a2), (0, .int a1), (1, .int a2), (2, .ref b)]) hx hb dJ6_getChars_ba4f3_1 hl (by decide) rfl (fun ls hl => ?_)
  refine lv_iload_n hx hb dJ6_getChars_ba4f3_3 rfl (lv_at hl 1 rfl) ?_
  refine lv_if_ge (tgt := 11) hx hb dJ6_getChars_ba4f3_4 (by decide) (fun c1 => ?_) (fun c1 => ?_)
  · have hF := it_t hF c1
    refine lv_iconst (v := 0) hx hb dJ6_getChars_ba4f3_11 (by decide) ?_
    refine lv_istore (lv' := [(6, .int 0), (5, .int a2), (0, .int a1), (1, .int a2), (2, .ref b)]) hx hb dJ6_getChars_ba4f3_12 hl (by decide) rfl (fun ls hl => ?_)
    refine lv_iload hx hb dJ6_getChars_ba4f3_14 (lv_at hl 0 rfl) ?_
    refine lv_if_ne (tgt := 22) hx hb dJ6_getChars_ba4f3_16 (by decide) (fun c2 => ?_) (fun c2 => ?_)
    · exact absurd c2 (by decide)
    · refine lv_iload_n hx hb dJ6_getChars_ba4f3_19 rfl (lv_at hl 2 rfl) ?_
      refine lv_ineg hx hb dJ6_getChars_ba4f3_20 ?_
      refine lv_istore_n (lv' := [(0, .int (-a1)), (6, .int 0), (5, .int a2), (1, .int a2), (2, .ref b)]) hx hb dJ6_getChars_ba4f3_21 rfl hl (by decide) rfl (fun ls hl => ?_)
      refine lv_iload_n hx hb dJ6_getChars_ba4f3_22 rfl (lv_at hl 0 rfl) ?_
      refine lv_bipush (v := (-100)) hx hb dJ6_getChars_ba4f3_23 (by decide) ?_
      refine lv_icmp_gt (tgt := 72) hx hb dJ6_getChars_ba4f3_25 (by decide) (fun c3 => ?_) (fun c3 => ?_)
      · have hF := it_t hF c3
        refine lv_aload_n hx hb dJ6_getChars_ba4f3_72 rfl (lv_at hl 4 rfl) ?_
        refine lv_iinc (v := (a2 + (-1))) (lv' := [(5, .int (a2 + (-1))), (0, .int (-a1)), (6, .int 0), (1, .int a2), (2, .ref b)]) hx hb dJ6_getChars_ba4f3_73 hl (k := 2) rfl rfl (by decide) rfl (fun ls hl => ?_)
        refine lv_iload hx hb dJ6_getChars_ba4f3_76 (lv_at hl 0 rfl) ?_
        refine va_gets hx hb C.2.2.1.2.2.2.2.2.2.2.2.1 B.2.2 C.1.2.2.2.1 (C.1.2.2.2.2 _ wf_J6_83) (fun _ h => h) dJ6_getChars_ba4f3_78 ?_
        refine lv_iload_n hx hb dJ6_getChars_ba4f3_81 rfl (lv_at hl 1 rfl) ?_
        refine lv_ineg hx hb dJ6_getChars_ba4f3_82 ?_
        obtain ⟨c4, hF⟩ := of_g hF
        refine va_tb hx hb C.2.2.1.2.2.2.2.2.2.2.2.2.1 B.2.2 c4 rfl dJ6_getChars_ba4f3_83 ?_
        obtain ⟨c5, hF⟩ := of_g hF
        obtain ⟨c6, hF⟩ := of_g hF
        refine jb_bs C B c5 c6 dJ6_getChars_ba4f3_84 (fun H locs B => ?_)
        obtain ⟨M7, eM7, hF⟩ := lt_e hF
        rw [← eM7] at B
        refine lv_iload_n hx hb dJ6_getChars_ba4f3_85 rfl (lv_at hl 1 rfl) ?_
        refine lv_bipush (v := (-9)) hx hb dJ6_getChars_ba4f3_86 (by decide) ?_
        refine lv_icmp_ge (tgt := 104) hx hb dJ6_getChars_ba4f3_88 (by decide) (fun c8 => ?_) (fun c8 => ?_)
        · have hF := it_t hF c8
          refine lv_iload hx hb dJ6_getChars_ba4f3_104 (lv_at hl 2 rfl) ?_
          refine lv_if_eq (tgt := 118) hx hb dJ6_getChars_ba4f3_106 (by decide) (fun c9 => ?_) (fun c9 => ?_)
          · refine lv_iload hx hb dJ6_getChars_ba4f3_118 (lv_at hl 0 rfl) ?_
            exact jm_gi C B hr hlk (by rw [← Option.some.inj hF]) (Nat.le_of_ble_eq_true rfl) (Nat.le_of_ble_eq_true rfl) dJ6_getChars_ba4f3_120
          · exact absurd c9 (by decide)
        · have hF := it_f hF c8
          refine lv_aload_n hx hb dJ6_getChars_ba4f3_91 rfl (lv_at hl 4 rfl) ?_
          refine lv_iinc (v := ((a2 + (-1)) + (-1))) (lv' := [(5, .int ((a2 + (-1)) + (-1))), (0, .int (-a1)), (6, .int 0), (1, .int a2), (2, .ref b)]) hx hb dJ6_getChars_ba4f3_92 hl (k := 0) rfl rfl (by decide) rfl (fun ls hl => ?_)
          refine lv_iload hx hb dJ6_getChars_ba4f3_95 (lv_at hl 0 rfl) ?_
          refine va_gets hx hb C.2.2.1.2.2.2.2.2.2.1 B.2.2 C.1.2.2.2.1 (C.1.2.2.2.2 _ wf_J6_87) (fun _ h => h) dJ6_getChars_ba4f3_97 ?_
          refine lv_iload_n hx hb dJ6_getChars_ba4f3_100 rfl (lv_at hl 1 rfl) ?_
          refine lv_ineg hx hb dJ6_getChars_ba4f3_101 ?_
          refine va_tb hx hb C.2.2.1.2.2.2.2.2.2.2.1 B.2.2 c4 rfl dJ6_getChars_ba4f3_102 ?_
          obtain ⟨c10, hF⟩ := of_g hF
          obtain ⟨c11, hF⟩ := of_g hF
          refine jb_bs C B c10 c11 dJ6_getChars_ba4f3_103 (fun H locs B => ?_)
          obtain ⟨M12, eM12, hF⟩ := lt_e hF
          rw [← eM12] at B
          refine lv_iload hx hb dJ6_getChars_ba4f3_104 (lv_at hl 2 rfl) ?_
          refine lv_if_eq (tgt := 118) hx hb dJ6_getChars_ba4f3_106 (by decide) (fun c13 => ?_) (fun c13 => ?_)
          · refine lv_iload hx hb dJ6_getChars_ba4f3_118 (lv_at hl 0 rfl) ?_
            exact jm_gi C B hr hlk (by rw [← Option.some.inj hF]) (Nat.le_of_ble_eq_true rfl) (Nat.le_of_ble_eq_true rfl) dJ6_getChars_ba4f3_120
          · exact absurd c13 (by decide)
      · have hF := it_f hF c3
        cases hF
  · have hF := it_f hF c1
    refine lv_iconst (v := 1) hx hb dJ6_getChars_ba4f3_7 (by decide) ?_
    refine lv_goto (tgt := 12) hx hb dJ6_getChars_ba4f3_8 (by decide) ?_
    refine lv_istore (lv' := [(6, .int 1), (5, .int a2), (0, .int a1), (1, .int a2), (2, .ref b)]) hx hb dJ6_getChars_ba4f3_12 hl (by decide) rfl (fun ls hl => ?_)
    refine lv_iload hx hb dJ6_getChars_ba4f3_14 (lv_at hl 0 rfl) ?_
    refine lv_if_ne (tgt := 22) hx hb dJ6_getChars_ba4f3_16 (by decide) (fun c14 => ?_) (fun c14 => ?_)
    · refine lv_iload_n hx hb dJ6_getChars_ba4f3_22 rfl (lv_at hl 2 rfl) ?_
      refine lv_bipush (v := (-100)) hx hb dJ6_getChars_ba4f3_23 (by decide) ?_
      refine lv_icmp_gt (tgt := 72) hx hb dJ6_getChars_ba4f3_25 (by decide) (fun c15 => ?_) (fun c15 => ?_)
      · have hF := it_t hF c15
        refine lv_aload_n hx hb dJ6_getChars_ba4f3_72 rfl (lv_at hl 4 rfl) ?_
        refine lv_iinc (v := (a2 + (-1))) (lv' := [(5, .int (a2 + (-1))), (6, .int 1), (0, .int a1), (1, .int a2), (2, .ref b)]) hx hb dJ6_getChars_ba4f3_73 hl (k := 1) rfl rfl (by decide) rfl (fun ls hl => ?_)
        refine lv_iload hx hb dJ6_getChars_ba4f3_76 (lv_at hl 0 rfl) ?_
        refine va_gets hx hb C.2.2.1.2.2.2.2.2.2.2.2.1 B.2.2 C.1.2.2.2.1 (C.1.2.2.2.2 _ wf_J6_83) (fun _ h => h) dJ6_getChars_ba4f3_78 ?_
        refine lv_iload_n hx hb dJ6_getChars_ba4f3_81 rfl (lv_at hl 2 rfl) ?_
        refine lv_ineg hx hb dJ6_getChars_ba4f3_82 ?_
        obtain ⟨c16, hF⟩ := of_g hF
        refine va_tb hx hb C.2.2.1.2.2.2.2.2.2.2.2.2.1 B.2.2 c16 rfl dJ6_getChars_ba4f3_83 ?_
        obtain ⟨c17, hF⟩ := of_g hF
        obtain ⟨c18, hF⟩ := of_g hF
        refine jb_bs C B c17 c18 dJ6_getChars_ba4f3_84 (fun H locs B => ?_)
        obtain ⟨M19, eM19, hF⟩ := lt_e hF
        rw [← eM19] at B
        refine lv_iload_n hx hb dJ6_getChars_ba4f3_85 rfl (lv_at hl 2 rfl) ?_
        refine lv_bipush (v := (-9)) hx hb dJ6_getChars_ba4f3_86 (by decide) ?_
        refine lv_icmp_ge (tgt := 104) hx hb dJ6_getChars_ba4f3_88 (by decide) (fun c20 => ?_) (fun c20 => ?_)
        · have hF := it_t hF c20
          refine lv_iload hx hb dJ6_getChars_ba4f3_104 (lv_at hl 1 rfl) ?_
          refine lv_if_eq (tgt := 118) hx hb dJ6_getChars_ba4f3_106 (by decide) (fun c21 => ?_) (fun c21 => ?_)
          · exact absurd c21 (by decide)
          · refine lv_aload_n hx hb dJ6_getChars_ba4f3_109 rfl (lv_at hl 4 rfl) ?_
            refine lv_iinc (v := ((a2 + (-1)) + (-1))) (lv' := [(5, .int ((a2 + (-1)) + (-1))), (6, .int 1), (0, .int a1), (1, .int a2), (2, .ref b)]) hx hb dJ6_getChars_ba4f3_110 hl (k := 0) rfl rfl (by decide) rfl (fun ls hl => ?_)
            refine lv_iload hx hb dJ6_getChars_ba4f3_113 (lv_at hl 0 rfl) ?_
            refine lv_bipush (v := 45) hx hb dJ6_getChars_ba4f3_115 (by decide) ?_
            obtain ⟨c22, hF⟩ := of_g hF
            obtain ⟨c23, hF⟩ := of_g hF
            refine jb_bs C B c22 c23 dJ6_getChars_ba4f3_117 (fun H locs B => ?_)
            obtain ⟨M24, eM24, hF⟩ := lt_e hF
            rw [← eM24] at B
            refine lv_iload hx hb dJ6_getChars_ba4f3_118 (lv_at hl 0 rfl) ?_
            exact jm_gi C B hr hlk (by rw [← Option.some.inj hF]) (Nat.le_of_ble_eq_true rfl) (Nat.le_of_ble_eq_true rfl) dJ6_getChars_ba4f3_120
        · have hF := it_f hF c20
          refine lv_aload_n hx hb dJ6_getChars_ba4f3_91 rfl (lv_at hl 4 rfl) ?_
          refine lv_iinc (v := ((a2 + (-1)) + (-1))) (lv' := [(5, .int ((a2 + (-1)) + (-1))), (6, .int 1), (0, .int a1), (1, .int a2), (2, .ref b)]) hx hb dJ6_getChars_ba4f3_92 hl (k := 0) rfl rfl (by decide) rfl (fun ls hl => ?_)
          refine lv_iload hx hb dJ6_getChars_ba4f3_95 (lv_at hl 0 rfl) ?_
          refine va_gets hx hb C.2.2.1.2.2.2.2.2.2.1 B.2.2 C.1.2.2.2.1 (C.1.2.2.2.2 _ wf_J6_87) (fun _ h => h) dJ6_getChars_ba4f3_97 ?_
          refine lv_iload_n hx hb dJ6_getChars_ba4f3_100 rfl (lv_at hl 2 rfl) ?_
          refine lv_ineg hx hb dJ6_getChars_ba4f3_101 ?_
          refine va_tb hx hb C.2.2.1.2.2.2.2.2.2.2.1 B.2.2 c16 rfl dJ6_getChars_ba4f3_102 ?_
          obtain ⟨c25, hF⟩ := of_g hF
          obtain ⟨c26, hF⟩ := of_g hF
          refine jb_bs C B c25 c26 dJ6_getChars_ba4f3_103 (fun H locs B => ?_)
          obtain ⟨M27, eM27, hF⟩ := lt_e hF
          rw [← eM27] at B
          refine lv_iload hx hb dJ6_getChars_ba4f3_104 (lv_at hl 1 rfl) ?_
          refine lv_if_eq (tgt := 118) hx hb dJ6_getChars_ba4f3_106 (by decide) (fun c28 => ?_) (fun c28 => ?_)
          · exact absurd c28 (by decide)
          · refine lv_aload_n hx hb dJ6_getChars_ba4f3_109 rfl (lv_at hl 4 rfl) ?_
            refine lv_iinc (v := (((a2 + (-1)) + (-1)) + (-1))) (lv' := [(5, .int (((a2 + (-1)) + (-1)) + (-1))), (6, .int 1), (0, .int a1), (1, .int a2), (2, .ref b)]) hx hb dJ6_getChars_ba4f3_110 hl (k := 0) rfl rfl (by decide) rfl (fun ls hl => ?_)
            refine lv_iload hx hb dJ6_getChars_ba4f3_113 (lv_at hl 0 rfl) ?_
            refine lv_bipush (v := 45) hx hb dJ6_getChars_ba4f3_115 (by decide) ?_
            obtain ⟨c29, hF⟩ := of_g hF
            obtain ⟨c30, hF⟩ := of_g hF
            refine jb_bs C B c29 c30 dJ6_getChars_ba4f3_117 (fun H locs B => ?_)
            obtain ⟨M31, eM31, hF⟩ := lt_e hF
            rw [← eM31] at B
            refine lv_iload hx hb dJ6_getChars_ba4f3_118 (lv_at hl 0 rfl) ?_
            exact jm_gi C B hr hlk (by rw [← Option.some.inj hF]) (Nat.le_of_ble_eq_true rfl) (Nat.le_of_ble_eq_true rfl) dJ6_getChars_ba4f3_120
      · have hF := it_f hF c15
        cases hF
    · exact absurd c14 (by decide)
def F_J5_append_3fe6f (M : fw_M) (a1 : Int32) : Option (fw_M) :=
  bd_x (F_J5_ensureCapacityInternal_d00df M ((M 376 3) + 1)) fun M2 =>
  bd_x (F_J5_isLatin1_aae02 M2) fun r4 =>
  if r4 = 0 then
    bd_x (F_J5_isLatin1_aae02 M2) fun r7 =>
    if r7 = 0 then
      lt_x (fw_up M2 376 3 ((M2 376 3) + 1)) fun M10 =>
      none
    else
      none
  else
    bd_x (F_J1_canEncode_fc78d M2 a1) fun r11 =>
    if r11 = 0 then
      bd_x (F_J5_isLatin1_aae02 M2) fun r14 =>
      if r14 = 0 then
        lt_x (fw_up M2 376 3 ((M2 376 3) + 1)) fun M17 =>
        none
      else
        none
    else
      lt_x (fw_up M2 376 3 ((M2 376 3) + 1)) fun M18 =>
      if fw_cap M18 ≤ 1000 then
      if ix_i (M2 376 3) (fw_cap M18) then
      lt_x (fw_wi M18 377 (M2 376 3) (fw_nb (a1.toInt8.toInt32))) fun M21 =>
      some M21
      else none
      else none
set_option maxHeartbeats 4000000 in
set_option maxRecDepth 100000 in
theorem cm_J5_append_3fe6f {l : Launch} {X : fw_X} {M : fw_M} {a1 : Int32} {o : fw_M} (hF : F_J5_append_3fe6f M a1 = some o) : ct_mr l X yJ5_append_3fe6f cJ5_append_3fe6f 2 (some (.object "java/lang/AbstractStringBuilder")) ({ frames := 4, cells := 1, slots := 100, locals := 182 } : Room) M [.ref (fw_ad X 376), .int a1] o := by
  refine fw_openR rfl (Nat.le_of_ble_eq_true rfl) (fun p e s m below meth c ls b C hr hlk hl B => ?_)
  have C : fr_C X p c cJ5_append_3fe6f 2 RJ5 s m ([.ref (fw_ad X 376), .int a1] : List Value).toArray := C
  have hx := C.1.1
  have hb := C.1.2.1
  have hl : lv_has ls 2 [(0, .ref (fw_ad X 376)), (1, .int a1)] := hl
  unfold F_J5_append_3fe6f at hF
  refine lv_aload_n hx hb dJ5_append_3fe6f_0 rfl (lv_at hl 0 rfl) ?_
  refine lv_aload_n hx hb dJ5_append_3fe6f_1 rfl (lv_at hl 0 rfl) ?_
  refine jb_get (j := 3) C B (by decide) in_J4 wf_J5_79 (fun _ h => h) rfl dJ5_append_3fe6f_2 ?_
  refine lv_iconst (v := 1) hx hb dJ5_append_3fe6f_5 (by decide) ?_
  refine lv_iadd hx hb dJ5_append_3fe6f_6 ?_
  obtain ⟨M2, hf1, hF⟩ := bx_e hF
  refine jm_U (As := [.int ((M 376 3) + 1)]) (rest := []) C B (cm_J5_ensure hf1) yu_J5_ensureCapacityInternal_d00df wm_J5_100 rfl hl.1 rfl (Nat.le_of_ble_eq_true rfl) ⟨Nat.le_of_ble_eq_true rfl, Nat.le_of_ble_eq_true rfl⟩ ⟨Nat.le_of_ble_eq_true rfl, Nat.le_of_ble_eq_true rfl⟩ dJ5_append_3fe6f_7 (fun H locs B => ?_)
  obtain ⟨b, B⟩ := fr_op B
  refine lv_aload_n hx hb dJ5_append_3fe6f_10 rfl (lv_at hl 0 rfl) ?_
  obtain ⟨r4, h5, hF⟩ := bx_e hF
  refine jr_U (As := []) (rest := []) C B (cr_J5_isLatin1_aae02 h5) yu_J5_isLatin1_aae02 wm_J5_83 rfl hl.1 rfl (Nat.le_of_ble_eq_true rfl) ⟨Nat.le_of_ble_eq_true rfl, Nat.le_of_ble_eq_true rfl⟩ ⟨rfl, rfl⟩ ⟨Nat.le_of_ble_eq_true rfl, Nat.le_of_ble_eq_true rfl⟩ dJ5_append_3fe6f_11 ?_
  refine lv_if_eq (tgt := 45) hx hb dJ5_append_3fe6f_14 (by decide) (fun c6 => ?_) (fun c6 => ?_)
  · have hF := it_t hF c6
    refine lv_aload_n hx hb dJ5_append_3fe6f_45 rfl (lv_at hl 0 rfl) ?_
    obtain ⟨r7, h8, hF⟩ := bx_e hF
    refine jr_U (As := []) (rest := []) C B (cr_J5_isLatin1_aae02 h8) yu_J5_isLatin1_aae02 wm_J5_83 rfl hl.1 rfl (Nat.le_of_ble_eq_true rfl) ⟨Nat.le_of_ble_eq_true rfl, Nat.le_of_ble_eq_true rfl⟩ ⟨rfl, rfl⟩ ⟨Nat.le_of_ble_eq_true rfl, Nat.le_of_ble_eq_true rfl⟩ dJ5_append_3fe6f_46 ?_
    refine lv_if_eq (tgt := 56) hx hb dJ5_append_3fe6f_49 (by decide) (fun c9 => ?_) (fun c9 => ?_)
    · have hF := it_t hF c9
      refine lv_aload_n hx hb dJ5_append_3fe6f_56 rfl (lv_at hl 0 rfl) ?_
      refine jb_get (j := 0) C B (by decide) in_J4 wf_J5_15 (fun _ h => h) rfl dJ5_append_3fe6f_57 ?_
      refine lv_aload_n hx hb dJ5_append_3fe6f_60 rfl (lv_at hl 0 rfl) ?_
      refine lv_dup hx hb dJ5_append_3fe6f_61 rfl ?_
      refine jb_get (j := 3) C B (by decide) in_J4 wf_J5_79 (fun _ h => h) rfl dJ5_append_3fe6f_62 ?_
      refine lv_dup_x1 hx hb dJ5_append_3fe6f_65 rfl rfl ?_
      refine lv_iconst (v := 1) hx hb dJ5_append_3fe6f_66 (by decide) ?_
      refine lv_iadd hx hb dJ5_append_3fe6f_67 ?_
      refine jb_put (j := 3) C B (by decide) in_J4 wf_J5_79 (fun _ h => h) rfl rfl rfl rfl dJ5_append_3fe6f_68 (fun H locs B => ?_)
      obtain ⟨M10, eM10, hF⟩ := lt_e hF
      rw [← eM10] at B
      refine lv_iload_n hx hb dJ5_append_3fe6f_71 rfl (lv_at hl 1 rfl) ?_
      cases hF
    · have hF := it_f hF c9
      refine lv_aload_n hx hb dJ5_append_3fe6f_52 rfl (lv_at hl 0 rfl) ?_
      cases hF
  · have hF := it_f hF c6
    refine lv_iload_n hx hb dJ5_append_3fe6f_17 rfl (lv_at hl 1 rfl) ?_
    obtain ⟨r11, h12, hF⟩ := bx_e hF
    refine jr_S (As := [.int a1]) (rest := []) C B.h (cr_J1_canEncode_fc78d h12) yw_J1_canEncode_fc78d wm_J5_191 rfl hl.1 rfl (Nat.le_of_ble_eq_true rfl) ⟨Nat.le_of_ble_eq_true rfl, Nat.le_of_ble_eq_true rfl⟩ ⟨rfl, rfl⟩ ⟨Nat.le_of_ble_eq_true rfl, Nat.le_of_ble_eq_true rfl⟩ dJ5_append_3fe6f_18 ?_
    refine lv_if_eq (tgt := 45) hx hb dJ5_append_3fe6f_21 (by decide) (fun c13 => ?_) (fun c13 => ?_)
    · have hF := it_t hF c13
      refine lv_aload_n hx hb dJ5_append_3fe6f_45 rfl (lv_at hl 0 rfl) ?_
      obtain ⟨r14, h15, hF⟩ := bx_e hF
      refine jr_U (As := []) (rest := []) C B (cr_J5_isLatin1_aae02 h15) yu_J5_isLatin1_aae02 wm_J5_83 rfl hl.1 rfl (Nat.le_of_ble_eq_true rfl) ⟨Nat.le_of_ble_eq_true rfl, Nat.le_of_ble_eq_true rfl⟩ ⟨rfl, rfl⟩ ⟨Nat.le_of_ble_eq_true rfl, Nat.le_of_ble_eq_true rfl⟩ dJ5_append_3fe6f_46 ?_
      refine lv_if_eq (tgt := 56) hx hb dJ5_append_3fe6f_49 (by decide) (fun c16 => ?_) (fun c16 => ?_)
      · have hF := it_t hF c16
        refine lv_aload_n hx hb dJ5_append_3fe6f_56 rfl (lv_at hl 0 rfl) ?_
        refine jb_get (j := 0) C B (by decide) in_J4 wf_J5_15 (fun _ h => h) rfl dJ5_append_3fe6f_57 ?_
        refine lv_aload_n hx hb dJ5_append_3fe6f_60 rfl (lv_at hl 0 rfl) ?_
        refine lv_dup hx hb dJ5_append_3fe6f_61 rfl ?_
        refine jb_get (j := 3) C B (by decide) in_J4 wf_J5_79 (fun _ h => h) rfl dJ5_append_3fe6f_62 ?_
        refine lv_dup_x1 hx hb dJ5_append_3fe6f_65 rfl rfl ?_
        refine lv_iconst (v := 1) hx hb dJ5_append_3fe6f_66 (by decide) ?_
        refine lv_iadd hx hb dJ5_append_3fe6f_67 ?_
        refine jb_put (j := 3) C B (by decide) in_J4 wf_J5_79 (fun _ h => h) rfl rfl rfl rfl dJ5_append_3fe6f_68 (fun H locs B => ?_)
        obtain ⟨M17, eM17, hF⟩ := lt_e hF
        rw [← eM17] at B
        refine lv_iload_n hx hb dJ5_append_3fe6f_71 rfl (lv_at hl 1 rfl) ?_
        cases hF
      · have hF := it_f hF c16
        refine lv_aload_n hx hb dJ5_append_3fe6f_52 rfl (lv_at hl 0 rfl) ?_
        cases hF
    · have hF := it_f hF c13
      refine lv_aload_n hx hb dJ5_append_3fe6f_24 rfl (lv_at hl 0 rfl) ?_
      refine jb_get (j := 0) C B (by decide) in_J4 wf_J5_15 (fun _ h => h) rfl dJ5_append_3fe6f_25 ?_
      refine lv_aload_n hx hb dJ5_append_3fe6f_28 rfl (lv_at hl 0 rfl) ?_
      refine lv_dup hx hb dJ5_append_3fe6f_29 rfl ?_
      refine jb_get (j := 3) C B (by decide) in_J4 wf_J5_79 (fun _ h => h) rfl dJ5_append_3fe6f_30 ?_
      refine lv_dup_x1 hx hb dJ5_append_3fe6f_33 rfl rfl ?_
      refine lv_iconst (v := 1) hx hb dJ5_append_3fe6f_34 (by decide) ?_
      refine lv_iadd hx hb dJ5_append_3fe6f_35 ?_
      refine jb_put (j := 3) C B (by decide) in_J4 wf_J5_79 (fun _ h => h) rfl rfl rfl rfl dJ5_append_3fe6f_36 (fun H locs B => ?_)
      obtain ⟨M18, eM18, hF⟩ := lt_e hF
      rw [← eM18] at B
      refine lv_iload_n hx hb dJ5_append_3fe6f_39 rfl (lv_at hl 1 rfl) ?_
      refine lv_i2b hx hb dJ5_append_3fe6f_40 rfl ?_
      obtain ⟨c19, hF⟩ := of_g hF
      obtain ⟨c20, hF⟩ := of_g hF
      refine jb_bs C B c19 c20 dJ5_append_3fe6f_41 (fun H locs B => ?_)
      obtain ⟨M21, eM21, hF⟩ := lt_e hF
      rw [← eM21] at B
      refine lv_goto (tgt := 75) hx hb dJ5_append_3fe6f_42 (by decide) ?_
      refine lv_aload_n hx hb dJ5_append_3fe6f_75 rfl (lv_at hl 0 rfl) ?_
      exact jm_r C B.h hr hlk (Option.some.inj hF) (Nat.le_of_ble_eq_true rfl) (Nat.le_of_ble_eq_true rfl) dJ5_append_3fe6f_76
def F_J5_append_c97b9 (M : fw_M) (a1 : Int32) : Option (fw_M) :=
  bd_x (F_J6_stringSize_0f7a4 M a1) fun r1 =>
  bd_x (F_J5_ensureCapacityInternal_d00df M ((M 376 3) + r1)) fun M4 =>
  bd_x (F_J5_isLatin1_aae02 M4) fun r6 =>
  if r6 = 0 then
    none
  else
    bd_p (F_J6_getChars_ba4f3 M4 a1 ((M 376 3) + r1)) fun r11 M10 =>
    lt_x (fw_up M10 376 3 ((M 376 3) + r1)) fun M12 =>
    some M12
set_option maxHeartbeats 4000000 in
set_option maxRecDepth 100000 in
theorem cm_J5_append_c97b9 {l : Launch} {X : fw_X} {M : fw_M} {a1 : Int32} {o : fw_M} (hF : F_J5_append_c97b9 M a1 = some o) : ct_mr l X yJ5_append_c97b9 cJ5_append_c97b9 4 (some (.object "java/lang/AbstractStringBuilder")) ({ frames := 4, cells := 1, slots := 100, locals := 182 } : Room) M [.ref (fw_ad X 376), .int a1] o := by
  refine fw_openR rfl (Nat.le_of_ble_eq_true rfl) (fun p e s m below meth c ls b C hr hlk hl B => ?_)
  have C : fr_C X p c cJ5_append_c97b9 4 RJ5 s m ([.ref (fw_ad X 376), .int a1] : List Value).toArray := C
  have hx := C.1.1
  have hb := C.1.2.1
  have hl : lv_has ls 4 [(0, .ref (fw_ad X 376)), (1, .int a1)] := hl
  unfold F_J5_append_c97b9 at hF
  refine lv_aload_n hx hb dJ5_append_c97b9_0 rfl (lv_at hl 0 rfl) ?_
  refine jb_get (j := 3) C B (by decide) in_J4 wf_J5_79 (fun _ h => h) rfl dJ5_append_c97b9_1 ?_
  refine lv_istore_n (lv' := [(2, .int (M 376 3)), (0, .ref (fw_ad X 376)), (1, .int a1)]) hx hb dJ5_append_c97b9_4 rfl hl (by decide) rfl (fun ls hl => ?_)
  refine lv_iload_n hx hb dJ5_append_c97b9_5 rfl (lv_at hl 0 rfl) ?_
  refine lv_iload_n hx hb dJ5_append_c97b9_6 rfl (lv_at hl 2 rfl) ?_
  obtain ⟨r1, h2, hF⟩ := bx_e hF
  refine jr_S (As := [.int a1]) (rest := [.int (M 376 3)]) C B.h (cr_J6_stringSize_0f7a4 h2) yw_J6_stringSize_0f7a4 wm_J5_245 rfl hl.1 rfl (Nat.le_of_ble_eq_true rfl) ⟨Nat.le_of_ble_eq_true rfl, Nat.le_of_ble_eq_true rfl⟩ ⟨rfl, rfl⟩ ⟨Nat.le_of_ble_eq_true rfl, Nat.le_of_ble_eq_true rfl⟩ dJ5_append_c97b9_7 ?_
  refine lv_iadd hx hb dJ5_append_c97b9_10 ?_
  refine lv_istore_n (lv' := [(3, .int ((M 376 3) + r1)), (2, .int (M 376 3)), (0, .ref (fw_ad X 376)), (1, .int a1)]) hx hb dJ5_append_c97b9_11 rfl hl (by decide) rfl (fun ls hl => ?_)
  refine lv_aload_n hx hb dJ5_append_c97b9_12 rfl (lv_at hl 2 rfl) ?_
  refine lv_iload_n hx hb dJ5_append_c97b9_13 rfl (lv_at hl 0 rfl) ?_
  obtain ⟨M4, hf3, hF⟩ := bx_e hF
  refine jm_U (As := [.int ((M 376 3) + r1)]) (rest := []) C B (cm_J5_ensure hf3) yu_J5_ensureCapacityInternal_d00df wm_J5_100 rfl hl.1 rfl (Nat.le_of_ble_eq_true rfl) ⟨Nat.le_of_ble_eq_true rfl, Nat.le_of_ble_eq_true rfl⟩ ⟨Nat.le_of_ble_eq_true rfl, Nat.le_of_ble_eq_true rfl⟩ dJ5_append_c97b9_14 (fun H locs B => ?_)
  obtain ⟨b, B⟩ := fr_op B
  refine lv_aload_n hx hb dJ5_append_c97b9_17 rfl (lv_at hl 2 rfl) ?_
  obtain ⟨r6, h7, hF⟩ := bx_e hF
  refine jr_U (As := []) (rest := []) C B (cr_J5_isLatin1_aae02 h7) yu_J5_isLatin1_aae02 wm_J5_83 rfl hl.1 rfl (Nat.le_of_ble_eq_true rfl) ⟨Nat.le_of_ble_eq_true rfl, Nat.le_of_ble_eq_true rfl⟩ ⟨rfl, rfl⟩ ⟨Nat.le_of_ble_eq_true rfl, Nat.le_of_ble_eq_true rfl⟩ dJ5_append_c97b9_18 ?_
  refine lv_if_eq (tgt := 37) hx hb dJ5_append_c97b9_21 (by decide) (fun c8 => ?_) (fun c8 => ?_)
  · have hF := it_t hF c8
    refine lv_iload_n hx hb dJ5_append_c97b9_37 rfl (lv_at hl 3 rfl) ?_
    refine lv_iload_n hx hb dJ5_append_c97b9_38 rfl (lv_at hl 1 rfl) ?_
    refine lv_iload_n hx hb dJ5_append_c97b9_39 rfl (lv_at hl 0 rfl) ?_
    refine lv_aload_n hx hb dJ5_append_c97b9_40 rfl (lv_at hl 2 rfl) ?_
    refine jb_get (j := 0) C B (by decide) in_J4 wf_J5_15 (fun _ h => h) rfl dJ5_append_c97b9_41 ?_
    cases hF
  · have hF := it_f hF c8
    refine lv_iload_n hx hb dJ5_append_c97b9_24 rfl (lv_at hl 3 rfl) ?_
    refine lv_iload_n hx hb dJ5_append_c97b9_25 rfl (lv_at hl 0 rfl) ?_
    refine lv_aload_n hx hb dJ5_append_c97b9_26 rfl (lv_at hl 2 rfl) ?_
    refine jb_get (j := 0) C B (by decide) in_J4 wf_J5_15 (fun _ h => h) rfl dJ5_append_c97b9_27 ?_
    obtain ⟨r11, M10, hf9, hF⟩ := bp_e hF
    refine jm_gc C B (cm_J6_getChars_ba4f3 hf9) wm_J5_248 hl.1 (Nat.le_of_ble_eq_true rfl) ⟨Nat.le_of_ble_eq_true rfl, Nat.le_of_ble_eq_true rfl⟩ ⟨Nat.le_of_ble_eq_true rfl, Nat.le_of_ble_eq_true rfl⟩ dJ5_append_c97b9_30 (fun H locs B => ?_)
    refine lv_pop hx hb dJ5_append_c97b9_33 rfl ?_
    refine lv_goto (tgt := 48) hx hb dJ5_append_c97b9_34 (by decide) ?_
    refine lv_aload_n hx hb dJ5_append_c97b9_48 rfl (lv_at hl 2 rfl) ?_
    refine lv_iload_n hx hb dJ5_append_c97b9_49 rfl (lv_at hl 0 rfl) ?_
    refine jb_put (j := 3) C B (by decide) in_J4 wf_J5_79 (fun _ h => h) rfl rfl rfl rfl dJ5_append_c97b9_50 (fun H locs B => ?_)
    obtain ⟨M12, eM12, hF⟩ := lt_e hF
    rw [← eM12] at B
    refine lv_aload_n hx hb dJ5_append_c97b9_53 rfl (lv_at hl 2 rfl) ?_
    exact jm_r C B.h hr hlk (Option.some.inj hF) (Nat.le_of_ble_eq_true rfl) (Nat.le_of_ble_eq_true rfl) dJ5_append_c97b9_54
def F_J5_setLength_d00df (M : fw_M) (a1 : Int32) : Option (fw_M) :=
  if 0 ≤ a1 then
    bd_x (F_J5_ensureCapacityInternal_d00df M a1) fun M3 =>
    if a1 ≤ (M3 376 3) then
      if (M3 376 3) ≤ a1 then
        lt_x (fw_up M3 376 3 a1) fun M7 =>
        some M7
      else
        lt_x (fw_up M3 376 2 1) fun M8 =>
        lt_x (fw_up M8 376 3 a1) fun M9 =>
        some M9
    else
      bd_x (F_J5_isLatin1_aae02 M3) fun r10 =>
      if r10 = 0 then
        none
      else
        none
  else
    none
set_option maxHeartbeats 4000000 in
set_option maxRecDepth 100000 in
theorem cm_J5_setLength_d00df {l : Launch} {X : fw_X} {M : fw_M} {a1 : Int32} {o : fw_M} (hF : F_J5_setLength_d00df M a1 = some o) : ct_mv l X yJ5_setLength_d00df cJ5_setLength_d00df 2 ({ frames := 4, cells := 1, slots := 100, locals := 182 } : Room) M [.ref (fw_ad X 376), .int a1] o := by
  refine fw_openR rfl (Nat.le_of_ble_eq_true rfl) (fun p e s m below meth c ls b C hr hlk hl B => ?_)
  have C : fr_C X p c cJ5_setLength_d00df 2 RJ5 s m ([.ref (fw_ad X 376), .int a1] : List Value).toArray := C
  have hx := C.1.1
  have hb := C.1.2.1
  have hl : lv_has ls 2 [(0, .ref (fw_ad X 376)), (1, .int a1)] := hl
  unfold F_J5_setLength_d00df at hF
  refine lv_iload_n hx hb dJ5_setLength_d00df_0 rfl (lv_at hl 1 rfl) ?_
  refine lv_if_ge (tgt := 13) hx hb dJ5_setLength_d00df_1 (by decide) (fun c1 => ?_) (fun c1 => ?_)
  · have hF := it_t hF c1
    refine lv_aload_n hx hb dJ5_setLength_d00df_13 rfl (lv_at hl 0 rfl) ?_
    refine lv_iload_n hx hb dJ5_setLength_d00df_14 rfl (lv_at hl 1 rfl) ?_
    obtain ⟨M3, hf2, hF⟩ := bx_e hF
    refine jm_U (As := [.int a1]) (rest := []) C B (cm_J5_ensure hf2) yu_J5_ensureCapacityInternal_d00df wm_J5_100 rfl hl.1 rfl (Nat.le_of_ble_eq_true rfl) ⟨Nat.le_of_ble_eq_true rfl, Nat.le_of_ble_eq_true rfl⟩ ⟨Nat.le_of_ble_eq_true rfl, Nat.le_of_ble_eq_true rfl⟩ dJ5_setLength_d00df_15 (fun H locs B => ?_)
    obtain ⟨b, B⟩ := fr_op B
    refine lv_aload_n hx hb dJ5_setLength_d00df_18 rfl (lv_at hl 0 rfl) ?_
    refine jb_get (j := 3) C B (by decide) in_J4 wf_J5_79 (fun _ h => h) rfl dJ5_setLength_d00df_19 ?_
    refine lv_iload_n hx hb dJ5_setLength_d00df_22 rfl (lv_at hl 1 rfl) ?_
    refine lv_icmp_ge (tgt := 63) hx hb dJ5_setLength_d00df_23 (by decide) (fun c5 => ?_) (fun c5 => ?_)
    · have hF := it_t hF c5
      refine lv_aload_n hx hb dJ5_setLength_d00df_63 rfl (lv_at hl 0 rfl) ?_
      refine jb_get (j := 3) C B (by decide) in_J4 wf_J5_79 (fun _ h => h) rfl dJ5_setLength_d00df_64 ?_
      refine lv_iload_n hx hb dJ5_setLength_d00df_67 rfl (lv_at hl 1 rfl) ?_
      refine lv_icmp_le (tgt := 76) hx hb dJ5_setLength_d00df_68 (by decide) (fun c6 => ?_) (fun c6 => ?_)
      · have hF := it_t hF c6
        refine lv_aload_n hx hb dJ5_setLength_d00df_76 rfl (lv_at hl 0 rfl) ?_
        refine lv_iload_n hx hb dJ5_setLength_d00df_77 rfl (lv_at hl 1 rfl) ?_
        refine jb_put (j := 3) C B (by decide) in_J4 wf_J5_79 (fun _ h => h) rfl rfl rfl rfl dJ5_setLength_d00df_78 (fun H locs B => ?_)
        obtain ⟨M7, eM7, hF⟩ := lt_e hF
        rw [← eM7] at B
        exact jm_v C B.h hr hlk (Option.some.inj hF) (Nat.le_of_ble_eq_true rfl) (Nat.le_of_ble_eq_true rfl) dJ5_setLength_d00df_81
      · have hF := it_f hF c6
        refine lv_aload_n hx hb dJ5_setLength_d00df_71 rfl (lv_at hl 0 rfl) ?_
        refine lv_iconst (v := 1) hx hb dJ5_setLength_d00df_72 (by decide) ?_
        refine jb_put (j := 2) C B (by decide) in_J4 wf_J5_73 (fun _ h => h) rfl rfl rfl rfl dJ5_setLength_d00df_73 (fun H locs B => ?_)
        obtain ⟨M8, eM8, hF⟩ := lt_e hF
        rw [← eM8] at B
        refine lv_aload_n hx hb dJ5_setLength_d00df_76 rfl (lv_at hl 0 rfl) ?_
        refine lv_iload_n hx hb dJ5_setLength_d00df_77 rfl (lv_at hl 1 rfl) ?_
        refine jb_put (j := 3) C B (by decide) in_J4 wf_J5_79 (fun _ h => h) rfl rfl rfl rfl dJ5_setLength_d00df_78 (fun H locs B => ?_)
        obtain ⟨M9, eM9, hF⟩ := lt_e hF
        rw [← eM9] at B
        exact jm_v C B.h hr hlk (Option.some.inj hF) (Nat.le_of_ble_eq_true rfl) (Nat.le_of_ble_eq_true rfl) dJ5_setLength_d00df_81
    · have hF := it_f hF c5
      refine lv_aload_n hx hb dJ5_setLength_d00df_26 rfl (lv_at hl 0 rfl) ?_
      obtain ⟨r10, h11, hF⟩ := bx_e hF
      refine jr_U (As := []) (rest := []) C B (cr_J5_isLatin1_aae02 h11) yu_J5_isLatin1_aae02 wm_J5_83 rfl hl.1 rfl (Nat.le_of_ble_eq_true rfl) ⟨Nat.le_of_ble_eq_true rfl, Nat.le_of_ble_eq_true rfl⟩ ⟨rfl, rfl⟩ ⟨Nat.le_of_ble_eq_true rfl, Nat.le_of_ble_eq_true rfl⟩ dJ5_setLength_d00df_27 ?_
      refine lv_if_eq (tgt := 48) hx hb dJ5_setLength_d00df_30 (by decide) (fun c12 => ?_) (fun c12 => ?_)
      · have hF := it_t hF c12
        refine lv_aload_n hx hb dJ5_setLength_d00df_48 rfl (lv_at hl 0 rfl) ?_
        refine jb_get (j := 0) C B (by decide) in_J4 wf_J5_15 (fun _ h => h) rfl dJ5_setLength_d00df_49 ?_
        refine lv_aload_n hx hb dJ5_setLength_d00df_52 rfl (lv_at hl 0 rfl) ?_
        refine jb_get (j := 3) C B (by decide) in_J4 wf_J5_79 (fun _ h => h) rfl dJ5_setLength_d00df_53 ?_
        refine lv_iload_n hx hb dJ5_setLength_d00df_56 rfl (lv_at hl 1 rfl) ?_
        cases hF
      · have hF := it_f hF c12
        refine lv_aload_n hx hb dJ5_setLength_d00df_33 rfl (lv_at hl 0 rfl) ?_
        refine jb_get (j := 0) C B (by decide) in_J4 wf_J5_15 (fun _ h => h) rfl dJ5_setLength_d00df_34 ?_
        refine lv_aload_n hx hb dJ5_setLength_d00df_37 rfl (lv_at hl 0 rfl) ?_
        refine jb_get (j := 3) C B (by decide) in_J4 wf_J5_79 (fun _ h => h) rfl dJ5_setLength_d00df_38 ?_
        refine lv_iload_n hx hb dJ5_setLength_d00df_41 rfl (lv_at hl 1 rfl) ?_
        cases hF
  · have hF := it_f hF c1
    cases hF
def F_J4_append_cf468 (M : fw_M) (a1 : Int32) : Option (fw_M) :=
  bd_x (F_J5_append_3fe6f M a1) fun M2 =>
  some M2
set_option maxHeartbeats 4000000 in
set_option maxRecDepth 100000 in
theorem cm_J4_append_cf468 {l : Launch} {X : fw_X} {M : fw_M} {a1 : Int32} {o : fw_M} (hF : F_J4_append_cf468 M a1 = some o) : ct_mr l X yJ4_append_cf468 cJ4_append_cf468 2 (some (.object "java/lang/StringBuilder")) ({ frames := 5, cells := 1, slots := 100, locals := 203 } : Room) M [.ref (fw_ad X 376), .int a1] o := by
  refine fw_openR rfl (Nat.le_of_ble_eq_true rfl) (fun p e s m below meth c ls b C hr hlk hl B => ?_)
  have C : fr_C X p c cJ4_append_cf468 2 RJ4 s m ([.ref (fw_ad X 376), .int a1] : List Value).toArray := C
  have hx := C.1.1
  have hb := C.1.2.1
  have hl : lv_has ls 2 [(0, .ref (fw_ad X 376)), (1, .int a1)] := hl
  unfold F_J4_append_cf468 at hF
  refine lv_aload_n hx hb dJ4_append_cf468_0 rfl (lv_at hl 0 rfl) ?_
  refine lv_iload_n hx hb dJ4_append_cf468_1 rfl (lv_at hl 1 rfl) ?_
  obtain ⟨M2, hf1, hF⟩ := bx_e hF
  refine jm_Pr (As := [.int a1]) (rest := []) C B (cm_J5_append_3fe6f hf1) yp_J5_append_3fe6f wm_J4_50 rfl hl.1 rfl (Nat.le_of_ble_eq_true rfl) ⟨Nat.le_of_ble_eq_true rfl, Nat.le_of_ble_eq_true rfl⟩ ⟨Nat.le_of_ble_eq_true rfl, Nat.le_of_ble_eq_true rfl⟩ dJ4_append_cf468_2 (fun H locs B => ?_)
  obtain ⟨b, B⟩ := fr_op B
  refine lv_pop hx hb dJ4_append_cf468_5 rfl ?_
  refine lv_aload_n hx hb dJ4_append_cf468_6 rfl (lv_at hl 0 rfl) ?_
  exact jm_r C B.h hr hlk (Option.some.inj hF) (Nat.le_of_ble_eq_true rfl) (Nat.le_of_ble_eq_true rfl) dJ4_append_cf468_7
def F_J4_append_bf812 (M : fw_M) (a1 : Int32) : Option (fw_M) :=
  bd_x (F_J5_append_c97b9 M a1) fun M2 =>
  some M2
set_option maxHeartbeats 4000000 in
set_option maxRecDepth 100000 in
theorem cm_J4_append_bf812 {l : Launch} {X : fw_X} {M : fw_M} {a1 : Int32} {o : fw_M} (hF : F_J4_append_bf812 M a1 = some o) : ct_mr l X yJ4_append_bf812 cJ4_append_bf812 2 (some (.object "java/lang/StringBuilder")) ({ frames := 5, cells := 1, slots := 100, locals := 205 } : Room) M [.ref (fw_ad X 376), .int a1] o := by
  refine fw_openR rfl (Nat.le_of_ble_eq_true rfl) (fun p e s m below meth c ls b C hr hlk hl B => ?_)
  have C : fr_C X p c cJ4_append_bf812 2 RJ4 s m ([.ref (fw_ad X 376), .int a1] : List Value).toArray := C
  have hx := C.1.1
  have hb := C.1.2.1
  have hl : lv_has ls 2 [(0, .ref (fw_ad X 376)), (1, .int a1)] := hl
  unfold F_J4_append_bf812 at hF
  refine lv_aload_n hx hb dJ4_append_bf812_0 rfl (lv_at hl 0 rfl) ?_
  refine lv_iload_n hx hb dJ4_append_bf812_1 rfl (lv_at hl 1 rfl) ?_
  obtain ⟨M2, hf1, hF⟩ := bx_e hF
  refine jm_Pr (As := [.int a1]) (rest := []) C B (cm_J5_append_c97b9 hf1) yp_J5_append_c97b9 wm_J4_53 rfl hl.1 rfl (Nat.le_of_ble_eq_true rfl) ⟨Nat.le_of_ble_eq_true rfl, Nat.le_of_ble_eq_true rfl⟩ ⟨Nat.le_of_ble_eq_true rfl, Nat.le_of_ble_eq_true rfl⟩ dJ4_append_bf812_2 (fun H locs B => ?_)
  obtain ⟨b, B⟩ := fr_op B
  refine lv_pop hx hb dJ4_append_bf812_5 rfl ?_
  refine lv_aload_n hx hb dJ4_append_bf812_6 rfl (lv_at hl 0 rfl) ?_
  exact jm_r C B.h hr hlk (Option.some.inj hF) (Nat.le_of_ble_eq_true rfl) (Nat.le_of_ble_eq_true rfl) dJ4_append_bf812_7
def F_J4_setLength_d00df (M : fw_M) (a1 : Int32) : Option (fw_M) :=
  bd_x (F_J5_setLength_d00df M a1) fun M2 =>
  some M2
set_option maxHeartbeats 4000000 in
set_option maxRecDepth 100000 in
theorem cm_J4_setLength_d00df {l : Launch} {X : fw_X} {M : fw_M} {a1 : Int32} {o : fw_M} (hF : F_J4_setLength_d00df M a1 = some o) : ct_mv l X yJ4_setLength_d00df cJ4_setLength_d00df 2 ({ frames := 5, cells := 1, slots := 100, locals := 203 } : Room) M [.ref (fw_ad X 376), .int a1] o := by
  refine fw_openR rfl (Nat.le_of_ble_eq_true rfl) (fun p e s m below meth c ls b C hr hlk hl B => ?_)
  have C : fr_C X p c cJ4_setLength_d00df 2 RJ4 s m ([.ref (fw_ad X 376), .int a1] : List Value).toArray := C
  have hx := C.1.1
  have hb := C.1.2.1
  have hl : lv_has ls 2 [(0, .ref (fw_ad X 376)), (1, .int a1)] := hl
  unfold F_J4_setLength_d00df at hF
  refine lv_aload_n hx hb dJ4_setLength_d00df_0 rfl (lv_at hl 0 rfl) ?_
  refine lv_iload_n hx hb dJ4_setLength_d00df_1 rfl (lv_at hl 1 rfl) ?_
  obtain ⟨M2, hf1, hF⟩ := bx_e hF
  refine jm_P (As := [.int a1]) (rest := []) C B (cm_J5_setLength_d00df hf1) yp_J5_setLength_d00df wm_J4_333 rfl hl.1 rfl (Nat.le_of_ble_eq_true rfl) ⟨Nat.le_of_ble_eq_true rfl, Nat.le_of_ble_eq_true rfl⟩ ⟨Nat.le_of_ble_eq_true rfl, Nat.le_of_ble_eq_true rfl⟩ dJ4_setLength_d00df_2 (fun H locs B => ?_)
  obtain ⟨b, B⟩ := fr_op B
  exact jm_v C B.h hr hlk (Option.some.inj hF) (Nat.le_of_ble_eq_true rfl) (Nat.le_of_ble_eq_true rfl) dJ4_setLength_d00df_5
