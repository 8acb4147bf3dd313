/-! THE CLAIM OUT OF ONE WALK OF THE LAW'S BODY. Your part is whole_start (and what it stands on); all else here is the same for every law, but numbers. -/
def R_law : String := "TramNetworkLaw"
def lw_P (b : Addr) (xs : List Int32) (args : Array Value) (s : State) : Prop := args = #[.ref b] ∧ s.IntsAt b xs ∧ xs.length ≤ 2048 ∧ (Jvm.Cond.and given_1 narrow_1).before args s = true
/-- what a walk over the start with the record d0 says of its end, said of the start itself -/
theorem lw_closed {s t : State} {o : Outcome} {d0 : Drawn} {L : List Loc} {k n : Nat} (hd0 : s.drawn.sameBut d0 lw_cs) (hv : ∃ v, o = .returned v) (hW : (s.setDrawn d0).WarmedH t.vm) (hs : (s.setDrawn d0).sameButNew ({ t with vm := s.vm } : State) L k n) : State.butDraws s t lw_cs (fun t1 => Framed s o t1 L k n) := by
  have h2 : t.drawn = d0 := congrArg State.drawn hs.1
  refine ⟨⟨hv, hW, State.sameButNew.setDrawn hs s.drawn⟩, ?_, by decide⟩
  rw [h2]
  exact hd0
def lw_Q (_ : Array Value) (s : State) (o : Outcome) (t : State) : Prop := o = .returned (some (.int 1)) ∧ State.butDraws s t lw_cs (fun t1 => Framed s o t1 [] 603072 7194730)
def lw_Z (below : List Frame) (a : Array Value) (s : State) : State → Prop := fun t => ∃ o, t.status = .running ∧ Ended t below o ∧ lw_Q a s o t
/-- the law's own end, with 1 on the stack, nothing written that was there before, its room as the claim has it; d0: the record of draws at this point (at the entry s.drawn: begin with 'refine W.base ?_' and 'have hd0 := Drawn.sameBut.refl s.drawn lw_cs') -/
theorem lw_ret {p : Program} {l : Launch} {e : Env} {s : State} {m : MethodId} {below : List Frame} {meth : Method} {c : Code} {b : Nat} {d0 : Drawn} (hd0 : s.drawn.sameBut d0 lw_cs) (hx : p.tables.exec = Jvm.exec) (hb : c.code = code) (hr : meth.sig.returnType = ret) (hlocks : meth.locks = false) {pc : Nat} {H : Heap} {ls : Array Slot} (hdg : decode code pc = .ok (.ireturn, 1)) : W p l e room_1 (s.setDrawn d0) m #[Value.ref b] below meth c H [] 603072 7194730 (lw_Z below #[Value.ref b] s) (F0 m pc ls [.int 1]) := by
  intro T hT X
  obtain ⟨fs, hret, hrun, hended, hW, hframe⟩ := X.leave (v := some (.int 1)) (hlocks := hlocks) (fun h => by rw [hr] at h; cases h)
  have hmeth' : T.vm.method? m = some meth := X.method'
  refine ⟨T.setFrames fs, ?_, .returned (some (.int 1)), hrun, hended, rfl, lw_closed hd0 ⟨_, rfl⟩ hW hframe⟩
  jvm_step X.here [X.here.top, hx, hb, hdg, hmeth', hr, ret, narrow_b1]
  (try refine ⟨rfl, ?_⟩); (try refine ⟨rfl, ?_⟩)
  first | (intro acts; rw [hret _ acts rfl rfl rfl]) | rw [hret _ _ rfl rfl rfl]
  exact Steps.refl _
/-- what holds at the law's entry: the machine, the code, the tables' words (any of lw_tbl by 'hts w (by decide +kernel)'), the script of L ints xs at the cell b, what the Statement gives of the start (any of its parts by flat_of_before) -/
def lw_At (p : Program) (s : State) (m : MethodId) (meth : Method) (c : Code) (b L : Nat) (xs : Nat → Int32) : Prop :=
  p.tables.exec = Jvm.exec ∧ c.code = code ∧ meth.sig.returnType = ret ∧ c.maxLocals = 9 ∧ s.vm.findClass R_law = some m.cls ∧ (∀ w ∈ lw_tbl, w.before #[Value.ref b] s = true) ∧ va_X b L xs s s.heap ∧ b < s.heap.size ∧ meth.locks = false ∧ (Jvm.Cond.and given_1 narrow_1).before #[Value.ref b] s = true
theorem wq_L_8 : Cond.classLink RL 8 RX8 ∈ fw_GW := fw_in (i := 102) (by decide +kernel) (by decide +kernel)
theorem wq_L_176 : Cond.classLink RL 176 RX9 ∈ fw_GW := fw_in (i := 1689) (by decide +kernel) (by decide +kernel)
theorem wz_X8 : Cond.instantiable RX8 10 ∈ fw_GW := fw_in (i := 103) (by decide +kernel) (by decide +kernel)
theorem wz_X9 : Cond.instantiable RX9 17 ∈ fw_GW := fw_in (i := 1690) (by decide +kernel) (by decide +kernel)
theorem wm_L_175 : Cond.methodLink RL 175 yX8_init ∈ fw_GW := fw_in (i := 104) (by decide +kernel) (by decide +kernel)
theorem wm_L_178 : Cond.methodLink RL 178 yX9_init ∈ fw_GW := fw_in (i := 1691) (by decide +kernel) (by decide +kernel)
theorem wn_X8_init : Cond.instanceMethod yX8_init ∈ fw_GW := fw_in (i := 105) (by decide +kernel) (by decide +kernel)
theorem wn_X9_init : Cond.instanceMethod yX9_init ∈ fw_GW := fw_in (i := 1692) (by decide +kernel) (by decide +kernel)
theorem wc_X8_init : Cond.code yX8_init cX8_init 1 none ∈ fw_GW := fw_in (i := 106) (by decide +kernel) (by decide +kernel)
theorem wc_X9_init : Cond.code yX9_init cX9_init 1 none ∈ fw_GW := fw_in (i := 1693) (by decide +kernel) (by decide +kernel)
theorem yi_X8_init : yw_I yX8_init cX8_init 1 0 := ⟨wn_X8_init, wi_X8, wc_X8_init, by decide +kernel, by decide +kernel, by decide +kernel, by decide +kernel⟩
theorem yi_X9_init : yw_I yX9_init cX9_init 1 0 := ⟨wn_X9_init, wi_X9, wc_X9_init, by decide +kernel, by decide +kernel, by decide +kernel, by decide +kernel⟩
theorem wa_l : Cond.arrayClass .long ∈ fw_GW := fw_in (i := 2195) (by decide +kernel) (by decide +kernel)
theorem wa_d : Cond.arrayClass .double ∈ fw_GW := fw_in (i := 2196) (by decide +kernel) (by decide +kernel)
set_option maxHeartbeats 4000000 in
set_option maxRecDepth 100000 in
theorem whole_start {p : Program} {e : Env} {s : State} {m : MethodId} {below : List Frame} {meth : Method} {c : Code} (l : Launch) (hflags : l.flags = flags0) {b L : Nat} {xs : Nat → Int32} (hL : L ≤ 2048) (C0 : lw_At p s m meth c b L xs) : W p l e room_1 s m #[Value.ref b] below meth c s.heap [] 0 0 (lw_Z below #[Value.ref b] s) (entryFrame m ([Value.ref b] : List Value).toArray 9) := by
  obtain ⟨hx, hb, hr, hml, hown, hts, hX, hbl, hlocks, hgv⟩ := id C0
  have hlt : l.stackTraces = false := by unfold Launch.stackTraces; rw [hflags]; decide
  have hs : ∀ w ∈ nr, w.before #[Value.ref b] s = true := flat_of_before _ hgv
  obtain ⟨X, x1, x2, hT, hV, hN⟩ := en_X hts hs (fun k => s.heap.size + ep k)
  have hAd : ∀ k, fw_ad X k = s.heap.size + ep k := fun k => by rw [x1]
  have C : fr_C X p c cL_law 9 RL s m #[Value.ref b] := ⟨⟨hx, hb, hml, hown, en_G hts⟩, hT, hV, Nat.le_of_eq x2⟩
  have hC : fl_C X p c s m b L xs := ⟨C, hX, hbl, fun h => by
    have h : fw_z0 X ≤ b := h
    rw [x2] at h
    exact absurd hbl (Nat.not_lt.mpr h)⟩
  have hl := lv_entry ([.ref b]) (n := 9) (Nat.le_of_ble_eq_true rfl)
  rw [lg_entry_eq]
  generalize (lg_sl ([.ref b]) ++ List.replicate (9 - (lg_sl ([.ref b])).length) Slot.unset).toArray = ls at hl ⊢
  have hl : lv_has ls 9 [(0, .ref b)] := hl
  obtain ⟨z, hz⟩ : ∃ z, z = s.heap.size := ⟨_, rfl⟩
  rw [← hz] at hAd x2
  have B : cn_H X s z [] s.heap [] := ⟨hz.symm, fun j e h => (by cases h), fun q _ => rfl, fun l h => (nomatch h)⟩
  have hz0 : fw_z0 X ≤ z := Nat.le_of_eq x2
  have hzs : s.heap.size = z := hz.symm
  clear hz
  obtain ⟨H, hH⟩ : ∃ H, H = s.heap := ⟨_, rfl⟩
  obtain ⟨locs, hLL⟩ : ∃ L : List Loc, L = [] := ⟨_, rfl⟩
  rw [← hH, ← hLL] at B
  rw [← hH]
  show W p l e room_1 s m _ below meth c H [] 0 0 _ (F0 m 0 ls [])
  rw [← hLL]
  refine cn_new (ci := 8) (q := z) (fs := [.null, .null, .null, .null, .null, .null, .null, .int 0, .int 0, .int 0]) C B rfl in_X8 tyX8 tyX8_ok wq_L_8 wz_X8 wi_X8 dz_X8 (by simp) (Nat.le_of_ble_eq_true rfl) (Nat.le_of_ble_eq_true rfl) dL_law_0 (fun H B => ?_)
  refine lv_dup hx hb dL_law_3 rfl ?_
  refine cn_call (ws := []) (As := []) (rest := [.ref z]) C hN B hz0 (by simp) (cm_X8_init (l := l)) yi_X8_init wm_L_175 rfl hl.1 rfl (Nat.le_of_ble_eq_true rfl) ⟨(Nat.le_of_ble_eq_true rfl), (Nat.le_of_ble_eq_true rfl)⟩ ⟨(Nat.le_of_ble_eq_true rfl), (Nat.le_of_ble_eq_true rfl)⟩ dL_law_4 (fun H locs B => ?_)
  have B : cn_H X s z (tnB X z) H locs := B
  refine lv_astore_n (lv' := [(1, .ref z), (0, .ref b)]) hx hb dL_law_7 rfl hl (by decide) rfl (fun ls hl => ?_)
  refine cn_new (ci := 9) (q := z + 301) (fs := [.null, .null, .null, .int 0, .null, .int 0, .int 0, .null, .int 0, .null, .int 0, .int 0, .int 0, .int 0, .int 0, .null, .int 0]) C B rfl in_X9 tyX9 tyX9_ok wq_L_176 wz_X9 wi_X9 dz_X9 (by rw [tnB_len]) (Nat.le_of_ble_eq_true rfl) (Nat.le_of_ble_eq_true rfl) dL_law_8 (fun H B => ?_)
  refine lv_dup hx hb dL_law_11 rfl ?_
  refine cn_call (ws := tnB X z) (As := []) (rest := [.ref (z + 301)]) C hN B hz0 (by rw [tnB_len]) (cm_X9_init (l := l)) yi_X9_init wm_L_178 rfl hl.1 rfl (Nat.le_of_ble_eq_true rfl) ⟨(Nat.le_of_ble_eq_true rfl), (Nat.le_of_ble_eq_true rfl)⟩ ⟨(Nat.le_of_ble_eq_true rfl), (Nat.le_of_ble_eq_true rfl)⟩ dL_law_12 (fun H locs B => ?_)
  refine lv_astore_n (lv' := [(2, .ref (z + 301)), (1, .ref z), (0, .ref b)]) hx hb dL_law_15 rfl hl (by decide) rfl (fun ls hl => ?_)
  refine lv_iconst (v := 1) hx hb dL_law_16 (by decide) ?_
  refine cn_newa (atype := .long) (k := 5) (q := z + 309) (a0 := (1, .inr (.inl (fun _ => (0 : Int32).toInt64)))) C B rfl rfl (fun h => h) wa_l rfl (by decide) rfl (Nat.le_of_ble_eq_true rfl) (by simp [tnB_len, mdB_len]) (Nat.le_of_ble_eq_true rfl) (Nat.le_of_ble_eq_true rfl) dL_law_17 (fun H B => ?_)
  refine lv_astore_n (lv' := [(3, .ref (z + 309)), (2, .ref (z + 301)), (1, .ref z), (0, .ref b)]) hx hb dL_law_19 rfl hl (by decide) rfl (fun ls hl => ?_)
  refine lv_iconst (v := 1) hx hb dL_law_20 (by decide) ?_
  refine cn_newa (atype := .double) (k := 6) (q := z + 310) (a0 := (1, .inr (.inr (.inr (.inl (fun _ => 0)))))) C B rfl rfl (fun h => h) wa_d rfl (by decide) rfl (Nat.le_of_ble_eq_true rfl) (by simp [tnB_len, mdB_len]) (Nat.le_of_ble_eq_true rfl) (Nat.le_of_ble_eq_true rfl) dL_law_21 (fun H B => ?_)
  refine lv_astore (lv' := [(4, .ref (z + 310)), (3, .ref (z + 309)), (2, .ref (z + 301)), (1, .ref z), (0, .ref b)]) hx hb dL_law_23 hl (by decide) rfl (fun ls hl => ?_)
  refine lv_iconst (v := 0) hx hb dL_law_25 (by decide) ?_
  refine lv_istore (lv' := [(5, .int 0), (4, .ref (z + 310)), (3, .ref (z + 309)), (2, .ref (z + 301)), (1, .ref z), (0, .ref b)]) hx hb dL_law_26 hl (by decide) rfl (fun ls hl => ?_)
  have hF : fr_H X s M0 H locs := at_F x2 hzs B hAd
  have hl : lv_has ls 9 (fl_lv X b (nI (4 * 0))) := by
    unfold fl_lv
    rw [show fw_ad X 352 = z from hAd 352, show fw_ad X 378 = z + 301 from hAd 378, show fw_ad X 386 = z + 309 from hAd 386, show fw_ad X 387 = z + 310 from hAd 387]
    exact lv_sub hl [5, 4, 3, 2, 1, 0] rfl
  refine fl_loop hlt hC hL (fun M1 H1 locs1 ls1 B1 hsz => ?_) 600 0 M0 H locs ls _ _ (law_0 hL xs) (by omega) hF hl (Nat.le_of_ble_eq_true rfl) (Nat.le_of_ble_eq_true rfl)
  refine lv_iconst (v := 1) hx hb dL_law_3320 (by decide) ?_
  obtain ⟨b1, -, -, hS⟩ := B1
  refine va_forget (fun q hq => ?_) ?_
  · have h : fw_z0 X ≤ q.base := hS.2.2 q hq
    omega
  · exact W.base (lw_ret (Drawn.sameBut.refl s.drawn lw_cs) hx hb hr hlocks dL_law_3321)
