def F_op (k : Int32) (M : fw_M) (xs : Nat → Int32) (i : Int32) : Option fw_M := if k = 0 then F_cs_0 M xs i else if k = 1 then F_cs_1 M xs i else if k = 2 then F_cs_2 M xs i else if k = 3 then F_cs_3 M xs i else if k = 4 then F_cs_4 M xs i else if k = 5 then F_cs_5 M xs i else if k = 6 then F_cs_6 M xs i else if k = 7 then F_cs_7 M xs i else if k = 8 then F_cs_8 M xs i else if k = 9 then F_cs_9 M xs i else if k = 10 then F_cs_10 M xs i else if k = 11 then F_cs_11 M xs i else if k = 12 then F_cs_12 M xs i else if k = 13 then F_cs_13 M xs i else if k = 14 then F_cs_14 M xs i else if k = 15 then F_cs_15 M xs i else if k = 16 then F_cs_16 M xs i else if k = 17 then F_cs_17 M xs i else if k = 18 then F_cs_18 M xs i else if k = 19 then F_cs_19 M xs i else if k = 20 then F_cs_20 M xs i else if k = 21 then F_cs_21 M xs i else if k = 22 then F_cs_22 M xs i else if k = 23 then F_cs_23 M xs i else if k = 24 then F_cs_24 M xs i else if k = 25 then F_cs_25 M xs i else if k = 26 then F_cs_26 M xs i else if k = 27 then F_cs_27 M xs i else if k = 28 then F_cs_28 M xs i else if k = 29 then F_cs_29 M xs i else if k = 30 then F_cs_30 M xs i else if k = 31 then F_cs_31 M xs i else if k = 32 then F_cs_32 M xs i else if k = 33 then F_cs_33 M xs i else if k = 34 then F_cs_34 M xs i else if k = 35 then F_cs_35 M xs i else if k = 36 then F_cs_36 M xs i else if k = 37 then F_cs_37 M xs i else if k = 38 then F_cs_38 M xs i else if k = 39 then F_cs_39 M xs i else if k = 40 then F_cs_40 M xs i else if k = 41 then F_cs_41 M xs i else if k = 42 then F_cs_42 M xs i else if k = 43 then F_cs_43 M xs i else if k = 44 then F_cs_44 M xs i else if k = 45 then F_cs_45 M xs i else if k = 46 then F_cs_46 M xs i else if k = 47 then F_cs_47 M xs i else if k = 48 then F_cs_48 M xs i else if k = 49 then F_cs_49 M xs i else if k = 50 then F_cs_50 M xs i else if k = 51 then F_cs_51 M xs i else if k = 52 then F_cs_52 M xs i else if k = 53 then F_cs_53 M xs i else if k = 54 then F_cs_54 M xs i else if k = 55 then F_cs_55 M xs i else if k = 56 then F_cs_56 M xs i else some M
def F_body (M : fw_M) (xs : Nat → Int32) (i : Int32) : Option fw_M := F_op (xs i.toNatClampNeg &&& 63) M xs i
def F_law (L : Nat) (xs : Nat → Int32) : Nat → Nat → fw_M → Option Unit
  | 0, _, _ => none
  | n + 1, t, M => if Int32.ofNat L - 4 < nI (4 * t) then some () else bd_x (F_body M xs (nI (4 * t))) fun M1 => F_law L xs n (t + 1) M1
section CS
variable {p : Program} {l : Launch} {e : Env} {s : State} {m : MethodId} {below : List Frame} {meth : Method} {c : Code} {Q : State → Prop} {X : fw_X} {b L : Nat} {xs : Nat → Int32}
set_option maxHeartbeats 4000000 in
set_option maxRecDepth 100000 in
theorem fl_body (hlt : l.stackTraces = false) (hC : fl_C X p c s m b L xs) {i : Int32} (h0 : vp_in i L) (h1 : vp_in (i + 1) L) (h2 : vp_in (i + 2) L) (h3 : vp_in (i + 3) L) {M M0 : fw_M} {H : Heap} {locs : List Loc} {ls : Array Slot} {cells slots : Nat} (hF : F_body M xs i = some M0) (B : fr_H X s M H locs) (hl : lv_has ls 9 (fl_lv X b i)) (hcc : cells + 30 ≤ 603072) (hss : slots + 3000 ≤ 7194730) (kk : ∀ (H1 : Heap) (locs1 : List Loc) (ls1 : Array Slot), fr_H X s M0 H1 locs1 → lv_has ls1 9 (fl_lv X b i) → W p l e room_1 s m #[Value.ref b] below meth c H1 locs1 (cells + 30) (slots + 3000) Q (F0 m 3314 ls1 [])) : W p l e room_1 s m #[Value.ref b] below meth c H locs cells slots Q (F0 m 37 ls []) := by
  have hx := hC.1.1.1
  have hb := hC.1.1.2.1
  unfold F_body F_op at hF
  refine lv_aload_n hx hb dL_law_37 rfl (lv_at hl 0 rfl) ?_
  refine lv_iload hx hb dL_law_38 (lv_at hl 5 rfl) ?_
  refine fl_sld hC B h0 dL_law_40 ?_
  refine lv_bipush (v := 63) hx hb dL_law_41 (by decide) ?_
  refine lv_iand hx hb dL_law_43 ?_
  generalize xs i.toNatClampNeg &&& 63 = k at hF ⊢
  by_cases c0 : k = 0
  · have hF := it_t hF c0
    refine lv_tableIn (tgt := 288) hx hb dL_law_44 (by rw [c0]; decide) (by rw [c0]; decide) (by rw [c0]; rfl) (by decide) ?_
    exact cs_0 hlt hC h1 h2 h3 hF B hl hcc hss kk
  have hF := it_f hF c0
  by_cases c1 : k = 1
  · have hF := it_t hF c1
    refine lv_tableIn (tgt := 344) hx hb dL_law_44 (by rw [c1]; decide) (by rw [c1]; decide) (by rw [c1]; rfl) (by decide) ?_
    exact cs_1 hlt hC h1 h2 h3 hF B hl hcc hss kk
  have hF := it_f hF c1
  by_cases c2 : k = 2
  · have hF := it_t hF c2
    refine lv_tableIn (tgt := 412) hx hb dL_law_44 (by rw [c2]; decide) (by rw [c2]; decide) (by rw [c2]; rfl) (by decide) ?_
    exact cs_2 hlt hC h1 h2 h3 hF B hl hcc hss kk
  have hF := it_f hF c2
  by_cases c3 : k = 3
  · have hF := it_t hF c3
    refine lv_tableIn (tgt := 480) hx hb dL_law_44 (by rw [c3]; decide) (by rw [c3]; decide) (by rw [c3]; rfl) (by decide) ?_
    exact cs_3 hlt hC h1 h2 h3 hF B hl hcc hss kk
  have hF := it_f hF c3
  by_cases c4 : k = 4
  · have hF := it_t hF c4
    refine lv_tableIn (tgt := 493) hx hb dL_law_44 (by rw [c4]; decide) (by rw [c4]; decide) (by rw [c4]; rfl) (by decide) ?_
    exact cs_4 hlt hC h1 h2 h3 hF B hl hcc hss kk
  have hF := it_f hF c4
  by_cases c5 : k = 5
  · have hF := it_t hF c5
    refine lv_tableIn (tgt := 549) hx hb dL_law_44 (by rw [c5]; decide) (by rw [c5]; decide) (by rw [c5]; rfl) (by decide) ?_
    exact cs_5 hlt hC h1 h2 h3 hF B hl hcc hss kk
  have hF := it_f hF c5
  by_cases c6 : k = 6
  · have hF := it_t hF c6
    refine lv_tableIn (tgt := 612) hx hb dL_law_44 (by rw [c6]; decide) (by rw [c6]; decide) (by rw [c6]; rfl) (by decide) ?_
    exact cs_6 hlt hC h1 h2 h3 hF B hl hcc hss kk
  have hF := it_f hF c6
  by_cases c7 : k = 7
  · have hF := it_t hF c7
    refine lv_tableIn (tgt := 625) hx hb dL_law_44 (by rw [c7]; decide) (by rw [c7]; decide) (by rw [c7]; rfl) (by decide) ?_
    exact cs_7 hlt hC h1 h2 h3 hF B hl hcc hss kk
  have hF := it_f hF c7
  by_cases c8 : k = 8
  · have hF := it_t hF c8
    refine lv_tableIn (tgt := 681) hx hb dL_law_44 (by rw [c8]; decide) (by rw [c8]; decide) (by rw [c8]; rfl) (by decide) ?_
    exact cs_8 hlt hC h1 h2 h3 hF B hl hcc hss kk
  have hF := it_f hF c8
  by_cases c9 : k = 9
  · have hF := it_t hF c9
    refine lv_tableIn (tgt := 749) hx hb dL_law_44 (by rw [c9]; decide) (by rw [c9]; decide) (by rw [c9]; rfl) (by decide) ?_
    exact cs_9 hlt hC h1 h2 h3 hF B hl hcc hss kk
  have hF := it_f hF c9
  by_cases c10 : k = 10
  · have hF := it_t hF c10
    refine lv_tableIn (tgt := 817) hx hb dL_law_44 (by rw [c10]; decide) (by rw [c10]; decide) (by rw [c10]; rfl) (by decide) ?_
    exact cs_10 hlt hC h1 h2 h3 hF B hl hcc hss kk
  have hF := it_f hF c10
  by_cases c11 : k = 11
  · have hF := it_t hF c11
    refine lv_tableIn (tgt := 873) hx hb dL_law_44 (by rw [c11]; decide) (by rw [c11]; decide) (by rw [c11]; rfl) (by decide) ?_
    exact cs_11 hlt hC h1 h2 h3 hF B hl hcc hss kk
  have hF := it_f hF c11
  by_cases c12 : k = 12
  · have hF := it_t hF c12
    refine lv_tableIn (tgt := 886) hx hb dL_law_44 (by rw [c12]; decide) (by rw [c12]; decide) (by rw [c12]; rfl) (by decide) ?_
    exact cs_12 hlt hC h1 h2 h3 hF B hl hcc hss kk
  have hF := it_f hF c12
  by_cases c13 : k = 13
  · have hF := it_t hF c13
    refine lv_tableIn (tgt := 899) hx hb dL_law_44 (by rw [c13]; decide) (by rw [c13]; decide) (by rw [c13]; rfl) (by decide) ?_
    exact cs_13 hlt hC h1 h2 h3 hF B hl hcc hss kk
  have hF := it_f hF c13
  by_cases c14 : k = 14
  · have hF := it_t hF c14
    refine lv_tableIn (tgt := 912) hx hb dL_law_44 (by rw [c14]; decide) (by rw [c14]; decide) (by rw [c14]; rfl) (by decide) ?_
    exact cs_14 hlt hC h1 h2 h3 hF B hl hcc hss kk
  have hF := it_f hF c14
  by_cases c15 : k = 15
  · have hF := it_t hF c15
    refine lv_tableIn (tgt := 968) hx hb dL_law_44 (by rw [c15]; decide) (by rw [c15]; decide) (by rw [c15]; rfl) (by decide) ?_
    exact cs_15 hlt hC h1 h2 h3 hF B hl hcc hss kk
  have hF := it_f hF c15
  by_cases c16 : k = 16
  · have hF := it_t hF c16
    refine lv_tableIn (tgt := 1024) hx hb dL_law_44 (by rw [c16]; decide) (by rw [c16]; decide) (by rw [c16]; rfl) (by decide) ?_
    exact cs_16 hlt hC h1 h2 h3 hF B hl hcc hss kk
  have hF := it_f hF c16
  by_cases c17 : k = 17
  · have hF := it_t hF c17
    refine lv_tableIn (tgt := 1087) hx hb dL_law_44 (by rw [c17]; decide) (by rw [c17]; decide) (by rw [c17]; rfl) (by decide) ?_
    exact cs_17 hlt hC h1 h2 h3 hF B hl hcc hss kk
  have hF := it_f hF c17
  by_cases c18 : k = 18
  · have hF := it_t hF c18
    refine lv_tableIn (tgt := 1143) hx hb dL_law_44 (by rw [c18]; decide) (by rw [c18]; decide) (by rw [c18]; rfl) (by decide) ?_
    exact cs_18 hlt hC h1 h2 h3 hF B hl hcc hss kk
  have hF := it_f hF c18
  by_cases c19 : k = 19
  · have hF := it_t hF c19
    refine lv_tableIn (tgt := 1187) hx hb dL_law_44 (by rw [c19]; decide) (by rw [c19]; decide) (by rw [c19]; rfl) (by decide) ?_
    exact cs_19 hlt hC h1 h2 h3 hF B hl hcc hss kk
  have hF := it_f hF c19
  by_cases c20 : k = 20
  · have hF := it_t hF c20
    refine lv_tableIn (tgt := 1255) hx hb dL_law_44 (by rw [c20]; decide) (by rw [c20]; decide) (by rw [c20]; rfl) (by decide) ?_
    exact cs_20 hlt hC h1 h2 h3 hF B hl hcc hss kk
  have hF := it_f hF c20
  by_cases c21 : k = 21
  · have hF := it_t hF c21
    refine lv_tableIn (tgt := 1323) hx hb dL_law_44 (by rw [c21]; decide) (by rw [c21]; decide) (by rw [c21]; rfl) (by decide) ?_
    exact cs_21 hlt hC h1 h2 h3 hF B hl hcc hss kk
  have hF := it_f hF c21
  by_cases c22 : k = 22
  · have hF := it_t hF c22
    refine lv_tableIn (tgt := 1379) hx hb dL_law_44 (by rw [c22]; decide) (by rw [c22]; decide) (by rw [c22]; rfl) (by decide) ?_
    exact cs_22 hlt hC h1 h2 h3 hF B hl hcc hss kk
  have hF := it_f hF c22
  by_cases c23 : k = 23
  · have hF := it_t hF c23
    refine lv_tableIn (tgt := 1459) hx hb dL_law_44 (by rw [c23]; decide) (by rw [c23]; decide) (by rw [c23]; rfl) (by decide) ?_
    exact cs_23 hlt hC h1 h2 h3 hF B hl hcc hss kk
  have hF := it_f hF c23
  by_cases c24 : k = 24
  · have hF := it_t hF c24
    refine lv_tableIn (tgt := 1534) hx hb dL_law_44 (by rw [c24]; decide) (by rw [c24]; decide) (by rw [c24]; rfl) (by decide) ?_
    exact cs_24 hlt hC h1 h2 h3 hF B hl hcc hss kk
  have hF := it_f hF c24
  by_cases c25 : k = 25
  · have hF := it_t hF c25
    refine lv_tableIn (tgt := 1590) hx hb dL_law_44 (by rw [c25]; decide) (by rw [c25]; decide) (by rw [c25]; rfl) (by decide) ?_
    exact cs_25 hlt hC h1 h2 h3 hF B hl hcc hss kk
  have hF := it_f hF c25
  by_cases c26 : k = 26
  · have hF := it_t hF c26
    refine lv_tableIn (tgt := 1603) hx hb dL_law_44 (by rw [c26]; decide) (by rw [c26]; decide) (by rw [c26]; rfl) (by decide) ?_
    exact cs_26 hlt hC h1 h2 h3 hF B hl hcc hss kk
  have hF := it_f hF c26
  by_cases c27 : k = 27
  · have hF := it_t hF c27
    refine lv_tableIn (tgt := 1659) hx hb dL_law_44 (by rw [c27]; decide) (by rw [c27]; decide) (by rw [c27]; rfl) (by decide) ?_
    exact cs_27 hlt hC h1 h2 h3 hF B hl hcc hss kk
  have hF := it_f hF c27
  by_cases c28 : k = 28
  · have hF := it_t hF c28
    refine lv_tableIn (tgt := 1715) hx hb dL_law_44 (by rw [c28]; decide) (by rw [c28]; decide) (by rw [c28]; rfl) (by decide) ?_
    exact cs_28 hlt hC h1 h2 h3 hF B hl hcc hss kk
  have hF := it_f hF c28
  by_cases c29 : k = 29
  · have hF := it_t hF c29
    refine lv_tableIn (tgt := 1771) hx hb dL_law_44 (by rw [c29]; decide) (by rw [c29]; decide) (by rw [c29]; rfl) (by decide) ?_
    exact cs_29 hlt hC h1 h2 h3 hF B hl hcc hss kk
  have hF := it_f hF c29
  by_cases c30 : k = 30
  · have hF := it_t hF c30
    refine lv_tableIn (tgt := 1846) hx hb dL_law_44 (by rw [c30]; decide) (by rw [c30]; decide) (by rw [c30]; rfl) (by decide) ?_
    exact cs_30 hlt hC h1 h2 h3 hF B hl hcc hss kk
  have hF := it_f hF c30
  by_cases c31 : k = 31
  · have hF := it_t hF c31
    refine lv_tableIn (tgt := 1921) hx hb dL_law_44 (by rw [c31]; decide) (by rw [c31]; decide) (by rw [c31]; rfl) (by decide) ?_
    exact cs_31 hlt hC h1 h2 h3 hF B hl hcc hss kk
  have hF := it_f hF c31
  by_cases c32 : k = 32
  · have hF := it_t hF c32
    refine lv_tableIn (tgt := 1996) hx hb dL_law_44 (by rw [c32]; decide) (by rw [c32]; decide) (by rw [c32]; rfl) (by decide) ?_
    exact cs_32 hlt hC h1 h2 h3 hF B hl hcc hss kk
  have hF := it_f hF c32
  by_cases c33 : k = 33
  · have hF := it_t hF c33
    refine lv_tableIn (tgt := 2052) hx hb dL_law_44 (by rw [c33]; decide) (by rw [c33]; decide) (by rw [c33]; rfl) (by decide) ?_
    exact cs_33 hlt hC h1 h2 h3 hF B hl hcc hss kk
  have hF := it_f hF c33
  by_cases c34 : k = 34
  · have hF := it_t hF c34
    refine lv_tableIn (tgt := 2120) hx hb dL_law_44 (by rw [c34]; decide) (by rw [c34]; decide) (by rw [c34]; rfl) (by decide) ?_
    exact cs_34 hlt hC h1 h2 h3 hF B hl hcc hss kk
  have hF := it_f hF c34
  by_cases c35 : k = 35
  · have hF := it_t hF c35
    refine lv_tableIn (tgt := 2133) hx hb dL_law_44 (by rw [c35]; decide) (by rw [c35]; decide) (by rw [c35]; rfl) (by decide) ?_
    exact cs_35 hlt hC h1 h2 h3 hF B hl hcc hss kk
  have hF := it_f hF c35
  by_cases c36 : k = 36
  · have hF := it_t hF c36
    refine lv_tableIn (tgt := 2189) hx hb dL_law_44 (by rw [c36]; decide) (by rw [c36]; decide) (by rw [c36]; rfl) (by decide) ?_
    exact cs_36 hlt hC h1 h2 h3 hF B hl hcc hss kk
  have hF := it_f hF c36
  by_cases c37 : k = 37
  · have hF := it_t hF c37
    refine lv_tableIn (tgt := 2252) hx hb dL_law_44 (by rw [c37]; decide) (by rw [c37]; decide) (by rw [c37]; rfl) (by decide) ?_
    exact cs_37 hlt hC h1 h2 h3 hF B hl hcc hss kk
  have hF := it_f hF c37
  by_cases c38 : k = 38
  · have hF := it_t hF c38
    refine lv_tableIn (tgt := 2327) hx hb dL_law_44 (by rw [c38]; decide) (by rw [c38]; decide) (by rw [c38]; rfl) (by decide) ?_
    exact cs_38 hlt hC h1 h2 h3 hF B hl hcc hss kk
  have hF := it_f hF c38
  by_cases c39 : k = 39
  · have hF := it_t hF c39
    refine lv_tableIn (tgt := 2383) hx hb dL_law_44 (by rw [c39]; decide) (by rw [c39]; decide) (by rw [c39]; rfl) (by decide) ?_
    exact cs_39 hlt hC h1 h2 h3 hF B hl hcc hss kk
  have hF := it_f hF c39
  by_cases c40 : k = 40
  · have hF := it_t hF c40
    refine lv_tableIn (tgt := 2439) hx hb dL_law_44 (by rw [c40]; decide) (by rw [c40]; decide) (by rw [c40]; rfl) (by decide) ?_
    exact cs_40 hlt hC h1 h2 h3 hF B hl hcc hss kk
  have hF := it_f hF c40
  by_cases c41 : k = 41
  · have hF := it_t hF c41
    refine lv_tableIn (tgt := 2507) hx hb dL_law_44 (by rw [c41]; decide) (by rw [c41]; decide) (by rw [c41]; rfl) (by decide) ?_
    exact cs_41 hlt hC h1 h2 h3 hF B hl hcc hss kk
  have hF := it_f hF c41
  by_cases c42 : k = 42
  · have hF := it_t hF c42
    refine lv_tableIn (tgt := 2575) hx hb dL_law_44 (by rw [c42]; decide) (by rw [c42]; decide) (by rw [c42]; rfl) (by decide) ?_
    exact cs_42 hlt hC h1 h2 h3 hF B hl hcc hss kk
  have hF := it_f hF c42
  by_cases c43 : k = 43
  · have hF := it_t hF c43
    refine lv_tableIn (tgt := 2643) hx hb dL_law_44 (by rw [c43]; decide) (by rw [c43]; decide) (by rw [c43]; rfl) (by decide) ?_
    exact cs_43 hlt hC h1 h2 h3 hF B hl hcc hss kk
  have hF := it_f hF c43
  by_cases c44 : k = 44
  · have hF := it_t hF c44
    refine lv_tableIn (tgt := 2711) hx hb dL_law_44 (by rw [c44]; decide) (by rw [c44]; decide) (by rw [c44]; rfl) (by decide) ?_
    exact cs_44 hlt hC h1 h2 h3 hF B hl hcc hss kk
  have hF := it_f hF c44
  by_cases c45 : k = 45
  · have hF := it_t hF c45
    refine lv_tableIn (tgt := 2767) hx hb dL_law_44 (by rw [c45]; decide) (by rw [c45]; decide) (by rw [c45]; rfl) (by decide) ?_
    exact cs_45 hlt hC h1 h2 h3 hF B hl hcc hss kk
  have hF := it_f hF c45
  by_cases c46 : k = 46
  · have hF := it_t hF c46
    refine lv_tableIn (tgt := 2823) hx hb dL_law_44 (by rw [c46]; decide) (by rw [c46]; decide) (by rw [c46]; rfl) (by decide) ?_
    exact cs_46 hlt hC h1 h2 h3 hF B hl hcc hss kk
  have hF := it_f hF c46
  by_cases c47 : k = 47
  · have hF := it_t hF c47
    refine lv_tableIn (tgt := 2879) hx hb dL_law_44 (by rw [c47]; decide) (by rw [c47]; decide) (by rw [c47]; rfl) (by decide) ?_
    exact cs_47 hlt hC h1 h2 h3 hF B hl hcc hss kk
  have hF := it_f hF c47
  by_cases c48 : k = 48
  · have hF := it_t hF c48
    refine lv_tableIn (tgt := 2944) hx hb dL_law_44 (by rw [c48]; decide) (by rw [c48]; decide) (by rw [c48]; rfl) (by decide) ?_
    exact cs_48 hlt hC h1 h2 h3 hF B hl hcc hss kk
  have hF := it_f hF c48
  by_cases c49 : k = 49
  · have hF := it_t hF c49
    refine lv_tableIn (tgt := 3010) hx hb dL_law_44 (by rw [c49]; decide) (by rw [c49]; decide) (by rw [c49]; rfl) (by decide) ?_
    exact cs_49 hlt hC h1 h2 h3 hF B hl hcc hss kk
  have hF := it_f hF c49
  by_cases c50 : k = 50
  · have hF := it_t hF c50
    refine lv_tableIn (tgt := 3023) hx hb dL_law_44 (by rw [c50]; decide) (by rw [c50]; decide) (by rw [c50]; rfl) (by decide) ?_
    exact cs_50 hlt hC h1 h2 h3 hF B hl hcc hss kk
  have hF := it_f hF c50
  by_cases c51 : k = 51
  · have hF := it_t hF c51
    refine lv_tableIn (tgt := 3081) hx hb dL_law_44 (by rw [c51]; decide) (by rw [c51]; decide) (by rw [c51]; rfl) (by decide) ?_
    exact cs_51 hlt hC h1 h2 h3 hF B hl hcc hss kk
  have hF := it_f hF c51
  by_cases c52 : k = 52
  · have hF := it_t hF c52
    refine lv_tableIn (tgt := 3125) hx hb dL_law_44 (by rw [c52]; decide) (by rw [c52]; decide) (by rw [c52]; rfl) (by decide) ?_
    exact cs_52 hlt hC h1 h2 h3 hF B hl hcc hss kk
  have hF := it_f hF c52
  by_cases c53 : k = 53
  · have hF := it_t hF c53
    refine lv_tableIn (tgt := 3169) hx hb dL_law_44 (by rw [c53]; decide) (by rw [c53]; decide) (by rw [c53]; rfl) (by decide) ?_
    exact cs_53 hlt hC h1 h2 h3 hF B hl hcc hss kk
  have hF := it_f hF c53
  by_cases c54 : k = 54
  · have hF := it_t hF c54
    refine lv_tableIn (tgt := 3213) hx hb dL_law_44 (by rw [c54]; decide) (by rw [c54]; decide) (by rw [c54]; rfl) (by decide) ?_
    exact cs_54 hlt hC h1 h2 h3 hF B hl hcc hss kk
  have hF := it_f hF c54
  by_cases c55 : k = 55
  · have hF := it_t hF c55
    refine lv_tableIn (tgt := 3257) hx hb dL_law_44 (by rw [c55]; decide) (by rw [c55]; decide) (by rw [c55]; rfl) (by decide) ?_
    exact cs_55 hlt hC h1 h2 h3 hF B hl hcc hss kk
  have hF := it_f hF c55
  by_cases c56 : k = 56
  · have hF := it_t hF c56
    refine lv_tableIn (tgt := 3270) hx hb dL_law_44 (by rw [c56]; decide) (by rw [c56]; decide) (by rw [c56]; rfl) (by decide) ?_
    exact cs_56 hlt hC h1 h2 h3 hF B hl hcc hss kk
  have hF := it_f hF c56
  have hF := Option.some.inj hF
  subst hF
  have hne : ∀ j : Nat, j < 57 → ¬ k = nI j := by
    intro j hj
    rcases (show j = 0 ∨ j = 1 ∨ j = 2 ∨ j = 3 ∨ j = 4 ∨ j = 5 ∨ j = 6 ∨ j = 7 ∨ j = 8 ∨ j = 9 ∨ j = 10 ∨ j = 11 ∨ j = 12 ∨ j = 13 ∨ j = 14 ∨ j = 15 ∨ j = 16 ∨ j = 17 ∨ j = 18 ∨ j = 19 ∨ j = 20 ∨ j = 21 ∨ j = 22 ∨ j = 23 ∨ j = 24 ∨ j = 25 ∨ j = 26 ∨ j = 27 ∨ j = 28 ∨ j = 29 ∨ j = 30 ∨ j = 31 ∨ j = 32 ∨ j = 33 ∨ j = 34 ∨ j = 35 ∨ j = 36 ∨ j = 37 ∨ j = 38 ∨ j = 39 ∨ j = 40 ∨ j = 41 ∨ j = 42 ∨ j = 43 ∨ j = 44 ∨ j = 45 ∨ j = 46 ∨ j = 47 ∨ j = 48 ∨ j = 49 ∨ j = 50 ∨ j = 51 ∨ j = 52 ∨ j = 53 ∨ j = 54 ∨ j = 55 ∨ j = 56 by omega) with rfl | rfl | rfl | rfl | rfl | rfl | rfl | rfl | rfl | rfl | rfl | rfl | rfl | rfl | rfl | rfl | rfl | rfl | rfl | rfl | rfl | rfl | rfl | rfl | rfl | rfl | rfl | rfl | rfl | rfl | rfl | rfl | rfl | rfl | rfl | rfl | rfl | rfl | rfl | rfl | rfl | rfl | rfl | rfl | rfl | rfl | rfl | rfl | rfl | rfl | rfl | rfl | rfl | rfl | rfl | rfl | rfl
    · exact c0
    · exact c1
    · exact c2
    · exact c3
    · exact c4
    · exact c5
    · exact c6
    · exact c7
    · exact c8
    · exact c9
    · exact c10
    · exact c11
    · exact c12
    · exact c13
    · exact c14
    · exact c15
    · exact c16
    · exact c17
    · exact c18
    · exact c19
    · exact c20
    · exact c21
    · exact c22
    · exact c23
    · exact c24
    · exact c25
    · exact c26
    · exact c27
    · exact c28
    · exact c29
    · exact c30
    · exact c31
    · exact c32
    · exact c33
    · exact c34
    · exact c35
    · exact c36
    · exact c37
    · exact c38
    · exact c39
    · exact c40
    · exact c41
    · exact c42
    · exact c43
    · exact c44
    · exact c45
    · exact c46
    · exact c47
    · exact c48
    · exact c49
    · exact c50
    · exact c51
    · exact c52
    · exact c53
    · exact c54
    · exact c55
    · exact c56
  refine lv_tableOut (tgt := 3314) hx hb dL_law_44 ?_ (by decide) (W.widen (by omega) (by omega) (kk H locs ls B hl))
  by_cases q : k.toInt < 0
  · exact Or.inl q
  · refine Or.inr (Int.not_le.mp fun q2 => ?_)
    obtain ⟨j, hj, e⟩ := nI_of2 (M := 56) (n := 56) rfl (fun h => q ((fa_lt _ _).mp h)) ((fa_le _ _).mpr q2)
    exact hne j (by omega) e
theorem fl_in {t L k : Nat} (h : ¬ Int32.ofNat L - 4 < nI (4 * t)) (hL : L ≤ 2048) (ht : t ≤ 600) (hk : k < 4) : 4 * t + k < L := by
  rw [fa_lt] at h
  have e1 : (Int32.ofNat L).toInt = (L : Int) := nI_toInt (n := L) (by omega)
  have e2 : (nI (4 * t)).toInt = ((4 * t : Nat) : Int) := nI_toInt (by omega)
  have e3 : (Int32.ofNat L - 4).toInt = (Int32.ofNat L).toInt - (4 : Int32).toInt := fb_subI (by rw [e1]; show (-2147483648 : Int) ≤ (L : Int) - 4; omega) (by rw [e1]; show (L : Int) - 4 < 2147483648; omega)
  rw [e3, e2, e1] at h
  change ¬ ((L : Int) - 4 < ((4 * t : Nat) : Int)) at h
  omega
set_option maxHeartbeats 4000000 in
set_option maxRecDepth 100000 in
theorem fl_loop (hlt : l.stackTraces = false) (hC : fl_C X p c s m b L xs) (hL : L ≤ 2048) (kk : ∀ (M1 : fw_M) (H1 : Heap) (locs1 : List Loc) (ls1 : Array Slot), fr_H X s M1 H1 locs1 → ls1.size = 9 → W p l e room_1 s m #[Value.ref b] below meth c H1 locs1 603072 7194730 Q (F0 m 3320 ls1 [])) : ∀ (n t : Nat) (M : fw_M) (H : Heap) (locs : List Loc) (ls : Array Slot) (cells slots : Nat), F_law L xs n t M = some () → n + t ≤ 600 → fr_H X s M H locs → lv_has ls 9 (fl_lv X b (nI (4 * t))) → cells + 30 * n ≤ 603072 → slots + 3000 * n ≤ 7194730 → W p l e room_1 s m #[Value.ref b] below meth c H locs cells slots Q (F0 m 28 ls []) := by
  have hx := hC.1.1.1
  have hb := hC.1.1.2.1
  intro n
  induction n with
  | zero =>
    intro t M H locs ls cells slots hF
    cases hF
  | succ n ih =>
    intro t M H locs ls cells slots hF hn B hl hcc hss
    rw [F_law] at hF
    refine lv_iload hx hb dL_law_28 (lv_at hl 5 rfl) ?_
    refine lv_aload_n hx hb dL_law_30 rfl (lv_at hl 0 rfl) ?_
    refine fl_slen hC B dL_law_31 ?_
    refine lv_iconst (v := 4) hx hb dL_law_32 (by decide) ?_
    refine lv_isub hx hb dL_law_33 ?_
    refine lv_icmp_gt (tgt := 3320) hx hb dL_law_34 (by decide) (fun hc => ?_) (fun hc => ?_)
    · exact W.widen (by omega) (by omega) (kk M H locs ls B hl.1)
    · have hF := it_f hF hc
      obtain ⟨M1, hf, hF⟩ := bx_e hF
      have h0 : 4 * t + 0 < L := fl_in hc hL (by omega) (by omega)
      have h1 : 4 * t + 1 < L := fl_in hc hL (by omega) (by omega)
      have h2 : 4 * t + 2 < L := fl_in hc hL (by omega) (by omega)
      have h3 : 4 * t + 3 < L := fl_in hc hL (by omega) (by omega)
      have v0 : vp_in (nI (4 * t)) L := nI_in h0 (by omega)
      have v1 : vp_in (nI (4 * t) + 1) L := (nI_add (4 * t) 1).symm ▸ nI_in h1 (by omega)
      have v2 : vp_in (nI (4 * t) + 2) L := (nI_add (4 * t) 2).symm ▸ nI_in h2 (by omega)
      have v3 : vp_in (nI (4 * t) + 3) L := (nI_add (4 * t) 3).symm ▸ nI_in h3 (by omega)
      refine fl_body hlt hC v0 v1 v2 v3 hf B hl (by omega) (by omega) (fun H1 locs1 ls1 B hl => ?_)
      refine lv_iinc (v := nI (4 * (t + 1))) (lv' := [(5, .int (nI (4 * (t + 1)))), (0, .ref b), (1, .ref (fw_ad X 352)), (2, .ref (fw_ad X 378)), (3, .ref (fw_ad X 386)), (4, .ref (fw_ad X 387))]) hx hb dL_law_3314 hl (k := 5) rfl (nI_add (4 * t) 4) (by decide) rfl (fun ls2 hl => ?_)
      refine lv_goto (tgt := 28) hx hb dL_law_3317 (by decide) ?_
      exact ih (t + 1) M1 H1 locs1 ls2 _ _ hF (by omega) B (lv_sub hl [1, 2, 3, 4, 5, 0] rfl) (by omega) (by omega)
end CS
