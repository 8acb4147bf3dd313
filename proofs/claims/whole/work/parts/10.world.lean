/-! ONE FLAT WORLD: every cell of class and model has a logical number; what the cells hold is one function M: number, place -/
/-- two selections more: private methods of the StringBuilder's superclass, on a StringBuilder -/
def fw_xs : List Cond := [.selects RJ4 yJ5_ensureCapacityInternal_d00df yJ5_ensureCapacityInternal_d00df, .selects RJ4 yJ5_newCapacity_0f7a4 yJ5_newCapacity_0f7a4]
def fw_GW : List Cond := fw_xs ++ lw_tbl.filter goodWord
theorem fw_in {w : Cond} {i : Nat} (h : lw_tbl[i]? = some w) (hg : goodWord w = true) : w ∈ fw_GW := List.mem_append_right _ (List.mem_filter.mpr ⟨List.mem_of_getElem? h, hg⟩)
theorem fw_xg : ∀ w ∈ fw_xs, goodWord w = true := by decide +kernel
theorem fw_good : ∀ w ∈ fw_GW, (w.onTables && w.keeps) = true ∨ ∃ ty, w = .arrayClass ty := fun _ h => by
  rcases List.mem_append.mp h with h | h
  · exact good_of_word (fw_xg _ h)
  · exact good_of_word (List.mem_filter.mp h).2
theorem fw_selp {s : State} {args : Array Value} {y z : MethodName} {C : String} (hy : y.cls ≠ "java/lang/invoke/MethodHandle" ∧ y.cls ≠ "java/lang/invoke/VarHandle") (h1 : (Cond.selects C z z).before args s = true) (hp : (Cond.privateMethod y).before args s = true) (hi : (Cond.instanceMethod y).before args s = true) (hc : y.cls = z.cls) : (Cond.selects C y y).before args s = true := by
  obtain ⟨c, r, m, q1, q2, q3, q4, kP, hkP, hni⟩ := Cond.selects_spec h1
  obtain ⟨mk, methM, hnamed, hmethM, -, -⟩ := Cond.instanceMethod_spec hi
  have hfound : s.methodFound? y.cls y.name y.desc = some mk := State.methodFound?_of_named hnamed hy
  have hcls : mk.cls = m.cls := by
    have a1 := findClass_of_methodNamed hnamed
    have a2 := findClass_of_methodNamed q3
    rw [hc] at a1
    exact Option.some.inj (a1.symm.trans a2)
  have hsel : selectMethod {} s.vm c mk = .method mk := selectMethod_private hmethM (Cond.privateMethod_at hp mk methM hnamed hmethM)
  simp only [Cond.before, Cond.holds, Cond.value, q1, hfound, hnamed, hsel, hcls, hkP]
  simp
  exact hni
theorem fw_GI {c : Cond} {ws : List Cond} (h : ∀ w ∈ ws, w ∈ fw_GW) : GoodIn (c :: fw_GW) ws := fun w hw => ⟨List.mem_cons_of_mem _ (h w hw), fw_good w (h w hw)⟩
abbrev fw_M : Type := Nat → Nat → Int32
/-- class numbers, slots, addresses, array classes, fixed addresses (texts, statics), the first address that is the law's -/
abbrev fw_X : Type := (Nat → ClassId) × (Nat → Nat → Nat) × (Nat → Nat) × (Nat → ClassId) × (Nat → Nat) × Nat
abbrev fw_cl : List vw_C := [(RX0, TX0, 6), (RX1, TX1, 4), (RX2, TX2, 3), (RX3, TX3, 6), (RX4, TX4, 3), (RX5, TX5, 5), (RX6, TX6, 7), (RX7, TX7, 5), (RX8, TX8, 10), (RX9, TX9, 17), (RJ4, TJ4, 4)]
abbrev fw_D (X : fw_X) : va_G := (X.1, X.2.1)
abbrev fw_ad (X : fw_X) : Nat → Nat := X.2.2.1
abbrev fw_kp (X : fw_X) : Nat → ClassId := X.2.2.2.1
abbrev fw_sg (X : fw_X) : Nat → Nat := X.2.2.2.2.1
abbrev fw_z0 (X : fw_X) : Nat := X.2.2.2.2.2
def fw_A (X : fw_X) : Nat → Prop := fun q => fw_z0 X ≤ q
abbrev fw_tys (X : fw_X) : List (ClassId × FieldType) := [(fw_kp X 0, .int), (fw_kp X 1, .char), (fw_kp X 2, .array .int), (fw_kp X 3, .object "TramNetwork$State"), (fw_kp X 4, .byte), (fw_kp X 5, .long), (fw_kp X 6, .double)]
/-- the addresses, but that the text's row of bytes moves -/
def fw_rho (X : fw_X) (b : Nat) : Nat → Nat := fun k => if k = 377 then b else fw_ad X k
theorem fw_rho_ne {X : fw_X} {b k : Nat} (h : k ≠ 377) : fw_rho X b k = fw_ad X k := if_neg h
def fw_dbl (x y : Int32) : UInt64 := (x.toUInt32.toUInt64 <<< 32) ||| y.toUInt32.toUInt64
abbrev fw_ai (X : fw_X) (n : Nat) (f : Nat → Int32) : va_E := .inl (fw_kp X 0, n, .inl f)
abbrev fw_ac (X : fw_X) (n : Nat) (f : Nat → Int32) : va_E := .inl (fw_kp X 1, n, .inl f)
abbrev fw_aq (c : ClassId) (n : Nat) (f : Nat → Nat) : va_E := .inl (c, n, .inr (.inr (.inr (.inr (fun i => some (f i))))))
def fw_St (X : fw_X) (r : Nat → Nat) (j : Nat) (f : Nat → Int32) : va_E :=
  match j with
  | 0 => .inr (7, [.ref (r 1), .ref (r 11), .ref (r 15), .ref (r 22), .int (f 4)])
  | 1 => .inr (3, [.int (f 0), .int (f 1), .ref (r 2), .ref (r 3), .ref (r 4), .ref (r 10)])
  | 2 => fw_ai X 10 f
  | 3 => fw_ai X 5 f
  | 4 => fw_aq (fw_kp X 2) 5 (fun i => r (5 + i))
  | 5 => fw_ai X 6 f
  | 6 => fw_ai X 6 f
  | 7 => fw_ai X 6 f
  | 8 => fw_ai X 6 f
  | 9 => fw_ai X 6 f
  | 10 => fw_ai X 5 f
  | 11 => .inr (1, [.int (f 0), .ref (r 12), .ref (r 13), .ref (r 14)])
  | 12 => fw_ai X 6 f
  | 13 => fw_ai X 6 f
  | 14 => fw_ai X 6 f
  | 15 => .inr (6, [.int (f 0), .ref (r 16), .ref (r 17), .ref (r 18), .ref (r 19), .ref (r 20), .ref (r 21)])
  | 16 => fw_ai X 8 f
  | 17 => fw_ai X 8 f
  | 18 => fw_ai X 8 f
  | 19 => fw_ai X 8 f
  | 20 => fw_ai X 8 f
  | 21 => fw_ai X 8 f
  | 22 => .inr (2, [.int (f 0), .ref (r 23), .ref (r 24)])
  | _ => fw_ai X 6 f
def fw_Tn (X : fw_X) (r : Nat → Nat) (b j : Nat) (f : Nat → Int32) : va_E :=
  match j with
  | 0 => .inr (8, [.ref (r 0), .ref (r 32), .ref (r 64), .ref (r 353), .ref (r 355), .ref (r 360), .ref (r 376), .int (f 7), .int (f 8), .int (f 9)])
  | 1 => .inr (4, [.ref (r 354), .int (f 1), .int (f 2)])
  | 2 => fw_aq (fw_kp X 3) 8 (fun i => r (96 + 32 * i))
  | 3 => .inr (5, [.ref (r 356), .ref (r 357), .ref (r 358), .ref (r 359), .int (f 4)])
  | 4 => fw_ai X 10 f
  | 5 => fw_ai X 10 f
  | 6 => fw_ai X 5 f
  | 7 => fw_ai X 5 f
  | 8 => .inr (0, [.int (f 0), .ref (r 361), .int (f 2), .int (f 3), .ref (r 362), .ref (r 363)])
  | 9 => fw_ac X 60 f
  | 10 => fw_ai X 12 f
  | 11 => fw_aq (fw_kp X 2) 12 (fun i => r (364 + i))
  | 12 => fw_ai X 3 f
  | 13 => fw_ai X 3 f
  | 14 => fw_ai X 3 f
  | 15 => fw_ai X 3 f
  | 16 => fw_ai X 3 f
  | 17 => fw_ai X 3 f
  | 18 => fw_ai X 3 f
  | 19 => fw_ai X 3 f
  | 20 => fw_ai X 3 f
  | 21 => fw_ai X 3 f
  | 22 => fw_ai X 3 f
  | 23 => fw_ai X 3 f
  | 24 => .inr (10, [.ref b, .int (f 1), .int (f 2), .int (f 3)])
  | 25 => .inl (fw_kp X 4, (f 1000).toNatClampNeg, .inl f)
  | 26 => .inr (9, [.ref (r 379), .ref (r 380), .ref (r 381), .int (f 3), .ref (r 382), .int (f 5), .int (f 6), .ref (r 383), .int (f 8), .ref (r 384), .int (f 10), .int (f 11), .int (f 12), .int (f 13), .int (f 14), .ref (r 385), .int (f 16)])
  | 27 => fw_ai X 129 f
  | 28 => fw_ai X 129 f
  | 29 => fw_ai X 129 f
  | 30 => fw_ai X 1032 f
  | 31 => fw_ac X 40 f
  | 32 => fw_ac X 60 f
  | 33 => fw_ai X 240 f
  | 34 => .inl (fw_kp X 5, 1, .inr (.inl (fun j => (f j).toInt64)))
  | _ => .inl (fw_kp X 6, 1, .inr (.inr (.inr (.inl (fun j => if j = 0 then fw_dbl (f 0) (f 1) else 0)))))
def fw_E (X : fw_X) (b k : Nat) (f : Nat → Int32) : va_E := if k < 352 then fw_St X (fun j => fw_ad X (k - k % 32 + j)) (k % 32) f else fw_Tn X (fw_ad X) b (k - 352) f
theorem fw_ES {X : fw_X} {b s j : Nat} {f : Nat → Int32} (hs : s < 11) (hj : j < 32) : fw_E X b (32 * s + j) f = fw_St X (fun i => fw_ad X (32 * s + i)) j f := by
  have h1 : 32 * s + j < 352 := by omega
  have h2 : (32 * s + j) % 32 = j := by omega
  have h3 : 32 * s + j - j = 32 * s := by omega
  unfold fw_E
  rw [if_pos h1, h2, h3]
theorem fw_ET {X : fw_X} {b j : Nat} {f : Nat → Int32} : fw_E X b (352 + j) f = fw_Tn X (fw_ad X) b j f := by
  unfold fw_E
  rw [if_neg (by omega), Nat.add_sub_cancel_left]
theorem fw_Eb {X : fw_X} {b q k : Nat} {f : Nat → Int32} (hk : k ≠ 376) : fw_E X b k f = fw_E X q k f := by
  unfold fw_E
  by_cases h : k < 352
  · rw [if_pos h, if_pos h]
  · rw [if_neg h, if_neg h]
    have h2 : k - 352 ≠ 24 := by omega
    generalize k - 352 = j at h2
    unfold fw_Tn
    split <;> first | rfl | exact absurd rfl h2
def fw_dom : List Nat := (List.range 11).flatMap (fun s => (List.range 25).map (fun j => 32 * s + j)) ++ (List.range 36).map (fun j => 352 + j)
theorem fw_dS {s j : Nat} (hs : s < 11) (hj : j < 25) : 32 * s + j ∈ fw_dom := List.mem_append_left _ (List.mem_flatMap.mpr ⟨s, List.mem_range.mpr hs, List.mem_map.mpr ⟨j, List.mem_range.mpr hj, rfl⟩⟩)
theorem fw_dT {j : Nat} (hj : j < 36) : 352 + j ∈ fw_dom := List.mem_append_right _ (List.mem_map.mpr ⟨j, List.mem_range.mpr hj, rfl⟩)
theorem fw_nd : va_nd fw_dom = true := by decide +kernel
def fw_L (X : fw_X) (b : Nat) (M : fw_M) : va_W := fw_dom.map (fun k => (fw_rho X b k, fw_E X b k (M k)))
def fw_w (M : fw_M) (k : Nat) (g : Nat → Int32) : fw_M := fun a => if a = k then g else M a
/-- place j of cell k becomes x -/
def fw_up (M : fw_M) (k j : Nat) (x : Int32) : fw_M := fw_w M k (upd (M k) j x)
theorem fw_w_s {M : fw_M} {k : Nat} {g : Nat → Int32} : fw_w M k g k = g := if_pos rfl
theorem fw_w_n {M : fw_M} {k a : Nat} {g : Nat → Int32} (h : a ≠ k) : fw_w M k g a = M a := if_neg h
theorem fw_get {X : fw_X} {b : Nat} {M : fw_M} {k : Nat} (h : k ∈ fw_dom) : ∃ q : Nat, fw_dom[q]? = some k ∧ (fw_L X b M)[q]? = some (fw_rho X b k, fw_E X b k (M k)) := by
  obtain ⟨q, hq⟩ := List.mem_iff_getElem?.mp h
  exact ⟨q, hq, by unfold fw_L; rw [List.getElem?_map, hq]; rfl⟩
theorem fw_set {X : fw_X} {b : Nat} {M : fw_M} {k q : Nat} {g : Nat → Int32} (hq : fw_dom[q]? = some k) : (fw_L X b M).set q (fw_rho X b k, fw_E X b k g) = fw_L X b (fw_w M k g) := by
  have hlt : q < fw_dom.length := (List.getElem?_eq_some_iff.mp hq).1
  apply List.ext_getElem?
  intro i
  unfold fw_L
  rw [List.getElem?_set]
  by_cases e : q = i
  · subst e
    rw [if_pos rfl, List.length_map, if_pos hlt, List.getElem?_map, hq]
    simp only [Option.map_some, fw_w_s]
  · rw [if_neg e, List.getElem?_map, List.getElem?_map]
    cases h : fw_dom[i]? with
    | none => simp only [Option.map_none]
    | some a =>
      have hne : a ≠ k := fun ha => e (va_nd_inj fw_dom fw_nd q i k hq (ha ▸ h))
      simp only [Option.map_some, fw_w_n hne]
/-! what the tables say, what lies still -/
def fw_nest : List (String × Nat × String × String × String × String) := [("TramNetwork$State", 60, "TramNetwork$Grid", "stopTotal", "I", "TramNetwork"), ("TramNetwork", 95, "TramNetwork$Grid", "stopTotal", "I", "TramNetwork"), ("TramNetwork$PathFinder", 80, "TramNetwork$Grid", "stopTotal", "I", "TramNetwork"), ("TramNetwork$PathFinder", 42, "TramNetwork$Grid", "lineTotal", "I", "TramNetwork"), ("TramNetwork$State", 66, "TramNetwork$Grid", "lineTotal", "I", "TramNetwork"), ("TramNetwork", 109, "TramNetwork$Grid", "lineTotal", "I", "TramNetwork"), ("TramNetwork", 101, "TramNetwork$Grid", "zones", "[I", "TramNetwork"), ("TramNetwork$State", 109, "TramNetwork$Grid", "zones", "[I", "TramNetwork"), ("TramNetwork$PathFinder", 55, "TramNetwork$Grid", "lengths", "[I", "TramNetwork"), ("TramNetwork$Fleet", 31, "TramNetwork$Grid", "lengths", "[I", "TramNetwork"), ("TramNetwork$State", 76, "TramNetwork$Grid", "lengths", "[I", "TramNetwork"), ("TramNetwork", 115, "TramNetwork$Grid", "lengths", "[I", "TramNetwork"), ("TramNetwork$PathFinder", 51, "TramNetwork$Grid", "stopsOfLine", "[[I", "TramNetwork"), ("TramNetwork", 125, "TramNetwork$Grid", "stopsOfLine", "[[I", "TramNetwork"), ("TramNetwork$State", 149, "TramNetwork$Grid", "stopsOfLine", "[[I", "TramNetwork"), ("TramNetwork$PathFinder", 73, "TramNetwork$Grid", "stopSets", "[I", "TramNetwork"), ("TramNetwork", 129, "TramNetwork$Grid", "stopSets", "[I", "TramNetwork"), ("TramNetwork$State", 80, "TramNetwork$Fleet", "total", "I", "TramNetwork"), ("TramNetwork", 156, "TramNetwork$Fleet", "total", "I", "TramNetwork"), ("TramNetwork$State", 103, "TramNetwork$Fleet", "lines", "[I", "TramNetwork"), ("TramNetwork", 162, "TramNetwork$Fleet", "lines", "[I", "TramNetwork"), ("TramNetwork$State", 153, "TramNetwork$Fleet", "positions", "[I", "TramNetwork"), ("TramNetwork", 168, "TramNetwork$Fleet", "steps", "[I", "TramNetwork"), ("TramNetwork$State", 163, "TramNetwork$Fleet", "steps", "[I", "TramNetwork"), ("TramNetwork$State", 83, "TramNetwork$Riders", "total", "I", "TramNetwork"), ("TramNetwork", 217, "TramNetwork$Riders", "total", "I", "TramNetwork"), ("TramNetwork$State", 96, "TramNetwork$Riders", "stops", "[I", "TramNetwork"), ("TramNetwork", 221, "TramNetwork$Riders", "stops", "[I", "TramNetwork"), ("TramNetwork$State", 93, "TramNetwork$Riders", "trams", "[I", "TramNetwork"), ("TramNetwork", 224, "TramNetwork$Riders", "trams", "[I", "TramNetwork"), ("TramNetwork$State", 87, "TramNetwork$Riders", "rides", "[I", "TramNetwork"), ("TramNetwork", 227, "TramNetwork$Riders", "rides", "[I", "TramNetwork"), ("TramNetwork$State", 129, "TramNetwork$Riders", "leftLines", "[I", "TramNetwork"), ("TramNetwork$State", 132, "TramNetwork$Riders", "leftTicks", "[I", "TramNetwork"), ("TramNetwork$State", 115, "TramNetwork$Gossip", "total", "I", "TramNetwork"), ("TramNetwork", 262, "TramNetwork$Gossip", "total", "I", "TramNetwork"), ("TramNetwork$State", 122, "TramNetwork$Gossip", "carriers", "[I", "TramNetwork"), ("TramNetwork", 266, "TramNetwork$Gossip", "carriers", "[I", "TramNetwork"), ("TramNetwork", 73, "TramNetwork$State", "grid", "LTramNetwork$Grid;", "TramNetwork"), ("TramNetwork", 140, "TramNetwork$State", "fleet", "LTramNetwork$Fleet;", "TramNetwork"), ("TramNetwork", 171, "TramNetwork$State", "riders", "LTramNetwork$Riders;", "TramNetwork"), ("TramNetwork", 247, "TramNetwork$State", "gossip", "LTramNetwork$Gossip;", "TramNetwork"), ("TramNetwork", 153, "TramNetwork$State", "ticks", "I", "TramNetwork"), ("TramNetwork", 368, "TramNetwork$History", "total", "I", "TramNetwork"), ("TramNetwork", 338, "TramNetwork$CommandText", "length", "I", "TramNetwork"), ("TramNetwork", 354, "TramNetwork$CommandText", "cursor", "I", "TramNetwork"), ("TramNetwork", 367, "TramNetwork$CommandText", "total", "I", "TramNetwork"), ("TramNetwork", 379, "TramNetwork$CommandText", "kinds", "[I", "TramNetwork"), ("TramNetwork", 382, "TramNetwork$CommandText", "digits", "[[I", "TramNetwork"), ("TramNetwork$CommandText", 46, "TramNetwork", "DIGITS_OF_KIND", "[I", "TramNetwork")]
def fw_strs : List (String × Nat × String × Nat) := [("TramNetwork", 389, "no such number", 50), ("TramNetwork", 391, "an argument is out of range", 51), ("TramNetwork", 393, "not possible in this state", 52), ("TramNetwork", 395, "the tram is not at the stop", 53), ("TramNetwork", 399, "not allowed", 54), ("TramNetwork", 407, "no such stop", 55), ("TramNetwork", 412, "no such line", 56), ("TramNetwork", 120, "no such position", 57), ("TramNetwork", 417, "no such tram", 58), ("TramNetwork", 180, "no trams", 59), ("TramNetwork", 402, "nothing found", 60), ("TramNetwork", 422, "no such passenger", 61), ("TramNetwork", 235, "no such zone", 62), ("TramNetwork", 427, "no such secret", 63), ("TramNetwork", 281, "no such rank", 64), ("TramNetwork", 314, "no such character", 65), ("TramNetwork", 323, "no passengers", 66), ("TramNetwork", 326, "no secrets", 67), ("TramNetwork", 336, "not a printable character", 68), ("TramNetwork", 342, "the buffer is full", 69), ("TramNetwork$CommandText", 75, "stop", 10), ("TramNetwork$CommandText", 77, "line", 11), ("TramNetwork$CommandText", 79, "extend", 12), ("TramNetwork$CommandText", 81, "tram", 13), ("TramNetwork$CommandText", 83, "rider", 14), ("TramNetwork$CommandText", 85, "ticket", 15), ("TramNetwork$CommandText", 87, "board", 16), ("TramNetwork$CommandText", 89, "alight", 17), ("TramNetwork$CommandText", 91, "secret", 18), ("TramNetwork$CommandText", 93, "whisper", 19), ("TramNetwork$CommandText", 95, "tick", 20), ("TramNetwork", 357, "malformed text", 70), ("TramNetwork", 365, "a command failed", 71), ("TramNetwork", 369, "nothing to undo", 72), ("TramNetwork", 374, "no snapshot", 73), ("TramNetworkModel", 253, "whisper", 19), ("TramNetworkModel", 234, "stop", 10), ("TramNetworkModel", 236, "secret", 18), ("TramNetworkModel", 238, "line", 11), ("TramNetworkModel", 239, "extend", 12), ("TramNetworkModel", 241, "tram", 13), ("TramNetworkModel", 243, "ticket", 15), ("TramNetworkModel", 245, "tick", 20), ("TramNetworkModel", 247, "rider", 14), ("TramNetworkModel", 249, "board", 16), ("TramNetworkModel", 251, "alight", 17), ("TramNetworkModel", 228, " ", 21)]
def fw_wlen : List Nat := [4, 4, 6, 4, 5, 6, 5, 6, 6, 7, 4, 1]
def fw_wbyt : List (List Int32) := [[115, 116, 111, 112], [108, 105, 110, 101], [101, 120, 116, 101, 110, 100], [116, 114, 97, 109], [114, 105, 100, 101, 114], [116, 105, 99, 107, 101, 116], [98, 111, 97, 114, 100], [97, 108, 105, 103, 104, 116], [115, 101, 99, 114, 101, 116], [119, 104, 105, 115, 112, 101, 114], [116, 105, 99, 107], [32]]
def fw_dig : List Int32 := [1, 2, 2, 1, 1, 3, 2, 1, 1, 2, 0]
def fw_xn (n : Nat) : String := match n with
  | 0 => "java/lang/IndexOutOfBoundsException"
  | 1 => "java/lang/IllegalArgumentException"
  | 2 => "java/lang/IllegalStateException"
  | 3 => "java/util/NoSuchElementException"
  | 4 => "java/lang/UnsupportedOperationException"
  | _ => "java/lang/ArithmeticException"
def fw_dcl : List MethodName := [Bundle.initS "java/lang/RuntimeException", Bundle.initS "java/lang/Exception", Bundle.initS "java/lang/Throwable"]
def fw_T (X : fw_X) (U : State) : Prop := va_K (fw_D X) fw_cl (fw_tys X) U ∧ (∀ q ∈ fw_nest, va_Nw (.fieldLinkNest q.1 q.2.1 q.2.2.1 q.2.2.2.1 q.2.2.2.2.1 q.2.2.2.2.2) U) ∧ va_Nw (.methodLinkNest "TramNetwork$State" 56 yX8_isZone "TramNetwork") U ∧ (∀ q ∈ fw_strs, vk_R q.1 q.2.1 q.2.2.1 (fw_sg X q.2.2.2) U) ∧ (∀ i j : Nat, i < 6 → j < 6 → i ≠ j → va_Nc (fw_xn i) (fw_xn j) U) ∧ (∀ i : Nat, i < 6 → va_Nw (.castable (fw_xn i) (fw_xn i)) U) ∧ (∀ y ∈ fw_dcl, va_Nw (.declares y) U)
theorem fw_T.moved {X : fw_X} {s U : State} (hW : s.WarmedH U.vm) (h : fw_T X s) : fw_T X U := ⟨va_K.moved hW.alike h.1, fun q hq => va_Nw.warmF hW (h.2.1 q hq), va_Nw.warmM hW h.2.2.1, fun q hq => vk_R.warm hW (h.2.2.2.1 q hq), fun i j hi hj n => va_Nc.moved hW.alike (h.2.2.2.2.1 i j hi hj n), fun i hi => va_Nw.warmC hW (h.2.2.2.2.2.1 i hi), fun y hy => va_Nw.warmD hW (h.2.2.2.2.2.2 y hy)⟩
theorem fw_T.call {X : fw_X} {U : State} (h : fw_T X U) (g : JFrame) (mk : MethodId) (a : Array Value) : fw_T X (U.calling g mk a) := ⟨va_K.moved (u := U) (U := U.calling g mk a) (Vm.Alike.refl U.vm) h.1, fun q hq => va_Nw.same (u := U) (U := U.calling g mk a) rfl rfl (h.2.1 q hq), va_Nw.same (u := U) (U := U.calling g mk a) rfl rfl h.2.2.1, fun q hq => vk_R.same (u := U) (U := U.calling g mk a) rfl (h.2.2.2.1 q hq), fun i j hi hj n => va_Nc.moved (u := U) (U := U.calling g mk a) (Vm.Alike.refl U.vm) (h.2.2.2.2.1 i j hi hj n), fun i hi => va_Nw.same (u := U) (U := U.calling g mk a) rfl rfl (h.2.2.2.2.2.1 i hi), fun y hy => va_Nw.same (u := U) (U := U.calling g mk a) rfl rfl (h.2.2.2.2.2.2 y hy)⟩
/-- statics and texts: all outside what the law makes -/
def fw_V (X : fw_X) (U : State) (H : Heap) : Prop := vx_Zq Bundle.tN "UNASSIGNED_STACK" Bundle.steD (fw_A X) U H ∧ vx_Zq Bundle.tN "SUPPRESSED_SENTINEL" Bundle.listD (fw_A X) U H ∧
  va_Z "TramNetwork" "DIGITS_OF_KIND" "[I" (.ref (fw_sg X 0)) (fw_A X) U H ∧ va_T .int (fw_sg X 0) 11 (fun j => .int (fw_dig.getD j 0)) (fw_A X) U H ∧
  vk_S 12 fw_wlen fw_wbyt (fun i => fw_sg X (10 + i)) (fun i => fw_sg X (30 + i)) (fw_A X) U H ∧
  va_Z "java/lang/String" "COMPACT_STRINGS" "Z" (.int 1) (fw_A X) U H ∧
  va_Z "java/lang/Integer" "DigitTens" "[B" (.ref (fw_sg X 1)) (fw_A X) U H ∧ va_T .byte (fw_sg X 1) 100 (fun j => .int (nI (48 + j / 10))) (fw_A X) U H ∧
  va_Z "java/lang/Integer" "DigitOnes" "[B" (.ref (fw_sg X 2)) (fw_A X) U H ∧ va_T .byte (fw_sg X 2) 100 (fun j => .int (nI (48 + j % 10))) (fw_A X) U H ∧
  va_Zq "jdk/internal/util/Preconditions" "SIOOBE_FORMATTER" "Ljava/util/function/BiFunction;" (fw_A X) U H
theorem fw_V.moved {X : fw_X} {u U : State} {H : Heap} (hv : u.vm.Alike U.vm) (h : fw_V X u H) : fw_V X U H := ⟨vx_Zq.moved hv h.1, vx_Zq.moved hv h.2.1, va_Z.moved hv h.2.2.1, va_T.moved hv h.2.2.2.1, vk_S.moved hv h.2.2.2.2.1, va_Z.moved hv h.2.2.2.2.2.1, va_Z.moved hv h.2.2.2.2.2.2.1, va_T.moved hv h.2.2.2.2.2.2.2.1, va_Z.moved hv h.2.2.2.2.2.2.2.2.1, va_T.moved hv h.2.2.2.2.2.2.2.2.2.1, va_Zq.moved hv h.2.2.2.2.2.2.2.2.2.2⟩
theorem fw_V.kept {X : fw_X} {U : State} {H H1 : Heap} (h : fw_V X U H) (hq : ∀ a : Nat, a < H.size → ¬ fw_A X a → H1[a]? = H[a]?) : fw_V X U H1 := ⟨vx_Zq.kept h.1 hq, vx_Zq.kept h.2.1 hq, va_Z.kept h.2.2.1 hq, va_T.kept h.2.2.2.1 hq, vk_S.kept h.2.2.2.2.1 hq, va_Z.kept h.2.2.2.2.2.1 hq, va_Z.kept h.2.2.2.2.2.2.1 hq, va_T.kept h.2.2.2.2.2.2.2.1 hq, va_Z.kept h.2.2.2.2.2.2.2.2.1 hq, va_T.kept h.2.2.2.2.2.2.2.2.2.1 hq, va_Zq.kept h.2.2.2.2.2.2.2.2.2.2 hq⟩
def fw_B (X : fw_X) (M : fw_M) (t : State) : Prop := ∃ b, va_P (fw_D X) fw_cl (fw_L X b M) t.heap ∧ va_D (fw_A X) (fw_L X b M)
def fw_P (X : fw_X) (M : fw_M) (av : List Value) : Array Value → State → Prop := va_Pc av (fun U => fw_B X M U ∧ fw_T X U ∧ fw_V X U U.heap ∧ fw_z0 X ≤ U.heap.size)
theorem fw_blind (X : fw_X) (M : fw_M) (av : List Value) : FrameBlind (fw_P X M av) := fun a U g mk q => ⟨q.1, q.2.1, q.2.2.1.call g mk a, fw_V.moved (u := U) (U := U.calling g mk a) (Vm.Alike.refl U.vm) q.2.2.2.1, q.2.2.2.2⟩
def fr_C (X : fw_X) (p : Program) (c : Code) (cc : ByteArray) (nL : Nat) (own : String) (s : State) (m : MethodId) (args : Array Value) : Prop := CallFix p m c cc nL s args fw_GW own ∧ fw_T X s ∧ fw_V X s s.heap ∧ fw_z0 X ≤ s.heap.size
def fr_H (X : fw_X) (s : State) (M : fw_M) (H : Heap) (locs : List Loc) : Prop := ∃ b, va_P (fw_D X) fw_cl (fw_L X b M) H ∧ va_D (fw_A X) (fw_L X b M) ∧ va_S (fw_A X) s.heap H locs
theorem fr_pre {X : fw_X} {p : Program} {c : Code} {cc : ByteArray} {nL : Nat} {own : String} {s U : State} {m : MethodId} {args : Array Value} {M : fw_M} {H : Heap} {locs : List Loc} (C : fr_C X p c cc nL own s m args) (B : fr_H X s M H locs) (hU : U.heap = H) (hW : s.WarmedH U.vm) (av : List Value) : fw_P X M av av.toArray U := by
  obtain ⟨b, hP, hD, hS⟩ := B
  refine ⟨rfl, ⟨b, by rw [hU]; exact hP, hD⟩, C.2.1.moved hW, ?_, by rw [hU]; exact Nat.le_trans C.2.2.2 hS.1⟩
  rw [hU]
  exact (C.2.2.1.kept (fun a h1 h2 => hS.2.1 a h1 h2)).moved hW.alike
