theorem wm_J7_304 : Cond.methodLink RJ7 304 Lib.Math.min.name ∈ fw_GW := fw_in (i := 1246) (by decide +kernel) (by decide +kernel)
theorem wm_J7_150 : Cond.methodLink RJ7 150 arraycopyName ∈ fw_GW := fw_in (i := 1249) (by decide +kernel) (by decide +kernel)
theorem wm_J5_104 : Cond.methodLink RJ5 104 yJ5_newCapacity_0f7a4 ∈ fw_GW := fw_in (i := 1221) (by decide +kernel) (by decide +kernel)
theorem wm_J5_108 : Cond.methodLink RJ5 108 yJ7_copyOf_9075b ∈ fw_GW := fw_in (i := 1236) (by decide +kernel) (by decide +kernel)
theorem wm_J5_100 : Cond.methodLink RJ5 100 yJ5_ensureCapacityInternal_d00df ∈ fw_GW := fw_in (i := 1217) (by decide +kernel) (by decide +kernel)
theorem wm_J5_83 : Cond.methodLink RJ5 83 yJ5_isLatin1_aae02 ∈ fw_GW := fw_in (i := 1250) (by decide +kernel) (by decide +kernel)
theorem wm_J5_191 : Cond.methodLink RJ5 191 yJ1_canEncode_fc78d ∈ fw_GW := fw_in (i := 1453) (by decide +kernel) (by decide +kernel)
theorem wm_J5_245 : Cond.methodLink RJ5 245 yJ6_stringSize_0f7a4 ∈ fw_GW := fw_in (i := 1331) (by decide +kernel) (by decide +kernel)
theorem wm_J5_248 : Cond.methodLink RJ5 248 yJ6_getChars_ba4f3 ∈ fw_GW := fw_in (i := 1334) (by decide +kernel) (by decide +kernel)
theorem wc_J7_copyOf_9075b : Cond.code yJ7_copyOf_9075b cJ7_copyOf_9075b 3 (some (.array .byte)) ∈ fw_GW := fw_in (i := 1238) (by decide +kernel) (by decide +kernel)
theorem wt_J7_copyOf_9075b : Cond.static yJ7_copyOf_9075b ∈ fw_GW := fw_in (i := 1237) (by decide +kernel) (by decide +kernel)
theorem wc_J6_getChars_ba4f3 : Cond.code yJ6_getChars_ba4f3 cJ6_getChars_ba4f3 7 (some .int) ∈ fw_GW := fw_in (i := 1336) (by decide +kernel) (by decide +kernel)
theorem wt_J6_getChars_ba4f3 : Cond.static yJ6_getChars_ba4f3 ∈ fw_GW := fw_in (i := 1335) (by decide +kernel) (by decide +kernel)
theorem wc_J6_stringSize_0f7a4 : Cond.code yJ6_stringSize_0f7a4 cJ6_stringSize_0f7a4 4 (some .int) ∈ fw_GW := fw_in (i := 1333) (by decide +kernel) (by decide +kernel)
theorem wt_J6_stringSize_0f7a4 : Cond.static yJ6_stringSize_0f7a4 ∈ fw_GW := fw_in (i := 1332) (by decide +kernel) (by decide +kernel)
theorem wc_J1_canEncode_fc78d : Cond.code yJ1_canEncode_fc78d cJ1_canEncode_fc78d 1 (some .boolean) ∈ fw_GW := fw_in (i := 1455) (by decide +kernel) (by decide +kernel)
theorem wt_J1_canEncode_fc78d : Cond.static yJ1_canEncode_fc78d ∈ fw_GW := fw_in (i := 1454) (by decide +kernel) (by decide +kernel)
theorem wc_J5_newCapacity_0f7a4 : Cond.code yJ5_newCapacity_0f7a4 cJ5_newCapacity_0f7a4 6 (some .int) ∈ fw_GW := fw_in (i := 1224) (by decide +kernel) (by decide +kernel)
theorem wn_J5_newCapacity_0f7a4 : Cond.instanceMethod yJ5_newCapacity_0f7a4 ∈ fw_GW := fw_in (i := 1223) (by decide +kernel) (by decide +kernel)
theorem wc_J5_ensureCapacityInternal_d00df : Cond.code yJ5_ensureCapacityInternal_d00df cJ5_ensureCapacityInternal_d00df 3 none ∈ fw_GW := fw_in (i := 1220) (by decide +kernel) (by decide +kernel)
theorem wn_J5_ensureCapacityInternal_d00df : Cond.instanceMethod yJ5_ensureCapacityInternal_d00df ∈ fw_GW := fw_in (i := 1219) (by decide +kernel) (by decide +kernel)
theorem wc_J5_isLatin1_aae02 : Cond.code yJ5_isLatin1_aae02 cJ5_isLatin1_aae02 1 (some .boolean) ∈ fw_GW := fw_in (i := 1254) (by decide +kernel) (by decide +kernel)
theorem wn_J5_isLatin1_aae02 : Cond.instanceMethod yJ5_isLatin1_aae02 ∈ fw_GW := fw_in (i := 1251) (by decide +kernel) (by decide +kernel)
theorem wu_J5_isLatin1_aae02 : Cond.selects RJ4 yJ5_isLatin1_aae02 yJ5_isLatin1_aae02 ∈ fw_GW := fw_in (i := 1253) (by decide +kernel) (by decide +kernel)
theorem wf_J5_73 : Cond.fieldLink RJ5 73 "java/lang/AbstractStringBuilder" "maybeLatin1" "Z" ∈ fw_GW := fw_in (i := 360) (by decide +kernel) (by decide +kernel)
theorem wm_J4_50 : Cond.methodLink RJ4 50 yJ5_append_3fe6f ∈ fw_GW := fw_in (i := 1450) (by decide +kernel) (by decide +kernel)
theorem wc_J5_append_3fe6f : Cond.code yJ5_append_3fe6f cJ5_append_3fe6f 2 (some (.object "java/lang/AbstractStringBuilder")) ∈ fw_GW := fw_in (i := 1452) (by decide +kernel) (by decide +kernel)
theorem wn_J5_append_3fe6f : Cond.instanceMethod yJ5_append_3fe6f ∈ fw_GW := fw_in (i := 1451) (by decide +kernel) (by decide +kernel)
theorem wx_J5_append_3fe6f : Cond.sameMethod yJ5_append_3fe6f.cls yJ5_append_3fe6f.cls yJ5_append_3fe6f.name yJ5_append_3fe6f.desc ∈ fw_GW := fw_in (i := 2207) (by decide +kernel) (by decide +kernel)
theorem wi_J4 : Cond.initialized RJ4 ∈ fw_GW := fw_in (i := 79) (by decide +kernel) (by decide +kernel)
theorem wc_J4_append_cf468 : Cond.code yJ4_append_cf468 cJ4_append_cf468 2 (some (.object "java/lang/StringBuilder")) ∈ fw_GW := fw_in (i := 1449) (by decide +kernel) (by decide +kernel)
theorem wn_J4_append_cf468 : Cond.instanceMethod yJ4_append_cf468 ∈ fw_GW := fw_in (i := 1447) (by decide +kernel) (by decide +kernel)
theorem ws_J4_append_cf468 : Cond.selects yJ4_append_cf468.cls yJ4_append_cf468 yJ4_append_cf468 ∈ fw_GW := fw_in (i := 1448) (by decide +kernel) (by decide +kernel)
theorem wm_J4_53 : Cond.methodLink RJ4 53 yJ5_append_c97b9 ∈ fw_GW := fw_in (i := 1328) (by decide +kernel) (by decide +kernel)
theorem wc_J5_append_c97b9 : Cond.code yJ5_append_c97b9 cJ5_append_c97b9 4 (some (.object "java/lang/AbstractStringBuilder")) ∈ fw_GW := fw_in (i := 1330) (by decide +kernel) (by decide +kernel)
theorem wn_J5_append_c97b9 : Cond.instanceMethod yJ5_append_c97b9 ∈ fw_GW := fw_in (i := 1329) (by decide +kernel) (by decide +kernel)
theorem wx_J5_append_c97b9 : Cond.sameMethod yJ5_append_c97b9.cls yJ5_append_c97b9.cls yJ5_append_c97b9.name yJ5_append_c97b9.desc ∈ fw_GW := fw_in (i := 2206) (by decide +kernel) (by decide +kernel)
theorem wc_J4_append_bf812 : Cond.code yJ4_append_bf812 cJ4_append_bf812 2 (some (.object "java/lang/StringBuilder")) ∈ fw_GW := fw_in (i := 1327) (by decide +kernel) (by decide +kernel)
theorem wn_J4_append_bf812 : Cond.instanceMethod yJ4_append_bf812 ∈ fw_GW := fw_in (i := 1325) (by decide +kernel) (by decide +kernel)
theorem ws_J4_append_bf812 : Cond.selects yJ4_append_bf812.cls yJ4_append_bf812 yJ4_append_bf812 ∈ fw_GW := fw_in (i := 1326) (by decide +kernel) (by decide +kernel)
theorem wm_J4_333 : Cond.methodLink RJ4 333 yJ5_setLength_d00df ∈ fw_GW := fw_in (i := 1195) (by decide +kernel) (by decide +kernel)
theorem wc_J5_setLength_d00df : Cond.code yJ5_setLength_d00df cJ5_setLength_d00df 2 none ∈ fw_GW := fw_in (i := 1197) (by decide +kernel) (by decide +kernel)
theorem wn_J5_setLength_d00df : Cond.instanceMethod yJ5_setLength_d00df ∈ fw_GW := fw_in (i := 1196) (by decide +kernel) (by decide +kernel)
theorem wx_J5_setLength_d00df : Cond.sameMethod yJ5_setLength_d00df.cls yJ5_setLength_d00df.cls yJ5_setLength_d00df.name yJ5_setLength_d00df.desc ∈ fw_GW := fw_in (i := 2198) (by decide +kernel) (by decide +kernel)
theorem wc_J4_setLength_d00df : Cond.code yJ4_setLength_d00df cJ4_setLength_d00df 2 none ∈ fw_GW := fw_in (i := 1194) (by decide +kernel) (by decide +kernel)
theorem wn_J4_setLength_d00df : Cond.instanceMethod yJ4_setLength_d00df ∈ fw_GW := fw_in (i := 1192) (by decide +kernel) (by decide +kernel)
theorem ws_J4_setLength_d00df : Cond.selects yJ4_setLength_d00df.cls yJ4_setLength_d00df yJ4_setLength_d00df ∈ fw_GW := fw_in (i := 1193) (by decide +kernel) (by decide +kernel)
theorem wf_J6_83 : Cond.fieldLink RJ6 83 "java/lang/Integer" "DigitOnes" "[B" ∈ fw_GW := fw_in (i := 1337) (by decide +kernel) (by decide +kernel)
theorem wf_J6_87 : Cond.fieldLink RJ6 87 "java/lang/Integer" "DigitTens" "[B" ∈ fw_GW := fw_in (i := 1339) (by decide +kernel) (by decide +kernel)
theorem wc_J4_length_8abf5 : Cond.code yJ4_length_8abf5 cJ4_length_8abf5 1 (some .int) ∈ fw_GW := fw_in (i := 1371) (by decide +kernel) (by decide +kernel)
theorem wn_J4_length_8abf5 : Cond.instanceMethod yJ4_length_8abf5 ∈ fw_GW := fw_in (i := 1370) (by decide +kernel) (by decide +kernel)
theorem ws_J4_length_8abf5 : Cond.selects yJ4_length_8abf5.cls yJ4_length_8abf5 yJ4_length_8abf5 ∈ fw_GW := fw_in (i := 2208) (by decide +kernel) (by decide +kernel)
theorem wc_J4_charAt_5068e : Cond.code yJ4_charAt_5068e cJ4_charAt_5068e 2 (some .char) ∈ fw_GW := fw_in (i := 1492) (by decide +kernel) (by decide +kernel)
theorem wn_J4_charAt_5068e : Cond.instanceMethod yJ4_charAt_5068e ∈ fw_GW := fw_in (i := 1490) (by decide +kernel) (by decide +kernel)
theorem ws_J4_charAt_5068e : Cond.selects yJ4_charAt_5068e.cls yJ4_charAt_5068e yJ4_charAt_5068e ∈ fw_GW := fw_in (i := 1491) (by decide +kernel) (by decide +kernel)
theorem yw_J7_copyOf_9075b : yw_S yJ7_copyOf_9075b cJ7_copyOf_9075b 3 (some (.array .byte)) 2 := ⟨wt_J7_copyOf_9075b, wi_J7, wc_J7_copyOf_9075b, by decide +kernel, by decide +kernel, by decide +kernel⟩
theorem yw_J6_getChars_ba4f3 : yw_S yJ6_getChars_ba4f3 cJ6_getChars_ba4f3 7 (some .int) 3 := ⟨wt_J6_getChars_ba4f3, wi_J6, wc_J6_getChars_ba4f3, by decide +kernel, by decide +kernel, by decide +kernel⟩
theorem yw_J6_stringSize_0f7a4 : yw_S yJ6_stringSize_0f7a4 cJ6_stringSize_0f7a4 4 (some .int) 1 := ⟨wt_J6_stringSize_0f7a4, wi_J6, wc_J6_stringSize_0f7a4, by decide +kernel, by decide +kernel, by decide +kernel⟩
theorem yw_J1_canEncode_fc78d : yw_S yJ1_canEncode_fc78d cJ1_canEncode_fc78d 1 (some .boolean) 1 := ⟨wt_J1_canEncode_fc78d, wi_J1, wc_J1_canEncode_fc78d, by decide +kernel, by decide +kernel, by decide +kernel⟩
theorem yw_J4_append_cf468 : yw_V yJ4_append_cf468 cJ4_append_cf468 2 (some (.object "java/lang/StringBuilder")) 1 := ⟨wn_J4_append_cf468, ws_J4_append_cf468, wi_J4, wc_J4_append_cf468, by decide +kernel, by decide +kernel, by decide +kernel⟩
theorem yw_J4_append_bf812 : yw_V yJ4_append_bf812 cJ4_append_bf812 2 (some (.object "java/lang/StringBuilder")) 1 := ⟨wn_J4_append_bf812, ws_J4_append_bf812, wi_J4, wc_J4_append_bf812, by decide +kernel, by decide +kernel, by decide +kernel⟩
theorem yw_J4_setLength_d00df : yw_V yJ4_setLength_d00df cJ4_setLength_d00df 2 none 1 := ⟨wn_J4_setLength_d00df, ws_J4_setLength_d00df, wi_J4, wc_J4_setLength_d00df, by decide +kernel, by decide +kernel, by decide +kernel⟩
theorem yw_J4_length_8abf5 : yw_V yJ4_length_8abf5 cJ4_length_8abf5 1 (some .int) 0 := ⟨wn_J4_length_8abf5, ws_J4_length_8abf5, wi_J4, wc_J4_length_8abf5, by decide +kernel, by decide +kernel, by decide +kernel⟩
theorem yw_J4_charAt_5068e : yw_V yJ4_charAt_5068e cJ4_charAt_5068e 2 (some .char) 1 := ⟨wn_J4_charAt_5068e, ws_J4_charAt_5068e, wi_J4, wc_J4_charAt_5068e, by decide +kernel, by decide +kernel, by decide +kernel⟩
theorem yu_J5_newCapacity_0f7a4 : yw_U yJ5_newCapacity_0f7a4 cJ5_newCapacity_0f7a4 6 (some .int) 1 := ⟨wn_J5_newCapacity_0f7a4, (List.mem_append_left _ (by decide)), wi_J5, wc_J5_newCapacity_0f7a4, by decide +kernel, by decide +kernel, by decide +kernel⟩
theorem yu_J5_ensureCapacityInternal_d00df : yw_U yJ5_ensureCapacityInternal_d00df cJ5_ensureCapacityInternal_d00df 3 none 1 := ⟨wn_J5_ensureCapacityInternal_d00df, (List.mem_append_left _ (by decide)), wi_J5, wc_J5_ensureCapacityInternal_d00df, by decide +kernel, by decide +kernel, by decide +kernel⟩
theorem yu_J5_isLatin1_aae02 : yw_U yJ5_isLatin1_aae02 cJ5_isLatin1_aae02 1 (some .boolean) 0 := ⟨wn_J5_isLatin1_aae02, wu_J5_isLatin1_aae02, wi_J5, wc_J5_isLatin1_aae02, by decide +kernel, by decide +kernel, by decide +kernel⟩
theorem yp_J5_append_3fe6f : yw_P yJ5_append_3fe6f cJ5_append_3fe6f 2 (some (.object "java/lang/AbstractStringBuilder")) 1 := ⟨wx_J5_append_3fe6f, wp_J4, wn_J5_append_3fe6f, wi_J5, wc_J5_append_3fe6f, by decide +kernel, by decide +kernel⟩
theorem yp_J5_append_c97b9 : yw_P yJ5_append_c97b9 cJ5_append_c97b9 4 (some (.object "java/lang/AbstractStringBuilder")) 1 := ⟨wx_J5_append_c97b9, wp_J4, wn_J5_append_c97b9, wi_J5, wc_J5_append_c97b9, by decide +kernel, by decide +kernel⟩
theorem yp_J5_setLength_d00df : yw_P yJ5_setLength_d00df cJ5_setLength_d00df 2 none 1 := ⟨wx_J5_setLength_d00df, wp_J4, wn_J5_setLength_d00df, wi_J5, wc_J5_setLength_d00df, by decide +kernel, by decide +kernel⟩
