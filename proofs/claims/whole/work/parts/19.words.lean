theorem wm_X0_53 : Cond.methodLink RX0 53 yX0_wordOf ∈ fw_GW := fw_in (i := 1563) (by decide +kernel) (by decide +kernel)
theorem wc_X0_wordOf : Cond.code yX0_wordOf cX0_wordOf 1 (some (.object "java/lang/String")) ∈ fw_GW := fw_in (i := 1565) (by decide +kernel) (by decide +kernel)
theorem wt_X0_wordOf : Cond.static yX0_wordOf ∈ fw_GW := fw_in (i := 1564) (by decide +kernel) (by decide +kernel)
theorem wm_X0_71 : Cond.methodLink RX0 71 yJ0_charAt_5068e ∈ fw_GW := fw_in (i := 1583) (by decide +kernel) (by decide +kernel)
theorem wc_J0_charAt_5068e : Cond.code yJ0_charAt_5068e cJ0_charAt_5068e 2 (some .char) ∈ fw_GW := fw_in (i := 1586) (by decide +kernel) (by decide +kernel)
theorem wn_J0_charAt_5068e : Cond.instanceMethod yJ0_charAt_5068e ∈ fw_GW := fw_in (i := 1584) (by decide +kernel) (by decide +kernel)
theorem ws_J0_charAt_5068e : Cond.selects yJ0_charAt_5068e.cls yJ0_charAt_5068e yJ0_charAt_5068e ∈ fw_GW := fw_in (i := 1585) (by decide +kernel) (by decide +kernel)
theorem wm_X0_61 : Cond.methodLink RX0 61 yJ0_length_8abf5 ∈ fw_GW := fw_in (i := 1581) (by decide +kernel) (by decide +kernel)
theorem wc_J0_length_8abf5 : Cond.code yJ0_length_8abf5 cJ0_length_8abf5 1 (some .int) ∈ fw_GW := fw_in (i := 1284) (by decide +kernel) (by decide +kernel)
theorem wn_J0_length_8abf5 : Cond.instanceMethod yJ0_length_8abf5 ∈ fw_GW := fw_in (i := 1282) (by decide +kernel) (by decide +kernel)
theorem ws_J0_length_8abf5 : Cond.selects yJ0_length_8abf5.cls yJ0_length_8abf5 yJ0_length_8abf5 ∈ fw_GW := fw_in (i := 1283) (by decide +kernel) (by decide +kernel)
theorem wm_X0_65 : Cond.methodLink RX0 65 Lib.Math.min.name ∈ fw_GW := fw_in (i := 1582) (by decide +kernel) (by decide +kernel)
theorem wm_X8_306 : Cond.methodLink RX8 306 yJ4_length_8abf5 ∈ fw_GW := fw_in (i := 1469) (by decide +kernel) (by decide +kernel)
theorem wm_X8_303 : Cond.methodLink RX8 303 yJ4_append_bf812 ∈ fw_GW := fw_in (i := 1468) (by decide +kernel) (by decide +kernel)
theorem wm_X8_299 : Cond.methodLink RX8 299 yJ4_append_cf468 ∈ fw_GW := fw_in (i := 1446) (by decide +kernel) (by decide +kernel)
theorem wm_X8_317 : Cond.methodLink RX8 317 yJ4_charAt_5068e ∈ fw_GW := fw_in (i := 1489) (by decide +kernel) (by decide +kernel)
theorem wm_X9_213 : Cond.methodLink RX9 213 yJ0_length_8abf5 ∈ fw_GW := fw_in (i := 2160) (by decide +kernel) (by decide +kernel)
theorem wm_X9_225 : Cond.methodLink RX9 225 yJ0_charAt_5068e ∈ fw_GW := fw_in (i := 2161) (by decide +kernel) (by decide +kernel)
theorem wc_X9_skip : Cond.code yX9_skip cX9_skip 3 none ∈ fw_GW := fw_in (i := 2159) (by decide +kernel) (by decide +kernel)
theorem wn_X9_skip : Cond.instanceMethod yX9_skip ∈ fw_GW := fw_in (i := 2158) (by decide +kernel) (by decide +kernel)
theorem ws_X9_skip : Cond.selects yX9_skip.cls yX9_skip yX9_skip ∈ fw_GW := fw_in (i := 64) (by decide +kernel) (by decide +kernel)
theorem wm_X9_230 : Cond.methodLink RX9 230 yX9_skip ∈ fw_GW := fw_in (i := 2156) (by decide +kernel) (by decide +kernel)
theorem wc_X9_digit : Cond.code yX9_digit cX9_digit 1 (some .int) ∈ fw_GW := fw_in (i := 2169) (by decide +kernel) (by decide +kernel)
theorem wn_X9_digit : Cond.instanceMethod yX9_digit ∈ fw_GW := fw_in (i := 2168) (by decide +kernel) (by decide +kernel)
theorem ws_X9_digit : Cond.selects yX9_digit.cls yX9_digit yX9_digit ∈ fw_GW := fw_in (i := 66) (by decide +kernel) (by decide +kernel)
theorem wm_X9_270 : Cond.methodLink RX9 270 yX9_digit ∈ fw_GW := fw_in (i := 2166) (by decide +kernel) (by decide +kernel)
theorem wm_X9_259 : Cond.methodLink RX9 259 yX9_wordOf ∈ fw_GW := fw_in (i := 2142) (by decide +kernel) (by decide +kernel)
theorem wc_X9_wordOf : Cond.code yX9_wordOf cX9_wordOf 2 (some (.object "java/lang/String")) ∈ fw_GW := fw_in (i := 2145) (by decide +kernel) (by decide +kernel)
theorem wn_X9_wordOf : Cond.instanceMethod yX9_wordOf ∈ fw_GW := fw_in (i := 2144) (by decide +kernel) (by decide +kernel)
theorem ws_X9_wordOf : Cond.selects yX9_wordOf.cls yX9_wordOf yX9_wordOf ∈ fw_GW := fw_in (i := 63) (by decide +kernel) (by decide +kernel)
theorem wc_X9_kind : Cond.code yX9_kind cX9_kind 2 (some .char) ∈ fw_GW := fw_in (i := 2136) (by decide +kernel) (by decide +kernel)
theorem wn_X9_kind : Cond.instanceMethod yX9_kind ∈ fw_GW := fw_in (i := 2135) (by decide +kernel) (by decide +kernel)
theorem ws_X9_kind : Cond.selects yX9_kind.cls yX9_kind yX9_kind ∈ fw_GW := fw_in (i := 61) (by decide +kernel) (by decide +kernel)
theorem wm_X9_255 : Cond.methodLink RX9 255 yX9_kind ∈ fw_GW := fw_in (i := 2133) (by decide +kernel) (by decide +kernel)
theorem wc_X9_readCommand : Cond.code yX9_readCommand cX9_readCommand 4 none ∈ fw_GW := fw_in (i := 2132) (by decide +kernel) (by decide +kernel)
theorem wn_X9_readCommand : Cond.instanceMethod yX9_readCommand ∈ fw_GW := fw_in (i := 2131) (by decide +kernel) (by decide +kernel)
theorem ws_X9_readCommand : Cond.selects yX9_readCommand.cls yX9_readCommand yX9_readCommand ∈ fw_GW := fw_in (i := 60) (by decide +kernel) (by decide +kernel)
theorem wm_X9_273 : Cond.methodLink RX9 273 yX9_readCommand ∈ fw_GW := fw_in (i := 2129) (by decide +kernel) (by decide +kernel)
theorem wc_X0_take : Cond.code yX0_take cX0_take 2 (some .boolean) ∈ fw_GW := fw_in (i := 1603) (by decide +kernel) (by decide +kernel)
theorem wn_X0_take : Cond.instanceMethod yX0_take ∈ fw_GW := fw_in (i := 1602) (by decide +kernel) (by decide +kernel)
theorem ws_X0_take : Cond.selects yX0_take.cls yX0_take yX0_take ∈ fw_GW := fw_in (i := 16) (by decide +kernel) (by decide +kernel)
theorem wm_X0_38 : Cond.methodLink RX0 38 yX0_take ∈ fw_GW := fw_in (i := 1600) (by decide +kernel) (by decide +kernel)
theorem wc_X0_takeDigit : Cond.code yX0_takeDigit cX0_takeDigit 2 (some .boolean) ∈ fw_GW := fw_in (i := 1607) (by decide +kernel) (by decide +kernel)
theorem wn_X0_takeDigit : Cond.instanceMethod yX0_takeDigit ∈ fw_GW := fw_in (i := 1606) (by decide +kernel) (by decide +kernel)
theorem ws_X0_takeDigit : Cond.selects yX0_takeDigit.cls yX0_takeDigit yX0_takeDigit ∈ fw_GW := fw_in (i := 17) (by decide +kernel) (by decide +kernel)
theorem wm_X0_49 : Cond.methodLink RX0 49 yX0_takeDigit ∈ fw_GW := fw_in (i := 1604) (by decide +kernel) (by decide +kernel)
theorem wc_X0_matchedLength : Cond.code yX0_matchedLength cX0_matchedLength 4 (some .int) ∈ fw_GW := fw_in (i := 1580) (by decide +kernel) (by decide +kernel)
theorem wn_X0_matchedLength : Cond.instanceMethod yX0_matchedLength ∈ fw_GW := fw_in (i := 1579) (by decide +kernel) (by decide +kernel)
theorem ws_X0_matchedLength : Cond.selects yX0_matchedLength.cls yX0_matchedLength yX0_matchedLength ∈ fw_GW := fw_in (i := 15) (by decide +kernel) (by decide +kernel)
theorem wm_X0_57 : Cond.methodLink RX0 57 yX0_matchedLength ∈ fw_GW := fw_in (i := 1577) (by decide +kernel) (by decide +kernel)
theorem wm_X8_296 : Cond.methodLink RX8 296 yJ4_setLength_d00df ∈ fw_GW := fw_in (i := 1191) (by decide +kernel) (by decide +kernel)
theorem wc_X8_writePlace : Cond.code yX8_writePlace cX8_writePlace 3 none ∈ fw_GW := fw_in (i := 1480) (by decide +kernel) (by decide +kernel)
theorem wn_X8_writePlace : Cond.instanceMethod yX8_writePlace ∈ fw_GW := fw_in (i := 1479) (by decide +kernel) (by decide +kernel)
theorem ws_X8_writePlace : Cond.selects yX8_writePlace.cls yX8_writePlace yX8_writePlace ∈ fw_GW := fw_in (i := 12) (by decide +kernel) (by decide +kernel)
theorem wm_X8_309 : Cond.methodLink RX8 309 yX8_writePlace ∈ fw_GW := fw_in (i := 1477) (by decide +kernel) (by decide +kernel)
theorem wc_X0_takeWord : Cond.code yX0_takeWord cX0_takeWord 6 (some .int) ∈ fw_GW := fw_in (i := 1562) (by decide +kernel) (by decide +kernel)
theorem wn_X0_takeWord : Cond.instanceMethod yX0_takeWord ∈ fw_GW := fw_in (i := 1561) (by decide +kernel) (by decide +kernel)
theorem ws_X0_takeWord : Cond.selects yX0_takeWord.cls yX0_takeWord yX0_takeWord ∈ fw_GW := fw_in (i := 14) (by decide +kernel) (by decide +kernel)
theorem wm_X0_42 : Cond.methodLink RX0 42 yX0_takeWord ∈ fw_GW := fw_in (i := 1559) (by decide +kernel) (by decide +kernel)
theorem wf_X0_15 : Cond.fieldLink RX0 15 "TramNetwork$CommandText" "kinds" "[I" ∈ fw_GW := fw_in (i := 322) (by decide +kernel) (by decide +kernel)
theorem wc_X0_takeCommand : Cond.code yX0_takeCommand cX0_takeCommand 3 (some .boolean) ∈ fw_GW := fw_in (i := 1558) (by decide +kernel) (by decide +kernel)
theorem wn_X0_takeCommand : Cond.instanceMethod yX0_takeCommand ∈ fw_GW := fw_in (i := 1557) (by decide +kernel) (by decide +kernel)
theorem ws_X0_takeCommand : Cond.selects yX0_takeCommand.cls yX0_takeCommand yX0_takeCommand ∈ fw_GW := fw_in (i := 13) (by decide +kernel) (by decide +kernel)
theorem wm_X0_34 : Cond.methodLink RX0 34 yX0_takeCommand ∈ fw_GW := fw_in (i := 1555) (by decide +kernel) (by decide +kernel)
theorem wc_X0_parse : Cond.code yX0_parse cX0_parse 1 (some .boolean) ∈ fw_GW := fw_in (i := 1554) (by decide +kernel) (by decide +kernel)
theorem wn_X0_parse : Cond.instanceMethod yX0_parse ∈ fw_GW := fw_in (i := 1552) (by decide +kernel) (by decide +kernel)
theorem ws_X0_parse : Cond.selects yX0_parse.cls yX0_parse yX0_parse ∈ fw_GW := fw_in (i := 1553) (by decide +kernel) (by decide +kernel)
theorem wm_X8_348 : Cond.methodLink RX8 348 yX0_parse ∈ fw_GW := fw_in (i := 1551) (by decide +kernel) (by decide +kernel)
theorem wc_X0_empty : Cond.code yX0_empty cX0_empty 1 none ∈ fw_GW := fw_in (i := 1611) (by decide +kernel) (by decide +kernel)
theorem wn_X0_empty : Cond.instanceMethod yX0_empty ∈ fw_GW := fw_in (i := 1609) (by decide +kernel) (by decide +kernel)
theorem ws_X0_empty : Cond.selects yX0_empty.cls yX0_empty yX0_empty ∈ fw_GW := fw_in (i := 1610) (by decide +kernel) (by decide +kernel)
theorem wm_X8_351 : Cond.methodLink RX8 351 yX0_empty ∈ fw_GW := fw_in (i := 1608) (by decide +kernel) (by decide +kernel)
theorem wf_X8_16 : Cond.fieldLink RX8 16 "TramNetwork" "beforeText" "LTramNetwork$State;" ∈ fw_GW := fw_in (i := 374) (by decide +kernel) (by decide +kernel)
theorem wc_X8_firstFailing : Cond.code yX8_firstFailing cX8_firstFailing 2 (some .int) ∈ fw_GW := fw_in (i := 1616) (by decide +kernel) (by decide +kernel)
theorem wn_X8_firstFailing : Cond.instanceMethod yX8_firstFailing ∈ fw_GW := fw_in (i := 1615) (by decide +kernel) (by decide +kernel)
theorem ws_X8_firstFailing : Cond.selects yX8_firstFailing.cls yX8_firstFailing yX8_firstFailing ∈ fw_GW := fw_in (i := 18) (by decide +kernel) (by decide +kernel)
theorem wm_X8_362 : Cond.methodLink RX8 362 yX8_firstFailing ∈ fw_GW := fw_in (i := 1613) (by decide +kernel) (by decide +kernel)
theorem wc_X8_writeLine : Cond.code yX8_writeLine cX8_writeLine 3 (some .int) ∈ fw_GW := fw_in (i := 1190) (by decide +kernel) (by decide +kernel)
theorem wn_X8_writeLine : Cond.instanceMethod yX8_writeLine ∈ fw_GW := fw_in (i := 1188) (by decide +kernel) (by decide +kernel)
theorem ws_X8_writeLine : Cond.selects yX8_writeLine.cls yX8_writeLine yX8_writeLine ∈ fw_GW := fw_in (i := 1189) (by decide +kernel) (by decide +kernel)
theorem wm_L_136 : Cond.methodLink RL 136 yX8_writeLine ∈ fw_GW := fw_in (i := 1187) (by decide +kernel) (by decide +kernel)
theorem wc_X8_writePassenger : Cond.code yX8_writePassenger cX8_writePassenger 3 (some .int) ∈ fw_GW := fw_in (i := 1476) (by decide +kernel) (by decide +kernel)
theorem wn_X8_writePassenger : Cond.instanceMethod yX8_writePassenger ∈ fw_GW := fw_in (i := 1474) (by decide +kernel) (by decide +kernel)
theorem ws_X8_writePassenger : Cond.selects yX8_writePassenger.cls yX8_writePassenger yX8_writePassenger ∈ fw_GW := fw_in (i := 1475) (by decide +kernel) (by decide +kernel)
theorem wm_L_139 : Cond.methodLink RL 139 yX8_writePassenger ∈ fw_GW := fw_in (i := 1473) (by decide +kernel) (by decide +kernel)
theorem wc_X8_textAt : Cond.code yX8_textAt cX8_textAt 2 (some .char) ∈ fw_GW := fw_in (i := 1487) (by decide +kernel) (by decide +kernel)
theorem wn_X8_textAt : Cond.instanceMethod yX8_textAt ∈ fw_GW := fw_in (i := 1485) (by decide +kernel) (by decide +kernel)
theorem ws_X8_textAt : Cond.selects yX8_textAt.cls yX8_textAt yX8_textAt ∈ fw_GW := fw_in (i := 1486) (by decide +kernel) (by decide +kernel)
theorem wm_L_142 : Cond.methodLink RL 142 yX8_textAt ∈ fw_GW := fw_in (i := 1484) (by decide +kernel) (by decide +kernel)
theorem wc_X8_meanRides : Cond.code yX8_meanRides cX8_meanRides 4 (some .double) ∈ fw_GW := fw_in (i := 1519) (by decide +kernel) (by decide +kernel)
theorem wn_X8_meanRides : Cond.instanceMethod yX8_meanRides ∈ fw_GW := fw_in (i := 1517) (by decide +kernel) (by decide +kernel)
theorem ws_X8_meanRides : Cond.selects yX8_meanRides.cls yX8_meanRides yX8_meanRides ∈ fw_GW := fw_in (i := 1518) (by decide +kernel) (by decide +kernel)
theorem wm_L_146 : Cond.methodLink RL 146 yX8_meanRides ∈ fw_GW := fw_in (i := 1516) (by decide +kernel) (by decide +kernel)
theorem wl_L_150 : Cond.classLink RL 150 "java/lang/ArithmeticException" ∈ fw_GW := fw_in (i := 1502) (by decide +kernel) (by decide +kernel)
theorem wc_X8_truthShare : Cond.code yX8_truthShare cX8_truthShare 4 (some .float) ∈ fw_GW := fw_in (i := 1529) (by decide +kernel) (by decide +kernel)
theorem wn_X8_truthShare : Cond.instanceMethod yX8_truthShare ∈ fw_GW := fw_in (i := 1527) (by decide +kernel) (by decide +kernel)
theorem ws_X8_truthShare : Cond.selects yX8_truthShare.cls yX8_truthShare yX8_truthShare ∈ fw_GW := fw_in (i := 1528) (by decide +kernel) (by decide +kernel)
theorem wm_L_152 : Cond.methodLink RL 152 yX8_truthShare ∈ fw_GW := fw_in (i := 1526) (by decide +kernel) (by decide +kernel)
theorem wc_X8_execute : Cond.code yX8_execute cX8_execute 3 (some .int) ∈ fw_GW := fw_in (i := 1550) (by decide +kernel) (by decide +kernel)
theorem wn_X8_execute : Cond.instanceMethod yX8_execute ∈ fw_GW := fw_in (i := 1548) (by decide +kernel) (by decide +kernel)
theorem ws_X8_execute : Cond.selects yX8_execute.cls yX8_execute yX8_execute ∈ fw_GW := fw_in (i := 1549) (by decide +kernel) (by decide +kernel)
theorem wm_L_160 : Cond.methodLink RL 160 yX8_execute ∈ fw_GW := fw_in (i := 1547) (by decide +kernel) (by decide +kernel)
theorem yw_X0_wordOf : yw_S yX0_wordOf cX0_wordOf 1 (some (.object "java/lang/String")) 1 := ⟨wt_X0_wordOf, wi_X0, wc_X0_wordOf, by decide +kernel, by decide +kernel, by decide +kernel⟩
theorem yw_J0_charAt_5068e : yw_V yJ0_charAt_5068e cJ0_charAt_5068e 2 (some .char) 1 := ⟨wn_J0_charAt_5068e, ws_J0_charAt_5068e, wi_J0, wc_J0_charAt_5068e, by decide +kernel, by decide +kernel, by decide +kernel⟩
theorem yw_J0_length_8abf5 : yw_V yJ0_length_8abf5 cJ0_length_8abf5 1 (some .int) 0 := ⟨wn_J0_length_8abf5, ws_J0_length_8abf5, wi_J0, wc_J0_length_8abf5, by decide +kernel, by decide +kernel, by decide +kernel⟩
theorem yw_X9_skip : yw_V yX9_skip cX9_skip 3 none 1 := ⟨wn_X9_skip, ws_X9_skip, wi_X9, wc_X9_skip, by decide +kernel, by decide +kernel, by decide +kernel⟩
theorem yw_X9_digit : yw_V yX9_digit cX9_digit 1 (some .int) 0 := ⟨wn_X9_digit, ws_X9_digit, wi_X9, wc_X9_digit, by decide +kernel, by decide +kernel, by decide +kernel⟩
theorem yw_X9_wordOf : yw_V yX9_wordOf cX9_wordOf 2 (some (.object "java/lang/String")) 1 := ⟨wn_X9_wordOf, ws_X9_wordOf, wi_X9, wc_X9_wordOf, by decide +kernel, by decide +kernel, by decide +kernel⟩
theorem yw_X9_kind : yw_V yX9_kind cX9_kind 2 (some .char) 0 := ⟨wn_X9_kind, ws_X9_kind, wi_X9, wc_X9_kind, by decide +kernel, by decide +kernel, by decide +kernel⟩
theorem yw_X9_readCommand : yw_V yX9_readCommand cX9_readCommand 4 none 0 := ⟨wn_X9_readCommand, ws_X9_readCommand, wi_X9, wc_X9_readCommand, by decide +kernel, by decide +kernel, by decide +kernel⟩
theorem yw_X0_take : yw_V yX0_take cX0_take 2 (some .boolean) 1 := ⟨wn_X0_take, ws_X0_take, wi_X0, wc_X0_take, by decide +kernel, by decide +kernel, by decide +kernel⟩
theorem yw_X0_takeDigit : yw_V yX0_takeDigit cX0_takeDigit 2 (some .boolean) 1 := ⟨wn_X0_takeDigit, ws_X0_takeDigit, wi_X0, wc_X0_takeDigit, by decide +kernel, by decide +kernel, by decide +kernel⟩
theorem yw_X0_matchedLength : yw_V yX0_matchedLength cX0_matchedLength 4 (some .int) 1 := ⟨wn_X0_matchedLength, ws_X0_matchedLength, wi_X0, wc_X0_matchedLength, by decide +kernel, by decide +kernel, by decide +kernel⟩
theorem yw_X8_writePlace : yw_V yX8_writePlace cX8_writePlace 3 none 1 := ⟨wn_X8_writePlace, ws_X8_writePlace, wi_X8, wc_X8_writePlace, by decide +kernel, by decide +kernel, by decide +kernel⟩
theorem yw_X0_takeWord : yw_V yX0_takeWord cX0_takeWord 6 (some .int) 0 := ⟨wn_X0_takeWord, ws_X0_takeWord, wi_X0, wc_X0_takeWord, by decide +kernel, by decide +kernel, by decide +kernel⟩
theorem yw_X0_takeCommand : yw_V yX0_takeCommand cX0_takeCommand 3 (some .boolean) 0 := ⟨wn_X0_takeCommand, ws_X0_takeCommand, wi_X0, wc_X0_takeCommand, by decide +kernel, by decide +kernel, by decide +kernel⟩
theorem yw_X0_parse : yw_V yX0_parse cX0_parse 1 (some .boolean) 0 := ⟨wn_X0_parse, ws_X0_parse, wi_X0, wc_X0_parse, by decide +kernel, by decide +kernel, by decide +kernel⟩
theorem yw_X0_empty : yw_V yX0_empty cX0_empty 1 none 0 := ⟨wn_X0_empty, ws_X0_empty, wi_X0, wc_X0_empty, by decide +kernel, by decide +kernel, by decide +kernel⟩
theorem yw_X8_firstFailing : yw_V yX8_firstFailing cX8_firstFailing 2 (some .int) 0 := ⟨wn_X8_firstFailing, ws_X8_firstFailing, wi_X8, wc_X8_firstFailing, by decide +kernel, by decide +kernel, by decide +kernel⟩
theorem yw_X8_writeLine : yw_V yX8_writeLine cX8_writeLine 3 (some .int) 1 := ⟨wn_X8_writeLine, ws_X8_writeLine, wi_X8, wc_X8_writeLine, by decide +kernel, by decide +kernel, by decide +kernel⟩
theorem yw_X8_writePassenger : yw_V yX8_writePassenger cX8_writePassenger 3 (some .int) 1 := ⟨wn_X8_writePassenger, ws_X8_writePassenger, wi_X8, wc_X8_writePassenger, by decide +kernel, by decide +kernel, by decide +kernel⟩
theorem yw_X8_textAt : yw_V yX8_textAt cX8_textAt 2 (some .char) 1 := ⟨wn_X8_textAt, ws_X8_textAt, wi_X8, wc_X8_textAt, by decide +kernel, by decide +kernel, by decide +kernel⟩
theorem yw_X8_meanRides : yw_V yX8_meanRides cX8_meanRides 4 (some .double) 0 := ⟨wn_X8_meanRides, ws_X8_meanRides, wi_X8, wc_X8_meanRides, by decide +kernel, by decide +kernel, by decide +kernel⟩
theorem yw_X8_truthShare : yw_V yX8_truthShare cX8_truthShare 4 (some .float) 0 := ⟨wn_X8_truthShare, ws_X8_truthShare, wi_X8, wc_X8_truthShare, by decide +kernel, by decide +kernel, by decide +kernel⟩
theorem yw_X8_execute : yw_V yX8_execute cX8_execute 3 (some .int) 0 := ⟨wn_X8_execute, ws_X8_execute, wi_X8, wc_X8_execute, by decide +kernel, by decide +kernel, by decide +kernel⟩
theorem xt_X8_5 : xw_t RX8 5 321 325 ["java/lang/RuntimeException", "java/lang/Exception"] := ⟨by decide, fw_in (i := 1520) (by decide +kernel) (by decide +kernel), fw_in (i := 101) (by decide +kernel) (by decide +kernel), xt_g (by decide +kernel), by decide +kernel, by decide +kernel, by decide +kernel, by decide +kernel⟩
section
variable {p : Program} {l : Launch} {e : Env} {R : Room} {s : State} {m : MethodId} {args : Array Value} {below : List Frame} {meth : Method} {c : Code} {H : Heap} {locs : List Loc} {cells slots : Nat} {Q : State → Prop}
variable {cc : ByteArray} {pc nL : Nat} {ls : Array Slot} {rest : List Value} {X : fw_X} {M : fw_M}

theorem gf_X0_15 (C : fr_C X p c cc nL RX0 s m args) (B : fr_H X s M H locs) (hdg : decode cc pc = .ok (.getfield 15, 3)) (kk : W p l e R s m args below meth c H locs cells slots Q (F0 m (pc + 3) ls (.ref (fw_ad X 362) :: rest))) : W p l e R s m args below meth c H locs cells slots Q (F0 m pc ls (.ref (fw_ad X 360) :: rest)) := fr_get (j := 4) C B ob_0 rfl in_X0 (by decide) wf_X0_15 rfl hdg kk
theorem gf_X8_16 (C : fr_C X p c cc nL RX8 s m args) (B : fr_H X s M H locs) (hdg : decode cc pc = .ok (.getfield 16, 3)) (kk : W p l e R s m args below meth c H locs cells slots Q (F0 m (pc + 3) ls (.ref (fw_ad X 32) :: rest))) : W p l e R s m args below meth c H locs cells slots Q (F0 m pc ls (.ref (fw_ad X 352) :: rest)) := fr_get (j := 1) C B ob_8 rfl in_X8 (by decide) wf_X8_16 rfl hdg kk
end
