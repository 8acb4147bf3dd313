theorem wm_L_179 : Cond.methodLink RL 179 yL_addStop ∈ fw_GW := fw_in (i := 549) (by decide +kernel) (by decide +kernel)
theorem wt_L_addStop : Cond.static yL_addStop ∈ fw_GW := fw_in (i := 550) (by decide +kernel) (by decide +kernel)
theorem wi_L : Cond.initialized RL ∈ fw_GW := fw_in (i := 68) (by decide +kernel) (by decide +kernel)
theorem wh_L_addStop : Cond.codeWith yL_addStop cL_addStop 4 (some .int) [(0, 9, 12, 13), (0, 9, 15, 15)] ∈ fw_GW := fw_in (i := 551) (by decide +kernel) (by decide +kernel)
theorem wm_L_184 : Cond.methodLink RL 184 yX9_addStop ∈ fw_GW := fw_in (i := 1751) (by decide +kernel) (by decide +kernel)
theorem wc_X9_addStop : Cond.code yX9_addStop cX9_addStop 2 (some .int) ∈ fw_GW := fw_in (i := 1754) (by decide +kernel) (by decide +kernel)
theorem wn_X9_addStop : Cond.instanceMethod yX9_addStop ∈ fw_GW := fw_in (i := 1752) (by decide +kernel) (by decide +kernel)
theorem ws_X9_addStop : Cond.selects yX9_addStop.cls yX9_addStop yX9_addStop ∈ fw_GW := fw_in (i := 1753) (by decide +kernel) (by decide +kernel)
theorem wm_L_185 : Cond.methodLink RL 185 yX9_thrown ∈ fw_GW := fw_in (i := 1747) (by decide +kernel) (by decide +kernel)
theorem wc_X9_thrown : Cond.code yX9_thrown cX9_thrown 1 (some .int) ∈ fw_GW := fw_in (i := 1750) (by decide +kernel) (by decide +kernel)
theorem wn_X9_thrown : Cond.instanceMethod yX9_thrown ∈ fw_GW := fw_in (i := 1748) (by decide +kernel) (by decide +kernel)
theorem ws_X9_thrown : Cond.selects yX9_thrown.cls yX9_thrown yX9_thrown ∈ fw_GW := fw_in (i := 1749) (by decide +kernel) (by decide +kernel)
theorem wm_L_188 : Cond.methodLink RL 188 yL_addLine ∈ fw_GW := fw_in (i := 708) (by decide +kernel) (by decide +kernel)
theorem wt_L_addLine : Cond.static yL_addLine ∈ fw_GW := fw_in (i := 709) (by decide +kernel) (by decide +kernel)
theorem wh_L_addLine : Cond.codeWith yL_addLine cL_addLine 5 (some .int) [(0, 10, 13, 21), (0, 10, 17, 13), (0, 10, 21, 15)] ∈ fw_GW := fw_in (i := 710) (by decide +kernel) (by decide +kernel)
theorem wm_L_191 : Cond.methodLink RL 191 yX9_addLine ∈ fw_GW := fw_in (i := 1775) (by decide +kernel) (by decide +kernel)
theorem wc_X9_addLine : Cond.code yX9_addLine cX9_addLine 3 (some .int) ∈ fw_GW := fw_in (i := 1778) (by decide +kernel) (by decide +kernel)
theorem wn_X9_addLine : Cond.instanceMethod yX9_addLine ∈ fw_GW := fw_in (i := 1776) (by decide +kernel) (by decide +kernel)
theorem ws_X9_addLine : Cond.selects yX9_addLine.cls yX9_addLine yX9_addLine ∈ fw_GW := fw_in (i := 1777) (by decide +kernel) (by decide +kernel)
theorem wm_L_192 : Cond.methodLink RL 192 yL_extendLine ∈ fw_GW := fw_in (i := 748) (by decide +kernel) (by decide +kernel)
theorem wt_L_extendLine : Cond.static yL_extendLine ∈ fw_GW := fw_in (i := 749) (by decide +kernel) (by decide +kernel)
theorem wh_L_extendLine : Cond.codeWith yL_extendLine cL_extendLine 5 (some .int) [(0, 10, 13, 21), (0, 10, 17, 13), (0, 10, 21, 15)] ∈ fw_GW := fw_in (i := 750) (by decide +kernel) (by decide +kernel)
theorem wm_L_194 : Cond.methodLink RL 194 yX9_extendLine ∈ fw_GW := fw_in (i := 1787) (by decide +kernel) (by decide +kernel)
theorem wc_X9_extendLine : Cond.code yX9_extendLine cX9_extendLine 3 (some .int) ∈ fw_GW := fw_in (i := 1790) (by decide +kernel) (by decide +kernel)
theorem wn_X9_extendLine : Cond.instanceMethod yX9_extendLine ∈ fw_GW := fw_in (i := 1788) (by decide +kernel) (by decide +kernel)
theorem ws_X9_extendLine : Cond.selects yX9_extendLine.cls yX9_extendLine yX9_extendLine ∈ fw_GW := fw_in (i := 1789) (by decide +kernel) (by decide +kernel)
theorem wm_L_195 : Cond.methodLink RL 195 yX8_stopCount ∈ fw_GW := fw_in (i := 404) (by decide +kernel) (by decide +kernel)
theorem wc_X8_stopCount : Cond.code yX8_stopCount cX8_stopCount 1 (some .int) ∈ fw_GW := fw_in (i := 407) (by decide +kernel) (by decide +kernel)
theorem wn_X8_stopCount : Cond.instanceMethod yX8_stopCount ∈ fw_GW := fw_in (i := 405) (by decide +kernel) (by decide +kernel)
theorem ws_X8_stopCount : Cond.selects yX8_stopCount.cls yX8_stopCount yX8_stopCount ∈ fw_GW := fw_in (i := 406) (by decide +kernel) (by decide +kernel)
theorem wm_L_198 : Cond.methodLink RL 198 yX9_stopCount ∈ fw_GW := fw_in (i := 1811) (by decide +kernel) (by decide +kernel)
theorem wc_X9_stopCount : Cond.code yX9_stopCount cX9_stopCount 1 (some .int) ∈ fw_GW := fw_in (i := 1814) (by decide +kernel) (by decide +kernel)
theorem wn_X9_stopCount : Cond.instanceMethod yX9_stopCount ∈ fw_GW := fw_in (i := 1812) (by decide +kernel) (by decide +kernel)
theorem ws_X9_stopCount : Cond.selects yX9_stopCount.cls yX9_stopCount yX9_stopCount ∈ fw_GW := fw_in (i := 1813) (by decide +kernel) (by decide +kernel)
theorem wm_L_199 : Cond.methodLink RL 199 yL_zoneOf ∈ fw_GW := fw_in (i := 768) (by decide +kernel) (by decide +kernel)
theorem wt_L_zoneOf : Cond.static yL_zoneOf ∈ fw_GW := fw_in (i := 769) (by decide +kernel) (by decide +kernel)
theorem wh_L_zoneOf : Cond.codeWith yL_zoneOf cL_zoneOf 4 (some .int) [(0, 9, 12, 21)] ∈ fw_GW := fw_in (i := 770) (by decide +kernel) (by decide +kernel)
theorem wm_L_201 : Cond.methodLink RL 201 yX9_zoneOf ∈ fw_GW := fw_in (i := 1815) (by decide +kernel) (by decide +kernel)
theorem wc_X9_zoneOf : Cond.code yX9_zoneOf cX9_zoneOf 2 (some .int) ∈ fw_GW := fw_in (i := 1818) (by decide +kernel) (by decide +kernel)
theorem wn_X9_zoneOf : Cond.instanceMethod yX9_zoneOf ∈ fw_GW := fw_in (i := 1816) (by decide +kernel) (by decide +kernel)
theorem ws_X9_zoneOf : Cond.selects yX9_zoneOf.cls yX9_zoneOf yX9_zoneOf ∈ fw_GW := fw_in (i := 1817) (by decide +kernel) (by decide +kernel)
theorem wm_L_202 : Cond.methodLink RL 202 yL_isTerminus ∈ fw_GW := fw_in (i := 781) (by decide +kernel) (by decide +kernel)
theorem wt_L_isTerminus : Cond.static yL_isTerminus ∈ fw_GW := fw_in (i := 782) (by decide +kernel) (by decide +kernel)
theorem wh_L_isTerminus : Cond.codeWith yL_isTerminus cL_isTerminus 4 (some .int) [(0, 16, 19, 21)] ∈ fw_GW := fw_in (i := 783) (by decide +kernel) (by decide +kernel)
theorem wm_L_204 : Cond.methodLink RL 204 yX9_isTerminus ∈ fw_GW := fw_in (i := 1823) (by decide +kernel) (by decide +kernel)
theorem wc_X9_isTerminus : Cond.code yX9_isTerminus cX9_isTerminus 2 (some .boolean) ∈ fw_GW := fw_in (i := 1826) (by decide +kernel) (by decide +kernel)
theorem wn_X9_isTerminus : Cond.instanceMethod yX9_isTerminus ∈ fw_GW := fw_in (i := 1824) (by decide +kernel) (by decide +kernel)
theorem ws_X9_isTerminus : Cond.selects yX9_isTerminus.cls yX9_isTerminus yX9_isTerminus ∈ fw_GW := fw_in (i := 1825) (by decide +kernel) (by decide +kernel)
theorem wm_L_205 : Cond.methodLink RL 205 yX8_lineCount ∈ fw_GW := fw_in (i := 408) (by decide +kernel) (by decide +kernel)
theorem wc_X8_lineCount : Cond.code yX8_lineCount cX8_lineCount 1 (some .int) ∈ fw_GW := fw_in (i := 411) (by decide +kernel) (by decide +kernel)
theorem wn_X8_lineCount : Cond.instanceMethod yX8_lineCount ∈ fw_GW := fw_in (i := 409) (by decide +kernel) (by decide +kernel)
theorem ws_X8_lineCount : Cond.selects yX8_lineCount.cls yX8_lineCount yX8_lineCount ∈ fw_GW := fw_in (i := 410) (by decide +kernel) (by decide +kernel)
theorem wm_L_208 : Cond.methodLink RL 208 yX9_lineCount ∈ fw_GW := fw_in (i := 1831) (by decide +kernel) (by decide +kernel)
theorem wc_X9_lineCount : Cond.code yX9_lineCount cX9_lineCount 1 (some .int) ∈ fw_GW := fw_in (i := 1834) (by decide +kernel) (by decide +kernel)
theorem wn_X9_lineCount : Cond.instanceMethod yX9_lineCount ∈ fw_GW := fw_in (i := 1832) (by decide +kernel) (by decide +kernel)
theorem ws_X9_lineCount : Cond.selects yX9_lineCount.cls yX9_lineCount yX9_lineCount ∈ fw_GW := fw_in (i := 1833) (by decide +kernel) (by decide +kernel)
theorem wm_L_209 : Cond.methodLink RL 209 yL_lineLength ∈ fw_GW := fw_in (i := 792) (by decide +kernel) (by decide +kernel)
theorem wt_L_lineLength : Cond.static yL_lineLength ∈ fw_GW := fw_in (i := 793) (by decide +kernel) (by decide +kernel)
theorem wh_L_lineLength : Cond.codeWith yL_lineLength cL_lineLength 4 (some .int) [(0, 9, 12, 21)] ∈ fw_GW := fw_in (i := 794) (by decide +kernel) (by decide +kernel)
theorem wm_L_211 : Cond.methodLink RL 211 yX9_lineLength ∈ fw_GW := fw_in (i := 1835) (by decide +kernel) (by decide +kernel)
theorem wc_X9_lineLength : Cond.code yX9_lineLength cX9_lineLength 2 (some .int) ∈ fw_GW := fw_in (i := 1838) (by decide +kernel) (by decide +kernel)
theorem wn_X9_lineLength : Cond.instanceMethod yX9_lineLength ∈ fw_GW := fw_in (i := 1836) (by decide +kernel) (by decide +kernel)
theorem ws_X9_lineLength : Cond.selects yX9_lineLength.cls yX9_lineLength yX9_lineLength ∈ fw_GW := fw_in (i := 1837) (by decide +kernel) (by decide +kernel)
theorem wm_L_212 : Cond.methodLink RL 212 yL_stopAt ∈ fw_GW := fw_in (i := 805) (by decide +kernel) (by decide +kernel)
theorem wt_L_stopAt : Cond.static yL_stopAt ∈ fw_GW := fw_in (i := 806) (by decide +kernel) (by decide +kernel)
theorem wh_L_stopAt : Cond.codeWith yL_stopAt cL_stopAt 5 (some .int) [(0, 10, 13, 21), (0, 10, 17, 39)] ∈ fw_GW := fw_in (i := 807) (by decide +kernel) (by decide +kernel)
theorem wm_L_214 : Cond.methodLink RL 214 yX9_stopAt ∈ fw_GW := fw_in (i := 1839) (by decide +kernel) (by decide +kernel)
theorem wc_X9_stopAt : Cond.code yX9_stopAt cX9_stopAt 3 (some .int) ∈ fw_GW := fw_in (i := 1842) (by decide +kernel) (by decide +kernel)
theorem wn_X9_stopAt : Cond.instanceMethod yX9_stopAt ∈ fw_GW := fw_in (i := 1840) (by decide +kernel) (by decide +kernel)
theorem ws_X9_stopAt : Cond.selects yX9_stopAt.cls yX9_stopAt yX9_stopAt ∈ fw_GW := fw_in (i := 1841) (by decide +kernel) (by decide +kernel)
theorem wm_L_215 : Cond.methodLink RL 215 yL_commonStops ∈ fw_GW := fw_in (i := 814) (by decide +kernel) (by decide +kernel)
theorem wt_L_commonStops : Cond.static yL_commonStops ∈ fw_GW := fw_in (i := 815) (by decide +kernel) (by decide +kernel)
theorem wh_L_commonStops : Cond.codeWith yL_commonStops cL_commonStops 5 (some .int) [(0, 10, 13, 21)] ∈ fw_GW := fw_in (i := 816) (by decide +kernel) (by decide +kernel)
theorem wm_L_217 : Cond.methodLink RL 217 yX9_commonStops ∈ fw_GW := fw_in (i := 1843) (by decide +kernel) (by decide +kernel)
theorem wc_X9_commonStops : Cond.code yX9_commonStops cX9_commonStops 5 (some .int) ∈ fw_GW := fw_in (i := 1846) (by decide +kernel) (by decide +kernel)
theorem wn_X9_commonStops : Cond.instanceMethod yX9_commonStops ∈ fw_GW := fw_in (i := 1844) (by decide +kernel) (by decide +kernel)
theorem ws_X9_commonStops : Cond.selects yX9_commonStops.cls yX9_commonStops yX9_commonStops ∈ fw_GW := fw_in (i := 1845) (by decide +kernel) (by decide +kernel)
theorem wm_L_218 : Cond.methodLink RL 218 yL_addTram ∈ fw_GW := fw_in (i := 827) (by decide +kernel) (by decide +kernel)
theorem wt_L_addTram : Cond.static yL_addTram ∈ fw_GW := fw_in (i := 828) (by decide +kernel) (by decide +kernel)
theorem wh_L_addTram : Cond.codeWith yL_addTram cL_addTram 4 (some .int) [(0, 9, 12, 21), (0, 9, 15, 15)] ∈ fw_GW := fw_in (i := 829) (by decide +kernel) (by decide +kernel)
theorem wm_L_220 : Cond.methodLink RL 220 yX9_addTram ∈ fw_GW := fw_in (i := 1847) (by decide +kernel) (by decide +kernel)
theorem wc_X9_addTram : Cond.code yX9_addTram cX9_addTram 2 (some .int) ∈ fw_GW := fw_in (i := 1850) (by decide +kernel) (by decide +kernel)
theorem wn_X9_addTram : Cond.instanceMethod yX9_addTram ∈ fw_GW := fw_in (i := 1848) (by decide +kernel) (by decide +kernel)
theorem ws_X9_addTram : Cond.selects yX9_addTram.cls yX9_addTram yX9_addTram ∈ fw_GW := fw_in (i := 1849) (by decide +kernel) (by decide +kernel)
theorem wm_L_221 : Cond.methodLink RL 221 yX8_tick ∈ fw_GW := fw_in (i := 412) (by decide +kernel) (by decide +kernel)
theorem wc_X8_tick : Cond.code yX8_tick cX8_tick 1 (some .int) ∈ fw_GW := fw_in (i := 415) (by decide +kernel) (by decide +kernel)
theorem wn_X8_tick : Cond.instanceMethod yX8_tick ∈ fw_GW := fw_in (i := 413) (by decide +kernel) (by decide +kernel)
theorem ws_X8_tick : Cond.selects yX8_tick.cls yX8_tick yX8_tick ∈ fw_GW := fw_in (i := 414) (by decide +kernel) (by decide +kernel)
theorem wm_L_224 : Cond.methodLink RL 224 yX9_tick ∈ fw_GW := fw_in (i := 1855) (by decide +kernel) (by decide +kernel)
theorem wc_X9_tick : Cond.code yX9_tick cX9_tick 1 (some .int) ∈ fw_GW := fw_in (i := 1858) (by decide +kernel) (by decide +kernel)
theorem wn_X9_tick : Cond.instanceMethod yX9_tick ∈ fw_GW := fw_in (i := 1856) (by decide +kernel) (by decide +kernel)
theorem ws_X9_tick : Cond.selects yX9_tick.cls yX9_tick yX9_tick ∈ fw_GW := fw_in (i := 1857) (by decide +kernel) (by decide +kernel)
theorem wm_L_225 : Cond.methodLink RL 225 yX8_tickCount ∈ fw_GW := fw_in (i := 457) (by decide +kernel) (by decide +kernel)
theorem wc_X8_tickCount : Cond.code yX8_tickCount cX8_tickCount 1 (some .int) ∈ fw_GW := fw_in (i := 460) (by decide +kernel) (by decide +kernel)
theorem wn_X8_tickCount : Cond.instanceMethod yX8_tickCount ∈ fw_GW := fw_in (i := 458) (by decide +kernel) (by decide +kernel)
theorem ws_X8_tickCount : Cond.selects yX8_tickCount.cls yX8_tickCount yX8_tickCount ∈ fw_GW := fw_in (i := 459) (by decide +kernel) (by decide +kernel)
theorem wm_L_228 : Cond.methodLink RL 228 yX9_tickCount ∈ fw_GW := fw_in (i := 1867) (by decide +kernel) (by decide +kernel)
theorem wc_X9_tickCount : Cond.code yX9_tickCount cX9_tickCount 1 (some .int) ∈ fw_GW := fw_in (i := 1870) (by decide +kernel) (by decide +kernel)
theorem wn_X9_tickCount : Cond.instanceMethod yX9_tickCount ∈ fw_GW := fw_in (i := 1868) (by decide +kernel) (by decide +kernel)
theorem ws_X9_tickCount : Cond.selects yX9_tickCount.cls yX9_tickCount yX9_tickCount ∈ fw_GW := fw_in (i := 1869) (by decide +kernel) (by decide +kernel)
theorem wm_L_229 : Cond.methodLink RL 229 yX8_tramCount ∈ fw_GW := fw_in (i := 461) (by decide +kernel) (by decide +kernel)
theorem wc_X8_tramCount : Cond.code yX8_tramCount cX8_tramCount 1 (some .int) ∈ fw_GW := fw_in (i := 464) (by decide +kernel) (by decide +kernel)
theorem wn_X8_tramCount : Cond.instanceMethod yX8_tramCount ∈ fw_GW := fw_in (i := 462) (by decide +kernel) (by decide +kernel)
theorem ws_X8_tramCount : Cond.selects yX8_tramCount.cls yX8_tramCount yX8_tramCount ∈ fw_GW := fw_in (i := 463) (by decide +kernel) (by decide +kernel)
theorem wm_L_232 : Cond.methodLink RL 232 yX9_tramCount ∈ fw_GW := fw_in (i := 1871) (by decide +kernel) (by decide +kernel)
theorem wc_X9_tramCount : Cond.code yX9_tramCount cX9_tramCount 1 (some .int) ∈ fw_GW := fw_in (i := 1874) (by decide +kernel) (by decide +kernel)
theorem wn_X9_tramCount : Cond.instanceMethod yX9_tramCount ∈ fw_GW := fw_in (i := 1872) (by decide +kernel) (by decide +kernel)
theorem ws_X9_tramCount : Cond.selects yX9_tramCount.cls yX9_tramCount yX9_tramCount ∈ fw_GW := fw_in (i := 1873) (by decide +kernel) (by decide +kernel)
theorem wm_L_233 : Cond.methodLink RL 233 yL_lineOfTram ∈ fw_GW := fw_in (i := 842) (by decide +kernel) (by decide +kernel)
theorem wt_L_lineOfTram : Cond.static yL_lineOfTram ∈ fw_GW := fw_in (i := 843) (by decide +kernel) (by decide +kernel)
theorem wh_L_lineOfTram : Cond.codeWith yL_lineOfTram cL_lineOfTram 4 (some .int) [(0, 9, 12, 21)] ∈ fw_GW := fw_in (i := 844) (by decide +kernel) (by decide +kernel)
theorem wm_L_235 : Cond.methodLink RL 235 yX9_lineOfTram ∈ fw_GW := fw_in (i := 1875) (by decide +kernel) (by decide +kernel)
theorem wc_X9_lineOfTram : Cond.code yX9_lineOfTram cX9_lineOfTram 2 (some .int) ∈ fw_GW := fw_in (i := 1878) (by decide +kernel) (by decide +kernel)
theorem wn_X9_lineOfTram : Cond.instanceMethod yX9_lineOfTram ∈ fw_GW := fw_in (i := 1876) (by decide +kernel) (by decide +kernel)
theorem ws_X9_lineOfTram : Cond.selects yX9_lineOfTram.cls yX9_lineOfTram yX9_lineOfTram ∈ fw_GW := fw_in (i := 1877) (by decide +kernel) (by decide +kernel)
theorem wm_L_236 : Cond.methodLink RL 236 yL_stopOfTram ∈ fw_GW := fw_in (i := 858) (by decide +kernel) (by decide +kernel)
theorem wt_L_stopOfTram : Cond.static yL_stopOfTram ∈ fw_GW := fw_in (i := 859) (by decide +kernel) (by decide +kernel)
theorem wh_L_stopOfTram : Cond.codeWith yL_stopOfTram cL_stopOfTram 4 (some .int) [(0, 9, 12, 21)] ∈ fw_GW := fw_in (i := 860) (by decide +kernel) (by decide +kernel)
theorem wm_L_238 : Cond.methodLink RL 238 yX9_stopOfTram ∈ fw_GW := fw_in (i := 1887) (by decide +kernel) (by decide +kernel)
theorem wc_X9_stopOfTram : Cond.code yX9_stopOfTram cX9_stopOfTram 2 (some .int) ∈ fw_GW := fw_in (i := 1890) (by decide +kernel) (by decide +kernel)
theorem wn_X9_stopOfTram : Cond.instanceMethod yX9_stopOfTram ∈ fw_GW := fw_in (i := 1888) (by decide +kernel) (by decide +kernel)
theorem ws_X9_stopOfTram : Cond.selects yX9_stopOfTram.cls yX9_stopOfTram yX9_stopOfTram ∈ fw_GW := fw_in (i := 1889) (by decide +kernel) (by decide +kernel)
theorem wm_L_239 : Cond.methodLink RL 239 yL_isForward ∈ fw_GW := fw_in (i := 869) (by decide +kernel) (by decide +kernel)
theorem wt_L_isForward : Cond.static yL_isForward ∈ fw_GW := fw_in (i := 870) (by decide +kernel) (by decide +kernel)
theorem wh_L_isForward : Cond.codeWith yL_isForward cL_isForward 4 (some .int) [(0, 16, 19, 21)] ∈ fw_GW := fw_in (i := 871) (by decide +kernel) (by decide +kernel)
theorem wm_L_241 : Cond.methodLink RL 241 yX9_isForward ∈ fw_GW := fw_in (i := 1895) (by decide +kernel) (by decide +kernel)
theorem wc_X9_isForward : Cond.code yX9_isForward cX9_isForward 2 (some .boolean) ∈ fw_GW := fw_in (i := 1898) (by decide +kernel) (by decide +kernel)
theorem wn_X9_isForward : Cond.instanceMethod yX9_isForward ∈ fw_GW := fw_in (i := 1896) (by decide +kernel) (by decide +kernel)
theorem ws_X9_isForward : Cond.selects yX9_isForward.cls yX9_isForward yX9_isForward ∈ fw_GW := fw_in (i := 1897) (by decide +kernel) (by decide +kernel)
theorem wm_L_242 : Cond.methodLink RL 242 yL_crowdOf ∈ fw_GW := fw_in (i := 876) (by decide +kernel) (by decide +kernel)
theorem wt_L_crowdOf : Cond.static yL_crowdOf ∈ fw_GW := fw_in (i := 877) (by decide +kernel) (by decide +kernel)
theorem wh_L_crowdOf : Cond.codeWith yL_crowdOf cL_crowdOf 4 (some .int) [(0, 9, 12, 21)] ∈ fw_GW := fw_in (i := 878) (by decide +kernel) (by decide +kernel)
theorem wm_L_244 : Cond.methodLink RL 244 yX9_crowdOf ∈ fw_GW := fw_in (i := 1899) (by decide +kernel) (by decide +kernel)
theorem wc_X9_crowdOf : Cond.code yX9_crowdOf cX9_crowdOf 2 (some .int) ∈ fw_GW := fw_in (i := 1902) (by decide +kernel) (by decide +kernel)
theorem wn_X9_crowdOf : Cond.instanceMethod yX9_crowdOf ∈ fw_GW := fw_in (i := 1900) (by decide +kernel) (by decide +kernel)
theorem ws_X9_crowdOf : Cond.selects yX9_crowdOf.cls yX9_crowdOf yX9_crowdOf ∈ fw_GW := fw_in (i := 1901) (by decide +kernel) (by decide +kernel)
theorem wm_L_245 : Cond.methodLink RL 245 yL_fullestTram ∈ fw_GW := fw_in (i := 887) (by decide +kernel) (by decide +kernel)
theorem wt_L_fullestTram : Cond.static yL_fullestTram ∈ fw_GW := fw_in (i := 888) (by decide +kernel) (by decide +kernel)
theorem wh_L_fullestTram : Cond.codeWith yL_fullestTram cL_fullestTram 3 (some .int) [(0, 8, 11, 39)] ∈ fw_GW := fw_in (i := 889) (by decide +kernel) (by decide +kernel)
theorem wm_L_248 : Cond.methodLink RL 248 yX9_fullestTram ∈ fw_GW := fw_in (i := 1911) (by decide +kernel) (by decide +kernel)
theorem wc_X9_fullestTram : Cond.code yX9_fullestTram cX9_fullestTram 3 (some .int) ∈ fw_GW := fw_in (i := 1914) (by decide +kernel) (by decide +kernel)
theorem wn_X9_fullestTram : Cond.instanceMethod yX9_fullestTram ∈ fw_GW := fw_in (i := 1912) (by decide +kernel) (by decide +kernel)
theorem ws_X9_fullestTram : Cond.selects yX9_fullestTram.cls yX9_fullestTram yX9_fullestTram ∈ fw_GW := fw_in (i := 1913) (by decide +kernel) (by decide +kernel)
theorem wm_L_249 : Cond.methodLink RL 249 yL_arrivalOf ∈ fw_GW := fw_in (i := 895) (by decide +kernel) (by decide +kernel)
theorem wt_L_arrivalOf : Cond.static yL_arrivalOf ∈ fw_GW := fw_in (i := 896) (by decide +kernel) (by decide +kernel)
theorem wh_L_arrivalOf : Cond.codeWith yL_arrivalOf cL_arrivalOf 5 (some .int) [(0, 10, 13, 21), (0, 10, 17, 39)] ∈ fw_GW := fw_in (i := 897) (by decide +kernel) (by decide +kernel)
theorem wm_L_251 : Cond.methodLink RL 251 yX9_arrivalOf ∈ fw_GW := fw_in (i := 1915) (by decide +kernel) (by decide +kernel)
theorem wm_L_252 : Cond.methodLink RL 252 yL_arrivalBySimulation ∈ fw_GW := fw_in (i := 911) (by decide +kernel) (by decide +kernel)
theorem wt_L_arrivalBySimulation : Cond.static yL_arrivalBySimulation ∈ fw_GW := fw_in (i := 912) (by decide +kernel) (by decide +kernel)
theorem wh_L_arrivalBySimulation : Cond.codeWith yL_arrivalBySimulation cL_arrivalBySimulation 5 (some .int) [(0, 10, 13, 21), (0, 10, 17, 39)] ∈ fw_GW := fw_in (i := 913) (by decide +kernel) (by decide +kernel)
theorem wm_L_254 : Cond.methodLink RL 254 yX9_arrivalBySimulation ∈ fw_GW := fw_in (i := 1919) (by decide +kernel) (by decide +kernel)
theorem wc_X9_arrivalBySimulation : Cond.code yX9_arrivalBySimulation cX9_arrivalBySimulation 3 (some .int) ∈ fw_GW := fw_in (i := 1922) (by decide +kernel) (by decide +kernel)
theorem wn_X9_arrivalBySimulation : Cond.instanceMethod yX9_arrivalBySimulation ∈ fw_GW := fw_in (i := 1920) (by decide +kernel) (by decide +kernel)
theorem ws_X9_arrivalBySimulation : Cond.selects yX9_arrivalBySimulation.cls yX9_arrivalBySimulation yX9_arrivalBySimulation ∈ fw_GW := fw_in (i := 1921) (by decide +kernel) (by decide +kernel)
theorem wm_L_255 : Cond.methodLink RL 255 yL_addPassenger ∈ fw_GW := fw_in (i := 923) (by decide +kernel) (by decide +kernel)
theorem wt_L_addPassenger : Cond.static yL_addPassenger ∈ fw_GW := fw_in (i := 924) (by decide +kernel) (by decide +kernel)
theorem wh_L_addPassenger : Cond.codeWith yL_addPassenger cL_addPassenger 4 (some .int) [(0, 9, 12, 21), (0, 9, 15, 15)] ∈ fw_GW := fw_in (i := 925) (by decide +kernel) (by decide +kernel)
theorem wm_L_257 : Cond.methodLink RL 257 yX9_addPassenger ∈ fw_GW := fw_in (i := 1924) (by decide +kernel) (by decide +kernel)
theorem wc_X9_addPassenger : Cond.code yX9_addPassenger cX9_addPassenger 2 (some .int) ∈ fw_GW := fw_in (i := 1927) (by decide +kernel) (by decide +kernel)
theorem wn_X9_addPassenger : Cond.instanceMethod yX9_addPassenger ∈ fw_GW := fw_in (i := 1925) (by decide +kernel) (by decide +kernel)
theorem ws_X9_addPassenger : Cond.selects yX9_addPassenger.cls yX9_addPassenger yX9_addPassenger ∈ fw_GW := fw_in (i := 1926) (by decide +kernel) (by decide +kernel)
theorem wm_L_258 : Cond.methodLink RL 258 yL_sellTicket ∈ fw_GW := fw_in (i := 938) (by decide +kernel) (by decide +kernel)
theorem wt_L_sellTicket : Cond.static yL_sellTicket ∈ fw_GW := fw_in (i := 939) (by decide +kernel) (by decide +kernel)
theorem wh_L_sellTicket : Cond.codeWith yL_sellTicket cL_sellTicket 6 (some .int) [(0, 12, 15, 21), (0, 12, 19, 13), (0, 12, 23, 15)] ∈ fw_GW := fw_in (i := 940) (by decide +kernel) (by decide +kernel)
theorem wm_L_261 : Cond.methodLink RL 261 yX9_sellTicket ∈ fw_GW := fw_in (i := 1936) (by decide +kernel) (by decide +kernel)
theorem wc_X9_sellTicket : Cond.code yX9_sellTicket cX9_sellTicket 4 (some .int) ∈ fw_GW := fw_in (i := 1939) (by decide +kernel) (by decide +kernel)
theorem wn_X9_sellTicket : Cond.instanceMethod yX9_sellTicket ∈ fw_GW := fw_in (i := 1937) (by decide +kernel) (by decide +kernel)
theorem ws_X9_sellTicket : Cond.selects yX9_sellTicket.cls yX9_sellTicket yX9_sellTicket ∈ fw_GW := fw_in (i := 1938) (by decide +kernel) (by decide +kernel)
theorem wm_L_262 : Cond.methodLink RL 262 yL_board ∈ fw_GW := fw_in (i := 957) (by decide +kernel) (by decide +kernel)
theorem wt_L_board : Cond.static yL_board ∈ fw_GW := fw_in (i := 958) (by decide +kernel) (by decide +kernel)
theorem wh_L_board : Cond.codeWith yL_board cL_board 5 (some .int) [(0, 17, 20, 21), (0, 17, 24, 15), (0, 17, 28, 39), (0, 17, 32, 80)] ∈ fw_GW := fw_in (i := 959) (by decide +kernel) (by decide +kernel)
theorem wm_L_264 : Cond.methodLink RL 264 yX9_board ∈ fw_GW := fw_in (i := 1948) (by decide +kernel) (by decide +kernel)
theorem wc_X9_board : Cond.code yX9_board cX9_board 5 (some .boolean) ∈ fw_GW := fw_in (i := 1951) (by decide +kernel) (by decide +kernel)
theorem wn_X9_board : Cond.instanceMethod yX9_board ∈ fw_GW := fw_in (i := 1949) (by decide +kernel) (by decide +kernel)
theorem ws_X9_board : Cond.selects yX9_board.cls yX9_board yX9_board ∈ fw_GW := fw_in (i := 1950) (by decide +kernel) (by decide +kernel)
theorem wm_L_265 : Cond.methodLink RL 265 yL_alight ∈ fw_GW := fw_in (i := 983) (by decide +kernel) (by decide +kernel)
theorem wt_L_alight : Cond.static yL_alight ∈ fw_GW := fw_in (i := 984) (by decide +kernel) (by decide +kernel)
theorem wh_L_alight : Cond.codeWith yL_alight cL_alight 4 (some .int) [(0, 9, 12, 21), (0, 9, 15, 15)] ∈ fw_GW := fw_in (i := 985) (by decide +kernel) (by decide +kernel)
theorem wm_L_267 : Cond.methodLink RL 267 yX9_alight ∈ fw_GW := fw_in (i := 1964) (by decide +kernel) (by decide +kernel)
theorem wc_X9_alight : Cond.code yX9_alight cX9_alight 2 (some .int) ∈ fw_GW := fw_in (i := 1967) (by decide +kernel) (by decide +kernel)
theorem wn_X9_alight : Cond.instanceMethod yX9_alight ∈ fw_GW := fw_in (i := 1965) (by decide +kernel) (by decide +kernel)
theorem ws_X9_alight : Cond.selects yX9_alight.cls yX9_alight yX9_alight ∈ fw_GW := fw_in (i := 1966) (by decide +kernel) (by decide +kernel)
theorem wm_L_268 : Cond.methodLink RL 268 yX8_passengerCount ∈ fw_GW := fw_in (i := 465) (by decide +kernel) (by decide +kernel)
theorem wc_X8_passengerCount : Cond.code yX8_passengerCount cX8_passengerCount 1 (some .int) ∈ fw_GW := fw_in (i := 468) (by decide +kernel) (by decide +kernel)
theorem wn_X8_passengerCount : Cond.instanceMethod yX8_passengerCount ∈ fw_GW := fw_in (i := 466) (by decide +kernel) (by decide +kernel)
theorem ws_X8_passengerCount : Cond.selects yX8_passengerCount.cls yX8_passengerCount yX8_passengerCount ∈ fw_GW := fw_in (i := 467) (by decide +kernel) (by decide +kernel)
theorem wm_L_271 : Cond.methodLink RL 271 yX9_passengerCount ∈ fw_GW := fw_in (i := 1972) (by decide +kernel) (by decide +kernel)
theorem wc_X9_passengerCount : Cond.code yX9_passengerCount cX9_passengerCount 1 (some .int) ∈ fw_GW := fw_in (i := 1975) (by decide +kernel) (by decide +kernel)
theorem wn_X9_passengerCount : Cond.instanceMethod yX9_passengerCount ∈ fw_GW := fw_in (i := 1973) (by decide +kernel) (by decide +kernel)
theorem ws_X9_passengerCount : Cond.selects yX9_passengerCount.cls yX9_passengerCount yX9_passengerCount ∈ fw_GW := fw_in (i := 1974) (by decide +kernel) (by decide +kernel)
theorem wm_L_272 : Cond.methodLink RL 272 yL_stopOfPassenger ∈ fw_GW := fw_in (i := 1003) (by decide +kernel) (by decide +kernel)
theorem wt_L_stopOfPassenger : Cond.static yL_stopOfPassenger ∈ fw_GW := fw_in (i := 1004) (by decide +kernel) (by decide +kernel)
theorem wh_L_stopOfPassenger : Cond.codeWith yL_stopOfPassenger cL_stopOfPassenger 4 (some .int) [(0, 9, 12, 21)] ∈ fw_GW := fw_in (i := 1005) (by decide +kernel) (by decide +kernel)
theorem wm_L_274 : Cond.methodLink RL 274 yX9_stopOfPassenger ∈ fw_GW := fw_in (i := 1976) (by decide +kernel) (by decide +kernel)
theorem wc_X9_stopOfPassenger : Cond.code yX9_stopOfPassenger cX9_stopOfPassenger 2 (some .int) ∈ fw_GW := fw_in (i := 1979) (by decide +kernel) (by decide +kernel)
theorem wn_X9_stopOfPassenger : Cond.instanceMethod yX9_stopOfPassenger ∈ fw_GW := fw_in (i := 1977) (by decide +kernel) (by decide +kernel)
theorem ws_X9_stopOfPassenger : Cond.selects yX9_stopOfPassenger.cls yX9_stopOfPassenger yX9_stopOfPassenger ∈ fw_GW := fw_in (i := 1978) (by decide +kernel) (by decide +kernel)
theorem wm_L_275 : Cond.methodLink RL 275 yL_tramOfPassenger ∈ fw_GW := fw_in (i := 1016) (by decide +kernel) (by decide +kernel)
theorem wt_L_tramOfPassenger : Cond.static yL_tramOfPassenger ∈ fw_GW := fw_in (i := 1017) (by decide +kernel) (by decide +kernel)
theorem wh_L_tramOfPassenger : Cond.codeWith yL_tramOfPassenger cL_tramOfPassenger 4 (some .int) [(0, 9, 12, 21)] ∈ fw_GW := fw_in (i := 1018) (by decide +kernel) (by decide +kernel)
theorem wm_L_277 : Cond.methodLink RL 277 yX9_tramOfPassenger ∈ fw_GW := fw_in (i := 1980) (by decide +kernel) (by decide +kernel)
theorem wc_X9_tramOfPassenger : Cond.code yX9_tramOfPassenger cX9_tramOfPassenger 2 (some .int) ∈ fw_GW := fw_in (i := 1983) (by decide +kernel) (by decide +kernel)
theorem wn_X9_tramOfPassenger : Cond.instanceMethod yX9_tramOfPassenger ∈ fw_GW := fw_in (i := 1981) (by decide +kernel) (by decide +kernel)
theorem ws_X9_tramOfPassenger : Cond.selects yX9_tramOfPassenger.cls yX9_tramOfPassenger yX9_tramOfPassenger ∈ fw_GW := fw_in (i := 1982) (by decide +kernel) (by decide +kernel)
theorem wm_L_278 : Cond.methodLink RL 278 yL_ridesOf ∈ fw_GW := fw_in (i := 1023) (by decide +kernel) (by decide +kernel)
theorem wt_L_ridesOf : Cond.static yL_ridesOf ∈ fw_GW := fw_in (i := 1024) (by decide +kernel) (by decide +kernel)
theorem wh_L_ridesOf : Cond.codeWith yL_ridesOf cL_ridesOf 4 (some .int) [(0, 9, 12, 21)] ∈ fw_GW := fw_in (i := 1025) (by decide +kernel) (by decide +kernel)
theorem wm_L_280 : Cond.methodLink RL 280 yX9_ridesOf ∈ fw_GW := fw_in (i := 1984) (by decide +kernel) (by decide +kernel)
theorem wc_X9_ridesOf : Cond.code yX9_ridesOf cX9_ridesOf 2 (some .int) ∈ fw_GW := fw_in (i := 1987) (by decide +kernel) (by decide +kernel)
theorem wn_X9_ridesOf : Cond.instanceMethod yX9_ridesOf ∈ fw_GW := fw_in (i := 1985) (by decide +kernel) (by decide +kernel)
theorem ws_X9_ridesOf : Cond.selects yX9_ridesOf.cls yX9_ridesOf yX9_ridesOf ∈ fw_GW := fw_in (i := 1986) (by decide +kernel) (by decide +kernel)
theorem wm_L_281 : Cond.methodLink RL 281 yL_isValidIn ∈ fw_GW := fw_in (i := 1030) (by decide +kernel) (by decide +kernel)
theorem wt_L_isValidIn : Cond.static yL_isValidIn ∈ fw_GW := fw_in (i := 1031) (by decide +kernel) (by decide +kernel)
theorem wh_L_isValidIn : Cond.codeWith yL_isValidIn cL_isValidIn 5 (some .int) [(0, 17, 20, 21), (0, 17, 24, 13)] ∈ fw_GW := fw_in (i := 1032) (by decide +kernel) (by decide +kernel)
theorem wm_L_283 : Cond.methodLink RL 283 yX9_isValidIn ∈ fw_GW := fw_in (i := 1988) (by decide +kernel) (by decide +kernel)
theorem wc_X9_isValidIn : Cond.code yX9_isValidIn cX9_isValidIn 3 (some .boolean) ∈ fw_GW := fw_in (i := 1991) (by decide +kernel) (by decide +kernel)
theorem wn_X9_isValidIn : Cond.instanceMethod yX9_isValidIn ∈ fw_GW := fw_in (i := 1989) (by decide +kernel) (by decide +kernel)
theorem ws_X9_isValidIn : Cond.selects yX9_isValidIn.cls yX9_isValidIn yX9_isValidIn ∈ fw_GW := fw_in (i := 1990) (by decide +kernel) (by decide +kernel)
theorem wm_L_284 : Cond.methodLink RL 284 yL_canBoard ∈ fw_GW := fw_in (i := 1040) (by decide +kernel) (by decide +kernel)
theorem wt_L_canBoard : Cond.static yL_canBoard ∈ fw_GW := fw_in (i := 1041) (by decide +kernel) (by decide +kernel)
theorem wh_L_canBoard : Cond.codeWith yL_canBoard cL_canBoard 5 (some .int) [(0, 17, 20, 21)] ∈ fw_GW := fw_in (i := 1042) (by decide +kernel) (by decide +kernel)
theorem wm_L_286 : Cond.methodLink RL 286 yX9_canBoard ∈ fw_GW := fw_in (i := 1992) (by decide +kernel) (by decide +kernel)
theorem wc_X9_canBoard : Cond.code yX9_canBoard cX9_canBoard 3 (some .boolean) ∈ fw_GW := fw_in (i := 1995) (by decide +kernel) (by decide +kernel)
theorem wn_X9_canBoard : Cond.instanceMethod yX9_canBoard ∈ fw_GW := fw_in (i := 1993) (by decide +kernel) (by decide +kernel)
theorem ws_X9_canBoard : Cond.selects yX9_canBoard.cls yX9_canBoard yX9_canBoard ∈ fw_GW := fw_in (i := 1994) (by decide +kernel) (by decide +kernel)
theorem wm_L_287 : Cond.methodLink RL 287 yL_isTransfer ∈ fw_GW := fw_in (i := 1047) (by decide +kernel) (by decide +kernel)
theorem wt_L_isTransfer : Cond.static yL_isTransfer ∈ fw_GW := fw_in (i := 1048) (by decide +kernel) (by decide +kernel)
theorem wh_L_isTransfer : Cond.codeWith yL_isTransfer cL_isTransfer 5 (some .int) [(0, 17, 20, 21)] ∈ fw_GW := fw_in (i := 1049) (by decide +kernel) (by decide +kernel)
theorem wm_L_289 : Cond.methodLink RL 289 yX9_isTransfer ∈ fw_GW := fw_in (i := 1996) (by decide +kernel) (by decide +kernel)
theorem wc_X9_isTransfer : Cond.code yX9_isTransfer cX9_isTransfer 3 (some .boolean) ∈ fw_GW := fw_in (i := 1999) (by decide +kernel) (by decide +kernel)
theorem wn_X9_isTransfer : Cond.instanceMethod yX9_isTransfer ∈ fw_GW := fw_in (i := 1997) (by decide +kernel) (by decide +kernel)
theorem ws_X9_isTransfer : Cond.selects yX9_isTransfer.cls yX9_isTransfer yX9_isTransfer ∈ fw_GW := fw_in (i := 1998) (by decide +kernel) (by decide +kernel)
theorem wm_L_290 : Cond.methodLink RL 290 yL_addSecret ∈ fw_GW := fw_in (i := 1055) (by decide +kernel) (by decide +kernel)
theorem wt_L_addSecret : Cond.static yL_addSecret ∈ fw_GW := fw_in (i := 1056) (by decide +kernel) (by decide +kernel)
theorem wh_L_addSecret : Cond.codeWith yL_addSecret cL_addSecret 4 (some .int) [(0, 9, 12, 21), (0, 9, 15, 15)] ∈ fw_GW := fw_in (i := 1057) (by decide +kernel) (by decide +kernel)
theorem wm_L_292 : Cond.methodLink RL 292 yX9_addSecret ∈ fw_GW := fw_in (i := 2000) (by decide +kernel) (by decide +kernel)
theorem wc_X9_addSecret : Cond.code yX9_addSecret cX9_addSecret 2 (some .int) ∈ fw_GW := fw_in (i := 2003) (by decide +kernel) (by decide +kernel)
theorem wn_X9_addSecret : Cond.instanceMethod yX9_addSecret ∈ fw_GW := fw_in (i := 2001) (by decide +kernel) (by decide +kernel)
theorem ws_X9_addSecret : Cond.selects yX9_addSecret.cls yX9_addSecret yX9_addSecret ∈ fw_GW := fw_in (i := 2002) (by decide +kernel) (by decide +kernel)
theorem wm_L_293 : Cond.methodLink RL 293 yL_whisper ∈ fw_GW := fw_in (i := 1070) (by decide +kernel) (by decide +kernel)
theorem wt_L_whisper : Cond.static yL_whisper ∈ fw_GW := fw_in (i := 1071) (by decide +kernel) (by decide +kernel)
theorem wh_L_whisper : Cond.codeWith yL_whisper cL_whisper 5 (some .int) [(0, 10, 13, 21), (0, 10, 17, 15), (0, 10, 21, 80)] ∈ fw_GW := fw_in (i := 1072) (by decide +kernel) (by decide +kernel)
theorem wm_L_295 : Cond.methodLink RL 295 yX9_whisper ∈ fw_GW := fw_in (i := 2008) (by decide +kernel) (by decide +kernel)
theorem wc_X9_whisper : Cond.code yX9_whisper cX9_whisper 3 (some .int) ∈ fw_GW := fw_in (i := 2011) (by decide +kernel) (by decide +kernel)
theorem wn_X9_whisper : Cond.instanceMethod yX9_whisper ∈ fw_GW := fw_in (i := 2009) (by decide +kernel) (by decide +kernel)
theorem ws_X9_whisper : Cond.selects yX9_whisper.cls yX9_whisper yX9_whisper ∈ fw_GW := fw_in (i := 2010) (by decide +kernel) (by decide +kernel)
theorem wm_L_296 : Cond.methodLink RL 296 yX8_secretCount ∈ fw_GW := fw_in (i := 469) (by decide +kernel) (by decide +kernel)
theorem wc_X8_secretCount : Cond.code yX8_secretCount cX8_secretCount 1 (some .int) ∈ fw_GW := fw_in (i := 472) (by decide +kernel) (by decide +kernel)
theorem wn_X8_secretCount : Cond.instanceMethod yX8_secretCount ∈ fw_GW := fw_in (i := 470) (by decide +kernel) (by decide +kernel)
theorem ws_X8_secretCount : Cond.selects yX8_secretCount.cls yX8_secretCount yX8_secretCount ∈ fw_GW := fw_in (i := 471) (by decide +kernel) (by decide +kernel)
theorem wm_L_299 : Cond.methodLink RL 299 yX9_secretCount ∈ fw_GW := fw_in (i := 2031) (by decide +kernel) (by decide +kernel)
theorem wc_X9_secretCount : Cond.code yX9_secretCount cX9_secretCount 1 (some .int) ∈ fw_GW := fw_in (i := 2034) (by decide +kernel) (by decide +kernel)
theorem wn_X9_secretCount : Cond.instanceMethod yX9_secretCount ∈ fw_GW := fw_in (i := 2032) (by decide +kernel) (by decide +kernel)
theorem ws_X9_secretCount : Cond.selects yX9_secretCount.cls yX9_secretCount yX9_secretCount ∈ fw_GW := fw_in (i := 2033) (by decide +kernel) (by decide +kernel)
theorem wm_L_300 : Cond.methodLink RL 300 yL_carrierOf ∈ fw_GW := fw_in (i := 1099) (by decide +kernel) (by decide +kernel)
theorem wt_L_carrierOf : Cond.static yL_carrierOf ∈ fw_GW := fw_in (i := 1100) (by decide +kernel) (by decide +kernel)
theorem wh_L_carrierOf : Cond.codeWith yL_carrierOf cL_carrierOf 4 (some .int) [(0, 9, 12, 21)] ∈ fw_GW := fw_in (i := 1101) (by decide +kernel) (by decide +kernel)
theorem wm_L_302 : Cond.methodLink RL 302 yX9_carrierOf ∈ fw_GW := fw_in (i := 2035) (by decide +kernel) (by decide +kernel)
theorem wc_X9_carrierOf : Cond.code yX9_carrierOf cX9_carrierOf 2 (some .int) ∈ fw_GW := fw_in (i := 2038) (by decide +kernel) (by decide +kernel)
theorem wn_X9_carrierOf : Cond.instanceMethod yX9_carrierOf ∈ fw_GW := fw_in (i := 2036) (by decide +kernel) (by decide +kernel)
theorem ws_X9_carrierOf : Cond.selects yX9_carrierOf.cls yX9_carrierOf yX9_carrierOf ∈ fw_GW := fw_in (i := 2037) (by decide +kernel) (by decide +kernel)
theorem wm_L_303 : Cond.methodLink RL 303 yL_isTruth ∈ fw_GW := fw_in (i := 1112) (by decide +kernel) (by decide +kernel)
theorem wt_L_isTruth : Cond.static yL_isTruth ∈ fw_GW := fw_in (i := 1113) (by decide +kernel) (by decide +kernel)
theorem wh_L_isTruth : Cond.codeWith yL_isTruth cL_isTruth 4 (some .int) [(0, 16, 19, 21)] ∈ fw_GW := fw_in (i := 1114) (by decide +kernel) (by decide +kernel)
theorem wm_L_305 : Cond.methodLink RL 305 yX9_isTruth ∈ fw_GW := fw_in (i := 2039) (by decide +kernel) (by decide +kernel)
theorem wc_X9_isTruth : Cond.code yX9_isTruth cX9_isTruth 2 (some .boolean) ∈ fw_GW := fw_in (i := 2042) (by decide +kernel) (by decide +kernel)
theorem wn_X9_isTruth : Cond.instanceMethod yX9_isTruth ∈ fw_GW := fw_in (i := 2040) (by decide +kernel) (by decide +kernel)
theorem ws_X9_isTruth : Cond.selects yX9_isTruth.cls yX9_isTruth yX9_isTruth ∈ fw_GW := fw_in (i := 2041) (by decide +kernel) (by decide +kernel)
theorem wm_L_306 : Cond.methodLink RL 306 yL_knows ∈ fw_GW := fw_in (i := 1120) (by decide +kernel) (by decide +kernel)
theorem wt_L_knows : Cond.static yL_knows ∈ fw_GW := fw_in (i := 1121) (by decide +kernel) (by decide +kernel)
theorem wh_L_knows : Cond.codeWith yL_knows cL_knows 5 (some .int) [(0, 17, 20, 21)] ∈ fw_GW := fw_in (i := 1122) (by decide +kernel) (by decide +kernel)
theorem wm_L_308 : Cond.methodLink RL 308 yX9_knows ∈ fw_GW := fw_in (i := 2043) (by decide +kernel) (by decide +kernel)
theorem wc_X9_knows : Cond.code yX9_knows cX9_knows 3 (some .boolean) ∈ fw_GW := fw_in (i := 2046) (by decide +kernel) (by decide +kernel)
theorem wn_X9_knows : Cond.instanceMethod yX9_knows ∈ fw_GW := fw_in (i := 2044) (by decide +kernel) (by decide +kernel)
theorem ws_X9_knows : Cond.selects yX9_knows.cls yX9_knows yX9_knows ∈ fw_GW := fw_in (i := 2045) (by decide +kernel) (by decide +kernel)
theorem wm_L_309 : Cond.methodLink RL 309 yL_knowerCount ∈ fw_GW := fw_in (i := 1128) (by decide +kernel) (by decide +kernel)
theorem wt_L_knowerCount : Cond.static yL_knowerCount ∈ fw_GW := fw_in (i := 1129) (by decide +kernel) (by decide +kernel)
theorem wh_L_knowerCount : Cond.codeWith yL_knowerCount cL_knowerCount 4 (some .int) [(0, 9, 12, 21)] ∈ fw_GW := fw_in (i := 1130) (by decide +kernel) (by decide +kernel)
theorem wm_L_311 : Cond.methodLink RL 311 yX9_knowerCount ∈ fw_GW := fw_in (i := 2047) (by decide +kernel) (by decide +kernel)
theorem wc_X9_knowerCount : Cond.code yX9_knowerCount cX9_knowerCount 2 (some .int) ∈ fw_GW := fw_in (i := 2050) (by decide +kernel) (by decide +kernel)
theorem wn_X9_knowerCount : Cond.instanceMethod yX9_knowerCount ∈ fw_GW := fw_in (i := 2048) (by decide +kernel) (by decide +kernel)
theorem ws_X9_knowerCount : Cond.selects yX9_knowerCount.cls yX9_knowerCount yX9_knowerCount ∈ fw_GW := fw_in (i := 2049) (by decide +kernel) (by decide +kernel)
theorem wm_L_312 : Cond.methodLink RL 312 yL_wisestPassenger ∈ fw_GW := fw_in (i := 1136) (by decide +kernel) (by decide +kernel)
theorem wt_L_wisestPassenger : Cond.static yL_wisestPassenger ∈ fw_GW := fw_in (i := 1137) (by decide +kernel) (by decide +kernel)
theorem wh_L_wisestPassenger : Cond.codeWith yL_wisestPassenger cL_wisestPassenger 4 (some .int) [(0, 9, 12, 39)] ∈ fw_GW := fw_in (i := 1138) (by decide +kernel) (by decide +kernel)
theorem wm_L_314 : Cond.methodLink RL 314 yX9_wisestPassenger ∈ fw_GW := fw_in (i := 2051) (by decide +kernel) (by decide +kernel)
theorem wc_X9_wisestPassenger : Cond.code yX9_wisestPassenger cX9_wisestPassenger 7 (some .int) ∈ fw_GW := fw_in (i := 2054) (by decide +kernel) (by decide +kernel)
theorem wn_X9_wisestPassenger : Cond.instanceMethod yX9_wisestPassenger ∈ fw_GW := fw_in (i := 2052) (by decide +kernel) (by decide +kernel)
theorem ws_X9_wisestPassenger : Cond.selects yX9_wisestPassenger.cls yX9_wisestPassenger yX9_wisestPassenger ∈ fw_GW := fw_in (i := 2053) (by decide +kernel) (by decide +kernel)
theorem wm_L_315 : Cond.methodLink RL 315 yL_distance ∈ fw_GW := fw_in (i := 1152) (by decide +kernel) (by decide +kernel)
theorem wt_L_distance : Cond.static yL_distance ∈ fw_GW := fw_in (i := 1153) (by decide +kernel) (by decide +kernel)
theorem wh_L_distance : Cond.codeWith yL_distance cL_distance 5 (some .int) [(0, 10, 13, 21), (0, 10, 17, 39)] ∈ fw_GW := fw_in (i := 1154) (by decide +kernel) (by decide +kernel)
theorem wm_L_317 : Cond.methodLink RL 317 yX9_distance ∈ fw_GW := fw_in (i := 2059) (by decide +kernel) (by decide +kernel)
theorem wm_L_318 : Cond.methodLink RL 318 yL_distanceByRelaxation ∈ fw_GW := fw_in (i := 1160) (by decide +kernel) (by decide +kernel)
theorem wt_L_distanceByRelaxation : Cond.static yL_distanceByRelaxation ∈ fw_GW := fw_in (i := 1161) (by decide +kernel) (by decide +kernel)
theorem wh_L_distanceByRelaxation : Cond.codeWith yL_distanceByRelaxation cL_distanceByRelaxation 5 (some .int) [(0, 10, 13, 21), (0, 10, 17, 39)] ∈ fw_GW := fw_in (i := 1162) (by decide +kernel) (by decide +kernel)
theorem wm_L_320 : Cond.methodLink RL 320 yX9_distanceByRelaxation ∈ fw_GW := fw_in (i := 2074) (by decide +kernel) (by decide +kernel)
theorem wc_X9_distanceByRelaxation : Cond.code yX9_distanceByRelaxation cX9_distanceByRelaxation 3 (some .int) ∈ fw_GW := fw_in (i := 2077) (by decide +kernel) (by decide +kernel)
theorem wn_X9_distanceByRelaxation : Cond.instanceMethod yX9_distanceByRelaxation ∈ fw_GW := fw_in (i := 2075) (by decide +kernel) (by decide +kernel)
theorem ws_X9_distanceByRelaxation : Cond.selects yX9_distanceByRelaxation.cls yX9_distanceByRelaxation yX9_distanceByRelaxation ∈ fw_GW := fw_in (i := 2076) (by decide +kernel) (by decide +kernel)
theorem wm_L_321 : Cond.methodLink RL 321 yL_changes ∈ fw_GW := fw_in (i := 1168) (by decide +kernel) (by decide +kernel)
theorem wt_L_changes : Cond.static yL_changes ∈ fw_GW := fw_in (i := 1169) (by decide +kernel) (by decide +kernel)
theorem wh_L_changes : Cond.codeWith yL_changes cL_changes 5 (some .int) [(0, 10, 13, 21), (0, 10, 17, 39)] ∈ fw_GW := fw_in (i := 1170) (by decide +kernel) (by decide +kernel)
theorem wm_L_323 : Cond.methodLink RL 323 yX9_changes ∈ fw_GW := fw_in (i := 2079) (by decide +kernel) (by decide +kernel)
theorem wm_L_324 : Cond.methodLink RL 324 yL_changesByGrowth ∈ fw_GW := fw_in (i := 1176) (by decide +kernel) (by decide +kernel)
theorem wt_L_changesByGrowth : Cond.static yL_changesByGrowth ∈ fw_GW := fw_in (i := 1177) (by decide +kernel) (by decide +kernel)
theorem wh_L_changesByGrowth : Cond.codeWith yL_changesByGrowth cL_changesByGrowth 5 (some .int) [(0, 10, 13, 21), (0, 10, 17, 39)] ∈ fw_GW := fw_in (i := 1178) (by decide +kernel) (by decide +kernel)
theorem wm_L_326 : Cond.methodLink RL 326 yX9_changesByGrowth ∈ fw_GW := fw_in (i := 2084) (by decide +kernel) (by decide +kernel)
theorem wc_X9_changesByGrowth : Cond.code yX9_changesByGrowth cX9_changesByGrowth 3 (some .int) ∈ fw_GW := fw_in (i := 2087) (by decide +kernel) (by decide +kernel)
theorem wn_X9_changesByGrowth : Cond.instanceMethod yX9_changesByGrowth ∈ fw_GW := fw_in (i := 2085) (by decide +kernel) (by decide +kernel)
theorem ws_X9_changesByGrowth : Cond.selects yX9_changesByGrowth.cls yX9_changesByGrowth yX9_changesByGrowth ∈ fw_GW := fw_in (i := 2086) (by decide +kernel) (by decide +kernel)
theorem wm_L_327 : Cond.methodLink RL 327 yL_writeLine ∈ fw_GW := fw_in (i := 1184) (by decide +kernel) (by decide +kernel)
theorem wt_L_writeLine : Cond.static yL_writeLine ∈ fw_GW := fw_in (i := 1185) (by decide +kernel) (by decide +kernel)
theorem wh_L_writeLine : Cond.codeWith yL_writeLine cL_writeLine 4 (some .int) [(0, 9, 12, 21)] ∈ fw_GW := fw_in (i := 1186) (by decide +kernel) (by decide +kernel)
theorem wm_L_329 : Cond.methodLink RL 329 yX9_writeLine ∈ fw_GW := fw_in (i := 2089) (by decide +kernel) (by decide +kernel)
theorem wc_X9_writeLine : Cond.code yX9_writeLine cX9_writeLine 3 (some .int) ∈ fw_GW := fw_in (i := 2092) (by decide +kernel) (by decide +kernel)
theorem wn_X9_writeLine : Cond.instanceMethod yX9_writeLine ∈ fw_GW := fw_in (i := 2090) (by decide +kernel) (by decide +kernel)
theorem ws_X9_writeLine : Cond.selects yX9_writeLine.cls yX9_writeLine yX9_writeLine ∈ fw_GW := fw_in (i := 2091) (by decide +kernel) (by decide +kernel)
theorem wm_L_330 : Cond.methodLink RL 330 yL_writePassenger ∈ fw_GW := fw_in (i := 1470) (by decide +kernel) (by decide +kernel)
theorem wt_L_writePassenger : Cond.static yL_writePassenger ∈ fw_GW := fw_in (i := 1471) (by decide +kernel) (by decide +kernel)
theorem wh_L_writePassenger : Cond.codeWith yL_writePassenger cL_writePassenger 4 (some .int) [(0, 9, 12, 21)] ∈ fw_GW := fw_in (i := 1472) (by decide +kernel) (by decide +kernel)
theorem wm_L_332 : Cond.methodLink RL 332 yX9_writePassenger ∈ fw_GW := fw_in (i := 2101) (by decide +kernel) (by decide +kernel)
theorem wc_X9_writePassenger : Cond.code yX9_writePassenger cX9_writePassenger 4 (some .int) ∈ fw_GW := fw_in (i := 2104) (by decide +kernel) (by decide +kernel)
theorem wn_X9_writePassenger : Cond.instanceMethod yX9_writePassenger ∈ fw_GW := fw_in (i := 2102) (by decide +kernel) (by decide +kernel)
theorem ws_X9_writePassenger : Cond.selects yX9_writePassenger.cls yX9_writePassenger yX9_writePassenger ∈ fw_GW := fw_in (i := 2103) (by decide +kernel) (by decide +kernel)
theorem wm_L_333 : Cond.methodLink RL 333 yL_textAt ∈ fw_GW := fw_in (i := 1481) (by decide +kernel) (by decide +kernel)
theorem wt_L_textAt : Cond.static yL_textAt ∈ fw_GW := fw_in (i := 1482) (by decide +kernel) (by decide +kernel)
theorem wh_L_textAt : Cond.codeWith yL_textAt cL_textAt 4 (some .int) [(0, 9, 12, 21)] ∈ fw_GW := fw_in (i := 1483) (by decide +kernel) (by decide +kernel)
theorem wm_L_335 : Cond.methodLink RL 335 yX9_textAt ∈ fw_GW := fw_in (i := 2105) (by decide +kernel) (by decide +kernel)
theorem wc_X9_textAt : Cond.code yX9_textAt cX9_textAt 2 (some .char) ∈ fw_GW := fw_in (i := 2108) (by decide +kernel) (by decide +kernel)
theorem wn_X9_textAt : Cond.instanceMethod yX9_textAt ∈ fw_GW := fw_in (i := 2106) (by decide +kernel) (by decide +kernel)
theorem ws_X9_textAt : Cond.selects yX9_textAt.cls yX9_textAt yX9_textAt ∈ fw_GW := fw_in (i := 2107) (by decide +kernel) (by decide +kernel)
theorem wm_L_336 : Cond.methodLink RL 336 yL_meanRides ∈ fw_GW := fw_in (i := 1499) (by decide +kernel) (by decide +kernel)
theorem wt_L_meanRides : Cond.static yL_meanRides ∈ fw_GW := fw_in (i := 1500) (by decide +kernel) (by decide +kernel)
theorem wh_L_meanRides : Cond.codeWith yL_meanRides cL_meanRides 3 (some .int) [(0, 7, 10, 150)] ∈ fw_GW := fw_in (i := 1501) (by decide +kernel) (by decide +kernel)
theorem wm_L_339 : Cond.methodLink RL 339 yX9_meanRides ∈ fw_GW := fw_in (i := 2109) (by decide +kernel) (by decide +kernel)
theorem wc_X9_meanRides : Cond.code yX9_meanRides cX9_meanRides 4 (some .double) ∈ fw_GW := fw_in (i := 2112) (by decide +kernel) (by decide +kernel)
theorem wn_X9_meanRides : Cond.instanceMethod yX9_meanRides ∈ fw_GW := fw_in (i := 2110) (by decide +kernel) (by decide +kernel)
theorem ws_X9_meanRides : Cond.selects yX9_meanRides.cls yX9_meanRides yX9_meanRides ∈ fw_GW := fw_in (i := 2111) (by decide +kernel) (by decide +kernel)
theorem wm_L_340 : Cond.methodLink RL 340 yL_truthShare ∈ fw_GW := fw_in (i := 1523) (by decide +kernel) (by decide +kernel)
theorem wt_L_truthShare : Cond.static yL_truthShare ∈ fw_GW := fw_in (i := 1524) (by decide +kernel) (by decide +kernel)
theorem wh_L_truthShare : Cond.codeWith yL_truthShare cL_truthShare 3 (some .int) [(0, 8, 11, 150)] ∈ fw_GW := fw_in (i := 1525) (by decide +kernel) (by decide +kernel)
theorem wm_L_342 : Cond.methodLink RL 342 yX9_truthShare ∈ fw_GW := fw_in (i := 2113) (by decide +kernel) (by decide +kernel)
theorem wc_X9_truthShare : Cond.code yX9_truthShare cX9_truthShare 4 (some .float) ∈ fw_GW := fw_in (i := 2116) (by decide +kernel) (by decide +kernel)
theorem wn_X9_truthShare : Cond.instanceMethod yX9_truthShare ∈ fw_GW := fw_in (i := 2114) (by decide +kernel) (by decide +kernel)
theorem ws_X9_truthShare : Cond.selects yX9_truthShare.cls yX9_truthShare yX9_truthShare ∈ fw_GW := fw_in (i := 2115) (by decide +kernel) (by decide +kernel)
theorem wm_L_343 : Cond.methodLink RL 343 yX8_isConsistent ∈ fw_GW := fw_in (i := 473) (by decide +kernel) (by decide +kernel)
theorem wc_X8_isConsistent : Cond.code yX8_isConsistent cX8_isConsistent 1 (some .boolean) ∈ fw_GW := fw_in (i := 476) (by decide +kernel) (by decide +kernel)
theorem wn_X8_isConsistent : Cond.instanceMethod yX8_isConsistent ∈ fw_GW := fw_in (i := 474) (by decide +kernel) (by decide +kernel)
theorem ws_X8_isConsistent : Cond.selects yX8_isConsistent.cls yX8_isConsistent yX8_isConsistent ∈ fw_GW := fw_in (i := 475) (by decide +kernel) (by decide +kernel)
theorem wm_L_347 : Cond.methodLink RL 347 yX9_isConsistent ∈ fw_GW := fw_in (i := 2117) (by decide +kernel) (by decide +kernel)
theorem wc_X9_isConsistent : Cond.code yX9_isConsistent cX9_isConsistent 1 (some .boolean) ∈ fw_GW := fw_in (i := 2120) (by decide +kernel) (by decide +kernel)
theorem wn_X9_isConsistent : Cond.instanceMethod yX9_isConsistent ∈ fw_GW := fw_in (i := 2118) (by decide +kernel) (by decide +kernel)
theorem ws_X9_isConsistent : Cond.selects yX9_isConsistent.cls yX9_isConsistent yX9_isConsistent ∈ fw_GW := fw_in (i := 2119) (by decide +kernel) (by decide +kernel)
theorem wm_L_348 : Cond.methodLink RL 348 yL_type ∈ fw_GW := fw_in (i := 1531) (by decide +kernel) (by decide +kernel)
theorem wt_L_type : Cond.static yL_type ∈ fw_GW := fw_in (i := 1532) (by decide +kernel) (by decide +kernel)
theorem wh_L_type : Cond.codeWith yL_type cL_type 4 (some .int) [(0, 9, 12, 13), (0, 9, 15, 15)] ∈ fw_GW := fw_in (i := 1533) (by decide +kernel) (by decide +kernel)
theorem wm_L_351 : Cond.methodLink RL 351 yX9_type ∈ fw_GW := fw_in (i := 2121) (by decide +kernel) (by decide +kernel)
theorem wc_X9_type : Cond.code yX9_type cX9_type 2 (some .int) ∈ fw_GW := fw_in (i := 2124) (by decide +kernel) (by decide +kernel)
theorem wn_X9_type : Cond.instanceMethod yX9_type ∈ fw_GW := fw_in (i := 2122) (by decide +kernel) (by decide +kernel)
theorem ws_X9_type : Cond.selects yX9_type.cls yX9_type yX9_type ∈ fw_GW := fw_in (i := 2123) (by decide +kernel) (by decide +kernel)
theorem wm_L_352 : Cond.methodLink RL 352 yL_execute ∈ fw_GW := fw_in (i := 1544) (by decide +kernel) (by decide +kernel)
theorem wt_L_execute : Cond.static yL_execute ∈ fw_GW := fw_in (i := 1545) (by decide +kernel) (by decide +kernel)
theorem wh_L_execute : Cond.codeWith yL_execute cL_execute 3 (some .int) [(0, 8, 11, 13), (0, 8, 14, 15)] ∈ fw_GW := fw_in (i := 1546) (by decide +kernel) (by decide +kernel)
theorem wm_L_354 : Cond.methodLink RL 354 yX9_execute ∈ fw_GW := fw_in (i := 2125) (by decide +kernel) (by decide +kernel)
theorem wc_X9_execute : Cond.code yX9_execute cX9_execute 2 (some .int) ∈ fw_GW := fw_in (i := 2128) (by decide +kernel) (by decide +kernel)
theorem wn_X9_execute : Cond.instanceMethod yX9_execute ∈ fw_GW := fw_in (i := 2126) (by decide +kernel) (by decide +kernel)
theorem ws_X9_execute : Cond.selects yX9_execute.cls yX9_execute yX9_execute ∈ fw_GW := fw_in (i := 2127) (by decide +kernel) (by decide +kernel)
theorem wm_L_355 : Cond.methodLink RL 355 yL_errorPosition ∈ fw_GW := fw_in (i := 1651) (by decide +kernel) (by decide +kernel)
theorem wt_L_errorPosition : Cond.static yL_errorPosition ∈ fw_GW := fw_in (i := 1652) (by decide +kernel) (by decide +kernel)
theorem wh_L_errorPosition : Cond.codeWith yL_errorPosition cL_errorPosition 3 (some .int) [(0, 8, 11, 39)] ∈ fw_GW := fw_in (i := 1653) (by decide +kernel) (by decide +kernel)
theorem wm_L_357 : Cond.methodLink RL 357 yX9_errorPosition ∈ fw_GW := fw_in (i := 2175) (by decide +kernel) (by decide +kernel)
theorem wc_X9_errorPosition : Cond.code yX9_errorPosition cX9_errorPosition 1 (some .int) ∈ fw_GW := fw_in (i := 2178) (by decide +kernel) (by decide +kernel)
theorem wn_X9_errorPosition : Cond.instanceMethod yX9_errorPosition ∈ fw_GW := fw_in (i := 2176) (by decide +kernel) (by decide +kernel)
theorem ws_X9_errorPosition : Cond.selects yX9_errorPosition.cls yX9_errorPosition yX9_errorPosition ∈ fw_GW := fw_in (i := 2177) (by decide +kernel) (by decide +kernel)
theorem wm_L_358 : Cond.methodLink RL 358 yL_failedCommand ∈ fw_GW := fw_in (i := 1658) (by decide +kernel) (by decide +kernel)
theorem wt_L_failedCommand : Cond.static yL_failedCommand ∈ fw_GW := fw_in (i := 1659) (by decide +kernel) (by decide +kernel)
theorem wh_L_failedCommand : Cond.codeWith yL_failedCommand cL_failedCommand 3 (some .int) [(0, 8, 11, 39)] ∈ fw_GW := fw_in (i := 1660) (by decide +kernel) (by decide +kernel)
theorem wm_L_360 : Cond.methodLink RL 360 yX9_failedCommand ∈ fw_GW := fw_in (i := 2179) (by decide +kernel) (by decide +kernel)
theorem wc_X9_failedCommand : Cond.code yX9_failedCommand cX9_failedCommand 1 (some .int) ∈ fw_GW := fw_in (i := 2182) (by decide +kernel) (by decide +kernel)
theorem wn_X9_failedCommand : Cond.instanceMethod yX9_failedCommand ∈ fw_GW := fw_in (i := 2180) (by decide +kernel) (by decide +kernel)
theorem ws_X9_failedCommand : Cond.selects yX9_failedCommand.cls yX9_failedCommand yX9_failedCommand ∈ fw_GW := fw_in (i := 2181) (by decide +kernel) (by decide +kernel)
theorem wm_L_361 : Cond.methodLink RL 361 yL_undo ∈ fw_GW := fw_in (i := 1665) (by decide +kernel) (by decide +kernel)
theorem wt_L_undo : Cond.static yL_undo ∈ fw_GW := fw_in (i := 1666) (by decide +kernel) (by decide +kernel)
theorem wh_L_undo : Cond.codeWith yL_undo cL_undo 3 (some .int) [(0, 8, 11, 15)] ∈ fw_GW := fw_in (i := 1667) (by decide +kernel) (by decide +kernel)
theorem wm_L_363 : Cond.methodLink RL 363 yX9_undo ∈ fw_GW := fw_in (i := 2183) (by decide +kernel) (by decide +kernel)
theorem wc_X9_undo : Cond.code yX9_undo cX9_undo 1 (some .int) ∈ fw_GW := fw_in (i := 2186) (by decide +kernel) (by decide +kernel)
theorem wn_X9_undo : Cond.instanceMethod yX9_undo ∈ fw_GW := fw_in (i := 2184) (by decide +kernel) (by decide +kernel)
theorem ws_X9_undo : Cond.selects yX9_undo.cls yX9_undo yX9_undo ∈ fw_GW := fw_in (i := 2185) (by decide +kernel) (by decide +kernel)
theorem wm_L_364 : Cond.methodLink RL 364 yX8_save ∈ fw_GW := fw_in (i := 544) (by decide +kernel) (by decide +kernel)
theorem wc_X8_save : Cond.code yX8_save cX8_save 1 (some .int) ∈ fw_GW := fw_in (i := 547) (by decide +kernel) (by decide +kernel)
theorem wn_X8_save : Cond.instanceMethod yX8_save ∈ fw_GW := fw_in (i := 545) (by decide +kernel) (by decide +kernel)
theorem ws_X8_save : Cond.selects yX8_save.cls yX8_save yX8_save ∈ fw_GW := fw_in (i := 546) (by decide +kernel) (by decide +kernel)
theorem wm_L_367 : Cond.methodLink RL 367 yX9_save ∈ fw_GW := fw_in (i := 2187) (by decide +kernel) (by decide +kernel)
theorem wc_X9_save : Cond.code yX9_save cX9_save 1 (some .int) ∈ fw_GW := fw_in (i := 2190) (by decide +kernel) (by decide +kernel)
theorem wn_X9_save : Cond.instanceMethod yX9_save ∈ fw_GW := fw_in (i := 2188) (by decide +kernel) (by decide +kernel)
theorem ws_X9_save : Cond.selects yX9_save.cls yX9_save yX9_save ∈ fw_GW := fw_in (i := 2189) (by decide +kernel) (by decide +kernel)
theorem wm_L_368 : Cond.methodLink RL 368 yL_restore ∈ fw_GW := fw_in (i := 1677) (by decide +kernel) (by decide +kernel)
theorem wt_L_restore : Cond.static yL_restore ∈ fw_GW := fw_in (i := 1678) (by decide +kernel) (by decide +kernel)
theorem wh_L_restore : Cond.codeWith yL_restore cL_restore 3 (some .int) [(0, 8, 11, 15)] ∈ fw_GW := fw_in (i := 1679) (by decide +kernel) (by decide +kernel)
theorem wm_L_370 : Cond.methodLink RL 370 yX9_restore ∈ fw_GW := fw_in (i := 2191) (by decide +kernel) (by decide +kernel)
theorem wc_X9_restore : Cond.code yX9_restore cX9_restore 1 (some .int) ∈ fw_GW := fw_in (i := 2194) (by decide +kernel) (by decide +kernel)
theorem wn_X9_restore : Cond.instanceMethod yX9_restore ∈ fw_GW := fw_in (i := 2192) (by decide +kernel) (by decide +kernel)
theorem ws_X9_restore : Cond.selects yX9_restore.cls yX9_restore yX9_restore ∈ fw_GW := fw_in (i := 2193) (by decide +kernel) (by decide +kernel)
theorem yw_X9_addStop : yw_V yX9_addStop cX9_addStop 2 (some .int) 1 := ⟨wn_X9_addStop, ws_X9_addStop, wi_X9, wc_X9_addStop, by decide +kernel, by decide +kernel, by decide +kernel⟩
theorem yw_X9_thrown : yw_V yX9_thrown cX9_thrown 1 (some .int) 0 := ⟨wn_X9_thrown, ws_X9_thrown, wi_X9, wc_X9_thrown, by decide +kernel, by decide +kernel, by decide +kernel⟩
theorem yw_X9_addLine : yw_V yX9_addLine cX9_addLine 3 (some .int) 2 := ⟨wn_X9_addLine, ws_X9_addLine, wi_X9, wc_X9_addLine, by decide +kernel, by decide +kernel, by decide +kernel⟩
theorem yw_X9_extendLine : yw_V yX9_extendLine cX9_extendLine 3 (some .int) 2 := ⟨wn_X9_extendLine, ws_X9_extendLine, wi_X9, wc_X9_extendLine, by decide +kernel, by decide +kernel, by decide +kernel⟩
theorem yw_X8_stopCount : yw_V yX8_stopCount cX8_stopCount 1 (some .int) 0 := ⟨wn_X8_stopCount, ws_X8_stopCount, wi_X8, wc_X8_stopCount, by decide +kernel, by decide +kernel, by decide +kernel⟩
theorem yw_X9_stopCount : yw_V yX9_stopCount cX9_stopCount 1 (some .int) 0 := ⟨wn_X9_stopCount, ws_X9_stopCount, wi_X9, wc_X9_stopCount, by decide +kernel, by decide +kernel, by decide +kernel⟩
theorem yw_X9_zoneOf : yw_V yX9_zoneOf cX9_zoneOf 2 (some .int) 1 := ⟨wn_X9_zoneOf, ws_X9_zoneOf, wi_X9, wc_X9_zoneOf, by decide +kernel, by decide +kernel, by decide +kernel⟩
theorem yw_X9_isTerminus : yw_V yX9_isTerminus cX9_isTerminus 2 (some .boolean) 1 := ⟨wn_X9_isTerminus, ws_X9_isTerminus, wi_X9, wc_X9_isTerminus, by decide +kernel, by decide +kernel, by decide +kernel⟩
theorem yw_X8_lineCount : yw_V yX8_lineCount cX8_lineCount 1 (some .int) 0 := ⟨wn_X8_lineCount, ws_X8_lineCount, wi_X8, wc_X8_lineCount, by decide +kernel, by decide +kernel, by decide +kernel⟩
theorem yw_X9_lineCount : yw_V yX9_lineCount cX9_lineCount 1 (some .int) 0 := ⟨wn_X9_lineCount, ws_X9_lineCount, wi_X9, wc_X9_lineCount, by decide +kernel, by decide +kernel, by decide +kernel⟩
theorem yw_X9_lineLength : yw_V yX9_lineLength cX9_lineLength 2 (some .int) 1 := ⟨wn_X9_lineLength, ws_X9_lineLength, wi_X9, wc_X9_lineLength, by decide +kernel, by decide +kernel, by decide +kernel⟩
theorem yw_X9_stopAt : yw_V yX9_stopAt cX9_stopAt 3 (some .int) 2 := ⟨wn_X9_stopAt, ws_X9_stopAt, wi_X9, wc_X9_stopAt, by decide +kernel, by decide +kernel, by decide +kernel⟩
theorem yw_X9_commonStops : yw_V yX9_commonStops cX9_commonStops 5 (some .int) 2 := ⟨wn_X9_commonStops, ws_X9_commonStops, wi_X9, wc_X9_commonStops, by decide +kernel, by decide +kernel, by decide +kernel⟩
theorem yw_X9_addTram : yw_V yX9_addTram cX9_addTram 2 (some .int) 1 := ⟨wn_X9_addTram, ws_X9_addTram, wi_X9, wc_X9_addTram, by decide +kernel, by decide +kernel, by decide +kernel⟩
theorem yw_X8_tick : yw_V yX8_tick cX8_tick 1 (some .int) 0 := ⟨wn_X8_tick, ws_X8_tick, wi_X8, wc_X8_tick, by decide +kernel, by decide +kernel, by decide +kernel⟩
theorem yw_X9_tick : yw_V yX9_tick cX9_tick 1 (some .int) 0 := ⟨wn_X9_tick, ws_X9_tick, wi_X9, wc_X9_tick, by decide +kernel, by decide +kernel, by decide +kernel⟩
theorem yw_X8_tickCount : yw_V yX8_tickCount cX8_tickCount 1 (some .int) 0 := ⟨wn_X8_tickCount, ws_X8_tickCount, wi_X8, wc_X8_tickCount, by decide +kernel, by decide +kernel, by decide +kernel⟩
theorem yw_X9_tickCount : yw_V yX9_tickCount cX9_tickCount 1 (some .int) 0 := ⟨wn_X9_tickCount, ws_X9_tickCount, wi_X9, wc_X9_tickCount, by decide +kernel, by decide +kernel, by decide +kernel⟩
theorem yw_X8_tramCount : yw_V yX8_tramCount cX8_tramCount 1 (some .int) 0 := ⟨wn_X8_tramCount, ws_X8_tramCount, wi_X8, wc_X8_tramCount, by decide +kernel, by decide +kernel, by decide +kernel⟩
theorem yw_X9_tramCount : yw_V yX9_tramCount cX9_tramCount 1 (some .int) 0 := ⟨wn_X9_tramCount, ws_X9_tramCount, wi_X9, wc_X9_tramCount, by decide +kernel, by decide +kernel, by decide +kernel⟩
theorem yw_X9_lineOfTram : yw_V yX9_lineOfTram cX9_lineOfTram 2 (some .int) 1 := ⟨wn_X9_lineOfTram, ws_X9_lineOfTram, wi_X9, wc_X9_lineOfTram, by decide +kernel, by decide +kernel, by decide +kernel⟩
theorem yw_X9_stopOfTram : yw_V yX9_stopOfTram cX9_stopOfTram 2 (some .int) 1 := ⟨wn_X9_stopOfTram, ws_X9_stopOfTram, wi_X9, wc_X9_stopOfTram, by decide +kernel, by decide +kernel, by decide +kernel⟩
theorem yw_X9_isForward : yw_V yX9_isForward cX9_isForward 2 (some .boolean) 1 := ⟨wn_X9_isForward, ws_X9_isForward, wi_X9, wc_X9_isForward, by decide +kernel, by decide +kernel, by decide +kernel⟩
theorem yw_X9_crowdOf : yw_V yX9_crowdOf cX9_crowdOf 2 (some .int) 1 := ⟨wn_X9_crowdOf, ws_X9_crowdOf, wi_X9, wc_X9_crowdOf, by decide +kernel, by decide +kernel, by decide +kernel⟩
theorem yw_X9_fullestTram : yw_V yX9_fullestTram cX9_fullestTram 3 (some .int) 0 := ⟨wn_X9_fullestTram, ws_X9_fullestTram, wi_X9, wc_X9_fullestTram, by decide +kernel, by decide +kernel, by decide +kernel⟩
theorem yw_X9_arrivalBySimulation : yw_V yX9_arrivalBySimulation cX9_arrivalBySimulation 3 (some .int) 2 := ⟨wn_X9_arrivalBySimulation, ws_X9_arrivalBySimulation, wi_X9, wc_X9_arrivalBySimulation, by decide +kernel, by decide +kernel, by decide +kernel⟩
theorem yw_X9_addPassenger : yw_V yX9_addPassenger cX9_addPassenger 2 (some .int) 1 := ⟨wn_X9_addPassenger, ws_X9_addPassenger, wi_X9, wc_X9_addPassenger, by decide +kernel, by decide +kernel, by decide +kernel⟩
theorem yw_X9_sellTicket : yw_V yX9_sellTicket cX9_sellTicket 4 (some .int) 3 := ⟨wn_X9_sellTicket, ws_X9_sellTicket, wi_X9, wc_X9_sellTicket, by decide +kernel, by decide +kernel, by decide +kernel⟩
theorem yw_X9_board : yw_V yX9_board cX9_board 5 (some .boolean) 2 := ⟨wn_X9_board, ws_X9_board, wi_X9, wc_X9_board, by decide +kernel, by decide +kernel, by decide +kernel⟩
theorem yw_X9_alight : yw_V yX9_alight cX9_alight 2 (some .int) 1 := ⟨wn_X9_alight, ws_X9_alight, wi_X9, wc_X9_alight, by decide +kernel, by decide +kernel, by decide +kernel⟩
theorem yw_X8_passengerCount : yw_V yX8_passengerCount cX8_passengerCount 1 (some .int) 0 := ⟨wn_X8_passengerCount, ws_X8_passengerCount, wi_X8, wc_X8_passengerCount, by decide +kernel, by decide +kernel, by decide +kernel⟩
theorem yw_X9_passengerCount : yw_V yX9_passengerCount cX9_passengerCount 1 (some .int) 0 := ⟨wn_X9_passengerCount, ws_X9_passengerCount, wi_X9, wc_X9_passengerCount, by decide +kernel, by decide +kernel, by decide +kernel⟩
theorem yw_X9_stopOfPassenger : yw_V yX9_stopOfPassenger cX9_stopOfPassenger 2 (some .int) 1 := ⟨wn_X9_stopOfPassenger, ws_X9_stopOfPassenger, wi_X9, wc_X9_stopOfPassenger, by decide +kernel, by decide +kernel, by decide +kernel⟩
theorem yw_X9_tramOfPassenger : yw_V yX9_tramOfPassenger cX9_tramOfPassenger 2 (some .int) 1 := ⟨wn_X9_tramOfPassenger, ws_X9_tramOfPassenger, wi_X9, wc_X9_tramOfPassenger, by decide +kernel, by decide +kernel, by decide +kernel⟩
theorem yw_X9_ridesOf : yw_V yX9_ridesOf cX9_ridesOf 2 (some .int) 1 := ⟨wn_X9_ridesOf, ws_X9_ridesOf, wi_X9, wc_X9_ridesOf, by decide +kernel, by decide +kernel, by decide +kernel⟩
theorem yw_X9_isValidIn : yw_V yX9_isValidIn cX9_isValidIn 3 (some .boolean) 2 := ⟨wn_X9_isValidIn, ws_X9_isValidIn, wi_X9, wc_X9_isValidIn, by decide +kernel, by decide +kernel, by decide +kernel⟩
theorem yw_X9_canBoard : yw_V yX9_canBoard cX9_canBoard 3 (some .boolean) 2 := ⟨wn_X9_canBoard, ws_X9_canBoard, wi_X9, wc_X9_canBoard, by decide +kernel, by decide +kernel, by decide +kernel⟩
theorem yw_X9_isTransfer : yw_V yX9_isTransfer cX9_isTransfer 3 (some .boolean) 2 := ⟨wn_X9_isTransfer, ws_X9_isTransfer, wi_X9, wc_X9_isTransfer, by decide +kernel, by decide +kernel, by decide +kernel⟩
theorem yw_X9_addSecret : yw_V yX9_addSecret cX9_addSecret 2 (some .int) 1 := ⟨wn_X9_addSecret, ws_X9_addSecret, wi_X9, wc_X9_addSecret, by decide +kernel, by decide +kernel, by decide +kernel⟩
theorem yw_X9_whisper : yw_V yX9_whisper cX9_whisper 3 (some .int) 2 := ⟨wn_X9_whisper, ws_X9_whisper, wi_X9, wc_X9_whisper, by decide +kernel, by decide +kernel, by decide +kernel⟩
theorem yw_X8_secretCount : yw_V yX8_secretCount cX8_secretCount 1 (some .int) 0 := ⟨wn_X8_secretCount, ws_X8_secretCount, wi_X8, wc_X8_secretCount, by decide +kernel, by decide +kernel, by decide +kernel⟩
theorem yw_X9_secretCount : yw_V yX9_secretCount cX9_secretCount 1 (some .int) 0 := ⟨wn_X9_secretCount, ws_X9_secretCount, wi_X9, wc_X9_secretCount, by decide +kernel, by decide +kernel, by decide +kernel⟩
theorem yw_X9_carrierOf : yw_V yX9_carrierOf cX9_carrierOf 2 (some .int) 1 := ⟨wn_X9_carrierOf, ws_X9_carrierOf, wi_X9, wc_X9_carrierOf, by decide +kernel, by decide +kernel, by decide +kernel⟩
theorem yw_X9_isTruth : yw_V yX9_isTruth cX9_isTruth 2 (some .boolean) 1 := ⟨wn_X9_isTruth, ws_X9_isTruth, wi_X9, wc_X9_isTruth, by decide +kernel, by decide +kernel, by decide +kernel⟩
theorem yw_X9_knows : yw_V yX9_knows cX9_knows 3 (some .boolean) 2 := ⟨wn_X9_knows, ws_X9_knows, wi_X9, wc_X9_knows, by decide +kernel, by decide +kernel, by decide +kernel⟩
theorem yw_X9_knowerCount : yw_V yX9_knowerCount cX9_knowerCount 2 (some .int) 1 := ⟨wn_X9_knowerCount, ws_X9_knowerCount, wi_X9, wc_X9_knowerCount, by decide +kernel, by decide +kernel, by decide +kernel⟩
theorem yw_X9_wisestPassenger : yw_V yX9_wisestPassenger cX9_wisestPassenger 7 (some .int) 1 := ⟨wn_X9_wisestPassenger, ws_X9_wisestPassenger, wi_X9, wc_X9_wisestPassenger, by decide +kernel, by decide +kernel, by decide +kernel⟩
theorem yw_X9_distanceByRelaxation : yw_V yX9_distanceByRelaxation cX9_distanceByRelaxation 3 (some .int) 2 := ⟨wn_X9_distanceByRelaxation, ws_X9_distanceByRelaxation, wi_X9, wc_X9_distanceByRelaxation, by decide +kernel, by decide +kernel, by decide +kernel⟩
theorem yw_X9_changesByGrowth : yw_V yX9_changesByGrowth cX9_changesByGrowth 3 (some .int) 2 := ⟨wn_X9_changesByGrowth, ws_X9_changesByGrowth, wi_X9, wc_X9_changesByGrowth, by decide +kernel, by decide +kernel, by decide +kernel⟩
theorem yw_X9_writeLine : yw_V yX9_writeLine cX9_writeLine 3 (some .int) 1 := ⟨wn_X9_writeLine, ws_X9_writeLine, wi_X9, wc_X9_writeLine, by decide +kernel, by decide +kernel, by decide +kernel⟩
theorem yw_X9_writePassenger : yw_V yX9_writePassenger cX9_writePassenger 4 (some .int) 1 := ⟨wn_X9_writePassenger, ws_X9_writePassenger, wi_X9, wc_X9_writePassenger, by decide +kernel, by decide +kernel, by decide +kernel⟩
theorem yw_X9_textAt : yw_V yX9_textAt cX9_textAt 2 (some .char) 1 := ⟨wn_X9_textAt, ws_X9_textAt, wi_X9, wc_X9_textAt, by decide +kernel, by decide +kernel, by decide +kernel⟩
theorem yw_X9_meanRides : yw_V yX9_meanRides cX9_meanRides 4 (some .double) 0 := ⟨wn_X9_meanRides, ws_X9_meanRides, wi_X9, wc_X9_meanRides, by decide +kernel, by decide +kernel, by decide +kernel⟩
theorem yw_X9_truthShare : yw_V yX9_truthShare cX9_truthShare 4 (some .float) 0 := ⟨wn_X9_truthShare, ws_X9_truthShare, wi_X9, wc_X9_truthShare, by decide +kernel, by decide +kernel, by decide +kernel⟩
theorem yw_X8_isConsistent : yw_V yX8_isConsistent cX8_isConsistent 1 (some .boolean) 0 := ⟨wn_X8_isConsistent, ws_X8_isConsistent, wi_X8, wc_X8_isConsistent, by decide +kernel, by decide +kernel, by decide +kernel⟩
theorem yw_X9_isConsistent : yw_V yX9_isConsistent cX9_isConsistent 1 (some .boolean) 0 := ⟨wn_X9_isConsistent, ws_X9_isConsistent, wi_X9, wc_X9_isConsistent, by decide +kernel, by decide +kernel, by decide +kernel⟩
theorem yw_X9_type : yw_V yX9_type cX9_type 2 (some .int) 1 := ⟨wn_X9_type, ws_X9_type, wi_X9, wc_X9_type, by decide +kernel, by decide +kernel, by decide +kernel⟩
theorem yw_X9_execute : yw_V yX9_execute cX9_execute 2 (some .int) 0 := ⟨wn_X9_execute, ws_X9_execute, wi_X9, wc_X9_execute, by decide +kernel, by decide +kernel, by decide +kernel⟩
theorem yw_X9_errorPosition : yw_V yX9_errorPosition cX9_errorPosition 1 (some .int) 0 := ⟨wn_X9_errorPosition, ws_X9_errorPosition, wi_X9, wc_X9_errorPosition, by decide +kernel, by decide +kernel, by decide +kernel⟩
theorem yw_X9_failedCommand : yw_V yX9_failedCommand cX9_failedCommand 1 (some .int) 0 := ⟨wn_X9_failedCommand, ws_X9_failedCommand, wi_X9, wc_X9_failedCommand, by decide +kernel, by decide +kernel, by decide +kernel⟩
theorem yw_X9_undo : yw_V yX9_undo cX9_undo 1 (some .int) 0 := ⟨wn_X9_undo, ws_X9_undo, wi_X9, wc_X9_undo, by decide +kernel, by decide +kernel, by decide +kernel⟩
theorem yw_X8_save : yw_V yX8_save cX8_save 1 (some .int) 0 := ⟨wn_X8_save, ws_X8_save, wi_X8, wc_X8_save, by decide +kernel, by decide +kernel, by decide +kernel⟩
theorem yw_X9_save : yw_V yX9_save cX9_save 1 (some .int) 0 := ⟨wn_X9_save, ws_X9_save, wi_X9, wc_X9_save, by decide +kernel, by decide +kernel, by decide +kernel⟩
theorem yw_X9_restore : yw_V yX9_restore cX9_restore 1 (some .int) 0 := ⟨wn_X9_restore, ws_X9_restore, wi_X9, wc_X9_restore, by decide +kernel, by decide +kernel, by decide +kernel⟩
theorem yh_L_addStop : Cond.static yL_addStop ∈ fw_GW ∧ Cond.initialized (yL_addStop).cls ∈ fw_GW ∧ Cond.codeWith yL_addStop cL_addStop 4 (some .int) [(0, 9, 12, 13), (0, 9, 15, 15)] ∈ fw_GW ∧ (yL_addStop).cls ≠ "java/lang/invoke/MethodHandle" ∧ (yL_addStop).cls ≠ "java/lang/invoke/VarHandle" ∧ (parseMethodDescriptor (yL_addStop).desc).map (fun d => d.parameters.length) = some 3 := ⟨wt_L_addStop, wi_L, wh_L_addStop, by decide +kernel, by decide +kernel, by decide +kernel⟩
theorem yh_L_addLine : Cond.static yL_addLine ∈ fw_GW ∧ Cond.initialized (yL_addLine).cls ∈ fw_GW ∧ Cond.codeWith yL_addLine cL_addLine 5 (some .int) [(0, 10, 13, 21), (0, 10, 17, 13), (0, 10, 21, 15)] ∈ fw_GW ∧ (yL_addLine).cls ≠ "java/lang/invoke/MethodHandle" ∧ (yL_addLine).cls ≠ "java/lang/invoke/VarHandle" ∧ (parseMethodDescriptor (yL_addLine).desc).map (fun d => d.parameters.length) = some 4 := ⟨wt_L_addLine, wi_L, wh_L_addLine, by decide +kernel, by decide +kernel, by decide +kernel⟩
theorem yh_L_extendLine : Cond.static yL_extendLine ∈ fw_GW ∧ Cond.initialized (yL_extendLine).cls ∈ fw_GW ∧ Cond.codeWith yL_extendLine cL_extendLine 5 (some .int) [(0, 10, 13, 21), (0, 10, 17, 13), (0, 10, 21, 15)] ∈ fw_GW ∧ (yL_extendLine).cls ≠ "java/lang/invoke/MethodHandle" ∧ (yL_extendLine).cls ≠ "java/lang/invoke/VarHandle" ∧ (parseMethodDescriptor (yL_extendLine).desc).map (fun d => d.parameters.length) = some 4 := ⟨wt_L_extendLine, wi_L, wh_L_extendLine, by decide +kernel, by decide +kernel, by decide +kernel⟩
theorem yh_L_zoneOf : Cond.static yL_zoneOf ∈ fw_GW ∧ Cond.initialized (yL_zoneOf).cls ∈ fw_GW ∧ Cond.codeWith yL_zoneOf cL_zoneOf 4 (some .int) [(0, 9, 12, 21)] ∈ fw_GW ∧ (yL_zoneOf).cls ≠ "java/lang/invoke/MethodHandle" ∧ (yL_zoneOf).cls ≠ "java/lang/invoke/VarHandle" ∧ (parseMethodDescriptor (yL_zoneOf).desc).map (fun d => d.parameters.length) = some 3 := ⟨wt_L_zoneOf, wi_L, wh_L_zoneOf, by decide +kernel, by decide +kernel, by decide +kernel⟩
theorem yh_L_isTerminus : Cond.static yL_isTerminus ∈ fw_GW ∧ Cond.initialized (yL_isTerminus).cls ∈ fw_GW ∧ Cond.codeWith yL_isTerminus cL_isTerminus 4 (some .int) [(0, 16, 19, 21)] ∈ fw_GW ∧ (yL_isTerminus).cls ≠ "java/lang/invoke/MethodHandle" ∧ (yL_isTerminus).cls ≠ "java/lang/invoke/VarHandle" ∧ (parseMethodDescriptor (yL_isTerminus).desc).map (fun d => d.parameters.length) = some 3 := ⟨wt_L_isTerminus, wi_L, wh_L_isTerminus, by decide +kernel, by decide +kernel, by decide +kernel⟩
theorem yh_L_lineLength : Cond.static yL_lineLength ∈ fw_GW ∧ Cond.initialized (yL_lineLength).cls ∈ fw_GW ∧ Cond.codeWith yL_lineLength cL_lineLength 4 (some .int) [(0, 9, 12, 21)] ∈ fw_GW ∧ (yL_lineLength).cls ≠ "java/lang/invoke/MethodHandle" ∧ (yL_lineLength).cls ≠ "java/lang/invoke/VarHandle" ∧ (parseMethodDescriptor (yL_lineLength).desc).map (fun d => d.parameters.length) = some 3 := ⟨wt_L_lineLength, wi_L, wh_L_lineLength, by decide +kernel, by decide +kernel, by decide +kernel⟩
theorem yh_L_stopAt : Cond.static yL_stopAt ∈ fw_GW ∧ Cond.initialized (yL_stopAt).cls ∈ fw_GW ∧ Cond.codeWith yL_stopAt cL_stopAt 5 (some .int) [(0, 10, 13, 21), (0, 10, 17, 39)] ∈ fw_GW ∧ (yL_stopAt).cls ≠ "java/lang/invoke/MethodHandle" ∧ (yL_stopAt).cls ≠ "java/lang/invoke/VarHandle" ∧ (parseMethodDescriptor (yL_stopAt).desc).map (fun d => d.parameters.length) = some 4 := ⟨wt_L_stopAt, wi_L, wh_L_stopAt, by decide +kernel, by decide +kernel, by decide +kernel⟩
theorem yh_L_commonStops : Cond.static yL_commonStops ∈ fw_GW ∧ Cond.initialized (yL_commonStops).cls ∈ fw_GW ∧ Cond.codeWith yL_commonStops cL_commonStops 5 (some .int) [(0, 10, 13, 21)] ∈ fw_GW ∧ (yL_commonStops).cls ≠ "java/lang/invoke/MethodHandle" ∧ (yL_commonStops).cls ≠ "java/lang/invoke/VarHandle" ∧ (parseMethodDescriptor (yL_commonStops).desc).map (fun d => d.parameters.length) = some 4 := ⟨wt_L_commonStops, wi_L, wh_L_commonStops, by decide +kernel, by decide +kernel, by decide +kernel⟩
theorem yh_L_addTram : Cond.static yL_addTram ∈ fw_GW ∧ Cond.initialized (yL_addTram).cls ∈ fw_GW ∧ Cond.codeWith yL_addTram cL_addTram 4 (some .int) [(0, 9, 12, 21), (0, 9, 15, 15)] ∈ fw_GW ∧ (yL_addTram).cls ≠ "java/lang/invoke/MethodHandle" ∧ (yL_addTram).cls ≠ "java/lang/invoke/VarHandle" ∧ (parseMethodDescriptor (yL_addTram).desc).map (fun d => d.parameters.length) = some 3 := ⟨wt_L_addTram, wi_L, wh_L_addTram, by decide +kernel, by decide +kernel, by decide +kernel⟩
theorem yh_L_lineOfTram : Cond.static yL_lineOfTram ∈ fw_GW ∧ Cond.initialized (yL_lineOfTram).cls ∈ fw_GW ∧ Cond.codeWith yL_lineOfTram cL_lineOfTram 4 (some .int) [(0, 9, 12, 21)] ∈ fw_GW ∧ (yL_lineOfTram).cls ≠ "java/lang/invoke/MethodHandle" ∧ (yL_lineOfTram).cls ≠ "java/lang/invoke/VarHandle" ∧ (parseMethodDescriptor (yL_lineOfTram).desc).map (fun d => d.parameters.length) = some 3 := ⟨wt_L_lineOfTram, wi_L, wh_L_lineOfTram, by decide +kernel, by decide +kernel, by decide +kernel⟩
theorem yh_L_stopOfTram : Cond.static yL_stopOfTram ∈ fw_GW ∧ Cond.initialized (yL_stopOfTram).cls ∈ fw_GW ∧ Cond.codeWith yL_stopOfTram cL_stopOfTram 4 (some .int) [(0, 9, 12, 21)] ∈ fw_GW ∧ (yL_stopOfTram).cls ≠ "java/lang/invoke/MethodHandle" ∧ (yL_stopOfTram).cls ≠ "java/lang/invoke/VarHandle" ∧ (parseMethodDescriptor (yL_stopOfTram).desc).map (fun d => d.parameters.length) = some 3 := ⟨wt_L_stopOfTram, wi_L, wh_L_stopOfTram, by decide +kernel, by decide +kernel, by decide +kernel⟩
theorem yh_L_isForward : Cond.static yL_isForward ∈ fw_GW ∧ Cond.initialized (yL_isForward).cls ∈ fw_GW ∧ Cond.codeWith yL_isForward cL_isForward 4 (some .int) [(0, 16, 19, 21)] ∈ fw_GW ∧ (yL_isForward).cls ≠ "java/lang/invoke/MethodHandle" ∧ (yL_isForward).cls ≠ "java/lang/invoke/VarHandle" ∧ (parseMethodDescriptor (yL_isForward).desc).map (fun d => d.parameters.length) = some 3 := ⟨wt_L_isForward, wi_L, wh_L_isForward, by decide +kernel, by decide +kernel, by decide +kernel⟩
theorem yh_L_crowdOf : Cond.static yL_crowdOf ∈ fw_GW ∧ Cond.initialized (yL_crowdOf).cls ∈ fw_GW ∧ Cond.codeWith yL_crowdOf cL_crowdOf 4 (some .int) [(0, 9, 12, 21)] ∈ fw_GW ∧ (yL_crowdOf).cls ≠ "java/lang/invoke/MethodHandle" ∧ (yL_crowdOf).cls ≠ "java/lang/invoke/VarHandle" ∧ (parseMethodDescriptor (yL_crowdOf).desc).map (fun d => d.parameters.length) = some 3 := ⟨wt_L_crowdOf, wi_L, wh_L_crowdOf, by decide +kernel, by decide +kernel, by decide +kernel⟩
theorem yh_L_fullestTram : Cond.static yL_fullestTram ∈ fw_GW ∧ Cond.initialized (yL_fullestTram).cls ∈ fw_GW ∧ Cond.codeWith yL_fullestTram cL_fullestTram 3 (some .int) [(0, 8, 11, 39)] ∈ fw_GW ∧ (yL_fullestTram).cls ≠ "java/lang/invoke/MethodHandle" ∧ (yL_fullestTram).cls ≠ "java/lang/invoke/VarHandle" ∧ (parseMethodDescriptor (yL_fullestTram).desc).map (fun d => d.parameters.length) = some 2 := ⟨wt_L_fullestTram, wi_L, wh_L_fullestTram, by decide +kernel, by decide +kernel, by decide +kernel⟩
theorem yh_L_arrivalOf : Cond.static yL_arrivalOf ∈ fw_GW ∧ Cond.initialized (yL_arrivalOf).cls ∈ fw_GW ∧ Cond.codeWith yL_arrivalOf cL_arrivalOf 5 (some .int) [(0, 10, 13, 21), (0, 10, 17, 39)] ∈ fw_GW ∧ (yL_arrivalOf).cls ≠ "java/lang/invoke/MethodHandle" ∧ (yL_arrivalOf).cls ≠ "java/lang/invoke/VarHandle" ∧ (parseMethodDescriptor (yL_arrivalOf).desc).map (fun d => d.parameters.length) = some 4 := ⟨wt_L_arrivalOf, wi_L, wh_L_arrivalOf, by decide +kernel, by decide +kernel, by decide +kernel⟩
theorem yh_L_arrivalBySimulation : Cond.static yL_arrivalBySimulation ∈ fw_GW ∧ Cond.initialized (yL_arrivalBySimulation).cls ∈ fw_GW ∧ Cond.codeWith yL_arrivalBySimulation cL_arrivalBySimulation 5 (some .int) [(0, 10, 13, 21), (0, 10, 17, 39)] ∈ fw_GW ∧ (yL_arrivalBySimulation).cls ≠ "java/lang/invoke/MethodHandle" ∧ (yL_arrivalBySimulation).cls ≠ "java/lang/invoke/VarHandle" ∧ (parseMethodDescriptor (yL_arrivalBySimulation).desc).map (fun d => d.parameters.length) = some 4 := ⟨wt_L_arrivalBySimulation, wi_L, wh_L_arrivalBySimulation, by decide +kernel, by decide +kernel, by decide +kernel⟩
theorem yh_L_addPassenger : Cond.static yL_addPassenger ∈ fw_GW ∧ Cond.initialized (yL_addPassenger).cls ∈ fw_GW ∧ Cond.codeWith yL_addPassenger cL_addPassenger 4 (some .int) [(0, 9, 12, 21), (0, 9, 15, 15)] ∈ fw_GW ∧ (yL_addPassenger).cls ≠ "java/lang/invoke/MethodHandle" ∧ (yL_addPassenger).cls ≠ "java/lang/invoke/VarHandle" ∧ (parseMethodDescriptor (yL_addPassenger).desc).map (fun d => d.parameters.length) = some 3 := ⟨wt_L_addPassenger, wi_L, wh_L_addPassenger, by decide +kernel, by decide +kernel, by decide +kernel⟩
theorem yh_L_sellTicket : Cond.static yL_sellTicket ∈ fw_GW ∧ Cond.initialized (yL_sellTicket).cls ∈ fw_GW ∧ Cond.codeWith yL_sellTicket cL_sellTicket 6 (some .int) [(0, 12, 15, 21), (0, 12, 19, 13), (0, 12, 23, 15)] ∈ fw_GW ∧ (yL_sellTicket).cls ≠ "java/lang/invoke/MethodHandle" ∧ (yL_sellTicket).cls ≠ "java/lang/invoke/VarHandle" ∧ (parseMethodDescriptor (yL_sellTicket).desc).map (fun d => d.parameters.length) = some 5 := ⟨wt_L_sellTicket, wi_L, wh_L_sellTicket, by decide +kernel, by decide +kernel, by decide +kernel⟩
theorem yh_L_board : Cond.static yL_board ∈ fw_GW ∧ Cond.initialized (yL_board).cls ∈ fw_GW ∧ Cond.codeWith yL_board cL_board 5 (some .int) [(0, 17, 20, 21), (0, 17, 24, 15), (0, 17, 28, 39), (0, 17, 32, 80)] ∈ fw_GW ∧ (yL_board).cls ≠ "java/lang/invoke/MethodHandle" ∧ (yL_board).cls ≠ "java/lang/invoke/VarHandle" ∧ (parseMethodDescriptor (yL_board).desc).map (fun d => d.parameters.length) = some 4 := ⟨wt_L_board, wi_L, wh_L_board, by decide +kernel, by decide +kernel, by decide +kernel⟩
theorem yh_L_alight : Cond.static yL_alight ∈ fw_GW ∧ Cond.initialized (yL_alight).cls ∈ fw_GW ∧ Cond.codeWith yL_alight cL_alight 4 (some .int) [(0, 9, 12, 21), (0, 9, 15, 15)] ∈ fw_GW ∧ (yL_alight).cls ≠ "java/lang/invoke/MethodHandle" ∧ (yL_alight).cls ≠ "java/lang/invoke/VarHandle" ∧ (parseMethodDescriptor (yL_alight).desc).map (fun d => d.parameters.length) = some 3 := ⟨wt_L_alight, wi_L, wh_L_alight, by decide +kernel, by decide +kernel, by decide +kernel⟩
theorem yh_L_stopOfPassenger : Cond.static yL_stopOfPassenger ∈ fw_GW ∧ Cond.initialized (yL_stopOfPassenger).cls ∈ fw_GW ∧ Cond.codeWith yL_stopOfPassenger cL_stopOfPassenger 4 (some .int) [(0, 9, 12, 21)] ∈ fw_GW ∧ (yL_stopOfPassenger).cls ≠ "java/lang/invoke/MethodHandle" ∧ (yL_stopOfPassenger).cls ≠ "java/lang/invoke/VarHandle" ∧ (parseMethodDescriptor (yL_stopOfPassenger).desc).map (fun d => d.parameters.length) = some 3 := ⟨wt_L_stopOfPassenger, wi_L, wh_L_stopOfPassenger, by decide +kernel, by decide +kernel, by decide +kernel⟩
theorem yh_L_tramOfPassenger : Cond.static yL_tramOfPassenger ∈ fw_GW ∧ Cond.initialized (yL_tramOfPassenger).cls ∈ fw_GW ∧ Cond.codeWith yL_tramOfPassenger cL_tramOfPassenger 4 (some .int) [(0, 9, 12, 21)] ∈ fw_GW ∧ (yL_tramOfPassenger).cls ≠ "java/lang/invoke/MethodHandle" ∧ (yL_tramOfPassenger).cls ≠ "java/lang/invoke/VarHandle" ∧ (parseMethodDescriptor (yL_tramOfPassenger).desc).map (fun d => d.parameters.length) = some 3 := ⟨wt_L_tramOfPassenger, wi_L, wh_L_tramOfPassenger, by decide +kernel, by decide +kernel, by decide +kernel⟩
theorem yh_L_ridesOf : Cond.static yL_ridesOf ∈ fw_GW ∧ Cond.initialized (yL_ridesOf).cls ∈ fw_GW ∧ Cond.codeWith yL_ridesOf cL_ridesOf 4 (some .int) [(0, 9, 12, 21)] ∈ fw_GW ∧ (yL_ridesOf).cls ≠ "java/lang/invoke/MethodHandle" ∧ (yL_ridesOf).cls ≠ "java/lang/invoke/VarHandle" ∧ (parseMethodDescriptor (yL_ridesOf).desc).map (fun d => d.parameters.length) = some 3 := ⟨wt_L_ridesOf, wi_L, wh_L_ridesOf, by decide +kernel, by decide +kernel, by decide +kernel⟩
theorem yh_L_isValidIn : Cond.static yL_isValidIn ∈ fw_GW ∧ Cond.initialized (yL_isValidIn).cls ∈ fw_GW ∧ Cond.codeWith yL_isValidIn cL_isValidIn 5 (some .int) [(0, 17, 20, 21), (0, 17, 24, 13)] ∈ fw_GW ∧ (yL_isValidIn).cls ≠ "java/lang/invoke/MethodHandle" ∧ (yL_isValidIn).cls ≠ "java/lang/invoke/VarHandle" ∧ (parseMethodDescriptor (yL_isValidIn).desc).map (fun d => d.parameters.length) = some 4 := ⟨wt_L_isValidIn, wi_L, wh_L_isValidIn, by decide +kernel, by decide +kernel, by decide +kernel⟩
theorem yh_L_canBoard : Cond.static yL_canBoard ∈ fw_GW ∧ Cond.initialized (yL_canBoard).cls ∈ fw_GW ∧ Cond.codeWith yL_canBoard cL_canBoard 5 (some .int) [(0, 17, 20, 21)] ∈ fw_GW ∧ (yL_canBoard).cls ≠ "java/lang/invoke/MethodHandle" ∧ (yL_canBoard).cls ≠ "java/lang/invoke/VarHandle" ∧ (parseMethodDescriptor (yL_canBoard).desc).map (fun d => d.parameters.length) = some 4 := ⟨wt_L_canBoard, wi_L, wh_L_canBoard, by decide +kernel, by decide +kernel, by decide +kernel⟩
theorem yh_L_isTransfer : Cond.static yL_isTransfer ∈ fw_GW ∧ Cond.initialized (yL_isTransfer).cls ∈ fw_GW ∧ Cond.codeWith yL_isTransfer cL_isTransfer 5 (some .int) [(0, 17, 20, 21)] ∈ fw_GW ∧ (yL_isTransfer).cls ≠ "java/lang/invoke/MethodHandle" ∧ (yL_isTransfer).cls ≠ "java/lang/invoke/VarHandle" ∧ (parseMethodDescriptor (yL_isTransfer).desc).map (fun d => d.parameters.length) = some 4 := ⟨wt_L_isTransfer, wi_L, wh_L_isTransfer, by decide +kernel, by decide +kernel, by decide +kernel⟩
theorem yh_L_addSecret : Cond.static yL_addSecret ∈ fw_GW ∧ Cond.initialized (yL_addSecret).cls ∈ fw_GW ∧ Cond.codeWith yL_addSecret cL_addSecret 4 (some .int) [(0, 9, 12, 21), (0, 9, 15, 15)] ∈ fw_GW ∧ (yL_addSecret).cls ≠ "java/lang/invoke/MethodHandle" ∧ (yL_addSecret).cls ≠ "java/lang/invoke/VarHandle" ∧ (parseMethodDescriptor (yL_addSecret).desc).map (fun d => d.parameters.length) = some 3 := ⟨wt_L_addSecret, wi_L, wh_L_addSecret, by decide +kernel, by decide +kernel, by decide +kernel⟩
theorem yh_L_whisper : Cond.static yL_whisper ∈ fw_GW ∧ Cond.initialized (yL_whisper).cls ∈ fw_GW ∧ Cond.codeWith yL_whisper cL_whisper 5 (some .int) [(0, 10, 13, 21), (0, 10, 17, 15), (0, 10, 21, 80)] ∈ fw_GW ∧ (yL_whisper).cls ≠ "java/lang/invoke/MethodHandle" ∧ (yL_whisper).cls ≠ "java/lang/invoke/VarHandle" ∧ (parseMethodDescriptor (yL_whisper).desc).map (fun d => d.parameters.length) = some 4 := ⟨wt_L_whisper, wi_L, wh_L_whisper, by decide +kernel, by decide +kernel, by decide +kernel⟩
theorem yh_L_carrierOf : Cond.static yL_carrierOf ∈ fw_GW ∧ Cond.initialized (yL_carrierOf).cls ∈ fw_GW ∧ Cond.codeWith yL_carrierOf cL_carrierOf 4 (some .int) [(0, 9, 12, 21)] ∈ fw_GW ∧ (yL_carrierOf).cls ≠ "java/lang/invoke/MethodHandle" ∧ (yL_carrierOf).cls ≠ "java/lang/invoke/VarHandle" ∧ (parseMethodDescriptor (yL_carrierOf).desc).map (fun d => d.parameters.length) = some 3 := ⟨wt_L_carrierOf, wi_L, wh_L_carrierOf, by decide +kernel, by decide +kernel, by decide +kernel⟩
theorem yh_L_isTruth : Cond.static yL_isTruth ∈ fw_GW ∧ Cond.initialized (yL_isTruth).cls ∈ fw_GW ∧ Cond.codeWith yL_isTruth cL_isTruth 4 (some .int) [(0, 16, 19, 21)] ∈ fw_GW ∧ (yL_isTruth).cls ≠ "java/lang/invoke/MethodHandle" ∧ (yL_isTruth).cls ≠ "java/lang/invoke/VarHandle" ∧ (parseMethodDescriptor (yL_isTruth).desc).map (fun d => d.parameters.length) = some 3 := ⟨wt_L_isTruth, wi_L, wh_L_isTruth, by decide +kernel, by decide +kernel, by decide +kernel⟩
theorem yh_L_knows : Cond.static yL_knows ∈ fw_GW ∧ Cond.initialized (yL_knows).cls ∈ fw_GW ∧ Cond.codeWith yL_knows cL_knows 5 (some .int) [(0, 17, 20, 21)] ∈ fw_GW ∧ (yL_knows).cls ≠ "java/lang/invoke/MethodHandle" ∧ (yL_knows).cls ≠ "java/lang/invoke/VarHandle" ∧ (parseMethodDescriptor (yL_knows).desc).map (fun d => d.parameters.length) = some 4 := ⟨wt_L_knows, wi_L, wh_L_knows, by decide +kernel, by decide +kernel, by decide +kernel⟩
theorem yh_L_knowerCount : Cond.static yL_knowerCount ∈ fw_GW ∧ Cond.initialized (yL_knowerCount).cls ∈ fw_GW ∧ Cond.codeWith yL_knowerCount cL_knowerCount 4 (some .int) [(0, 9, 12, 21)] ∈ fw_GW ∧ (yL_knowerCount).cls ≠ "java/lang/invoke/MethodHandle" ∧ (yL_knowerCount).cls ≠ "java/lang/invoke/VarHandle" ∧ (parseMethodDescriptor (yL_knowerCount).desc).map (fun d => d.parameters.length) = some 3 := ⟨wt_L_knowerCount, wi_L, wh_L_knowerCount, by decide +kernel, by decide +kernel, by decide +kernel⟩
theorem yh_L_wisestPassenger : Cond.static yL_wisestPassenger ∈ fw_GW ∧ Cond.initialized (yL_wisestPassenger).cls ∈ fw_GW ∧ Cond.codeWith yL_wisestPassenger cL_wisestPassenger 4 (some .int) [(0, 9, 12, 39)] ∈ fw_GW ∧ (yL_wisestPassenger).cls ≠ "java/lang/invoke/MethodHandle" ∧ (yL_wisestPassenger).cls ≠ "java/lang/invoke/VarHandle" ∧ (parseMethodDescriptor (yL_wisestPassenger).desc).map (fun d => d.parameters.length) = some 3 := ⟨wt_L_wisestPassenger, wi_L, wh_L_wisestPassenger, by decide +kernel, by decide +kernel, by decide +kernel⟩
theorem yh_L_distance : Cond.static yL_distance ∈ fw_GW ∧ Cond.initialized (yL_distance).cls ∈ fw_GW ∧ Cond.codeWith yL_distance cL_distance 5 (some .int) [(0, 10, 13, 21), (0, 10, 17, 39)] ∈ fw_GW ∧ (yL_distance).cls ≠ "java/lang/invoke/MethodHandle" ∧ (yL_distance).cls ≠ "java/lang/invoke/VarHandle" ∧ (parseMethodDescriptor (yL_distance).desc).map (fun d => d.parameters.length) = some 4 := ⟨wt_L_distance, wi_L, wh_L_distance, by decide +kernel, by decide +kernel, by decide +kernel⟩
theorem yh_L_distanceByRelaxation : Cond.static yL_distanceByRelaxation ∈ fw_GW ∧ Cond.initialized (yL_distanceByRelaxation).cls ∈ fw_GW ∧ Cond.codeWith yL_distanceByRelaxation cL_distanceByRelaxation 5 (some .int) [(0, 10, 13, 21), (0, 10, 17, 39)] ∈ fw_GW ∧ (yL_distanceByRelaxation).cls ≠ "java/lang/invoke/MethodHandle" ∧ (yL_distanceByRelaxation).cls ≠ "java/lang/invoke/VarHandle" ∧ (parseMethodDescriptor (yL_distanceByRelaxation).desc).map (fun d => d.parameters.length) = some 4 := ⟨wt_L_distanceByRelaxation, wi_L, wh_L_distanceByRelaxation, by decide +kernel, by decide +kernel, by decide +kernel⟩
theorem yh_L_changes : Cond.static yL_changes ∈ fw_GW ∧ Cond.initialized (yL_changes).cls ∈ fw_GW ∧ Cond.codeWith yL_changes cL_changes 5 (some .int) [(0, 10, 13, 21), (0, 10, 17, 39)] ∈ fw_GW ∧ (yL_changes).cls ≠ "java/lang/invoke/MethodHandle" ∧ (yL_changes).cls ≠ "java/lang/invoke/VarHandle" ∧ (parseMethodDescriptor (yL_changes).desc).map (fun d => d.parameters.length) = some 4 := ⟨wt_L_changes, wi_L, wh_L_changes, by decide +kernel, by decide +kernel, by decide +kernel⟩
theorem yh_L_changesByGrowth : Cond.static yL_changesByGrowth ∈ fw_GW ∧ Cond.initialized (yL_changesByGrowth).cls ∈ fw_GW ∧ Cond.codeWith yL_changesByGrowth cL_changesByGrowth 5 (some .int) [(0, 10, 13, 21), (0, 10, 17, 39)] ∈ fw_GW ∧ (yL_changesByGrowth).cls ≠ "java/lang/invoke/MethodHandle" ∧ (yL_changesByGrowth).cls ≠ "java/lang/invoke/VarHandle" ∧ (parseMethodDescriptor (yL_changesByGrowth).desc).map (fun d => d.parameters.length) = some 4 := ⟨wt_L_changesByGrowth, wi_L, wh_L_changesByGrowth, by decide +kernel, by decide +kernel, by decide +kernel⟩
theorem yh_L_writeLine : Cond.static yL_writeLine ∈ fw_GW ∧ Cond.initialized (yL_writeLine).cls ∈ fw_GW ∧ Cond.codeWith yL_writeLine cL_writeLine 4 (some .int) [(0, 9, 12, 21)] ∈ fw_GW ∧ (yL_writeLine).cls ≠ "java/lang/invoke/MethodHandle" ∧ (yL_writeLine).cls ≠ "java/lang/invoke/VarHandle" ∧ (parseMethodDescriptor (yL_writeLine).desc).map (fun d => d.parameters.length) = some 3 := ⟨wt_L_writeLine, wi_L, wh_L_writeLine, by decide +kernel, by decide +kernel, by decide +kernel⟩
theorem yh_L_writePassenger : Cond.static yL_writePassenger ∈ fw_GW ∧ Cond.initialized (yL_writePassenger).cls ∈ fw_GW ∧ Cond.codeWith yL_writePassenger cL_writePassenger 4 (some .int) [(0, 9, 12, 21)] ∈ fw_GW ∧ (yL_writePassenger).cls ≠ "java/lang/invoke/MethodHandle" ∧ (yL_writePassenger).cls ≠ "java/lang/invoke/VarHandle" ∧ (parseMethodDescriptor (yL_writePassenger).desc).map (fun d => d.parameters.length) = some 3 := ⟨wt_L_writePassenger, wi_L, wh_L_writePassenger, by decide +kernel, by decide +kernel, by decide +kernel⟩
theorem yh_L_textAt : Cond.static yL_textAt ∈ fw_GW ∧ Cond.initialized (yL_textAt).cls ∈ fw_GW ∧ Cond.codeWith yL_textAt cL_textAt 4 (some .int) [(0, 9, 12, 21)] ∈ fw_GW ∧ (yL_textAt).cls ≠ "java/lang/invoke/MethodHandle" ∧ (yL_textAt).cls ≠ "java/lang/invoke/VarHandle" ∧ (parseMethodDescriptor (yL_textAt).desc).map (fun d => d.parameters.length) = some 3 := ⟨wt_L_textAt, wi_L, wh_L_textAt, by decide +kernel, by decide +kernel, by decide +kernel⟩
theorem yh_L_meanRides : Cond.static yL_meanRides ∈ fw_GW ∧ Cond.initialized (yL_meanRides).cls ∈ fw_GW ∧ Cond.codeWith yL_meanRides cL_meanRides 3 (some .int) [(0, 7, 10, 150)] ∈ fw_GW ∧ (yL_meanRides).cls ≠ "java/lang/invoke/MethodHandle" ∧ (yL_meanRides).cls ≠ "java/lang/invoke/VarHandle" ∧ (parseMethodDescriptor (yL_meanRides).desc).map (fun d => d.parameters.length) = some 2 := ⟨wt_L_meanRides, wi_L, wh_L_meanRides, by decide +kernel, by decide +kernel, by decide +kernel⟩
theorem yh_L_truthShare : Cond.static yL_truthShare ∈ fw_GW ∧ Cond.initialized (yL_truthShare).cls ∈ fw_GW ∧ Cond.codeWith yL_truthShare cL_truthShare 3 (some .int) [(0, 8, 11, 150)] ∈ fw_GW ∧ (yL_truthShare).cls ≠ "java/lang/invoke/MethodHandle" ∧ (yL_truthShare).cls ≠ "java/lang/invoke/VarHandle" ∧ (parseMethodDescriptor (yL_truthShare).desc).map (fun d => d.parameters.length) = some 2 := ⟨wt_L_truthShare, wi_L, wh_L_truthShare, by decide +kernel, by decide +kernel, by decide +kernel⟩
theorem yh_L_type : Cond.static yL_type ∈ fw_GW ∧ Cond.initialized (yL_type).cls ∈ fw_GW ∧ Cond.codeWith yL_type cL_type 4 (some .int) [(0, 9, 12, 13), (0, 9, 15, 15)] ∈ fw_GW ∧ (yL_type).cls ≠ "java/lang/invoke/MethodHandle" ∧ (yL_type).cls ≠ "java/lang/invoke/VarHandle" ∧ (parseMethodDescriptor (yL_type).desc).map (fun d => d.parameters.length) = some 3 := ⟨wt_L_type, wi_L, wh_L_type, by decide +kernel, by decide +kernel, by decide +kernel⟩
theorem yh_L_execute : Cond.static yL_execute ∈ fw_GW ∧ Cond.initialized (yL_execute).cls ∈ fw_GW ∧ Cond.codeWith yL_execute cL_execute 3 (some .int) [(0, 8, 11, 13), (0, 8, 14, 15)] ∈ fw_GW ∧ (yL_execute).cls ≠ "java/lang/invoke/MethodHandle" ∧ (yL_execute).cls ≠ "java/lang/invoke/VarHandle" ∧ (parseMethodDescriptor (yL_execute).desc).map (fun d => d.parameters.length) = some 2 := ⟨wt_L_execute, wi_L, wh_L_execute, by decide +kernel, by decide +kernel, by decide +kernel⟩
theorem yh_L_errorPosition : Cond.static yL_errorPosition ∈ fw_GW ∧ Cond.initialized (yL_errorPosition).cls ∈ fw_GW ∧ Cond.codeWith yL_errorPosition cL_errorPosition 3 (some .int) [(0, 8, 11, 39)] ∈ fw_GW ∧ (yL_errorPosition).cls ≠ "java/lang/invoke/MethodHandle" ∧ (yL_errorPosition).cls ≠ "java/lang/invoke/VarHandle" ∧ (parseMethodDescriptor (yL_errorPosition).desc).map (fun d => d.parameters.length) = some 2 := ⟨wt_L_errorPosition, wi_L, wh_L_errorPosition, by decide +kernel, by decide +kernel, by decide +kernel⟩
theorem yh_L_failedCommand : Cond.static yL_failedCommand ∈ fw_GW ∧ Cond.initialized (yL_failedCommand).cls ∈ fw_GW ∧ Cond.codeWith yL_failedCommand cL_failedCommand 3 (some .int) [(0, 8, 11, 39)] ∈ fw_GW ∧ (yL_failedCommand).cls ≠ "java/lang/invoke/MethodHandle" ∧ (yL_failedCommand).cls ≠ "java/lang/invoke/VarHandle" ∧ (parseMethodDescriptor (yL_failedCommand).desc).map (fun d => d.parameters.length) = some 2 := ⟨wt_L_failedCommand, wi_L, wh_L_failedCommand, by decide +kernel, by decide +kernel, by decide +kernel⟩
theorem yh_L_undo : Cond.static yL_undo ∈ fw_GW ∧ Cond.initialized (yL_undo).cls ∈ fw_GW ∧ Cond.codeWith yL_undo cL_undo 3 (some .int) [(0, 8, 11, 15)] ∈ fw_GW ∧ (yL_undo).cls ≠ "java/lang/invoke/MethodHandle" ∧ (yL_undo).cls ≠ "java/lang/invoke/VarHandle" ∧ (parseMethodDescriptor (yL_undo).desc).map (fun d => d.parameters.length) = some 2 := ⟨wt_L_undo, wi_L, wh_L_undo, by decide +kernel, by decide +kernel, by decide +kernel⟩
theorem yh_L_restore : Cond.static yL_restore ∈ fw_GW ∧ Cond.initialized (yL_restore).cls ∈ fw_GW ∧ Cond.codeWith yL_restore cL_restore 3 (some .int) [(0, 8, 11, 15)] ∈ fw_GW ∧ (yL_restore).cls ≠ "java/lang/invoke/MethodHandle" ∧ (yL_restore).cls ≠ "java/lang/invoke/VarHandle" ∧ (parseMethodDescriptor (yL_restore).desc).map (fun d => d.parameters.length) = some 2 := ⟨wt_L_restore, wi_L, wh_L_restore, by decide +kernel, by decide +kernel, by decide +kernel⟩
/-! the law's own body: what holds all through it -/
def fl_C (X : fw_X) (p : Program) (c : Code) (s : State) (m : MethodId) (b L : Nat) (xs : Nat → Int32) : Prop := fr_C X p c cL_law 9 RL s m #[Value.ref b] ∧ va_X b L xs s s.heap ∧ b < s.heap.size ∧ ¬ fw_A X b
def fl_lv (X : fw_X) (b : Nat) (i : Int32) : List (Nat × Value) := [(0, .ref b), (1, .ref (fw_ad X 352)), (2, .ref (fw_ad X 378)), (3, .ref (fw_ad X 386)), (4, .ref (fw_ad X 387)), (5, .int i)]
theorem od_e {r r9 : UInt64} {M M9 : fw_M} (h : ((.inl r, M) : fw_Od) = (.inl r9, M9)) : r = r9 ∧ M = M9 := by
  cases h
  exact ⟨rfl, rfl⟩
theorem of_e {r r9 : UInt32} {M M9 : fw_M} (h : ((.inl r, M) : fw_Of) = (.inl r9, M9)) : r = r9 ∧ M = M9 := by
  cases h
  exact ⟨rfl, rfl⟩
theorem fl_sld {p : Program} {l : Launch} {e : Env} {R : Room} {s : State} {m : MethodId} {args : Array Value} {below : List Frame} {meth : Method} {c : Code} {H : Heap} {locs : List Loc} {cells slots : Nat} {Q : State → Prop} {pc : Nat} {ls : Array Slot} {rest : List Value} {X : fw_X} {M : fw_M} {b L : Nat} {xs : Nat → Int32} (hC : fl_C X p c s m b L xs) (B : fr_H X s M H locs) {j : Int32} (hin : vp_in j L) (hdg : decode cL_law pc = .ok (.iaload, 1))
    (kk : W p l e R s m args below meth c H locs cells slots Q (F0 m (pc + 1) ls (.int (xs j.toNatClampNeg) :: rest))) : W p l e R s m args below meth c H locs cells slots Q (F0 m pc ls (.int j :: .ref b :: rest)) := by
  obtain ⟨b1, hP, hD, hS⟩ := B
  exact va_sld hC.1.1.1 hC.1.1.2.1 hC.2.1 hC.2.2.1 hC.2.2.2 hS hin hdg kk
theorem fl_slen {p : Program} {l : Launch} {e : Env} {R : Room} {s : State} {m : MethodId} {args : Array Value} {below : List Frame} {meth : Method} {c : Code} {H : Heap} {locs : List Loc} {cells slots : Nat} {Q : State → Prop} {pc : Nat} {ls : Array Slot} {rest : List Value} {X : fw_X} {M : fw_M} {b L : Nat} {xs : Nat → Int32} (hC : fl_C X p c s m b L xs) (B : fr_H X s M H locs) (hdg : decode cL_law pc = .ok (.arraylength, 1))
    (kk : W p l e R s m args below meth c H locs cells slots Q (F0 m (pc + 1) ls (.int (Int32.ofNat L) :: rest))) : W p l e R s m args below meth c H locs cells slots Q (F0 m pc ls (.ref b :: rest)) := by
  obtain ⟨b1, hP, hD, hS⟩ := B
  exact va_slen hC.1.1.1 hC.1.1.2.1 hC.2.1 hC.2.2.1 hC.2.2.2 hS hdg kk
