theorem tw_0 : Jvm.Cond.selects "AsOfLedger" yX_linkBefore yX_linkBefore ∈ Tw := Tw_in (List.mem_of_getElem? (i := 0) (by decide +kernel)) (by decide +kernel)
theorem tw_1 : Jvm.Cond.selects "AsOfLedger" yX_linkOfWords yX_linkOfWords ∈ Tw := Tw_in (List.mem_of_getElem? (i := 1) (by decide +kernel)) (by decide +kernel)
theorem tw_2 : Jvm.Cond.selects "AsOfLedger" yX_word yX_word ∈ Tw := Tw_in (List.mem_of_getElem? (i := 2) (by decide +kernel)) (by decide +kernel)
theorem tw_3 : Jvm.Cond.selects "AsOfLedger" yX_isVersion yX_isVersion ∈ Tw := Tw_in (List.mem_of_getElem? (i := 3) (by decide +kernel)) (by decide +kernel)
theorem tw_4 : Jvm.Cond.selects "AsOfLedger" yX_refuseIfTampered yX_refuseIfTampered ∈ Tw := Tw_in (List.mem_of_getElem? (i := 4) (by decide +kernel)) (by decide +kernel)
theorem tw_6 : Jvm.Cond.selects "AsOfLedger" yX_refuseIfFull yX_refuseIfFull ∈ Tw := Tw_in (List.mem_of_getElem? (i := 6) (by decide +kernel)) (by decide +kernel)
theorem tw_7 : Jvm.Cond.selects "AsOfLedger" yX_refuseIfTurnoverTooHigh yX_refuseIfTurnoverTooHigh ∈ Tw := Tw_in (List.mem_of_getElem? (i := 7) (by decide +kernel)) (by decide +kernel)
theorem tw_8 : Jvm.Cond.selects "AsOfLedger" yX_turnoverOf yX_turnoverOf ∈ Tw := Tw_in (List.mem_of_getElem? (i := 8) (by decide +kernel)) (by decide +kernel)
theorem tw_9 : Jvm.Cond.selects "AsOfLedger" yX_isCurrent yX_isCurrent ∈ Tw := Tw_in (List.mem_of_getElem? (i := 9) (by decide +kernel)) (by decide +kernel)
theorem tw_10 : Jvm.Cond.selects "AsOfLedger" yX_touches yX_touches ∈ Tw := Tw_in (List.mem_of_getElem? (i := 10) (by decide +kernel)) (by decide +kernel)
theorem tw_11 : Jvm.Cond.selects "AsOfLedger" yX_append yX_append ∈ Tw := Tw_in (List.mem_of_getElem? (i := 11) (by decide +kernel)) (by decide +kernel)
theorem tw_12 : Jvm.Cond.selects "AsOfLedger" yX_versionToReplace yX_versionToReplace ∈ Tw := Tw_in (List.mem_of_getElem? (i := 12) (by decide +kernel)) (by decide +kernel)
theorem tw_13 : Jvm.Cond.selects "AsOfLedger" yX_currentVersion yX_currentVersion ∈ Tw := Tw_in (List.mem_of_getElem? (i := 13) (by decide +kernel)) (by decide +kernel)
theorem tw_14 : Jvm.Cond.selects "AsOfLedger" yX_replace yX_replace ∈ Tw := Tw_in (List.mem_of_getElem? (i := 14) (by decide +kernel)) (by decide +kernel)
theorem tw_15 : Jvm.Cond.selects "AsOfLedger" yX_isTime yX_isTime ∈ Tw := Tw_in (List.mem_of_getElem? (i := 15) (by decide +kernel)) (by decide +kernel)
theorem tw_16 : Jvm.Cond.selects "AsOfLedger" yX_balanceOf yX_balanceOf ∈ Tw := Tw_in (List.mem_of_getElem? (i := 16) (by decide +kernel)) (by decide +kernel)
theorem tw_17 : Jvm.Cond.selects "AsOfLedger" yX_movedBy yX_movedBy ∈ Tw := Tw_in (List.mem_of_getElem? (i := 17) (by decide +kernel)) (by decide +kernel)
theorem tw_18 : Jvm.Cond.selects "AsOfLedger" yX_insertIntoCursor yX_insertIntoCursor ∈ Tw := Tw_in (List.mem_of_getElem? (i := 18) (by decide +kernel)) (by decide +kernel)
theorem tw_19 : Jvm.Cond.selects "AsOfLedger" yX_comesBefore yX_comesBefore ∈ Tw := Tw_in (List.mem_of_getElem? (i := 19) (by decide +kernel)) (by decide +kernel)
theorem tw_20 : Jvm.Cond.selects "AsOfLedgerModel" yM_tooMuch yM_tooMuch ∈ Tw := Tw_in (List.mem_of_getElem? (i := 20) (by decide +kernel)) (by decide +kernel)
theorem tw_21 : Jvm.Cond.selects "AsOfLedgerModel" yM_turnoverNow yM_turnoverNow ∈ Tw := Tw_in (List.mem_of_getElem? (i := 21) (by decide +kernel)) (by decide +kernel)
theorem tw_22 : Jvm.Cond.selects "AsOfLedgerModel" yM_currentAt yM_currentAt ∈ Tw := Tw_in (List.mem_of_getElem? (i := 22) (by decide +kernel)) (by decide +kernel)
theorem tw_23 : Jvm.Cond.selects "AsOfLedgerModel" yM_word yM_word ∈ Tw := Tw_in (List.mem_of_getElem? (i := 23) (by decide +kernel)) (by decide +kernel)
theorem tw_24 : Jvm.Cond.selects "AsOfLedgerModel" yM_add yM_add ∈ Tw := Tw_in (List.mem_of_getElem? (i := 24) (by decide +kernel)) (by decide +kernel)
theorem tw_25 : Jvm.Cond.selects "AsOfLedgerModel" yM_write yM_write ∈ Tw := Tw_in (List.mem_of_getElem? (i := 25) (by decide +kernel)) (by decide +kernel)
theorem tw_26 : Jvm.Cond.selects "AsOfLedgerModel" yM_linkBefore yM_linkBefore ∈ Tw := Tw_in (List.mem_of_getElem? (i := 26) (by decide +kernel)) (by decide +kernel)
theorem tw_27 : Jvm.Cond.selects "AsOfLedgerModel" yM_linkOf yM_linkOf ∈ Tw := Tw_in (List.mem_of_getElem? (i := 27) (by decide +kernel)) (by decide +kernel)
theorem tw_28 : Jvm.Cond.selects "AsOfLedgerModel" yM_living yM_living ∈ Tw := Tw_in (List.mem_of_getElem? (i := 28) (by decide +kernel)) (by decide +kernel)
theorem tw_29 : Jvm.Cond.selects "AsOfLedgerModel" yM_isTime yM_isTime ∈ Tw := Tw_in (List.mem_of_getElem? (i := 29) (by decide +kernel)) (by decide +kernel)
theorem tw_30 : Jvm.Cond.selects "AsOfLedgerModel" yM_balanceAt yM_balanceAt ∈ Tw := Tw_in (List.mem_of_getElem? (i := 30) (by decide +kernel)) (by decide +kernel)
theorem tw_31 : Jvm.Cond.selects "AsOfLedgerModel" yM_belongs yM_belongs ∈ Tw := Tw_in (List.mem_of_getElem? (i := 31) (by decide +kernel)) (by decide +kernel)
theorem tw_33 : Jvm.Cond.initialized "AsOfLedger" ∈ Tw := Tw_in (List.mem_of_getElem? (i := 33) (by decide +kernel)) (by decide +kernel)
theorem tw_34 : Jvm.Cond.initialized "AsOfLedgerModel" ∈ Tw := Tw_in (List.mem_of_getElem? (i := 34) (by decide +kernel)) (by decide +kernel)
theorem tw_43 : Jvm.Cond.initialized "java/lang/Integer" ∈ Tw := Tw_in (List.mem_of_getElem? (i := 43) (by decide +kernel)) (by decide +kernel)
theorem tw_52 : Jvm.Cond.fieldLink "AsOfLedger" 9 "AsOfLedger" "words" "[I" ∈ Tw := Tw_in (List.mem_of_getElem? (i := 52) (by decide +kernel)) (by decide +kernel)
theorem tw_53 : Jvm.Cond.fieldLink "AsOfLedger" 13 "AsOfLedger" "links" "[J" ∈ Tw := Tw_in (List.mem_of_getElem? (i := 53) (by decide +kernel)) (by decide +kernel)
theorem tw_54 : Jvm.Cond.fieldLink "AsOfLedger" 17 "AsOfLedger" "replacedBy" "[I" ∈ Tw := Tw_in (List.mem_of_getElem? (i := 54) (by decide +kernel)) (by decide +kernel)
theorem tw_55 : Jvm.Cond.fieldLink "AsOfLedger" 105 "AsOfLedger" "versionCount" "I" ∈ Tw := Tw_in (List.mem_of_getElem? (i := 55) (by decide +kernel)) (by decide +kernel)
theorem tw_56 : Jvm.Cond.fieldLink "AsOfLedger" 48 "AsOfLedger" "entryCount" "I" ∈ Tw := Tw_in (List.mem_of_getElem? (i := 56) (by decide +kernel)) (by decide +kernel)
theorem tw_57 : Jvm.Cond.fieldLink "AsOfLedger" 118 "AsOfLedger" "tampered" "Z" ∈ Tw := Tw_in (List.mem_of_getElem? (i := 57) (by decide +kernel)) (by decide +kernel)
theorem tw_58 : Jvm.Cond.fieldLink "AsOfLedger" 20 "AsOfLedger" "cursorVersions" "[I" ∈ Tw := Tw_in (List.mem_of_getElem? (i := 58) (by decide +kernel)) (by decide +kernel)
theorem tw_59 : Jvm.Cond.fieldLink "AsOfLedger" 76 "AsOfLedger" "cursorSize" "I" ∈ Tw := Tw_in (List.mem_of_getElem? (i := 59) (by decide +kernel)) (by decide +kernel)
theorem tw_60 : Jvm.Cond.fieldLink "AsOfLedger" 79 "AsOfLedger" "cursorPlace" "I" ∈ Tw := Tw_in (List.mem_of_getElem? (i := 60) (by decide +kernel)) (by decide +kernel)
theorem tw_61 : Jvm.Cond.fieldLink "AsOfLedger" 82 "AsOfLedger" "cursorAccount" "I" ∈ Tw := Tw_in (List.mem_of_getElem? (i := 61) (by decide +kernel)) (by decide +kernel)
theorem tw_62 : Jvm.Cond.fieldLink "AsOfLedger" 23 "AsOfLedger" "cursorLatest" "I" ∈ Tw := Tw_in (List.mem_of_getElem? (i := 62) (by decide +kernel)) (by decide +kernel)
theorem tw_88 : Jvm.Cond.methodLink "AsOfLedgerLaw" 104 yX_clock ∈ Tw := Tw_in (List.mem_of_getElem? (i := 88) (by decide +kernel)) (by decide +kernel)
theorem tw_89 : Jvm.Cond.instanceMethod yX_clock ∈ Tw := Tw_in (List.mem_of_getElem? (i := 89) (by decide +kernel)) (by decide +kernel)
theorem tw_90 : Jvm.Cond.selects "AsOfLedger" yX_clock yX_clock ∈ Tw := Tw_in (List.mem_of_getElem? (i := 90) (by decide +kernel)) (by decide +kernel)
theorem tw_91 : Jvm.Cond.code yX_clock bX_clock 1 (some .int) ∈ Tw := Tw_in (List.mem_of_getElem? (i := 91) (by decide +kernel)) (by decide +kernel)
theorem tw_92 : Jvm.Cond.methodLink "AsOfLedgerLaw" 108 yX_head ∈ Tw := Tw_in (List.mem_of_getElem? (i := 92) (by decide +kernel)) (by decide +kernel)
theorem tw_93 : Jvm.Cond.instanceMethod yX_head ∈ Tw := Tw_in (List.mem_of_getElem? (i := 93) (by decide +kernel)) (by decide +kernel)
theorem tw_94 : Jvm.Cond.selects "AsOfLedger" yX_head yX_head ∈ Tw := Tw_in (List.mem_of_getElem? (i := 94) (by decide +kernel)) (by decide +kernel)
theorem tw_95 : Jvm.Cond.code yX_head bX_head 1 (some .long) ∈ Tw := Tw_in (List.mem_of_getElem? (i := 95) (by decide +kernel)) (by decide +kernel)
theorem tw_96 : Jvm.Cond.methodLink "AsOfLedger" 108 yX_linkBefore ∈ Tw := Tw_in (List.mem_of_getElem? (i := 96) (by decide +kernel)) (by decide +kernel)
theorem tw_98 : Jvm.Cond.instanceMethod yX_linkBefore ∈ Tw := Tw_in (List.mem_of_getElem? (i := 98) (by decide +kernel)) (by decide +kernel)
theorem tw_99 : Jvm.Cond.code yX_linkBefore bX_linkBefore 2 (some .long) ∈ Tw := Tw_in (List.mem_of_getElem? (i := 99) (by decide +kernel)) (by decide +kernel)
theorem tw_100 : Jvm.Cond.constantLong "AsOfLedger" 151 1469598103 ∈ Tw := Tw_in (List.mem_of_getElem? (i := 100) (by decide +kernel)) (by decide +kernel)
theorem tw_101 : Jvm.Cond.methodLink "AsOfLedgerLaw" 113 yX_verify ∈ Tw := Tw_in (List.mem_of_getElem? (i := 101) (by decide +kernel)) (by decide +kernel)
theorem tw_102 : Jvm.Cond.instanceMethod yX_verify ∈ Tw := Tw_in (List.mem_of_getElem? (i := 102) (by decide +kernel)) (by decide +kernel)
theorem tw_103 : Jvm.Cond.selects "AsOfLedger" yX_verify yX_verify ∈ Tw := Tw_in (List.mem_of_getElem? (i := 103) (by decide +kernel)) (by decide +kernel)
theorem tw_104 : Jvm.Cond.code yX_verify bX_verify 2 (some .int) ∈ Tw := Tw_in (List.mem_of_getElem? (i := 104) (by decide +kernel)) (by decide +kernel)
theorem tw_105 : Jvm.Cond.methodLink "AsOfLedger" 112 yX_linkOfWords ∈ Tw := Tw_in (List.mem_of_getElem? (i := 105) (by decide +kernel)) (by decide +kernel)
theorem tw_107 : Jvm.Cond.instanceMethod yX_linkOfWords ∈ Tw := Tw_in (List.mem_of_getElem? (i := 107) (by decide +kernel)) (by decide +kernel)
theorem tw_108 : Jvm.Cond.code yX_linkOfWords bX_linkOfWords 5 (some .long) ∈ Tw := Tw_in (List.mem_of_getElem? (i := 108) (by decide +kernel)) (by decide +kernel)
theorem tw_109 : Jvm.Cond.constantLong "AsOfLedger" 153 2685821657736338717 ∈ Tw := Tw_in (List.mem_of_getElem? (i := 109) (by decide +kernel)) (by decide +kernel)
theorem tw_110 : Jvm.Cond.methodLink "AsOfLedger" 59 yX_word ∈ Tw := Tw_in (List.mem_of_getElem? (i := 110) (by decide +kernel)) (by decide +kernel)
theorem tw_112 : Jvm.Cond.instanceMethod yX_word ∈ Tw := Tw_in (List.mem_of_getElem? (i := 112) (by decide +kernel)) (by decide +kernel)
theorem tw_113 : Jvm.Cond.code yX_word bX_word 3 (some .int) ∈ Tw := Tw_in (List.mem_of_getElem? (i := 113) (by decide +kernel)) (by decide +kernel)
theorem tw_114 : Jvm.Cond.methodLink "AsOfLedgerLaw" 117 yX_tamper ∈ Tw := Tw_in (List.mem_of_getElem? (i := 114) (by decide +kernel)) (by decide +kernel)
theorem tw_115 : Jvm.Cond.instanceMethod yX_tamper ∈ Tw := Tw_in (List.mem_of_getElem? (i := 115) (by decide +kernel)) (by decide +kernel)
theorem tw_116 : Jvm.Cond.selects "AsOfLedger" yX_tamper yX_tamper ∈ Tw := Tw_in (List.mem_of_getElem? (i := 116) (by decide +kernel)) (by decide +kernel)
theorem tw_117 : Jvm.Cond.code yX_tamper bX_tamper 4 (some .boolean) ∈ Tw := Tw_in (List.mem_of_getElem? (i := 117) (by decide +kernel)) (by decide +kernel)
theorem tw_118 : Jvm.Cond.methodLink "AsOfLedger" 115 yX_isVersion ∈ Tw := Tw_in (List.mem_of_getElem? (i := 118) (by decide +kernel)) (by decide +kernel)
theorem tw_120 : Jvm.Cond.instanceMethod yX_isVersion ∈ Tw := Tw_in (List.mem_of_getElem? (i := 120) (by decide +kernel)) (by decide +kernel)
theorem tw_121 : Jvm.Cond.code yX_isVersion bX_isVersion 2 (some .boolean) ∈ Tw := Tw_in (List.mem_of_getElem? (i := 121) (by decide +kernel)) (by decide +kernel)
theorem tw_122 : Jvm.Cond.methodLink "AsOfLedger" 99 yX_isWord ∈ Tw := Tw_in (List.mem_of_getElem? (i := 122) (by decide +kernel)) (by decide +kernel)
theorem tw_123 : Jvm.Cond.static yX_isWord ∈ Tw := Tw_in (List.mem_of_getElem? (i := 123) (by decide +kernel)) (by decide +kernel)
theorem tw_124 : Jvm.Cond.code yX_isWord bX_isWord 1 (some .boolean) ∈ Tw := Tw_in (List.mem_of_getElem? (i := 124) (by decide +kernel)) (by decide +kernel)
theorem tw_132 : Jvm.Cond.methodLink "AsOfLedgerLaw" 7 yX_post ∈ Tw := Tw_in (List.mem_of_getElem? (i := 132) (by decide +kernel)) (by decide +kernel)
theorem tw_133 : Jvm.Cond.instanceMethod yX_post ∈ Tw := Tw_in (List.mem_of_getElem? (i := 133) (by decide +kernel)) (by decide +kernel)
theorem tw_134 : Jvm.Cond.selects "AsOfLedger" yX_post yX_post ∈ Tw := Tw_in (List.mem_of_getElem? (i := 134) (by decide +kernel)) (by decide +kernel)
theorem tw_135 : Jvm.Cond.code yX_post bX_post 6 (some .int) ∈ Tw := Tw_in (List.mem_of_getElem? (i := 135) (by decide +kernel)) (by decide +kernel)
theorem tw_136 : Jvm.Cond.methodLink "AsOfLedger" 27 yX_refuseIfTampered ∈ Tw := Tw_in (List.mem_of_getElem? (i := 136) (by decide +kernel)) (by decide +kernel)
theorem tw_138 : Jvm.Cond.instanceMethod yX_refuseIfTampered ∈ Tw := Tw_in (List.mem_of_getElem? (i := 138) (by decide +kernel)) (by decide +kernel)
theorem tw_139 : Jvm.Cond.code yX_refuseIfTampered bX_refuseIfTampered 1 none ∈ Tw := Tw_in (List.mem_of_getElem? (i := 139) (by decide +kernel)) (by decide +kernel)
theorem tw_210 : Jvm.Cond.methodLink "AsOfLedger" 30 yX_isAccount ∈ Tw := Tw_in (List.mem_of_getElem? (i := 210) (by decide +kernel)) (by decide +kernel)
theorem tw_211 : Jvm.Cond.static yX_isAccount ∈ Tw := Tw_in (List.mem_of_getElem? (i := 211) (by decide +kernel)) (by decide +kernel)
theorem tw_212 : Jvm.Cond.code yX_isAccount bX_isAccount 1 (some .boolean) ∈ Tw := Tw_in (List.mem_of_getElem? (i := 212) (by decide +kernel)) (by decide +kernel)
theorem tw_213 : Jvm.Cond.methodLink "AsOfLedger" 34 yX_isDay ∈ Tw := Tw_in (List.mem_of_getElem? (i := 213) (by decide +kernel)) (by decide +kernel)
theorem tw_214 : Jvm.Cond.static yX_isDay ∈ Tw := Tw_in (List.mem_of_getElem? (i := 214) (by decide +kernel)) (by decide +kernel)
theorem tw_215 : Jvm.Cond.code yX_isDay bX_isDay 1 (some .boolean) ∈ Tw := Tw_in (List.mem_of_getElem? (i := 215) (by decide +kernel)) (by decide +kernel)
theorem tw_216 : Jvm.Cond.methodLink "AsOfLedger" 37 yX_refuseArgumentsUnless ∈ Tw := Tw_in (List.mem_of_getElem? (i := 216) (by decide +kernel)) (by decide +kernel)
theorem tw_217 : Jvm.Cond.static yX_refuseArgumentsUnless ∈ Tw := Tw_in (List.mem_of_getElem? (i := 217) (by decide +kernel)) (by decide +kernel)
theorem tw_218 : Jvm.Cond.code yX_refuseArgumentsUnless bX_refuseArgumentsUnless 1 none ∈ Tw := Tw_in (List.mem_of_getElem? (i := 218) (by decide +kernel)) (by decide +kernel)
theorem tw_235 : Jvm.Cond.methodLink "AsOfLedger" 41 yX_refuseIfFull ∈ Tw := Tw_in (List.mem_of_getElem? (i := 235) (by decide +kernel)) (by decide +kernel)
theorem tw_237 : Jvm.Cond.instanceMethod yX_refuseIfFull ∈ Tw := Tw_in (List.mem_of_getElem? (i := 237) (by decide +kernel)) (by decide +kernel)
theorem tw_238 : Jvm.Cond.code yX_refuseIfFull bX_refuseIfFull 1 none ∈ Tw := Tw_in (List.mem_of_getElem? (i := 238) (by decide +kernel)) (by decide +kernel)
theorem tw_255 : Jvm.Cond.methodLink "AsOfLedger" 44 yX_refuseIfTurnoverTooHigh ∈ Tw := Tw_in (List.mem_of_getElem? (i := 255) (by decide +kernel)) (by decide +kernel)
theorem tw_257 : Jvm.Cond.instanceMethod yX_refuseIfTurnoverTooHigh ∈ Tw := Tw_in (List.mem_of_getElem? (i := 257) (by decide +kernel)) (by decide +kernel)
theorem tw_258 : Jvm.Cond.code yX_refuseIfTurnoverTooHigh bX_refuseIfTurnoverTooHigh 6 none ∈ Tw := Tw_in (List.mem_of_getElem? (i := 258) (by decide +kernel)) (by decide +kernel)
theorem tw_259 : Jvm.Cond.methodLink "AsOfLedger" 73 yX_turnoverOf ∈ Tw := Tw_in (List.mem_of_getElem? (i := 259) (by decide +kernel)) (by decide +kernel)
theorem tw_261 : Jvm.Cond.instanceMethod yX_turnoverOf ∈ Tw := Tw_in (List.mem_of_getElem? (i := 261) (by decide +kernel)) (by decide +kernel)
theorem tw_262 : Jvm.Cond.code yX_turnoverOf bX_turnoverOf 4 (some .int) ∈ Tw := Tw_in (List.mem_of_getElem? (i := 262) (by decide +kernel)) (by decide +kernel)
theorem tw_263 : Jvm.Cond.methodLink "AsOfLedger" 85 yX_isCurrent ∈ Tw := Tw_in (List.mem_of_getElem? (i := 263) (by decide +kernel)) (by decide +kernel)
theorem tw_265 : Jvm.Cond.instanceMethod yX_isCurrent ∈ Tw := Tw_in (List.mem_of_getElem? (i := 265) (by decide +kernel)) (by decide +kernel)
theorem tw_266 : Jvm.Cond.code yX_isCurrent bX_isCurrent 3 (some .boolean) ∈ Tw := Tw_in (List.mem_of_getElem? (i := 266) (by decide +kernel)) (by decide +kernel)
theorem tw_267 : Jvm.Cond.methodLink "AsOfLedger" 89 yX_touches ∈ Tw := Tw_in (List.mem_of_getElem? (i := 267) (by decide +kernel)) (by decide +kernel)
theorem tw_269 : Jvm.Cond.instanceMethod yX_touches ∈ Tw := Tw_in (List.mem_of_getElem? (i := 269) (by decide +kernel)) (by decide +kernel)
theorem tw_270 : Jvm.Cond.code yX_touches bX_touches 3 (some .boolean) ∈ Tw := Tw_in (List.mem_of_getElem? (i := 270) (by decide +kernel)) (by decide +kernel)
theorem tw_271 : Jvm.Cond.constantLong "AsOfLedger" 139 2147483647 ∈ Tw := Tw_in (List.mem_of_getElem? (i := 271) (by decide +kernel)) (by decide +kernel)
theorem tw_288 : Jvm.Cond.methodLink "AsOfLedger" 51 yX_append ∈ Tw := Tw_in (List.mem_of_getElem? (i := 288) (by decide +kernel)) (by decide +kernel)
theorem tw_290 : Jvm.Cond.instanceMethod yX_append ∈ Tw := Tw_in (List.mem_of_getElem? (i := 290) (by decide +kernel)) (by decide +kernel)
theorem tw_291 : Jvm.Cond.code yX_append bX_append 9 (some .int) ∈ Tw := Tw_in (List.mem_of_getElem? (i := 291) (by decide +kernel)) (by decide +kernel)
theorem tw_296 : Jvm.Cond.methodLink "AsOfLedgerLaw" 21 yX_correct ∈ Tw := Tw_in (List.mem_of_getElem? (i := 296) (by decide +kernel)) (by decide +kernel)
theorem tw_297 : Jvm.Cond.instanceMethod yX_correct ∈ Tw := Tw_in (List.mem_of_getElem? (i := 297) (by decide +kernel)) (by decide +kernel)
theorem tw_298 : Jvm.Cond.selects "AsOfLedger" yX_correct yX_correct ∈ Tw := Tw_in (List.mem_of_getElem? (i := 298) (by decide +kernel)) (by decide +kernel)
theorem tw_299 : Jvm.Cond.code yX_correct bX_correct 4 (some .int) ∈ Tw := Tw_in (List.mem_of_getElem? (i := 299) (by decide +kernel)) (by decide +kernel)
theorem tw_300 : Jvm.Cond.methodLink "AsOfLedger" 55 yX_versionToReplace ∈ Tw := Tw_in (List.mem_of_getElem? (i := 300) (by decide +kernel)) (by decide +kernel)
theorem tw_302 : Jvm.Cond.instanceMethod yX_versionToReplace ∈ Tw := Tw_in (List.mem_of_getElem? (i := 302) (by decide +kernel)) (by decide +kernel)
theorem tw_303 : Jvm.Cond.code yX_versionToReplace bX_versionToReplace 3 (some .int) ∈ Tw := Tw_in (List.mem_of_getElem? (i := 303) (by decide +kernel)) (by decide +kernel)
theorem tw_304 : Jvm.Cond.methodLink "AsOfLedger" 102 yX_currentVersion ∈ Tw := Tw_in (List.mem_of_getElem? (i := 304) (by decide +kernel)) (by decide +kernel)
theorem tw_306 : Jvm.Cond.instanceMethod yX_currentVersion ∈ Tw := Tw_in (List.mem_of_getElem? (i := 306) (by decide +kernel)) (by decide +kernel)
theorem tw_307 : Jvm.Cond.code yX_currentVersion bX_currentVersion 4 (some .int) ∈ Tw := Tw_in (List.mem_of_getElem? (i := 307) (by decide +kernel)) (by decide +kernel)
theorem tw_324 : Jvm.Cond.methodLink "AsOfLedger" 63 yX_replace ∈ Tw := Tw_in (List.mem_of_getElem? (i := 324) (by decide +kernel)) (by decide +kernel)
theorem tw_326 : Jvm.Cond.instanceMethod yX_replace ∈ Tw := Tw_in (List.mem_of_getElem? (i := 326) (by decide +kernel)) (by decide +kernel)
theorem tw_327 : Jvm.Cond.code yX_replace bX_replace 5 (some .int) ∈ Tw := Tw_in (List.mem_of_getElem? (i := 327) (by decide +kernel)) (by decide +kernel)
theorem tw_331 : Jvm.Cond.methodLink "AsOfLedgerLaw" 27 yX_annul ∈ Tw := Tw_in (List.mem_of_getElem? (i := 331) (by decide +kernel)) (by decide +kernel)
theorem tw_332 : Jvm.Cond.instanceMethod yX_annul ∈ Tw := Tw_in (List.mem_of_getElem? (i := 332) (by decide +kernel)) (by decide +kernel)
theorem tw_333 : Jvm.Cond.selects "AsOfLedger" yX_annul yX_annul ∈ Tw := Tw_in (List.mem_of_getElem? (i := 333) (by decide +kernel)) (by decide +kernel)
theorem tw_334 : Jvm.Cond.code yX_annul bX_annul 3 (some .int) ∈ Tw := Tw_in (List.mem_of_getElem? (i := 334) (by decide +kernel)) (by decide +kernel)
theorem tw_338 : Jvm.Cond.methodLink "AsOfLedgerLaw" 31 yX_balance ∈ Tw := Tw_in (List.mem_of_getElem? (i := 338) (by decide +kernel)) (by decide +kernel)
theorem tw_339 : Jvm.Cond.instanceMethod yX_balance ∈ Tw := Tw_in (List.mem_of_getElem? (i := 339) (by decide +kernel)) (by decide +kernel)
theorem tw_340 : Jvm.Cond.selects "AsOfLedger" yX_balance yX_balance ∈ Tw := Tw_in (List.mem_of_getElem? (i := 340) (by decide +kernel)) (by decide +kernel)
theorem tw_341 : Jvm.Cond.code yX_balance bX_balance 4 (some .int) ∈ Tw := Tw_in (List.mem_of_getElem? (i := 341) (by decide +kernel)) (by decide +kernel)
theorem tw_342 : Jvm.Cond.methodLink "AsOfLedger" 67 yX_isTime ∈ Tw := Tw_in (List.mem_of_getElem? (i := 342) (by decide +kernel)) (by decide +kernel)
theorem tw_344 : Jvm.Cond.instanceMethod yX_isTime ∈ Tw := Tw_in (List.mem_of_getElem? (i := 344) (by decide +kernel)) (by decide +kernel)
theorem tw_345 : Jvm.Cond.code yX_isTime bX_isTime 2 (some .boolean) ∈ Tw := Tw_in (List.mem_of_getElem? (i := 345) (by decide +kernel)) (by decide +kernel)
theorem tw_346 : Jvm.Cond.methodLink "AsOfLedger" 70 yX_balanceOf ∈ Tw := Tw_in (List.mem_of_getElem? (i := 346) (by decide +kernel)) (by decide +kernel)
theorem tw_348 : Jvm.Cond.instanceMethod yX_balanceOf ∈ Tw := Tw_in (List.mem_of_getElem? (i := 348) (by decide +kernel)) (by decide +kernel)
theorem tw_349 : Jvm.Cond.code yX_balanceOf bX_balanceOf 6 (some .int) ∈ Tw := Tw_in (List.mem_of_getElem? (i := 349) (by decide +kernel)) (by decide +kernel)
theorem tw_350 : Jvm.Cond.methodLink "AsOfLedger" 96 yX_movedBy ∈ Tw := Tw_in (List.mem_of_getElem? (i := 350) (by decide +kernel)) (by decide +kernel)
theorem tw_352 : Jvm.Cond.instanceMethod yX_movedBy ∈ Tw := Tw_in (List.mem_of_getElem? (i := 352) (by decide +kernel)) (by decide +kernel)
theorem tw_353 : Jvm.Cond.code yX_movedBy bX_movedBy 3 (some .int) ∈ Tw := Tw_in (List.mem_of_getElem? (i := 353) (by decide +kernel)) (by decide +kernel)
theorem tw_357 : Jvm.Cond.methodLink "AsOfLedgerLaw" 35 yX_trial ∈ Tw := Tw_in (List.mem_of_getElem? (i := 357) (by decide +kernel)) (by decide +kernel)
theorem tw_358 : Jvm.Cond.instanceMethod yX_trial ∈ Tw := Tw_in (List.mem_of_getElem? (i := 358) (by decide +kernel)) (by decide +kernel)
theorem tw_359 : Jvm.Cond.selects "AsOfLedger" yX_trial yX_trial ∈ Tw := Tw_in (List.mem_of_getElem? (i := 359) (by decide +kernel)) (by decide +kernel)
theorem tw_360 : Jvm.Cond.code yX_trial bX_trial 5 (some .int) ∈ Tw := Tw_in (List.mem_of_getElem? (i := 360) (by decide +kernel)) (by decide +kernel)
theorem tw_364 : Jvm.Cond.methodLink "AsOfLedgerLaw" 38 yX_turnover ∈ Tw := Tw_in (List.mem_of_getElem? (i := 364) (by decide +kernel)) (by decide +kernel)
theorem tw_365 : Jvm.Cond.instanceMethod yX_turnover ∈ Tw := Tw_in (List.mem_of_getElem? (i := 365) (by decide +kernel)) (by decide +kernel)
theorem tw_366 : Jvm.Cond.selects "AsOfLedger" yX_turnover yX_turnover ∈ Tw := Tw_in (List.mem_of_getElem? (i := 366) (by decide +kernel)) (by decide +kernel)
theorem tw_367 : Jvm.Cond.code yX_turnover bX_turnover 2 (some .int) ∈ Tw := Tw_in (List.mem_of_getElem? (i := 367) (by decide +kernel)) (by decide +kernel)
theorem tw_371 : Jvm.Cond.methodLink "AsOfLedgerLaw" 41 yX_open ∈ Tw := Tw_in (List.mem_of_getElem? (i := 371) (by decide +kernel)) (by decide +kernel)
theorem tw_372 : Jvm.Cond.instanceMethod yX_open ∈ Tw := Tw_in (List.mem_of_getElem? (i := 372) (by decide +kernel)) (by decide +kernel)
theorem tw_373 : Jvm.Cond.selects "AsOfLedger" yX_open yX_open ∈ Tw := Tw_in (List.mem_of_getElem? (i := 373) (by decide +kernel)) (by decide +kernel)
theorem tw_374 : Jvm.Cond.code yX_open bX_open 7 (some .int) ∈ Tw := Tw_in (List.mem_of_getElem? (i := 374) (by decide +kernel)) (by decide +kernel)
theorem tw_375 : Jvm.Cond.methodLink "AsOfLedger" 92 yX_insertIntoCursor ∈ Tw := Tw_in (List.mem_of_getElem? (i := 375) (by decide +kernel)) (by decide +kernel)
theorem tw_377 : Jvm.Cond.instanceMethod yX_insertIntoCursor ∈ Tw := Tw_in (List.mem_of_getElem? (i := 377) (by decide +kernel)) (by decide +kernel)
theorem tw_378 : Jvm.Cond.code yX_insertIntoCursor bX_insertIntoCursor 3 none ∈ Tw := Tw_in (List.mem_of_getElem? (i := 378) (by decide +kernel)) (by decide +kernel)
theorem tw_379 : Jvm.Cond.methodLink "AsOfLedger" 155 yX_comesBefore ∈ Tw := Tw_in (List.mem_of_getElem? (i := 379) (by decide +kernel)) (by decide +kernel)
theorem tw_381 : Jvm.Cond.instanceMethod yX_comesBefore ∈ Tw := Tw_in (List.mem_of_getElem? (i := 381) (by decide +kernel)) (by decide +kernel)
theorem tw_382 : Jvm.Cond.code yX_comesBefore bX_comesBefore 4 (some .boolean) ∈ Tw := Tw_in (List.mem_of_getElem? (i := 382) (by decide +kernel)) (by decide +kernel)
theorem tw_383 : Jvm.Cond.methodLink "AsOfLedger" 158 yI_compare ∈ Tw := Tw_in (List.mem_of_getElem? (i := 383) (by decide +kernel)) (by decide +kernel)
theorem tw_384 : Jvm.Cond.static yI_compare ∈ Tw := Tw_in (List.mem_of_getElem? (i := 384) (by decide +kernel)) (by decide +kernel)
theorem tw_385 : Jvm.Cond.code yI_compare bI_compare 2 (some .int) ∈ Tw := Tw_in (List.mem_of_getElem? (i := 385) (by decide +kernel)) (by decide +kernel)
theorem tw_389 : Jvm.Cond.methodLink "AsOfLedgerLaw" 44 yX_next ∈ Tw := Tw_in (List.mem_of_getElem? (i := 389) (by decide +kernel)) (by decide +kernel)
theorem tw_390 : Jvm.Cond.instanceMethod yX_next ∈ Tw := Tw_in (List.mem_of_getElem? (i := 390) (by decide +kernel)) (by decide +kernel)
theorem tw_391 : Jvm.Cond.selects "AsOfLedger" yX_next yX_next ∈ Tw := Tw_in (List.mem_of_getElem? (i := 391) (by decide +kernel)) (by decide +kernel)
theorem tw_392 : Jvm.Cond.code yX_next bX_next 1 (some .int) ∈ Tw := Tw_in (List.mem_of_getElem? (i := 392) (by decide +kernel)) (by decide +kernel)
theorem tw_396 : Jvm.Cond.methodLink "AsOfLedgerLaw" 48 yX_moved ∈ Tw := Tw_in (List.mem_of_getElem? (i := 396) (by decide +kernel)) (by decide +kernel)
theorem tw_397 : Jvm.Cond.instanceMethod yX_moved ∈ Tw := Tw_in (List.mem_of_getElem? (i := 397) (by decide +kernel)) (by decide +kernel)
theorem tw_398 : Jvm.Cond.selects "AsOfLedger" yX_moved yX_moved ∈ Tw := Tw_in (List.mem_of_getElem? (i := 398) (by decide +kernel)) (by decide +kernel)
theorem tw_399 : Jvm.Cond.code yX_moved bX_moved 1 (some .int) ∈ Tw := Tw_in (List.mem_of_getElem? (i := 399) (by decide +kernel)) (by decide +kernel)
theorem tw_403 : Jvm.Cond.methodLink "AsOfLedgerLaw" 51 yX_field ∈ Tw := Tw_in (List.mem_of_getElem? (i := 403) (by decide +kernel)) (by decide +kernel)
theorem tw_404 : Jvm.Cond.instanceMethod yX_field ∈ Tw := Tw_in (List.mem_of_getElem? (i := 404) (by decide +kernel)) (by decide +kernel)
theorem tw_405 : Jvm.Cond.selects "AsOfLedger" yX_field yX_field ∈ Tw := Tw_in (List.mem_of_getElem? (i := 405) (by decide +kernel)) (by decide +kernel)
theorem tw_406 : Jvm.Cond.code yX_field bX_field 5 (some .int) ∈ Tw := Tw_in (List.mem_of_getElem? (i := 406) (by decide +kernel)) (by decide +kernel)
theorem tw_410 : Jvm.Cond.methodLink "AsOfLedgerLaw" 54 yX_entries ∈ Tw := Tw_in (List.mem_of_getElem? (i := 410) (by decide +kernel)) (by decide +kernel)
theorem tw_411 : Jvm.Cond.instanceMethod yX_entries ∈ Tw := Tw_in (List.mem_of_getElem? (i := 411) (by decide +kernel)) (by decide +kernel)
theorem tw_412 : Jvm.Cond.selects "AsOfLedger" yX_entries yX_entries ∈ Tw := Tw_in (List.mem_of_getElem? (i := 412) (by decide +kernel)) (by decide +kernel)
theorem tw_413 : Jvm.Cond.code yX_entries bX_entries 1 (some .int) ∈ Tw := Tw_in (List.mem_of_getElem? (i := 413) (by decide +kernel)) (by decide +kernel)
theorem tw_420 : Jvm.Cond.fieldLink "AsOfLedgerModel" 23 "AsOfLedgerModel" "code" "I" ∈ Tw := Tw_in (List.mem_of_getElem? (i := 420) (by decide +kernel)) (by decide +kernel)
theorem tw_421 : Jvm.Cond.fieldLink "AsOfLedgerModel" 65 "AsOfLedgerModel" "touched" "Z" ∈ Tw := Tw_in (List.mem_of_getElem? (i := 421) (by decide +kernel)) (by decide +kernel)
theorem tw_422 : Jvm.Cond.fieldLink "AsOfLedgerModel" 27 "AsOfLedgerModel" "clock" "I" ∈ Tw := Tw_in (List.mem_of_getElem? (i := 422) (by decide +kernel)) (by decide +kernel)
theorem tw_423 : Jvm.Cond.fieldLink "AsOfLedgerModel" 42 "AsOfLedgerModel" "entries" "I" ∈ Tw := Tw_in (List.mem_of_getElem? (i := 423) (by decide +kernel)) (by decide +kernel)
theorem tw_424 : Jvm.Cond.fieldLink "AsOfLedgerModel" 7 "AsOfLedgerModel" "words" "[I" ∈ Tw := Tw_in (List.mem_of_getElem? (i := 424) (by decide +kernel)) (by decide +kernel)
theorem tw_425 : Jvm.Cond.fieldLink "AsOfLedgerModel" 13 "AsOfLedgerModel" "links" "[J" ∈ Tw := Tw_in (List.mem_of_getElem? (i := 425) (by decide +kernel)) (by decide +kernel)
theorem tw_426 : Jvm.Cond.fieldLink "AsOfLedgerModel" 95 "AsOfLedgerModel" "count" "I" ∈ Tw := Tw_in (List.mem_of_getElem? (i := 426) (by decide +kernel)) (by decide +kernel)
theorem tw_427 : Jvm.Cond.fieldLink "AsOfLedgerModel" 98 "AsOfLedgerModel" "at" "I" ∈ Tw := Tw_in (List.mem_of_getElem? (i := 427) (by decide +kernel)) (by decide +kernel)
theorem tw_428 : Jvm.Cond.fieldLink "AsOfLedgerModel" 101 "AsOfLedgerModel" "answered" "Z" ∈ Tw := Tw_in (List.mem_of_getElem? (i := 428) (by decide +kernel)) (by decide +kernel)
theorem tw_429 : Jvm.Cond.fieldLink "AsOfLedgerModel" 17 "AsOfLedgerModel" "list" "[I" ∈ Tw := Tw_in (List.mem_of_getElem? (i := 429) (by decide +kernel)) (by decide +kernel)
theorem tw_430 : Jvm.Cond.fieldLink "AsOfLedgerModel" 20 "AsOfLedgerModel" "puts" "[I" ∈ Tw := Tw_in (List.mem_of_getElem? (i := 430) (by decide +kernel)) (by decide +kernel)
theorem tw_454 : Jvm.Cond.methodLink "AsOfLedgerLaw" 67 yM_thrown ∈ Tw := Tw_in (List.mem_of_getElem? (i := 454) (by decide +kernel)) (by decide +kernel)
theorem tw_455 : Jvm.Cond.instanceMethod yM_thrown ∈ Tw := Tw_in (List.mem_of_getElem? (i := 455) (by decide +kernel)) (by decide +kernel)
theorem tw_456 : Jvm.Cond.selects "AsOfLedgerModel" yM_thrown yM_thrown ∈ Tw := Tw_in (List.mem_of_getElem? (i := 456) (by decide +kernel)) (by decide +kernel)
theorem tw_457 : Jvm.Cond.code yM_thrown bM_thrown 1 (some .int) ∈ Tw := Tw_in (List.mem_of_getElem? (i := 457) (by decide +kernel)) (by decide +kernel)
theorem tw_458 : Jvm.Cond.methodLink "AsOfLedgerLaw" 66 yM_post ∈ Tw := Tw_in (List.mem_of_getElem? (i := 458) (by decide +kernel)) (by decide +kernel)
theorem tw_459 : Jvm.Cond.instanceMethod yM_post ∈ Tw := Tw_in (List.mem_of_getElem? (i := 459) (by decide +kernel)) (by decide +kernel)
theorem tw_460 : Jvm.Cond.selects "AsOfLedgerModel" yM_post yM_post ∈ Tw := Tw_in (List.mem_of_getElem? (i := 460) (by decide +kernel)) (by decide +kernel)
theorem tw_461 : Jvm.Cond.code yM_post bM_post 6 (some .int) ∈ Tw := Tw_in (List.mem_of_getElem? (i := 461) (by decide +kernel)) (by decide +kernel)
theorem tw_462 : Jvm.Cond.methodLink "AsOfLedgerModel" 69 yM_isAccount ∈ Tw := Tw_in (List.mem_of_getElem? (i := 462) (by decide +kernel)) (by decide +kernel)
theorem tw_463 : Jvm.Cond.static yM_isAccount ∈ Tw := Tw_in (List.mem_of_getElem? (i := 463) (by decide +kernel)) (by decide +kernel)
theorem tw_464 : Jvm.Cond.code yM_isAccount bM_isAccount 1 (some .boolean) ∈ Tw := Tw_in (List.mem_of_getElem? (i := 464) (by decide +kernel)) (by decide +kernel)
theorem tw_465 : Jvm.Cond.methodLink "AsOfLedgerModel" 73 yM_isDay ∈ Tw := Tw_in (List.mem_of_getElem? (i := 465) (by decide +kernel)) (by decide +kernel)
theorem tw_466 : Jvm.Cond.static yM_isDay ∈ Tw := Tw_in (List.mem_of_getElem? (i := 466) (by decide +kernel)) (by decide +kernel)
theorem tw_467 : Jvm.Cond.code yM_isDay bM_isDay 1 (some .boolean) ∈ Tw := Tw_in (List.mem_of_getElem? (i := 467) (by decide +kernel)) (by decide +kernel)
theorem tw_468 : Jvm.Cond.methodLink "AsOfLedgerModel" 76 yM_tooMuch ∈ Tw := Tw_in (List.mem_of_getElem? (i := 468) (by decide +kernel)) (by decide +kernel)
theorem tw_470 : Jvm.Cond.instanceMethod yM_tooMuch ∈ Tw := Tw_in (List.mem_of_getElem? (i := 470) (by decide +kernel)) (by decide +kernel)
theorem tw_471 : Jvm.Cond.code yM_tooMuch bM_tooMuch 4 (some .boolean) ∈ Tw := Tw_in (List.mem_of_getElem? (i := 471) (by decide +kernel)) (by decide +kernel)
theorem tw_472 : Jvm.Cond.methodLink "AsOfLedgerModel" 48 yM_turnoverNow ∈ Tw := Tw_in (List.mem_of_getElem? (i := 472) (by decide +kernel)) (by decide +kernel)
theorem tw_474 : Jvm.Cond.instanceMethod yM_turnoverNow ∈ Tw := Tw_in (List.mem_of_getElem? (i := 474) (by decide +kernel)) (by decide +kernel)
theorem tw_475 : Jvm.Cond.code yM_turnoverNow bM_turnoverNow 7 (some .long) ∈ Tw := Tw_in (List.mem_of_getElem? (i := 475) (by decide +kernel)) (by decide +kernel)
theorem tw_476 : Jvm.Cond.methodLink "AsOfLedgerModel" 45 yM_currentAt ∈ Tw := Tw_in (List.mem_of_getElem? (i := 476) (by decide +kernel)) (by decide +kernel)
theorem tw_478 : Jvm.Cond.instanceMethod yM_currentAt ∈ Tw := Tw_in (List.mem_of_getElem? (i := 478) (by decide +kernel)) (by decide +kernel)
theorem tw_479 : Jvm.Cond.code yM_currentAt bM_currentAt 4 (some .int) ∈ Tw := Tw_in (List.mem_of_getElem? (i := 479) (by decide +kernel)) (by decide +kernel)
theorem tw_480 : Jvm.Cond.methodLink "AsOfLedgerModel" 30 yM_word ∈ Tw := Tw_in (List.mem_of_getElem? (i := 480) (by decide +kernel)) (by decide +kernel)
theorem tw_482 : Jvm.Cond.instanceMethod yM_word ∈ Tw := Tw_in (List.mem_of_getElem? (i := 482) (by decide +kernel)) (by decide +kernel)
theorem tw_483 : Jvm.Cond.code yM_word bM_word 3 (some .int) ∈ Tw := Tw_in (List.mem_of_getElem? (i := 483) (by decide +kernel)) (by decide +kernel)
theorem tw_484 : Jvm.Cond.constantLong "AsOfLedgerModel" 52 2147483647 ∈ Tw := Tw_in (List.mem_of_getElem? (i := 484) (by decide +kernel)) (by decide +kernel)
theorem tw_485 : Jvm.Cond.methodLink "AsOfLedgerModel" 80 yM_add ∈ Tw := Tw_in (List.mem_of_getElem? (i := 485) (by decide +kernel)) (by decide +kernel)
theorem tw_487 : Jvm.Cond.instanceMethod yM_add ∈ Tw := Tw_in (List.mem_of_getElem? (i := 487) (by decide +kernel)) (by decide +kernel)
theorem tw_488 : Jvm.Cond.code yM_add bM_add 7 (some .int) ∈ Tw := Tw_in (List.mem_of_getElem? (i := 488) (by decide +kernel)) (by decide +kernel)
theorem tw_489 : Jvm.Cond.methodLink "AsOfLedgerModel" 54 yM_write ∈ Tw := Tw_in (List.mem_of_getElem? (i := 489) (by decide +kernel)) (by decide +kernel)
theorem tw_491 : Jvm.Cond.instanceMethod yM_write ∈ Tw := Tw_in (List.mem_of_getElem? (i := 491) (by decide +kernel)) (by decide +kernel)
theorem tw_492 : Jvm.Cond.code yM_write bM_write 3 none ∈ Tw := Tw_in (List.mem_of_getElem? (i := 492) (by decide +kernel)) (by decide +kernel)
theorem tw_493 : Jvm.Cond.methodLink "AsOfLedgerModel" 58 yM_linkBefore ∈ Tw := Tw_in (List.mem_of_getElem? (i := 493) (by decide +kernel)) (by decide +kernel)
theorem tw_495 : Jvm.Cond.instanceMethod yM_linkBefore ∈ Tw := Tw_in (List.mem_of_getElem? (i := 495) (by decide +kernel)) (by decide +kernel)
theorem tw_496 : Jvm.Cond.code yM_linkBefore bM_linkBefore 2 (some .long) ∈ Tw := Tw_in (List.mem_of_getElem? (i := 496) (by decide +kernel)) (by decide +kernel)
theorem tw_497 : Jvm.Cond.constantLong "AsOfLedgerModel" 40 1469598103 ∈ Tw := Tw_in (List.mem_of_getElem? (i := 497) (by decide +kernel)) (by decide +kernel)
theorem tw_498 : Jvm.Cond.methodLink "AsOfLedgerModel" 61 yM_linkOf ∈ Tw := Tw_in (List.mem_of_getElem? (i := 498) (by decide +kernel)) (by decide +kernel)
theorem tw_500 : Jvm.Cond.instanceMethod yM_linkOf ∈ Tw := Tw_in (List.mem_of_getElem? (i := 500) (by decide +kernel)) (by decide +kernel)
theorem tw_501 : Jvm.Cond.code yM_linkOf bM_linkOf 7 (some .long) ∈ Tw := Tw_in (List.mem_of_getElem? (i := 501) (by decide +kernel)) (by decide +kernel)
theorem tw_502 : Jvm.Cond.methodLink "AsOfLedgerModel" 36 yM_follow ∈ Tw := Tw_in (List.mem_of_getElem? (i := 502) (by decide +kernel)) (by decide +kernel)
theorem tw_503 : Jvm.Cond.static yM_follow ∈ Tw := Tw_in (List.mem_of_getElem? (i := 503) (by decide +kernel)) (by decide +kernel)
theorem tw_504 : Jvm.Cond.code yM_follow bM_follow 3 (some .long) ∈ Tw := Tw_in (List.mem_of_getElem? (i := 504) (by decide +kernel)) (by decide +kernel)
theorem tw_505 : Jvm.Cond.constantLong "AsOfLedgerModel" 34 2685821657736338717 ∈ Tw := Tw_in (List.mem_of_getElem? (i := 505) (by decide +kernel)) (by decide +kernel)
theorem tw_506 : Jvm.Cond.methodLink "AsOfLedgerLaw" 73 yM_correct ∈ Tw := Tw_in (List.mem_of_getElem? (i := 506) (by decide +kernel)) (by decide +kernel)
theorem tw_507 : Jvm.Cond.instanceMethod yM_correct ∈ Tw := Tw_in (List.mem_of_getElem? (i := 507) (by decide +kernel)) (by decide +kernel)
theorem tw_508 : Jvm.Cond.selects "AsOfLedgerModel" yM_correct yM_correct ∈ Tw := Tw_in (List.mem_of_getElem? (i := 508) (by decide +kernel)) (by decide +kernel)
theorem tw_509 : Jvm.Cond.code yM_correct bM_correct 6 (some .int) ∈ Tw := Tw_in (List.mem_of_getElem? (i := 509) (by decide +kernel)) (by decide +kernel)
theorem tw_510 : Jvm.Cond.methodLink "AsOfLedgerModel" 84 yM_living ∈ Tw := Tw_in (List.mem_of_getElem? (i := 510) (by decide +kernel)) (by decide +kernel)
theorem tw_512 : Jvm.Cond.instanceMethod yM_living ∈ Tw := Tw_in (List.mem_of_getElem? (i := 512) (by decide +kernel)) (by decide +kernel)
theorem tw_513 : Jvm.Cond.code yM_living bM_living 3 (some .int) ∈ Tw := Tw_in (List.mem_of_getElem? (i := 513) (by decide +kernel)) (by decide +kernel)
theorem tw_514 : Jvm.Cond.methodLink "AsOfLedgerLaw" 77 yM_annul ∈ Tw := Tw_in (List.mem_of_getElem? (i := 514) (by decide +kernel)) (by decide +kernel)
theorem tw_515 : Jvm.Cond.instanceMethod yM_annul ∈ Tw := Tw_in (List.mem_of_getElem? (i := 515) (by decide +kernel)) (by decide +kernel)
theorem tw_516 : Jvm.Cond.selects "AsOfLedgerModel" yM_annul yM_annul ∈ Tw := Tw_in (List.mem_of_getElem? (i := 516) (by decide +kernel)) (by decide +kernel)
theorem tw_517 : Jvm.Cond.code yM_annul bM_annul 3 (some .int) ∈ Tw := Tw_in (List.mem_of_getElem? (i := 517) (by decide +kernel)) (by decide +kernel)
theorem tw_518 : Jvm.Cond.methodLink "AsOfLedgerLaw" 81 yM_balance ∈ Tw := Tw_in (List.mem_of_getElem? (i := 518) (by decide +kernel)) (by decide +kernel)
theorem tw_519 : Jvm.Cond.instanceMethod yM_balance ∈ Tw := Tw_in (List.mem_of_getElem? (i := 519) (by decide +kernel)) (by decide +kernel)
theorem tw_520 : Jvm.Cond.selects "AsOfLedgerModel" yM_balance yM_balance ∈ Tw := Tw_in (List.mem_of_getElem? (i := 520) (by decide +kernel)) (by decide +kernel)
theorem tw_521 : Jvm.Cond.code yM_balance bM_balance 4 (some .int) ∈ Tw := Tw_in (List.mem_of_getElem? (i := 521) (by decide +kernel)) (by decide +kernel)
theorem tw_522 : Jvm.Cond.methodLink "AsOfLedgerModel" 88 yM_isTime ∈ Tw := Tw_in (List.mem_of_getElem? (i := 522) (by decide +kernel)) (by decide +kernel)
theorem tw_524 : Jvm.Cond.instanceMethod yM_isTime ∈ Tw := Tw_in (List.mem_of_getElem? (i := 524) (by decide +kernel)) (by decide +kernel)
theorem tw_525 : Jvm.Cond.code yM_isTime bM_isTime 2 (some .boolean) ∈ Tw := Tw_in (List.mem_of_getElem? (i := 525) (by decide +kernel)) (by decide +kernel)
theorem tw_526 : Jvm.Cond.methodLink "AsOfLedgerModel" 91 yM_balanceAt ∈ Tw := Tw_in (List.mem_of_getElem? (i := 526) (by decide +kernel)) (by decide +kernel)
theorem tw_528 : Jvm.Cond.instanceMethod yM_balanceAt ∈ Tw := Tw_in (List.mem_of_getElem? (i := 528) (by decide +kernel)) (by decide +kernel)
theorem tw_529 : Jvm.Cond.code yM_balanceAt bM_balanceAt 8 (some .int) ∈ Tw := Tw_in (List.mem_of_getElem? (i := 529) (by decide +kernel)) (by decide +kernel)
theorem tw_530 : Jvm.Cond.methodLink "AsOfLedgerLaw" 84 yM_trial ∈ Tw := Tw_in (List.mem_of_getElem? (i := 530) (by decide +kernel)) (by decide +kernel)
theorem tw_531 : Jvm.Cond.instanceMethod yM_trial ∈ Tw := Tw_in (List.mem_of_getElem? (i := 531) (by decide +kernel)) (by decide +kernel)
theorem tw_532 : Jvm.Cond.selects "AsOfLedgerModel" yM_trial yM_trial ∈ Tw := Tw_in (List.mem_of_getElem? (i := 532) (by decide +kernel)) (by decide +kernel)
theorem tw_533 : Jvm.Cond.code yM_trial bM_trial 5 (some .int) ∈ Tw := Tw_in (List.mem_of_getElem? (i := 533) (by decide +kernel)) (by decide +kernel)
theorem tw_534 : Jvm.Cond.methodLink "AsOfLedgerLaw" 87 yM_turnover ∈ Tw := Tw_in (List.mem_of_getElem? (i := 534) (by decide +kernel)) (by decide +kernel)
theorem tw_535 : Jvm.Cond.instanceMethod yM_turnover ∈ Tw := Tw_in (List.mem_of_getElem? (i := 535) (by decide +kernel)) (by decide +kernel)
theorem tw_536 : Jvm.Cond.selects "AsOfLedgerModel" yM_turnover yM_turnover ∈ Tw := Tw_in (List.mem_of_getElem? (i := 536) (by decide +kernel)) (by decide +kernel)
theorem tw_537 : Jvm.Cond.code yM_turnover bM_turnover 2 (some .int) ∈ Tw := Tw_in (List.mem_of_getElem? (i := 537) (by decide +kernel)) (by decide +kernel)
theorem tw_538 : Jvm.Cond.methodLink "AsOfLedgerLaw" 90 yM_open ∈ Tw := Tw_in (List.mem_of_getElem? (i := 538) (by decide +kernel)) (by decide +kernel)
theorem tw_539 : Jvm.Cond.instanceMethod yM_open ∈ Tw := Tw_in (List.mem_of_getElem? (i := 539) (by decide +kernel)) (by decide +kernel)
theorem tw_540 : Jvm.Cond.selects "AsOfLedgerModel" yM_open yM_open ∈ Tw := Tw_in (List.mem_of_getElem? (i := 540) (by decide +kernel)) (by decide +kernel)
theorem tw_541 : Jvm.Cond.code yM_open bM_open 8 (some .int) ∈ Tw := Tw_in (List.mem_of_getElem? (i := 541) (by decide +kernel)) (by decide +kernel)
theorem tw_542 : Jvm.Cond.methodLink "AsOfLedgerModel" 104 yM_belongs ∈ Tw := Tw_in (List.mem_of_getElem? (i := 542) (by decide +kernel)) (by decide +kernel)
theorem tw_544 : Jvm.Cond.instanceMethod yM_belongs ∈ Tw := Tw_in (List.mem_of_getElem? (i := 544) (by decide +kernel)) (by decide +kernel)
theorem tw_545 : Jvm.Cond.code yM_belongs bM_belongs 3 (some .boolean) ∈ Tw := Tw_in (List.mem_of_getElem? (i := 545) (by decide +kernel)) (by decide +kernel)
theorem tw_546 : Jvm.Cond.methodLink "AsOfLedgerLaw" 94 yM_next ∈ Tw := Tw_in (List.mem_of_getElem? (i := 546) (by decide +kernel)) (by decide +kernel)
theorem tw_547 : Jvm.Cond.instanceMethod yM_next ∈ Tw := Tw_in (List.mem_of_getElem? (i := 547) (by decide +kernel)) (by decide +kernel)
theorem tw_548 : Jvm.Cond.selects "AsOfLedgerModel" yM_next yM_next ∈ Tw := Tw_in (List.mem_of_getElem? (i := 548) (by decide +kernel)) (by decide +kernel)
theorem tw_549 : Jvm.Cond.code yM_next bM_next 1 (some .int) ∈ Tw := Tw_in (List.mem_of_getElem? (i := 549) (by decide +kernel)) (by decide +kernel)
theorem tw_550 : Jvm.Cond.methodLink "AsOfLedgerLaw" 97 yM_moved ∈ Tw := Tw_in (List.mem_of_getElem? (i := 550) (by decide +kernel)) (by decide +kernel)
theorem tw_551 : Jvm.Cond.instanceMethod yM_moved ∈ Tw := Tw_in (List.mem_of_getElem? (i := 551) (by decide +kernel)) (by decide +kernel)
theorem tw_552 : Jvm.Cond.selects "AsOfLedgerModel" yM_moved yM_moved ∈ Tw := Tw_in (List.mem_of_getElem? (i := 552) (by decide +kernel)) (by decide +kernel)
theorem tw_553 : Jvm.Cond.code yM_moved bM_moved 1 (some .int) ∈ Tw := Tw_in (List.mem_of_getElem? (i := 553) (by decide +kernel)) (by decide +kernel)
theorem tw_554 : Jvm.Cond.methodLink "AsOfLedgerLaw" 100 yM_field ∈ Tw := Tw_in (List.mem_of_getElem? (i := 554) (by decide +kernel)) (by decide +kernel)
theorem tw_555 : Jvm.Cond.instanceMethod yM_field ∈ Tw := Tw_in (List.mem_of_getElem? (i := 555) (by decide +kernel)) (by decide +kernel)
theorem tw_556 : Jvm.Cond.selects "AsOfLedgerModel" yM_field yM_field ∈ Tw := Tw_in (List.mem_of_getElem? (i := 556) (by decide +kernel)) (by decide +kernel)
theorem tw_557 : Jvm.Cond.code yM_field bM_field 6 (some .int) ∈ Tw := Tw_in (List.mem_of_getElem? (i := 557) (by decide +kernel)) (by decide +kernel)
theorem tw_558 : Jvm.Cond.methodLink "AsOfLedgerLaw" 103 yM_entries ∈ Tw := Tw_in (List.mem_of_getElem? (i := 558) (by decide +kernel)) (by decide +kernel)
theorem tw_559 : Jvm.Cond.instanceMethod yM_entries ∈ Tw := Tw_in (List.mem_of_getElem? (i := 559) (by decide +kernel)) (by decide +kernel)
theorem tw_560 : Jvm.Cond.selects "AsOfLedgerModel" yM_entries yM_entries ∈ Tw := Tw_in (List.mem_of_getElem? (i := 560) (by decide +kernel)) (by decide +kernel)
theorem tw_561 : Jvm.Cond.code yM_entries bM_entries 1 (some .int) ∈ Tw := Tw_in (List.mem_of_getElem? (i := 561) (by decide +kernel)) (by decide +kernel)
theorem tw_562 : Jvm.Cond.methodLink "AsOfLedgerLaw" 107 yM_clock ∈ Tw := Tw_in (List.mem_of_getElem? (i := 562) (by decide +kernel)) (by decide +kernel)
theorem tw_563 : Jvm.Cond.instanceMethod yM_clock ∈ Tw := Tw_in (List.mem_of_getElem? (i := 563) (by decide +kernel)) (by decide +kernel)
theorem tw_564 : Jvm.Cond.selects "AsOfLedgerModel" yM_clock yM_clock ∈ Tw := Tw_in (List.mem_of_getElem? (i := 564) (by decide +kernel)) (by decide +kernel)
theorem tw_565 : Jvm.Cond.code yM_clock bM_clock 1 (some .int) ∈ Tw := Tw_in (List.mem_of_getElem? (i := 565) (by decide +kernel)) (by decide +kernel)
theorem tw_566 : Jvm.Cond.methodLink "AsOfLedgerLaw" 112 yM_head ∈ Tw := Tw_in (List.mem_of_getElem? (i := 566) (by decide +kernel)) (by decide +kernel)
theorem tw_567 : Jvm.Cond.instanceMethod yM_head ∈ Tw := Tw_in (List.mem_of_getElem? (i := 567) (by decide +kernel)) (by decide +kernel)
theorem tw_568 : Jvm.Cond.selects "AsOfLedgerModel" yM_head yM_head ∈ Tw := Tw_in (List.mem_of_getElem? (i := 568) (by decide +kernel)) (by decide +kernel)
theorem tw_569 : Jvm.Cond.code yM_head bM_head 1 (some .long) ∈ Tw := Tw_in (List.mem_of_getElem? (i := 569) (by decide +kernel)) (by decide +kernel)
theorem tw_570 : Jvm.Cond.methodLink "AsOfLedgerLaw" 116 yM_verify ∈ Tw := Tw_in (List.mem_of_getElem? (i := 570) (by decide +kernel)) (by decide +kernel)
theorem tw_571 : Jvm.Cond.instanceMethod yM_verify ∈ Tw := Tw_in (List.mem_of_getElem? (i := 571) (by decide +kernel)) (by decide +kernel)
theorem tw_572 : Jvm.Cond.selects "AsOfLedgerModel" yM_verify yM_verify ∈ Tw := Tw_in (List.mem_of_getElem? (i := 572) (by decide +kernel)) (by decide +kernel)
theorem tw_573 : Jvm.Cond.code yM_verify bM_verify 4 (some .int) ∈ Tw := Tw_in (List.mem_of_getElem? (i := 573) (by decide +kernel)) (by decide +kernel)
theorem tw_574 : Jvm.Cond.methodLink "AsOfLedgerLaw" 121 yM_tamper ∈ Tw := Tw_in (List.mem_of_getElem? (i := 574) (by decide +kernel)) (by decide +kernel)
theorem tw_575 : Jvm.Cond.instanceMethod yM_tamper ∈ Tw := Tw_in (List.mem_of_getElem? (i := 575) (by decide +kernel)) (by decide +kernel)
theorem tw_576 : Jvm.Cond.selects "AsOfLedgerModel" yM_tamper yM_tamper ∈ Tw := Tw_in (List.mem_of_getElem? (i := 576) (by decide +kernel)) (by decide +kernel)
theorem tw_577 : Jvm.Cond.code yM_tamper bM_tamper 4 (some .boolean) ∈ Tw := Tw_in (List.mem_of_getElem? (i := 577) (by decide +kernel)) (by decide +kernel)
theorem wsX : ∀ w ∈ u_ws "AsOfLedger" TX 11, w ∈ Tw := by
  have h : (u_ws "AsOfLedger" TX 11).all (fun w => decide (w ∈ lw_tbl) && zgood w) = true := by decide +kernel
  intro w hw
  have q := List.all_eq_true.mp h w hw
  simp only [Bool.and_eq_true, decide_eq_true_eq] at q
  exact Tw_in q.1 q.2
theorem zcl0 : zcl 0 "AsOfLedger" TX 11 tX := ⟨rfl, wsX, tX_ok, nX_ok⟩
theorem wsM : ∀ w ∈ u_ws "AsOfLedgerModel" TM 11, w ∈ Tw := by
  have h : (u_ws "AsOfLedgerModel" TM 11).all (fun w => decide (w ∈ lw_tbl) && zgood w) = true := by decide +kernel
  intro w hw
  have q := List.all_eq_true.mp h w hw
  simp only [Bool.and_eq_true, decide_eq_true_eq] at q
  exact Tw_in q.1 q.2
theorem zcl1 : zcl 1 "AsOfLedgerModel" TM 11 tM := ⟨rfl, wsM, tM_ok, nM_ok⟩
theorem flX_9 : zfld "AsOfLedger" 9 0 0 (.array .int) true := ⟨_, _, _, _, zcl0, by decide, tw_52, rfl, rfl⟩
theorem flX_13 : zfld "AsOfLedger" 13 0 1 (.array .long) true := ⟨_, _, _, _, zcl0, by decide, tw_53, rfl, rfl⟩
theorem flX_17 : zfld "AsOfLedger" 17 0 2 (.array .int) true := ⟨_, _, _, _, zcl0, by decide, tw_54, rfl, rfl⟩
theorem flX_20 : zfld "AsOfLedger" 20 0 6 (.array .int) true := ⟨_, _, _, _, zcl0, by decide, tw_58, rfl, rfl⟩
theorem flX_23 : zfld "AsOfLedger" 23 0 10 .int false := ⟨_, _, _, _, zcl0, by decide, tw_62, rfl, rfl⟩
theorem flX_48 : zfld "AsOfLedger" 48 0 4 .int false := ⟨_, _, _, _, zcl0, by decide, tw_56, rfl, rfl⟩
theorem flX_76 : zfld "AsOfLedger" 76 0 7 .int false := ⟨_, _, _, _, zcl0, by decide, tw_59, rfl, rfl⟩
theorem flX_79 : zfld "AsOfLedger" 79 0 8 .int false := ⟨_, _, _, _, zcl0, by decide, tw_60, rfl, rfl⟩
theorem flX_82 : zfld "AsOfLedger" 82 0 9 .int false := ⟨_, _, _, _, zcl0, by decide, tw_61, rfl, rfl⟩
theorem flX_105 : zfld "AsOfLedger" 105 0 3 .int false := ⟨_, _, _, _, zcl0, by decide, tw_55, rfl, rfl⟩
theorem flX_118 : zfld "AsOfLedger" 118 0 5 .boolean false := ⟨_, _, _, _, zcl0, by decide, tw_57, rfl, rfl⟩
theorem flM_7 : zfld "AsOfLedgerModel" 7 1 4 (.array .int) true := ⟨_, _, _, _, zcl1, by decide, tw_424, rfl, rfl⟩
theorem flM_13 : zfld "AsOfLedgerModel" 13 1 5 (.array .long) true := ⟨_, _, _, _, zcl1, by decide, tw_425, rfl, rfl⟩
theorem flM_17 : zfld "AsOfLedgerModel" 17 1 9 (.array .int) true := ⟨_, _, _, _, zcl1, by decide, tw_429, rfl, rfl⟩
theorem flM_20 : zfld "AsOfLedgerModel" 20 1 10 (.array .int) true := ⟨_, _, _, _, zcl1, by decide, tw_430, rfl, rfl⟩
theorem flM_23 : zfld "AsOfLedgerModel" 23 1 0 .int false := ⟨_, _, _, _, zcl1, by decide, tw_420, rfl, rfl⟩
theorem flM_27 : zfld "AsOfLedgerModel" 27 1 2 .int false := ⟨_, _, _, _, zcl1, by decide, tw_422, rfl, rfl⟩
theorem flM_42 : zfld "AsOfLedgerModel" 42 1 3 .int false := ⟨_, _, _, _, zcl1, by decide, tw_423, rfl, rfl⟩
theorem flM_65 : zfld "AsOfLedgerModel" 65 1 1 .boolean false := ⟨_, _, _, _, zcl1, by decide, tw_421, rfl, rfl⟩
theorem flM_95 : zfld "AsOfLedgerModel" 95 1 6 .int false := ⟨_, _, _, _, zcl1, by decide, tw_426, rfl, rfl⟩
theorem flM_98 : zfld "AsOfLedgerModel" 98 1 7 .int false := ⟨_, _, _, _, zcl1, by decide, tw_427, rfl, rfl⟩
theorem flM_101 : zfld "AsOfLedgerModel" 101 1 8 .boolean false := ⟨_, _, _, _, zcl1, by decide, tw_428, rfl, rfl⟩
theorem kX_27 : zcV "AsOfLedger" 27 yX_refuseIfTampered bX_refuseIfTampered 1 none 0 := ⟨⟨tw_139, tw_136, tw_33, ⟨by decide, by decide⟩, by decide +kernel⟩, tw_138, tw_4⟩
theorem kX_30 : zcS "AsOfLedger" 30 yX_isAccount bX_isAccount 1 (some .boolean) 1 := ⟨⟨tw_212, tw_210, tw_33, ⟨by decide, by decide⟩, by decide +kernel⟩, tw_211⟩
theorem kX_34 : zcS "AsOfLedger" 34 yX_isDay bX_isDay 1 (some .boolean) 1 := ⟨⟨tw_215, tw_213, tw_33, ⟨by decide, by decide⟩, by decide +kernel⟩, tw_214⟩
theorem kX_37 : zcS "AsOfLedger" 37 yX_refuseArgumentsUnless bX_refuseArgumentsUnless 1 none 1 := ⟨⟨tw_218, tw_216, tw_33, ⟨by decide, by decide⟩, by decide +kernel⟩, tw_217⟩
theorem kX_41 : zcV "AsOfLedger" 41 yX_refuseIfFull bX_refuseIfFull 1 none 0 := ⟨⟨tw_238, tw_235, tw_33, ⟨by decide, by decide⟩, by decide +kernel⟩, tw_237, tw_6⟩
theorem kX_44 : zcV "AsOfLedger" 44 yX_refuseIfTurnoverTooHigh bX_refuseIfTurnoverTooHigh 6 none 3 := ⟨⟨tw_258, tw_255, tw_33, ⟨by decide, by decide⟩, by decide +kernel⟩, tw_257, tw_7⟩
theorem kX_51 : zcV "AsOfLedger" 51 yX_append bX_append 9 (some .int) 6 := ⟨⟨tw_291, tw_288, tw_33, ⟨by decide, by decide⟩, by decide +kernel⟩, tw_290, tw_11⟩
theorem kX_55 : zcV "AsOfLedger" 55 yX_versionToReplace bX_versionToReplace 3 (some .int) 1 := ⟨⟨tw_303, tw_300, tw_33, ⟨by decide, by decide⟩, by decide +kernel⟩, tw_302, tw_12⟩
theorem kX_59 : zcV "AsOfLedger" 59 yX_word bX_word 3 (some .int) 2 := ⟨⟨tw_113, tw_110, tw_33, ⟨by decide, by decide⟩, by decide +kernel⟩, tw_112, tw_2⟩
theorem kX_63 : zcV "AsOfLedger" 63 yX_replace bX_replace 5 (some .int) 3 := ⟨⟨tw_327, tw_324, tw_33, ⟨by decide, by decide⟩, by decide +kernel⟩, tw_326, tw_14⟩
theorem kX_67 : zcV "AsOfLedger" 67 yX_isTime bX_isTime 2 (some .boolean) 1 := ⟨⟨tw_345, tw_342, tw_33, ⟨by decide, by decide⟩, by decide +kernel⟩, tw_344, tw_15⟩
theorem kX_70 : zcV "AsOfLedger" 70 yX_balanceOf bX_balanceOf 6 (some .int) 3 := ⟨⟨tw_349, tw_346, tw_33, ⟨by decide, by decide⟩, by decide +kernel⟩, tw_348, tw_16⟩
theorem kX_73 : zcV "AsOfLedger" 73 yX_turnoverOf bX_turnoverOf 4 (some .int) 1 := ⟨⟨tw_262, tw_259, tw_33, ⟨by decide, by decide⟩, by decide +kernel⟩, tw_261, tw_8⟩
theorem kX_85 : zcV "AsOfLedger" 85 yX_isCurrent bX_isCurrent 3 (some .boolean) 2 := ⟨⟨tw_266, tw_263, tw_33, ⟨by decide, by decide⟩, by decide +kernel⟩, tw_265, tw_9⟩
theorem kX_89 : zcV "AsOfLedger" 89 yX_touches bX_touches 3 (some .boolean) 2 := ⟨⟨tw_270, tw_267, tw_33, ⟨by decide, by decide⟩, by decide +kernel⟩, tw_269, tw_10⟩
theorem kX_92 : zcV "AsOfLedger" 92 yX_insertIntoCursor bX_insertIntoCursor 3 none 1 := ⟨⟨tw_378, tw_375, tw_33, ⟨by decide, by decide⟩, by decide +kernel⟩, tw_377, tw_18⟩
theorem kX_96 : zcV "AsOfLedger" 96 yX_movedBy bX_movedBy 3 (some .int) 2 := ⟨⟨tw_353, tw_350, tw_33, ⟨by decide, by decide⟩, by decide +kernel⟩, tw_352, tw_17⟩
theorem kX_99 : zcS "AsOfLedger" 99 yX_isWord bX_isWord 1 (some .boolean) 1 := ⟨⟨tw_124, tw_122, tw_33, ⟨by decide, by decide⟩, by decide +kernel⟩, tw_123⟩
theorem kX_102 : zcV "AsOfLedger" 102 yX_currentVersion bX_currentVersion 4 (some .int) 2 := ⟨⟨tw_307, tw_304, tw_33, ⟨by decide, by decide⟩, by decide +kernel⟩, tw_306, tw_13⟩
theorem kX_108 : zcV "AsOfLedger" 108 yX_linkBefore bX_linkBefore 2 (some .long) 1 := ⟨⟨tw_99, tw_96, tw_33, ⟨by decide, by decide⟩, by decide +kernel⟩, tw_98, tw_0⟩
theorem kX_112 : zcV "AsOfLedger" 112 yX_linkOfWords bX_linkOfWords 5 (some .long) 1 := ⟨⟨tw_108, tw_105, tw_33, ⟨by decide, by decide⟩, by decide +kernel⟩, tw_107, tw_1⟩
theorem kX_115 : zcV "AsOfLedger" 115 yX_isVersion bX_isVersion 2 (some .boolean) 1 := ⟨⟨tw_121, tw_118, tw_33, ⟨by decide, by decide⟩, by decide +kernel⟩, tw_120, tw_3⟩
theorem kX_155 : zcV "AsOfLedger" 155 yX_comesBefore bX_comesBefore 4 (some .boolean) 2 := ⟨⟨tw_382, tw_379, tw_33, ⟨by decide, by decide⟩, by decide +kernel⟩, tw_381, tw_19⟩
theorem kX_158 : zcS "AsOfLedger" 158 yI_compare bI_compare 2 (some .int) 2 := ⟨⟨tw_385, tw_383, tw_43, ⟨by decide, by decide⟩, by decide +kernel⟩, tw_384⟩
theorem kL_7 : zcV "AsOfLedgerLaw" 7 yX_post bX_post 6 (some .int) 4 := ⟨⟨tw_135, tw_132, tw_33, ⟨by decide, by decide⟩, by decide +kernel⟩, tw_133, tw_134⟩
theorem kL_21 : zcV "AsOfLedgerLaw" 21 yX_correct bX_correct 4 (some .int) 2 := ⟨⟨tw_299, tw_296, tw_33, ⟨by decide, by decide⟩, by decide +kernel⟩, tw_297, tw_298⟩
theorem kL_27 : zcV "AsOfLedgerLaw" 27 yX_annul bX_annul 3 (some .int) 1 := ⟨⟨tw_334, tw_331, tw_33, ⟨by decide, by decide⟩, by decide +kernel⟩, tw_332, tw_333⟩
theorem kL_31 : zcV "AsOfLedgerLaw" 31 yX_balance bX_balance 4 (some .int) 3 := ⟨⟨tw_341, tw_338, tw_33, ⟨by decide, by decide⟩, by decide +kernel⟩, tw_339, tw_340⟩
theorem kL_35 : zcV "AsOfLedgerLaw" 35 yX_trial bX_trial 5 (some .int) 2 := ⟨⟨tw_360, tw_357, tw_33, ⟨by decide, by decide⟩, by decide +kernel⟩, tw_358, tw_359⟩
theorem kL_38 : zcV "AsOfLedgerLaw" 38 yX_turnover bX_turnover 2 (some .int) 1 := ⟨⟨tw_367, tw_364, tw_33, ⟨by decide, by decide⟩, by decide +kernel⟩, tw_365, tw_366⟩
theorem kL_41 : zcV "AsOfLedgerLaw" 41 yX_open bX_open 7 (some .int) 4 := ⟨⟨tw_374, tw_371, tw_33, ⟨by decide, by decide⟩, by decide +kernel⟩, tw_372, tw_373⟩
theorem kL_44 : zcV "AsOfLedgerLaw" 44 yX_next bX_next 1 (some .int) 0 := ⟨⟨tw_392, tw_389, tw_33, ⟨by decide, by decide⟩, by decide +kernel⟩, tw_390, tw_391⟩
theorem kL_48 : zcV "AsOfLedgerLaw" 48 yX_moved bX_moved 1 (some .int) 0 := ⟨⟨tw_399, tw_396, tw_33, ⟨by decide, by decide⟩, by decide +kernel⟩, tw_397, tw_398⟩
theorem kL_51 : zcV "AsOfLedgerLaw" 51 yX_field bX_field 5 (some .int) 3 := ⟨⟨tw_406, tw_403, tw_33, ⟨by decide, by decide⟩, by decide +kernel⟩, tw_404, tw_405⟩
theorem kL_54 : zcV "AsOfLedgerLaw" 54 yX_entries bX_entries 1 (some .int) 0 := ⟨⟨tw_413, tw_410, tw_33, ⟨by decide, by decide⟩, by decide +kernel⟩, tw_411, tw_412⟩
theorem kL_66 : zcV "AsOfLedgerLaw" 66 yM_post bM_post 6 (some .int) 4 := ⟨⟨tw_461, tw_458, tw_34, ⟨by decide, by decide⟩, by decide +kernel⟩, tw_459, tw_460⟩
theorem kL_67 : zcV "AsOfLedgerLaw" 67 yM_thrown bM_thrown 1 (some .int) 0 := ⟨⟨tw_457, tw_454, tw_34, ⟨by decide, by decide⟩, by decide +kernel⟩, tw_455, tw_456⟩
theorem kL_73 : zcV "AsOfLedgerLaw" 73 yM_correct bM_correct 6 (some .int) 2 := ⟨⟨tw_509, tw_506, tw_34, ⟨by decide, by decide⟩, by decide +kernel⟩, tw_507, tw_508⟩
theorem kL_77 : zcV "AsOfLedgerLaw" 77 yM_annul bM_annul 3 (some .int) 1 := ⟨⟨tw_517, tw_514, tw_34, ⟨by decide, by decide⟩, by decide +kernel⟩, tw_515, tw_516⟩
theorem kL_81 : zcV "AsOfLedgerLaw" 81 yM_balance bM_balance 4 (some .int) 3 := ⟨⟨tw_521, tw_518, tw_34, ⟨by decide, by decide⟩, by decide +kernel⟩, tw_519, tw_520⟩
theorem kL_84 : zcV "AsOfLedgerLaw" 84 yM_trial bM_trial 5 (some .int) 2 := ⟨⟨tw_533, tw_530, tw_34, ⟨by decide, by decide⟩, by decide +kernel⟩, tw_531, tw_532⟩
theorem kL_87 : zcV "AsOfLedgerLaw" 87 yM_turnover bM_turnover 2 (some .int) 1 := ⟨⟨tw_537, tw_534, tw_34, ⟨by decide, by decide⟩, by decide +kernel⟩, tw_535, tw_536⟩
theorem kL_90 : zcV "AsOfLedgerLaw" 90 yM_open bM_open 8 (some .int) 4 := ⟨⟨tw_541, tw_538, tw_34, ⟨by decide, by decide⟩, by decide +kernel⟩, tw_539, tw_540⟩
theorem kL_94 : zcV "AsOfLedgerLaw" 94 yM_next bM_next 1 (some .int) 0 := ⟨⟨tw_549, tw_546, tw_34, ⟨by decide, by decide⟩, by decide +kernel⟩, tw_547, tw_548⟩
theorem kL_97 : zcV "AsOfLedgerLaw" 97 yM_moved bM_moved 1 (some .int) 0 := ⟨⟨tw_553, tw_550, tw_34, ⟨by decide, by decide⟩, by decide +kernel⟩, tw_551, tw_552⟩
theorem kL_100 : zcV "AsOfLedgerLaw" 100 yM_field bM_field 6 (some .int) 3 := ⟨⟨tw_557, tw_554, tw_34, ⟨by decide, by decide⟩, by decide +kernel⟩, tw_555, tw_556⟩
theorem kL_103 : zcV "AsOfLedgerLaw" 103 yM_entries bM_entries 1 (some .int) 0 := ⟨⟨tw_561, tw_558, tw_34, ⟨by decide, by decide⟩, by decide +kernel⟩, tw_559, tw_560⟩
theorem kL_104 : zcV "AsOfLedgerLaw" 104 yX_clock bX_clock 1 (some .int) 0 := ⟨⟨tw_91, tw_88, tw_33, ⟨by decide, by decide⟩, by decide +kernel⟩, tw_89, tw_90⟩
theorem kL_107 : zcV "AsOfLedgerLaw" 107 yM_clock bM_clock 1 (some .int) 0 := ⟨⟨tw_565, tw_562, tw_34, ⟨by decide, by decide⟩, by decide +kernel⟩, tw_563, tw_564⟩
theorem kL_108 : zcV "AsOfLedgerLaw" 108 yX_head bX_head 1 (some .long) 0 := ⟨⟨tw_95, tw_92, tw_33, ⟨by decide, by decide⟩, by decide +kernel⟩, tw_93, tw_94⟩
theorem kL_112 : zcV "AsOfLedgerLaw" 112 yM_head bM_head 1 (some .long) 0 := ⟨⟨tw_569, tw_566, tw_34, ⟨by decide, by decide⟩, by decide +kernel⟩, tw_567, tw_568⟩
theorem kL_113 : zcV "AsOfLedgerLaw" 113 yX_verify bX_verify 2 (some .int) 0 := ⟨⟨tw_104, tw_101, tw_33, ⟨by decide, by decide⟩, by decide +kernel⟩, tw_102, tw_103⟩
theorem kL_116 : zcV "AsOfLedgerLaw" 116 yM_verify bM_verify 4 (some .int) 0 := ⟨⟨tw_573, tw_570, tw_34, ⟨by decide, by decide⟩, by decide +kernel⟩, tw_571, tw_572⟩
theorem kL_117 : zcV "AsOfLedgerLaw" 117 yX_tamper bX_tamper 4 (some .boolean) 3 := ⟨⟨tw_117, tw_114, tw_33, ⟨by decide, by decide⟩, by decide +kernel⟩, tw_115, tw_116⟩
theorem kL_121 : zcV "AsOfLedgerLaw" 121 yM_tamper bM_tamper 4 (some .boolean) 3 := ⟨⟨tw_577, tw_574, tw_34, ⟨by decide, by decide⟩, by decide +kernel⟩, tw_575, tw_576⟩
theorem kM_30 : zcV "AsOfLedgerModel" 30 yM_word bM_word 3 (some .int) 2 := ⟨⟨tw_483, tw_480, tw_34, ⟨by decide, by decide⟩, by decide +kernel⟩, tw_482, tw_23⟩
theorem kM_36 : zcS "AsOfLedgerModel" 36 yM_follow bM_follow 3 (some .long) 2 := ⟨⟨tw_504, tw_502, tw_34, ⟨by decide, by decide⟩, by decide +kernel⟩, tw_503⟩
theorem kM_45 : zcV "AsOfLedgerModel" 45 yM_currentAt bM_currentAt 4 (some .int) 2 := ⟨⟨tw_479, tw_476, tw_34, ⟨by decide, by decide⟩, by decide +kernel⟩, tw_478, tw_22⟩
theorem kM_48 : zcV "AsOfLedgerModel" 48 yM_turnoverNow bM_turnoverNow 7 (some .long) 1 := ⟨⟨tw_475, tw_472, tw_34, ⟨by decide, by decide⟩, by decide +kernel⟩, tw_474, tw_21⟩
theorem kM_54 : zcV "AsOfLedgerModel" 54 yM_write bM_write 3 none 2 := ⟨⟨tw_492, tw_489, tw_34, ⟨by decide, by decide⟩, by decide +kernel⟩, tw_491, tw_25⟩
theorem kM_58 : zcV "AsOfLedgerModel" 58 yM_linkBefore bM_linkBefore 2 (some .long) 1 := ⟨⟨tw_496, tw_493, tw_34, ⟨by decide, by decide⟩, by decide +kernel⟩, tw_495, tw_26⟩
theorem kM_61 : zcV "AsOfLedgerModel" 61 yM_linkOf bM_linkOf 7 (some .long) 2 := ⟨⟨tw_501, tw_498, tw_34, ⟨by decide, by decide⟩, by decide +kernel⟩, tw_500, tw_27⟩
theorem kM_69 : zcS "AsOfLedgerModel" 69 yM_isAccount bM_isAccount 1 (some .boolean) 1 := ⟨⟨tw_464, tw_462, tw_34, ⟨by decide, by decide⟩, by decide +kernel⟩, tw_463⟩
theorem kM_73 : zcS "AsOfLedgerModel" 73 yM_isDay bM_isDay 1 (some .boolean) 1 := ⟨⟨tw_467, tw_465, tw_34, ⟨by decide, by decide⟩, by decide +kernel⟩, tw_466⟩
theorem kM_76 : zcV "AsOfLedgerModel" 76 yM_tooMuch bM_tooMuch 4 (some .boolean) 2 := ⟨⟨tw_471, tw_468, tw_34, ⟨by decide, by decide⟩, by decide +kernel⟩, tw_470, tw_20⟩
theorem kM_80 : zcV "AsOfLedgerModel" 80 yM_add bM_add 7 (some .int) 6 := ⟨⟨tw_488, tw_485, tw_34, ⟨by decide, by decide⟩, by decide +kernel⟩, tw_487, tw_24⟩
theorem kM_84 : zcV "AsOfLedgerModel" 84 yM_living bM_living 3 (some .int) 1 := ⟨⟨tw_513, tw_510, tw_34, ⟨by decide, by decide⟩, by decide +kernel⟩, tw_512, tw_28⟩
theorem kM_88 : zcV "AsOfLedgerModel" 88 yM_isTime bM_isTime 2 (some .boolean) 1 := ⟨⟨tw_525, tw_522, tw_34, ⟨by decide, by decide⟩, by decide +kernel⟩, tw_524, tw_29⟩
theorem kM_91 : zcV "AsOfLedgerModel" 91 yM_balanceAt bM_balanceAt 8 (some .int) 3 := ⟨⟨tw_529, tw_526, tw_34, ⟨by decide, by decide⟩, by decide +kernel⟩, tw_528, tw_30⟩
theorem kM_104 : zcV "AsOfLedgerModel" 104 yM_belongs bM_belongs 3 (some .boolean) 2 := ⟨⟨tw_545, tw_542, tw_34, ⟨by decide, by decide⟩, by decide +kernel⟩, tw_544, tw_31⟩
