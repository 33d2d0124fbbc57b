/-! Printed by wip/tools/s_code.py: words by their places, fields by their numbers. -/
theorem q_1472 : Cond.methodLink "CallOpener$Best" 68 ⟨"CallOpener$Best", "addCallsOf", "(IIJLCallOpener$Profile;)V"⟩ ∈ zwd := zt_6 _ (List.mem_of_getElem? (i := 107) rfl) rfl
theorem q_1474 : Cond.instanceMethod ⟨"CallOpener$Best", "addCallsOf", "(IIJLCallOpener$Profile;)V"⟩ ∈ zwd := zt_6 _ (List.mem_of_getElem? (i := 109) rfl) rfl
theorem q_76 : Cond.selects "CallOpener$Best" ⟨"CallOpener$Best", "addCallsOf", "(IIJLCallOpener$Profile;)V"⟩ ⟨"CallOpener$Best", "addCallsOf", "(IIJLCallOpener$Profile;)V"⟩ ∈ zwd := zt_0 _ (List.mem_of_getElem? (i := 76) rfl) rfl
theorem q_413 : Cond.fieldLink "CallOpener$Best" 72 "CallOpener$Program" "firstSite" "[I" ∈ zwd := zt_2 _ (List.mem_of_getElem? (i := 8) rfl) rfl
theorem q_418 : Cond.fieldLink "CallOpener$Best" 77 "CallOpener$Program" "siteCount" "[I" ∈ zwd := zt_2 _ (List.mem_of_getElem? (i := 13) rfl) rfl
theorem q_1476 : Cond.methodLink "CallOpener$Best" 80 ⟨"CallOpener$Profile", "heatOf", "(JII)J"⟩ ∈ zwd := zt_6 _ (List.mem_of_getElem? (i := 111) rfl) rfl
theorem q_1268 : Cond.instanceMethod ⟨"CallOpener$Profile", "heatOf", "(JII)J"⟩ ∈ zwd := zt_5 _ (List.mem_of_getElem? (i := 143) rfl) rfl
theorem q_1269 : Cond.selects "CallOpener$Profile" ⟨"CallOpener$Profile", "heatOf", "(JII)J"⟩ ⟨"CallOpener$Profile", "heatOf", "(JII)J"⟩ ∈ zwd := zt_5 _ (List.mem_of_getElem? (i := 144) rfl) rfl
theorem q_434 : Cond.fieldLink "CallOpener$Best" 84 "CallOpener$Program" "siteTo" "[I" ∈ zwd := zt_2 _ (List.mem_of_getElem? (i := 29) rfl) rfl
theorem q_1477 : Cond.methodLink "CallOpener$Best" 87 ⟨"CallOpener$Best", "standsFrom", "(II)I"⟩ ∈ zwd := zt_6 _ (List.mem_of_getElem? (i := 112) rfl) rfl
theorem q_1479 : Cond.instanceMethod ⟨"CallOpener$Best", "standsFrom", "(II)I"⟩ ∈ zwd := zt_6 _ (List.mem_of_getElem? (i := 114) rfl) rfl
theorem q_77 : Cond.selects "CallOpener$Best" ⟨"CallOpener$Best", "standsFrom", "(II)I"⟩ ⟨"CallOpener$Best", "standsFrom", "(II)I"⟩ ∈ zwd := zt_0 _ (List.mem_of_getElem? (i := 77) rfl) rfl
theorem q_426 : Cond.fieldLink "CallOpener$Best" 91 "CallOpener$Program" "adds" "[I" ∈ zwd := zt_2 _ (List.mem_of_getElem? (i := 21) rfl) rfl
theorem q_398 : Cond.fieldLink "CallOpener$Best" 92 "CallOpener$Program" "variables" "[I" ∈ zwd := zt_1 _ (List.mem_of_getElem? (i := 233) rfl) rfl
theorem q_1485 : Cond.methodLink "CallOpener$Best" 95 ⟨"CallOpener$Best", "fillTable", "()V"⟩ ∈ zwd := zt_6 _ (List.mem_of_getElem? (i := 120) rfl) rfl
theorem q_1487 : Cond.instanceMethod ⟨"CallOpener$Best", "fillTable", "()V"⟩ ∈ zwd := zt_6 _ (List.mem_of_getElem? (i := 122) rfl) rfl
theorem q_78 : Cond.selects "CallOpener$Best" ⟨"CallOpener$Best", "fillTable", "()V"⟩ ⟨"CallOpener$Best", "fillTable", "()V"⟩ ∈ zwd := zt_0 _ (List.mem_of_getElem? (i := 78) rfl) rfl
theorem q_1489 : Cond.methodLink "CallOpener$Best" 98 ⟨"CallOpener$Best", "putInOrder", "()V"⟩ ∈ zwd := zt_6 _ (List.mem_of_getElem? (i := 124) rfl) rfl
theorem q_1491 : Cond.instanceMethod ⟨"CallOpener$Best", "putInOrder", "()V"⟩ ∈ zwd := zt_6 _ (List.mem_of_getElem? (i := 126) rfl) rfl
theorem q_79 : Cond.selects "CallOpener$Best" ⟨"CallOpener$Best", "putInOrder", "()V"⟩ ⟨"CallOpener$Best", "putInOrder", "()V"⟩ ∈ zwd := zt_0 _ (List.mem_of_getElem? (i := 79) rfl) rfl
theorem q_1493 : Cond.methodLink "CallOpener$Best" 101 ⟨"CallOpener$Best", "fillRow", "(II)V"⟩ ∈ zwd := zt_6 _ (List.mem_of_getElem? (i := 128) rfl) rfl
theorem q_1495 : Cond.instanceMethod ⟨"CallOpener$Best", "fillRow", "(II)V"⟩ ∈ zwd := zt_6 _ (List.mem_of_getElem? (i := 130) rfl) rfl
theorem q_80 : Cond.selects "CallOpener$Best" ⟨"CallOpener$Best", "fillRow", "(II)V"⟩ ⟨"CallOpener$Best", "fillRow", "(II)V"⟩ ∈ zwd := zt_0 _ (List.mem_of_getElem? (i := 80) rfl) rfl
theorem q_1497 : Cond.methodLink "CallOpener$Best" 105 ⟨"java/lang/Math", "max", "(JJ)J"⟩ ∈ zwd := zt_6 _ (List.mem_of_getElem? (i := 132) rfl) rfl
theorem q_1498 : Cond.static ⟨"java/lang/Math", "max", "(JJ)J"⟩ ∈ zwd := zt_6 _ (List.mem_of_getElem? (i := 133) rfl) rfl
theorem q_179 : Cond.initialized "java/lang/Math" ∈ zwd := zt_1 _ (List.mem_of_getElem? (i := 14) rfl) rfl
theorem q_616 : Cond.methodLink "CallOpener$Call" 1 ⟨"java/lang/Object", "<init>", "()V"⟩ ∈ zwd := zt_2 _ (List.mem_of_getElem? (i := 211) rfl) rfl
theorem q_636 : Cond.fieldLink "CallOpener$Call" 7 "CallOpener$Call" "heat" "J" ∈ zwd := zt_2 _ (List.mem_of_getElem? (i := 231) rfl) rfl
theorem q_634 : Cond.fieldLink "CallOpener$Call" 13 "CallOpener$Call" "tooOften" "Z" ∈ zwd := zt_2 _ (List.mem_of_getElem? (i := 229) rfl) rfl
theorem q_627 : Cond.fieldLink "CallOpener$Call" 17 "CallOpener$Call" "openedAs" "I" ∈ zwd := zt_2 _ (List.mem_of_getElem? (i := 222) rfl) rfl
theorem q_226 : Cond.methodLink "CallOpener$Known" 5 ⟨"java/lang/Object", "<init>", "()V"⟩ ∈ zwd := zt_1 _ (List.mem_of_getElem? (i := 61) rfl) rfl
theorem q_259 : Cond.fieldLink "CallOpener$Known" 13 "CallOpener$Known" "answers" "[I" ∈ zwd := zt_1 _ (List.mem_of_getElem? (i := 94) rfl) rfl
theorem q_261 : Cond.fieldLink "CallOpener$Known" 17 "CallOpener$Known" "numbers" "[J" ∈ zwd := zt_1 _ (List.mem_of_getElem? (i := 96) rfl) rfl
theorem q_262 : Cond.fieldLink "CallOpener$Known" 21 "CallOpener$Known" "kept" "[J" ∈ zwd := zt_1 _ (List.mem_of_getElem? (i := 97) rfl) rfl
theorem q_227 : Cond.classLink "CallOpener$Known" 24 "CallOpener$Pile" ∈ zwd := zt_1 _ (List.mem_of_getElem? (i := 62) rfl) rfl
theorem q_228 : Cond.instantiable "CallOpener$Pile" 5 ∈ zwd := zt_1 _ (List.mem_of_getElem? (i := 63) rfl) rfl
theorem q_169 : Cond.initialized "CallOpener$Pile" ∈ zwd := zt_1 _ (List.mem_of_getElem? (i := 4) rfl) rfl
theorem q_229 : Cond.methodLink "CallOpener$Known" 26 ⟨"CallOpener$Pile", "<init>", "(I)V"⟩ ∈ zwd := zt_1 _ (List.mem_of_getElem? (i := 64) rfl) rfl
theorem q_230 : Cond.instanceMethod ⟨"CallOpener$Pile", "<init>", "(I)V"⟩ ∈ zwd := zt_1 _ (List.mem_of_getElem? (i := 65) rfl) rfl
theorem q_264 : Cond.fieldLink "CallOpener$Known" 29 "CallOpener$Known" "blocks" "LCallOpener$Pile;" ∈ zwd := zt_1 _ (List.mem_of_getElem? (i := 99) rfl) rfl
theorem q_1403 : Cond.methodLink "CallOpener$Known" 33 ⟨"java/lang/Math", "min", "(II)I"⟩ ∈ zwd := zt_6 _ (List.mem_of_getElem? (i := 38) rfl) rfl
theorem q_876 : Cond.static ⟨"java/lang/Math", "min", "(II)I"⟩ ∈ zwd := zt_3 _ (List.mem_of_getElem? (i := 231) rfl) rfl
theorem q_265 : Cond.fieldLink "CallOpener$Known" 39 "CallOpener$Known" "variables" "I" ∈ zwd := zt_1 _ (List.mem_of_getElem? (i := 100) rfl) rfl
theorem q_1404 : Cond.methodLink "CallOpener$Known" 43 ⟨"java/util/Arrays", "fill", "([II)V"⟩ ∈ zwd := zt_6 _ (List.mem_of_getElem? (i := 39) rfl) rfl
theorem q_1081 : Cond.static ⟨"java/util/Arrays", "fill", "([II)V"⟩ ∈ zwd := zt_4 _ (List.mem_of_getElem? (i := 196) rfl) rfl
theorem q_184 : Cond.initialized "java/util/Arrays" ∈ zwd := zt_1 _ (List.mem_of_getElem? (i := 19) rfl) rfl
theorem q_1405 : Cond.constantLong "CallOpener$Known" 49 (Int64.ofInt (-9223372036854775808)) ∈ zwd := zt_6 _ (List.mem_of_getElem? (i := 40) rfl) rfl
theorem q_263 : Cond.fieldLink "CallOpener$Known" 51 "CallOpener$Known" "keptSize" "I" ∈ zwd := zt_1 _ (List.mem_of_getElem? (i := 98) rfl) rfl
theorem q_245 : Cond.fieldLink "CallOpener$Known" 54 "CallOpener$Pile" "size" "I" ∈ zwd := zt_1 _ (List.mem_of_getElem? (i := 80) rfl) rfl
theorem q_266 : Cond.fieldLink "CallOpener$Known" 57 "CallOpener$Known" "at" "I" ∈ zwd := zt_1 _ (List.mem_of_getElem? (i := 101) rfl) rfl
theorem q_1406 : Cond.methodLink "CallOpener$Known" 60 ⟨"CallOpener$Known", "isOver", "(LCallOpener$Lines;)Z"⟩ ∈ zwd := zt_6 _ (List.mem_of_getElem? (i := 41) rfl) rfl
theorem q_1408 : Cond.instanceMethod ⟨"CallOpener$Known", "isOver", "(LCallOpener$Lines;)Z"⟩ ∈ zwd := zt_6 _ (List.mem_of_getElem? (i := 43) rfl) rfl
theorem q_63 : Cond.selects "CallOpener$Known" ⟨"CallOpener$Known", "isOver", "(LCallOpener$Lines;)Z"⟩ ⟨"CallOpener$Known", "isOver", "(LCallOpener$Lines;)Z"⟩ ∈ zwd := zt_0 _ (List.mem_of_getElem? (i := 63) rfl) rfl
theorem q_240 : Cond.fieldLink "CallOpener$Known" 64 "CallOpener$Pile" "c" "[I" ∈ zwd := zt_1 _ (List.mem_of_getElem? (i := 75) rfl) rfl
theorem q_1410 : Cond.methodLink "CallOpener$Known" 67 ⟨"CallOpener$Known", "leaveBlock", "(LCallOpener$Lines;)V"⟩ ∈ zwd := zt_6 _ (List.mem_of_getElem? (i := 45) rfl) rfl
theorem q_1412 : Cond.instanceMethod ⟨"CallOpener$Known", "leaveBlock", "(LCallOpener$Lines;)V"⟩ ∈ zwd := zt_6 _ (List.mem_of_getElem? (i := 47) rfl) rfl
theorem q_64 : Cond.selects "CallOpener$Known" ⟨"CallOpener$Known", "leaveBlock", "(LCallOpener$Lines;)V"⟩ ⟨"CallOpener$Known", "leaveBlock", "(LCallOpener$Lines;)V"⟩ ∈ zwd := zt_0 _ (List.mem_of_getElem? (i := 64) rfl) rfl
theorem q_1427 : Cond.methodLink "CallOpener$Known" 71 ⟨"CallOpener$Known", "goThroughLine", "(LCallOpener$Lines;)V"⟩ ∈ zwd := zt_6 _ (List.mem_of_getElem? (i := 62) rfl) rfl
theorem q_1429 : Cond.instanceMethod ⟨"CallOpener$Known", "goThroughLine", "(LCallOpener$Lines;)V"⟩ ∈ zwd := zt_6 _ (List.mem_of_getElem? (i := 64) rfl) rfl
theorem q_68 : Cond.selects "CallOpener$Known" ⟨"CallOpener$Known", "goThroughLine", "(LCallOpener$Lines;)V"⟩ ⟨"CallOpener$Known", "goThroughLine", "(LCallOpener$Lines;)V"⟩ ∈ zwd := zt_0 _ (List.mem_of_getElem? (i := 68) rfl) rfl
theorem q_346 : Cond.fieldLink "CallOpener$Known" 74 "CallOpener$Lines" "size" "I" ∈ zwd := zt_1 _ (List.mem_of_getElem? (i := 181) rfl) rfl
theorem q_296 : Cond.fieldLink "CallOpener$Known" 77 "CallOpener$Lines" "kind" "[I" ∈ zwd := zt_1 _ (List.mem_of_getElem? (i := 131) rfl) rfl
theorem q_301 : Cond.fieldLink "CallOpener$Known" 80 "CallOpener$Lines" "target" "[I" ∈ zwd := zt_1 _ (List.mem_of_getElem? (i := 136) rfl) rfl
theorem q_1431 : Cond.methodLink "CallOpener$Known" 83 ⟨"CallOpener$Known", "goThroughIf", "(LCallOpener$Lines;)V"⟩ ∈ zwd := zt_6 _ (List.mem_of_getElem? (i := 66) rfl) rfl
theorem q_1433 : Cond.instanceMethod ⟨"CallOpener$Known", "goThroughIf", "(LCallOpener$Lines;)V"⟩ ∈ zwd := zt_6 _ (List.mem_of_getElem? (i := 68) rfl) rfl
theorem q_69 : Cond.selects "CallOpener$Known" ⟨"CallOpener$Known", "goThroughIf", "(LCallOpener$Lines;)V"⟩ ⟨"CallOpener$Known", "goThroughIf", "(LCallOpener$Lines;)V"⟩ ∈ zwd := zt_0 _ (List.mem_of_getElem? (i := 69) rfl) rfl
theorem q_1450 : Cond.methodLink "CallOpener$Known" 86 ⟨"CallOpener$Known", "goThroughLoop", "(LCallOpener$Lines;)V"⟩ ∈ zwd := zt_6 _ (List.mem_of_getElem? (i := 85) rfl) rfl
theorem q_1452 : Cond.instanceMethod ⟨"CallOpener$Known", "goThroughLoop", "(LCallOpener$Lines;)V"⟩ ∈ zwd := zt_6 _ (List.mem_of_getElem? (i := 87) rfl) rfl
theorem q_73 : Cond.selects "CallOpener$Known" ⟨"CallOpener$Known", "goThroughLoop", "(LCallOpener$Lines;)V"⟩ ⟨"CallOpener$Known", "goThroughLoop", "(LCallOpener$Lines;)V"⟩ ∈ zwd := zt_0 _ (List.mem_of_getElem? (i := 73) rfl) rfl
theorem q_307 : Cond.fieldLink "CallOpener$Known" 89 "CallOpener$Lines" "first" "[I" ∈ zwd := zt_1 _ (List.mem_of_getElem? (i := 142) rfl) rfl
theorem q_1435 : Cond.methodLink "CallOpener$Known" 92 ⟨"CallOpener$Known", "numberOf", "(I)J"⟩ ∈ zwd := zt_6 _ (List.mem_of_getElem? (i := 70) rfl) rfl
theorem q_1437 : Cond.instanceMethod ⟨"CallOpener$Known", "numberOf", "(I)J"⟩ ∈ zwd := zt_6 _ (List.mem_of_getElem? (i := 72) rfl) rfl
theorem q_70 : Cond.selects "CallOpener$Known" ⟨"CallOpener$Known", "numberOf", "(I)J"⟩ ⟨"CallOpener$Known", "numberOf", "(I)J"⟩ ∈ zwd := zt_0 _ (List.mem_of_getElem? (i := 70) rfl) rfl
theorem q_1454 : Cond.methodLink "CallOpener$Known" 96 ⟨"CallOpener$Known", "noteGiven", "(J)V"⟩ ∈ zwd := zt_6 _ (List.mem_of_getElem? (i := 89) rfl) rfl
theorem q_1456 : Cond.instanceMethod ⟨"CallOpener$Known", "noteGiven", "(J)V"⟩ ∈ zwd := zt_6 _ (List.mem_of_getElem? (i := 91) rfl) rfl
theorem q_74 : Cond.selects "CallOpener$Known" ⟨"CallOpener$Known", "noteGiven", "(J)V"⟩ ⟨"CallOpener$Known", "noteGiven", "(J)V"⟩ ∈ zwd := zt_0 _ (List.mem_of_getElem? (i := 74) rfl) rfl
theorem q_1458 : Cond.methodLink "CallOpener$Known" 100 ⟨"CallOpener$Known", "goThroughPut", "(LCallOpener$Lines;)V"⟩ ∈ zwd := zt_6 _ (List.mem_of_getElem? (i := 93) rfl) rfl
theorem q_1460 : Cond.instanceMethod ⟨"CallOpener$Known", "goThroughPut", "(LCallOpener$Lines;)V"⟩ ∈ zwd := zt_6 _ (List.mem_of_getElem? (i := 95) rfl) rfl
theorem q_75 : Cond.selects "CallOpener$Known" ⟨"CallOpener$Known", "goThroughPut", "(LCallOpener$Lines;)V"⟩ ⟨"CallOpener$Known", "goThroughPut", "(LCallOpener$Lines;)V"⟩ ∈ zwd := zt_0 _ (List.mem_of_getElem? (i := 75) rfl) rfl
theorem q_1184 : Cond.static ⟨"CallOpener", "isVariable", "(I)Z"⟩ ∈ zwd := zt_5 _ (List.mem_of_getElem? (i := 59) rfl) rfl
theorem q_315 : Cond.fieldLink "CallOpener$Known" 107 "CallOpener$Lines" "second" "[I" ∈ zwd := zt_1 _ (List.mem_of_getElem? (i := 150) rfl) rfl
theorem q_1215 : Cond.static ⟨"CallOpener", "workOut", "(III)I"⟩ ∈ zwd := zt_5 _ (List.mem_of_getElem? (i := 90) rfl) rfl
theorem q_1440 : Cond.methodLink "CallOpener$Known" 114 ⟨"CallOpener$Known", "keep", "()V"⟩ ∈ zwd := zt_6 _ (List.mem_of_getElem? (i := 75) rfl) rfl
theorem q_1442 : Cond.instanceMethod ⟨"CallOpener$Known", "keep", "()V"⟩ ∈ zwd := zt_6 _ (List.mem_of_getElem? (i := 77) rfl) rfl
theorem q_71 : Cond.selects "CallOpener$Known" ⟨"CallOpener$Known", "keep", "()V"⟩ ⟨"CallOpener$Known", "keep", "()V"⟩ ∈ zwd := zt_0 _ (List.mem_of_getElem? (i := 71) rfl) rfl
theorem q_336 : Cond.fieldLink "CallOpener$Known" 117 "CallOpener$Lines" "middle" "[I" ∈ zwd := zt_1 _ (List.mem_of_getElem? (i := 171) rfl) rfl
theorem q_1445 : Cond.methodLink "CallOpener$Known" 120 ⟨"CallOpener$Known", "openBlock", "(II)V"⟩ ∈ zwd := zt_6 _ (List.mem_of_getElem? (i := 80) rfl) rfl
theorem q_1447 : Cond.instanceMethod ⟨"CallOpener$Known", "openBlock", "(II)V"⟩ ∈ zwd := zt_6 _ (List.mem_of_getElem? (i := 82) rfl) rfl
theorem q_72 : Cond.selects "CallOpener$Known" ⟨"CallOpener$Known", "openBlock", "(II)V"⟩ ⟨"CallOpener$Known", "openBlock", "(II)V"⟩ ∈ zwd := zt_0 _ (List.mem_of_getElem? (i := 72) rfl) rfl
theorem q_340 : Cond.fieldLink "CallOpener$Known" 124 "CallOpener$Lines" "end" "[I" ∈ zwd := zt_1 _ (List.mem_of_getElem? (i := 175) rfl) rfl
theorem q_1423 : Cond.methodLink "CallOpener$Known" 127 ⟨"CallOpener$Known", "forgetTargets", "(LCallOpener$Lines;I)V"⟩ ∈ zwd := zt_6 _ (List.mem_of_getElem? (i := 58) rfl) rfl
theorem q_1425 : Cond.instanceMethod ⟨"CallOpener$Known", "forgetTargets", "(LCallOpener$Lines;I)V"⟩ ∈ zwd := zt_6 _ (List.mem_of_getElem? (i := 60) rfl) rfl
theorem q_67 : Cond.selects "CallOpener$Known" ⟨"CallOpener$Known", "forgetTargets", "(LCallOpener$Lines;I)V"⟩ ⟨"CallOpener$Known", "forgetTargets", "(LCallOpener$Lines;I)V"⟩ ∈ zwd := zt_0 _ (List.mem_of_getElem? (i := 67) rfl) rfl
theorem q_1449 : Cond.methodLink "CallOpener$Known" 131 ⟨"CallOpener$Pile", "push", "(IIII)V"⟩ ∈ zwd := zt_6 _ (List.mem_of_getElem? (i := 84) rfl) rfl
theorem q_1187 : Cond.instanceMethod ⟨"CallOpener$Pile", "push", "(IIII)V"⟩ ∈ zwd := zt_5 _ (List.mem_of_getElem? (i := 62) rfl) rfl
theorem q_1188 : Cond.selects "CallOpener$Pile" ⟨"CallOpener$Pile", "push", "(IIII)V"⟩ ⟨"CallOpener$Pile", "push", "(IIII)V"⟩ ∈ zwd := zt_5 _ (List.mem_of_getElem? (i := 63) rfl) rfl
theorem q_234 : Cond.fieldLink "CallOpener$Known" 135 "CallOpener$Pile" "a" "[I" ∈ zwd := zt_1 _ (List.mem_of_getElem? (i := 69) rfl) rfl
theorem q_237 : Cond.fieldLink "CallOpener$Known" 138 "CallOpener$Pile" "b" "[I" ∈ zwd := zt_1 _ (List.mem_of_getElem? (i := 72) rfl) rfl
theorem q_1414 : Cond.methodLink "CallOpener$Known" 141 ⟨"CallOpener$Known", "exchangeWithKept", "()V"⟩ ∈ zwd := zt_6 _ (List.mem_of_getElem? (i := 49) rfl) rfl
theorem q_1416 : Cond.instanceMethod ⟨"CallOpener$Known", "exchangeWithKept", "()V"⟩ ∈ zwd := zt_6 _ (List.mem_of_getElem? (i := 51) rfl) rfl
theorem q_65 : Cond.selects "CallOpener$Known" ⟨"CallOpener$Known", "exchangeWithKept", "()V"⟩ ⟨"CallOpener$Known", "exchangeWithKept", "()V"⟩ ∈ zwd := zt_0 _ (List.mem_of_getElem? (i := 65) rfl) rfl
theorem q_1419 : Cond.methodLink "CallOpener$Known" 144 ⟨"CallOpener$Known", "mergeWithKept", "()V"⟩ ∈ zwd := zt_6 _ (List.mem_of_getElem? (i := 54) rfl) rfl
theorem q_1421 : Cond.instanceMethod ⟨"CallOpener$Known", "mergeWithKept", "()V"⟩ ∈ zwd := zt_6 _ (List.mem_of_getElem? (i := 56) rfl) rfl
theorem q_66 : Cond.selects "CallOpener$Known" ⟨"CallOpener$Known", "mergeWithKept", "()V"⟩ ⟨"CallOpener$Known", "mergeWithKept", "()V"⟩ ∈ zwd := zt_0 _ (List.mem_of_getElem? (i := 66) rfl) rfl
theorem q_1444 : Cond.methodLink "CallOpener$Known" 147 ⟨"java/lang/System", "arraycopy", "(Ljava/lang/Object;ILjava/lang/Object;II)V"⟩ ∈ zwd := zt_6 _ (List.mem_of_getElem? (i := 79) rfl) rfl
theorem q_1418 : Cond.methodLink "CallOpener$Known" 153 ⟨"java/lang/Math", "max", "(II)I"⟩ ∈ zwd := zt_6 _ (List.mem_of_getElem? (i := 53) rfl) rfl
theorem q_1195 : Cond.static ⟨"java/lang/Math", "max", "(II)I"⟩ ∈ zwd := zt_5 _ (List.mem_of_getElem? (i := 70) rfl) rfl
theorem q_293 : Cond.methodLink "CallOpener$Lines" 3 ⟨"java/lang/Object", "<init>", "()V"⟩ ∈ zwd := zt_1 _ (List.mem_of_getElem? (i := 128) rfl) rfl
theorem q_294 : Cond.fieldLink "CallOpener$Lines" 9 "CallOpener$Lines" "kind" "[I" ∈ zwd := zt_1 _ (List.mem_of_getElem? (i := 129) rfl) rfl
theorem q_300 : Cond.fieldLink "CallOpener$Lines" 15 "CallOpener$Lines" "target" "[I" ∈ zwd := zt_1 _ (List.mem_of_getElem? (i := 135) rfl) rfl
theorem q_306 : Cond.fieldLink "CallOpener$Lines" 18 "CallOpener$Lines" "first" "[I" ∈ zwd := zt_1 _ (List.mem_of_getElem? (i := 141) rfl) rfl
theorem q_312 : Cond.fieldLink "CallOpener$Lines" 21 "CallOpener$Lines" "second" "[I" ∈ zwd := zt_1 _ (List.mem_of_getElem? (i := 147) rfl) rfl
theorem q_318 : Cond.fieldLink "CallOpener$Lines" 24 "CallOpener$Lines" "third" "[I" ∈ zwd := zt_1 _ (List.mem_of_getElem? (i := 153) rfl) rfl
theorem q_321 : Cond.fieldLink "CallOpener$Lines" 27 "CallOpener$Lines" "site" "[I" ∈ zwd := zt_1 _ (List.mem_of_getElem? (i := 156) rfl) rfl
theorem q_326 : Cond.fieldLink "CallOpener$Lines" 30 "CallOpener$Lines" "depth" "[I" ∈ zwd := zt_1 _ (List.mem_of_getElem? (i := 161) rfl) rfl
theorem q_329 : Cond.fieldLink "CallOpener$Lines" 33 "CallOpener$Lines" "branch" "[I" ∈ zwd := zt_1 _ (List.mem_of_getElem? (i := 164) rfl) rfl
theorem q_331 : Cond.fieldLink "CallOpener$Lines" 36 "CallOpener$Lines" "withElse" "[I" ∈ zwd := zt_1 _ (List.mem_of_getElem? (i := 166) rfl) rfl
theorem q_335 : Cond.fieldLink "CallOpener$Lines" 39 "CallOpener$Lines" "middle" "[I" ∈ zwd := zt_1 _ (List.mem_of_getElem? (i := 170) rfl) rfl
theorem q_338 : Cond.fieldLink "CallOpener$Lines" 42 "CallOpener$Lines" "end" "[I" ∈ zwd := zt_1 _ (List.mem_of_getElem? (i := 173) rfl) rfl
theorem q_341 : Cond.fieldLink "CallOpener$Lines" 45 "CallOpener$Lines" "around" "[I" ∈ zwd := zt_1 _ (List.mem_of_getElem? (i := 176) rfl) rfl
theorem q_342 : Cond.fieldLink "CallOpener$Lines" 48 "CallOpener$Lines" "lastAt" "[I" ∈ zwd := zt_1 _ (List.mem_of_getElem? (i := 177) rfl) rfl
theorem q_343 : Cond.fieldLink "CallOpener$Lines" 51 "CallOpener$Lines" "size" "I" ∈ zwd := zt_1 _ (List.mem_of_getElem? (i := 178) rfl) rfl
theorem q_1033 : Cond.methodLink "CallOpener$Lines" 55 ⟨"CallOpener$Lines", "stretchAround", "(I)V"⟩ ∈ zwd := zt_4 _ (List.mem_of_getElem? (i := 148) rfl) rfl
theorem q_1035 : Cond.instanceMethod ⟨"CallOpener$Lines", "stretchAround", "(I)V"⟩ ∈ zwd := zt_4 _ (List.mem_of_getElem? (i := 150) rfl) rfl
theorem q_19 : Cond.selects "CallOpener$Lines" ⟨"CallOpener$Lines", "stretchAround", "(I)V"⟩ ⟨"CallOpener$Lines", "stretchAround", "(I)V"⟩ ∈ zwd := zt_0 _ (List.mem_of_getElem? (i := 19) rfl) rfl
theorem q_548 : Cond.methodLink "CallOpener$Machine" 3 ⟨"java/lang/Object", "<init>", "()V"⟩ ∈ zwd := zt_2 _ (List.mem_of_getElem? (i := 143) rfl) rfl
theorem q_551 : Cond.fieldLink "CallOpener$Machine" 11 "CallOpener$Machine" "answers" "[I" ∈ zwd := zt_2 _ (List.mem_of_getElem? (i := 146) rfl) rfl
theorem q_553 : Cond.fieldLink "CallOpener$Machine" 15 "CallOpener$Machine" "entered" "[I" ∈ zwd := zt_2 _ (List.mem_of_getElem? (i := 148) rfl) rfl
theorem q_555 : Cond.fieldLink "CallOpener$Machine" 18 "CallOpener$Machine" "done" "[I" ∈ zwd := zt_2 _ (List.mem_of_getElem? (i := 150) rfl) rfl
theorem q_557 : Cond.fieldLink "CallOpener$Machine" 21 "CallOpener$Machine" "values" "[I" ∈ zwd := zt_2 _ (List.mem_of_getElem? (i := 152) rfl) rfl
theorem q_549 : Cond.classLink "CallOpener$Machine" 24 "CallOpener$Pile" ∈ zwd := zt_2 _ (List.mem_of_getElem? (i := 144) rfl) rfl
theorem q_550 : Cond.methodLink "CallOpener$Machine" 26 ⟨"CallOpener$Pile", "<init>", "(I)V"⟩ ∈ zwd := zt_2 _ (List.mem_of_getElem? (i := 145) rfl) rfl
theorem q_558 : Cond.fieldLink "CallOpener$Machine" 29 "CallOpener$Machine" "blocks" "LCallOpener$Pile;" ∈ zwd := zt_2 _ (List.mem_of_getElem? (i := 153) rfl) rfl
theorem q_559 : Cond.fieldLink "CallOpener$Machine" 33 "CallOpener$Machine" "frames" "LCallOpener$Pile;" ∈ zwd := zt_2 _ (List.mem_of_getElem? (i := 154) rfl) rfl
theorem q_560 : Cond.fieldLink "CallOpener$Machine" 36 "CallOpener$Machine" "program" "LCallOpener$Program;" ∈ zwd := zt_2 _ (List.mem_of_getElem? (i := 155) rfl) rfl
theorem q_445 : Cond.fieldLink "CallOpener$Machine" 40 "CallOpener$Program" "lines" "LCallOpener$Lines;" ∈ zwd := zt_2 _ (List.mem_of_getElem? (i := 40) rfl) rfl
theorem q_561 : Cond.fieldLink "CallOpener$Machine" 46 "CallOpener$Machine" "code" "LCallOpener$Lines;" ∈ zwd := zt_2 _ (List.mem_of_getElem? (i := 156) rfl) rfl
theorem q_562 : Cond.fieldLink "CallOpener$Machine" 49 "CallOpener$Machine" "outermost" "LCallOpener$Lines;" ∈ zwd := zt_2 _ (List.mem_of_getElem? (i := 157) rfl) rfl
theorem q_391 : Cond.fieldLink "CallOpener$Machine" 52 "CallOpener$Program" "parameters" "[I" ∈ zwd := zt_1 _ (List.mem_of_getElem? (i := 226) rfl) rfl
theorem q_1149 : Cond.methodLink "CallOpener$Machine" 55 ⟨"CallOpener$Machine", "begin", "(LCallOpener$Program;LCallOpener$Lines;[III)V"⟩ ∈ zwd := zt_5 _ (List.mem_of_getElem? (i := 24) rfl) rfl
theorem q_1151 : Cond.instanceMethod ⟨"CallOpener$Machine", "begin", "(LCallOpener$Program;LCallOpener$Lines;[III)V"⟩ ∈ zwd := zt_5 _ (List.mem_of_getElem? (i := 26) rfl) rfl
theorem q_32 : Cond.selects "CallOpener$Machine" ⟨"CallOpener$Machine", "begin", "(LCallOpener$Program;LCallOpener$Lines;[III)V"⟩ ⟨"CallOpener$Machine", "begin", "(LCallOpener$Program;LCallOpener$Lines;[III)V"⟩ ∈ zwd := zt_0 _ (List.mem_of_getElem? (i := 32) rfl) rfl
theorem q_396 : Cond.fieldLink "CallOpener$Machine" 59 "CallOpener$Program" "variables" "[I" ∈ zwd := zt_1 _ (List.mem_of_getElem? (i := 231) rfl) rfl
theorem q_565 : Cond.fieldLink "CallOpener$Machine" 62 "CallOpener$Machine" "top" "I" ∈ zwd := zt_2 _ (List.mem_of_getElem? (i := 160) rfl) rfl
theorem q_403 : Cond.fieldLink "CallOpener$Machine" 66 "CallOpener$Program" "firstLine" "[I" ∈ zwd := zt_1 _ (List.mem_of_getElem? (i := 238) rfl) rfl
theorem q_566 : Cond.fieldLink "CallOpener$Machine" 69 "CallOpener$Machine" "at" "I" ∈ zwd := zt_2 _ (List.mem_of_getElem? (i := 161) rfl) rfl
theorem q_407 : Cond.fieldLink "CallOpener$Machine" 72 "CallOpener$Program" "lineCount" "[I" ∈ zwd := zt_2 _ (List.mem_of_getElem? (i := 2) rfl) rfl
theorem q_567 : Cond.fieldLink "CallOpener$Machine" 75 "CallOpener$Machine" "limit" "I" ∈ zwd := zt_2 _ (List.mem_of_getElem? (i := 162) rfl) rfl
theorem q_1154 : Cond.methodLink "CallOpener$Machine" 78 ⟨"CallOpener$Machine", "goOn", "()V"⟩ ∈ zwd := zt_5 _ (List.mem_of_getElem? (i := 29) rfl) rfl
theorem q_1156 : Cond.instanceMethod ⟨"CallOpener$Machine", "goOn", "()V"⟩ ∈ zwd := zt_5 _ (List.mem_of_getElem? (i := 31) rfl) rfl
theorem q_33 : Cond.selects "CallOpener$Machine" ⟨"CallOpener$Machine", "goOn", "()V"⟩ ⟨"CallOpener$Machine", "goOn", "()V"⟩ ∈ zwd := zt_0 _ (List.mem_of_getElem? (i := 33) rfl) rfl
theorem q_740 : Cond.fieldLink "CallOpener$Machine" 81 "CallOpener$Result" "lines" "LCallOpener$Lines;" ∈ zwd := zt_3 _ (List.mem_of_getElem? (i := 95) rfl) rfl
theorem q_746 : Cond.fieldLink "CallOpener$Machine" 84 "CallOpener$Result" "parameters" "I" ∈ zwd := zt_3 _ (List.mem_of_getElem? (i := 101) rfl) rfl
theorem q_743 : Cond.fieldLink "CallOpener$Machine" 86 "CallOpener$Result" "variables" "I" ∈ zwd := zt_3 _ (List.mem_of_getElem? (i := 98) rfl) rfl
theorem q_1390 : Cond.methodLink "CallOpener$Machine" 88 ⟨"java/lang/Math", "min", "(II)I"⟩ ∈ zwd := zt_6 _ (List.mem_of_getElem? (i := 25) rfl) rfl
theorem q_347 : Cond.fieldLink "CallOpener$Machine" 94 "CallOpener$Lines" "size" "I" ∈ zwd := zt_1 _ (List.mem_of_getElem? (i := 182) rfl) rfl
theorem q_563 : Cond.fieldLink "CallOpener$Machine" 99 "CallOpener$Machine" "cost" "I" ∈ zwd := zt_2 _ (List.mem_of_getElem? (i := 158) rfl) rfl
theorem q_1153 : Cond.methodLink "CallOpener$Machine" 102 ⟨"java/util/Arrays", "fill", "([II)V"⟩ ∈ zwd := zt_5 _ (List.mem_of_getElem? (i := 28) rfl) rfl
theorem q_246 : Cond.fieldLink "CallOpener$Machine" 108 "CallOpener$Pile" "size" "I" ∈ zwd := zt_1 _ (List.mem_of_getElem? (i := 81) rfl) rfl
theorem q_564 : Cond.fieldLink "CallOpener$Machine" 109 "CallOpener$Machine" "base" "I" ∈ zwd := zt_2 _ (List.mem_of_getElem? (i := 159) rfl) rfl
theorem q_568 : Cond.fieldLink "CallOpener$Machine" 112 "CallOpener$Machine" "floor" "I" ∈ zwd := zt_2 _ (List.mem_of_getElem? (i := 163) rfl) rfl
theorem q_569 : Cond.fieldLink "CallOpener$Machine" 115 "CallOpener$Machine" "over" "Z" ∈ zwd := zt_2 _ (List.mem_of_getElem? (i := 164) rfl) rfl
theorem q_1158 : Cond.constant "CallOpener$Machine" 119 (Int32.ofInt 100000) ∈ zwd := zt_5 _ (List.mem_of_getElem? (i := 33) rfl) rfl
theorem q_1159 : Cond.methodLink "CallOpener$Machine" 120 ⟨"CallOpener$Machine", "doLine", "()V"⟩ ∈ zwd := zt_5 _ (List.mem_of_getElem? (i := 34) rfl) rfl
theorem q_1161 : Cond.instanceMethod ⟨"CallOpener$Machine", "doLine", "()V"⟩ ∈ zwd := zt_5 _ (List.mem_of_getElem? (i := 36) rfl) rfl
theorem q_34 : Cond.selects "CallOpener$Machine" ⟨"CallOpener$Machine", "doLine", "()V"⟩ ⟨"CallOpener$Machine", "doLine", "()V"⟩ ∈ zwd := zt_0 _ (List.mem_of_getElem? (i := 34) rfl) rfl
theorem q_1217 : Cond.methodLink "CallOpener$Machine" 123 ⟨"CallOpener$Machine", "leaveBlock", "()V"⟩ ∈ zwd := zt_5 _ (List.mem_of_getElem? (i := 92) rfl) rfl
theorem q_1219 : Cond.instanceMethod ⟨"CallOpener$Machine", "leaveBlock", "()V"⟩ ∈ zwd := zt_5 _ (List.mem_of_getElem? (i := 94) rfl) rfl
theorem q_43 : Cond.selects "CallOpener$Machine" ⟨"CallOpener$Machine", "leaveBlock", "()V"⟩ ⟨"CallOpener$Machine", "leaveBlock", "()V"⟩ ∈ zwd := zt_0 _ (List.mem_of_getElem? (i := 43) rfl) rfl
theorem q_1206 : Cond.methodLink "CallOpener$Machine" 126 ⟨"CallOpener$Machine", "leaveFunction", "(I)V"⟩ ∈ zwd := zt_5 _ (List.mem_of_getElem? (i := 81) rfl) rfl
theorem q_1208 : Cond.instanceMethod ⟨"CallOpener$Machine", "leaveFunction", "(I)V"⟩ ∈ zwd := zt_5 _ (List.mem_of_getElem? (i := 83) rfl) rfl
theorem q_41 : Cond.selects "CallOpener$Machine" ⟨"CallOpener$Machine", "leaveFunction", "(I)V"⟩ ⟨"CallOpener$Machine", "leaveFunction", "(I)V"⟩ ∈ zwd := zt_0 _ (List.mem_of_getElem? (i := 41) rfl) rfl
theorem q_1163 : Cond.methodLink "CallOpener$Machine" 129 ⟨"CallOpener$Machine", "halt", "(I)V"⟩ ∈ zwd := zt_5 _ (List.mem_of_getElem? (i := 38) rfl) rfl
theorem q_1165 : Cond.instanceMethod ⟨"CallOpener$Machine", "halt", "(I)V"⟩ ∈ zwd := zt_5 _ (List.mem_of_getElem? (i := 40) rfl) rfl
theorem q_35 : Cond.selects "CallOpener$Machine" ⟨"CallOpener$Machine", "halt", "(I)V"⟩ ⟨"CallOpener$Machine", "halt", "(I)V"⟩ ∈ zwd := zt_0 _ (List.mem_of_getElem? (i := 35) rfl) rfl
theorem q_297 : Cond.fieldLink "CallOpener$Machine" 132 "CallOpener$Lines" "kind" "[I" ∈ zwd := zt_1 _ (List.mem_of_getElem? (i := 132) rfl) rfl
theorem q_1167 : Cond.methodLink "CallOpener$Machine" 135 ⟨"CallOpener$Machine", "doCall", "()V"⟩ ∈ zwd := zt_5 _ (List.mem_of_getElem? (i := 42) rfl) rfl
theorem q_1169 : Cond.instanceMethod ⟨"CallOpener$Machine", "doCall", "()V"⟩ ∈ zwd := zt_5 _ (List.mem_of_getElem? (i := 44) rfl) rfl
theorem q_36 : Cond.selects "CallOpener$Machine" ⟨"CallOpener$Machine", "doCall", "()V"⟩ ⟨"CallOpener$Machine", "doCall", "()V"⟩ ∈ zwd := zt_0 _ (List.mem_of_getElem? (i := 36) rfl) rfl
theorem q_1197 : Cond.methodLink "CallOpener$Machine" 138 ⟨"CallOpener$Machine", "doIf", "()V"⟩ ∈ zwd := zt_5 _ (List.mem_of_getElem? (i := 72) rfl) rfl
theorem q_1199 : Cond.instanceMethod ⟨"CallOpener$Machine", "doIf", "()V"⟩ ∈ zwd := zt_5 _ (List.mem_of_getElem? (i := 74) rfl) rfl
theorem q_39 : Cond.selects "CallOpener$Machine" ⟨"CallOpener$Machine", "doIf", "()V"⟩ ⟨"CallOpener$Machine", "doIf", "()V"⟩ ∈ zwd := zt_0 _ (List.mem_of_getElem? (i := 39) rfl) rfl
theorem q_339 : Cond.fieldLink "CallOpener$Machine" 141 "CallOpener$Lines" "end" "[I" ∈ zwd := zt_1 _ (List.mem_of_getElem? (i := 174) rfl) rfl
theorem q_309 : Cond.fieldLink "CallOpener$Machine" 144 "CallOpener$Lines" "first" "[I" ∈ zwd := zt_1 _ (List.mem_of_getElem? (i := 144) rfl) rfl
theorem q_1179 : Cond.methodLink "CallOpener$Machine" 147 ⟨"CallOpener$Machine", "valueOf", "(I)I"⟩ ∈ zwd := zt_5 _ (List.mem_of_getElem? (i := 54) rfl) rfl
theorem q_1181 : Cond.instanceMethod ⟨"CallOpener$Machine", "valueOf", "(I)I"⟩ ∈ zwd := zt_5 _ (List.mem_of_getElem? (i := 56) rfl) rfl
theorem q_38 : Cond.selects "CallOpener$Machine" ⟨"CallOpener$Machine", "valueOf", "(I)I"⟩ ⟨"CallOpener$Machine", "valueOf", "(I)I"⟩ ∈ zwd := zt_0 _ (List.mem_of_getElem? (i := 38) rfl) rfl
theorem q_1201 : Cond.methodLink "CallOpener$Machine" 151 ⟨"CallOpener$Machine", "enterBlock", "(III)V"⟩ ∈ zwd := zt_5 _ (List.mem_of_getElem? (i := 76) rfl) rfl
theorem q_1203 : Cond.instanceMethod ⟨"CallOpener$Machine", "enterBlock", "(III)V"⟩ ∈ zwd := zt_5 _ (List.mem_of_getElem? (i := 78) rfl) rfl
theorem q_40 : Cond.selects "CallOpener$Machine" ⟨"CallOpener$Machine", "enterBlock", "(III)V"⟩ ⟨"CallOpener$Machine", "enterBlock", "(III)V"⟩ ∈ zwd := zt_0 _ (List.mem_of_getElem? (i := 40) rfl) rfl
theorem q_314 : Cond.fieldLink "CallOpener$Machine" 155 "CallOpener$Lines" "second" "[I" ∈ zwd := zt_1 _ (List.mem_of_getElem? (i := 149) rfl) rfl
theorem q_1210 : Cond.methodLink "CallOpener$Machine" 162 ⟨"CallOpener$Machine", "putValue", "(I)V"⟩ ∈ zwd := zt_5 _ (List.mem_of_getElem? (i := 85) rfl) rfl
theorem q_1212 : Cond.instanceMethod ⟨"CallOpener$Machine", "putValue", "(I)V"⟩ ∈ zwd := zt_5 _ (List.mem_of_getElem? (i := 87) rfl) rfl
theorem q_42 : Cond.selects "CallOpener$Machine" ⟨"CallOpener$Machine", "putValue", "(I)V"⟩ ⟨"CallOpener$Machine", "putValue", "(I)V"⟩ ∈ zwd := zt_0 _ (List.mem_of_getElem? (i := 42) rfl) rfl
theorem q_304 : Cond.fieldLink "CallOpener$Machine" 169 "CallOpener$Lines" "target" "[I" ∈ zwd := zt_1 _ (List.mem_of_getElem? (i := 139) rfl) rfl
theorem q_337 : Cond.fieldLink "CallOpener$Machine" 172 "CallOpener$Lines" "middle" "[I" ∈ zwd := zt_1 _ (List.mem_of_getElem? (i := 172) rfl) rfl
theorem q_1205 : Cond.methodLink "CallOpener$Machine" 175 ⟨"CallOpener$Pile", "isFull", "()Z"⟩ ∈ zwd := zt_5 _ (List.mem_of_getElem? (i := 80) rfl) rfl
theorem q_1191 : Cond.instanceMethod ⟨"CallOpener$Pile", "isFull", "()Z"⟩ ∈ zwd := zt_5 _ (List.mem_of_getElem? (i := 66) rfl) rfl
theorem q_1192 : Cond.selects "CallOpener$Pile" ⟨"CallOpener$Pile", "isFull", "()Z"⟩ ⟨"CallOpener$Pile", "isFull", "()Z"⟩ ∈ zwd := zt_5 _ (List.mem_of_getElem? (i := 67) rfl) rfl
theorem q_1186 : Cond.methodLink "CallOpener$Machine" 179 ⟨"CallOpener$Pile", "push", "(IIII)V"⟩ ∈ zwd := zt_5 _ (List.mem_of_getElem? (i := 61) rfl) rfl
theorem q_238 : Cond.fieldLink "CallOpener$Machine" 183 "CallOpener$Pile" "b" "[I" ∈ zwd := zt_1 _ (List.mem_of_getElem? (i := 73) rfl) rfl
theorem q_235 : Cond.fieldLink "CallOpener$Machine" 186 "CallOpener$Pile" "a" "[I" ∈ zwd := zt_1 _ (List.mem_of_getElem? (i := 70) rfl) rfl
theorem q_241 : Cond.fieldLink "CallOpener$Machine" 189 "CallOpener$Pile" "c" "[I" ∈ zwd := zt_1 _ (List.mem_of_getElem? (i := 76) rfl) rfl
theorem q_243 : Cond.fieldLink "CallOpener$Machine" 192 "CallOpener$Pile" "d" "[I" ∈ zwd := zt_1 _ (List.mem_of_getElem? (i := 78) rfl) rfl
theorem q_437 : Cond.fieldLink "CallOpener$Machine" 195 "CallOpener$Program" "siteTo" "[I" ∈ zwd := zt_2 _ (List.mem_of_getElem? (i := 32) rfl) rfl
theorem q_323 : Cond.fieldLink "CallOpener$Machine" 198 "CallOpener$Lines" "site" "[I" ∈ zwd := zt_1 _ (List.mem_of_getElem? (i := 158) rfl) rfl
theorem q_1171 : Cond.methodLink "CallOpener$Machine" 201 ⟨"CallOpener$Machine", "enterFunction", "(I)V"⟩ ∈ zwd := zt_5 _ (List.mem_of_getElem? (i := 46) rfl) rfl
theorem q_1173 : Cond.instanceMethod ⟨"CallOpener$Machine", "enterFunction", "(I)V"⟩ ∈ zwd := zt_5 _ (List.mem_of_getElem? (i := 48) rfl) rfl
theorem q_37 : Cond.selects "CallOpener$Machine" ⟨"CallOpener$Machine", "enterFunction", "(I)V"⟩ ⟨"CallOpener$Machine", "enterFunction", "(I)V"⟩ ∈ zwd := zt_0 _ (List.mem_of_getElem? (i := 37) rfl) rfl
theorem q_1175 : Cond.methodLink "CallOpener$Machine" 204 ⟨"CallOpener$Lines", "operand", "(II)I"⟩ ∈ zwd := zt_5 _ (List.mem_of_getElem? (i := 50) rfl) rfl
theorem q_1176 : Cond.instanceMethod ⟨"CallOpener$Lines", "operand", "(II)I"⟩ ∈ zwd := zt_5 _ (List.mem_of_getElem? (i := 51) rfl) rfl
theorem q_1177 : Cond.selects "CallOpener$Lines" ⟨"CallOpener$Lines", "operand", "(II)I"⟩ ⟨"CallOpener$Lines", "operand", "(II)I"⟩ ∈ zwd := zt_5 _ (List.mem_of_getElem? (i := 52) rfl) rfl
theorem q_1194 : Cond.methodLink "CallOpener$Machine" 207 ⟨"java/lang/Math", "max", "(II)I"⟩ ∈ zwd := zt_5 _ (List.mem_of_getElem? (i := 69) rfl) rfl
theorem q_232 : Cond.methodLink "CallOpener$Pile" 1 ⟨"java/lang/Object", "<init>", "()V"⟩ ∈ zwd := zt_1 _ (List.mem_of_getElem? (i := 67) rfl) rfl
theorem q_233 : Cond.fieldLink "CallOpener$Pile" 7 "CallOpener$Pile" "a" "[I" ∈ zwd := zt_1 _ (List.mem_of_getElem? (i := 68) rfl) rfl
theorem q_236 : Cond.fieldLink "CallOpener$Pile" 13 "CallOpener$Pile" "b" "[I" ∈ zwd := zt_1 _ (List.mem_of_getElem? (i := 71) rfl) rfl
theorem q_239 : Cond.fieldLink "CallOpener$Pile" 16 "CallOpener$Pile" "c" "[I" ∈ zwd := zt_1 _ (List.mem_of_getElem? (i := 74) rfl) rfl
theorem q_242 : Cond.fieldLink "CallOpener$Pile" 19 "CallOpener$Pile" "d" "[I" ∈ zwd := zt_1 _ (List.mem_of_getElem? (i := 77) rfl) rfl
theorem q_244 : Cond.fieldLink "CallOpener$Pile" 22 "CallOpener$Pile" "size" "I" ∈ zwd := zt_1 _ (List.mem_of_getElem? (i := 79) rfl) rfl
theorem q_1190 : Cond.methodLink "CallOpener$Pile" 26 ⟨"CallOpener$Pile", "isFull", "()Z"⟩ ∈ zwd := zt_5 _ (List.mem_of_getElem? (i := 65) rfl) rfl
theorem q_208 : Cond.methodLink "CallOpener$Profile" 3 ⟨"java/lang/Object", "<init>", "()V"⟩ ∈ zwd := zt_1 _ (List.mem_of_getElem? (i := 43) rfl) rfl
theorem q_209 : Cond.fieldLink "CallOpener$Profile" 9 "CallOpener$Profile" "entries" "[I" ∈ zwd := zt_1 _ (List.mem_of_getElem? (i := 44) rfl) rfl
theorem q_213 : Cond.fieldLink "CallOpener$Profile" 15 "CallOpener$Profile" "counts" "[I" ∈ zwd := zt_1 _ (List.mem_of_getElem? (i := 48) rfl) rfl
theorem q_1080 : Cond.methodLink "CallOpener$Profile" 18 ⟨"java/util/Arrays", "fill", "([II)V"⟩ ∈ zwd := zt_4 _ (List.mem_of_getElem? (i := 195) rfl) rfl
theorem q_1096 : Cond.methodLink "CallOpener$Profile" 24 ⟨"CallOpener$Profile", "sum", "([I)I"⟩ ∈ zwd := zt_4 _ (List.mem_of_getElem? (i := 211) rfl) rfl
theorem q_1097 : Cond.static ⟨"CallOpener$Profile", "sum", "([I)I"⟩ ∈ zwd := zt_4 _ (List.mem_of_getElem? (i := 212) rfl) rfl
theorem q_287 : Cond.methodLink "CallOpener$Program" 3 ⟨"java/lang/Object", "<init>", "()V"⟩ ∈ zwd := zt_1 _ (List.mem_of_getElem? (i := 122) rfl) rfl
theorem q_385 : Cond.fieldLink "CallOpener$Program" 9 "CallOpener$Program" "name" "[I" ∈ zwd := zt_1 _ (List.mem_of_getElem? (i := 220) rfl) rfl
theorem q_387 : Cond.fieldLink "CallOpener$Program" 15 "CallOpener$Program" "nameLength" "[I" ∈ zwd := zt_1 _ (List.mem_of_getElem? (i := 222) rfl) rfl
theorem q_390 : Cond.fieldLink "CallOpener$Program" 18 "CallOpener$Program" "parameters" "[I" ∈ zwd := zt_1 _ (List.mem_of_getElem? (i := 225) rfl) rfl
theorem q_395 : Cond.fieldLink "CallOpener$Program" 21 "CallOpener$Program" "variables" "[I" ∈ zwd := zt_1 _ (List.mem_of_getElem? (i := 230) rfl) rfl
theorem q_402 : Cond.fieldLink "CallOpener$Program" 24 "CallOpener$Program" "firstLine" "[I" ∈ zwd := zt_1 _ (List.mem_of_getElem? (i := 237) rfl) rfl
theorem q_406 : Cond.fieldLink "CallOpener$Program" 27 "CallOpener$Program" "lineCount" "[I" ∈ zwd := zt_2 _ (List.mem_of_getElem? (i := 1) rfl) rfl
theorem q_412 : Cond.fieldLink "CallOpener$Program" 30 "CallOpener$Program" "firstSite" "[I" ∈ zwd := zt_2 _ (List.mem_of_getElem? (i := 7) rfl) rfl
theorem q_417 : Cond.fieldLink "CallOpener$Program" 33 "CallOpener$Program" "siteCount" "[I" ∈ zwd := zt_2 _ (List.mem_of_getElem? (i := 12) rfl) rfl
theorem q_422 : Cond.fieldLink "CallOpener$Program" 36 "CallOpener$Program" "given" "[I" ∈ zwd := zt_2 _ (List.mem_of_getElem? (i := 17) rfl) rfl
theorem q_425 : Cond.fieldLink "CallOpener$Program" 39 "CallOpener$Program" "adds" "[I" ∈ zwd := zt_2 _ (List.mem_of_getElem? (i := 20) rfl) rfl
theorem q_430 : Cond.fieldLink "CallOpener$Program" 42 "CallOpener$Program" "siteIn" "[I" ∈ zwd := zt_2 _ (List.mem_of_getElem? (i := 25) rfl) rfl
theorem q_433 : Cond.fieldLink "CallOpener$Program" 45 "CallOpener$Program" "siteTo" "[I" ∈ zwd := zt_2 _ (List.mem_of_getElem? (i := 28) rfl) rfl
theorem q_439 : Cond.fieldLink "CallOpener$Program" 48 "CallOpener$Program" "siteLine" "[I" ∈ zwd := zt_2 _ (List.mem_of_getElem? (i := 34) rfl) rfl
theorem q_442 : Cond.fieldLink "CallOpener$Program" 51 "CallOpener$Program" "siteNumbers" "[I" ∈ zwd := zt_2 _ (List.mem_of_getElem? (i := 37) rfl) rfl
theorem q_288 : Cond.classLink "CallOpener$Program" 54 "CallOpener$Lines" ∈ zwd := zt_1 _ (List.mem_of_getElem? (i := 123) rfl) rfl
theorem q_289 : Cond.instantiable "CallOpener$Lines" 14 ∈ zwd := zt_1 _ (List.mem_of_getElem? (i := 124) rfl) rfl
theorem q_290 : Cond.methodLink "CallOpener$Program" 56 ⟨"CallOpener$Lines", "<init>", "(I)V"⟩ ∈ zwd := zt_1 _ (List.mem_of_getElem? (i := 125) rfl) rfl
theorem q_291 : Cond.instanceMethod ⟨"CallOpener$Lines", "<init>", "(I)V"⟩ ∈ zwd := zt_1 _ (List.mem_of_getElem? (i := 126) rfl) rfl
theorem q_446 : Cond.fieldLink "CallOpener$Program" 59 "CallOpener$Program" "lines" "LCallOpener$Lines;" ∈ zwd := zt_2 _ (List.mem_of_getElem? (i := 41) rfl) rfl
theorem q_379 : Cond.fieldLink "CallOpener$Program" 63 "CallOpener$Program" "functions" "I" ∈ zwd := zt_1 _ (List.mem_of_getElem? (i := 214) rfl) rfl
theorem q_382 : Cond.fieldLink "CallOpener$Program" 67 "CallOpener$Program" "sites" "I" ∈ zwd := zt_1 _ (List.mem_of_getElem? (i := 217) rfl) rfl
theorem q_345 : Cond.fieldLink "CallOpener$Program" 70 "CallOpener$Lines" "size" "I" ∈ zwd := zt_1 _ (List.mem_of_getElem? (i := 180) rfl) rfl
theorem q_1116 : Cond.methodLink "CallOpener$Program" 73 ⟨"CallOpener$Program", "calledBy", "(I)I"⟩ ∈ zwd := zt_4 _ (List.mem_of_getElem? (i := 231) rfl) rfl
theorem q_1118 : Cond.instanceMethod ⟨"CallOpener$Program", "calledBy", "(I)I"⟩ ∈ zwd := zt_4 _ (List.mem_of_getElem? (i := 233) rfl) rfl
theorem q_30 : Cond.selects "CallOpener$Program" ⟨"CallOpener$Program", "calledBy", "(I)I"⟩ ⟨"CallOpener$Program", "calledBy", "(I)I"⟩ ∈ zwd := zt_0 _ (List.mem_of_getElem? (i := 30) rfl) rfl
theorem q_1528 : Cond.methodLink "CallOpener$Program" 81 ⟨"CallOpener$Program", "exchanged", "(III)I"⟩ ∈ zwd := zt_6 _ (List.mem_of_getElem? (i := 163) rfl) rfl
theorem q_1529 : Cond.static ⟨"CallOpener$Program", "exchanged", "(III)I"⟩ ∈ zwd := zt_6 _ (List.mem_of_getElem? (i := 164) rfl) rfl
theorem q_490 : Cond.methodLink "CallOpener$Reader" 3 ⟨"java/lang/Object", "<init>", "()V"⟩ ∈ zwd := zt_2 _ (List.mem_of_getElem? (i := 85) rfl) rfl
theorem q_491 : Cond.fieldLink "CallOpener$Reader" 9 "CallOpener$Reader" "sorts" "[I" ∈ zwd := zt_2 _ (List.mem_of_getElem? (i := 86) rfl) rfl
theorem q_492 : Cond.fieldLink "CallOpener$Reader" 15 "CallOpener$Reader" "starts" "[I" ∈ zwd := zt_2 _ (List.mem_of_getElem? (i := 87) rfl) rfl
theorem q_493 : Cond.fieldLink "CallOpener$Reader" 18 "CallOpener$Reader" "values" "[I" ∈ zwd := zt_2 _ (List.mem_of_getElem? (i := 88) rfl) rfl
theorem q_501 : Cond.fieldLink "CallOpener$Reader" 21 "CallOpener$Reader" "variableNames" "[I" ∈ zwd := zt_2 _ (List.mem_of_getElem? (i := 96) rfl) rfl
theorem q_502 : Cond.fieldLink "CallOpener$Reader" 24 "CallOpener$Reader" "calledNames" "[I" ∈ zwd := zt_2 _ (List.mem_of_getElem? (i := 97) rfl) rfl
theorem q_503 : Cond.fieldLink "CallOpener$Reader" 27 "CallOpener$Reader" "calledPlaces" "[I" ∈ zwd := zt_2 _ (List.mem_of_getElem? (i := 98) rfl) rfl
theorem q_504 : Cond.fieldLink "CallOpener$Reader" 30 "CallOpener$Reader" "calledOperands" "[I" ∈ zwd := zt_2 _ (List.mem_of_getElem? (i := 99) rfl) rfl
theorem q_506 : Cond.fieldLink "CallOpener$Reader" 33 "CallOpener$Reader" "openers" "[I" ∈ zwd := zt_2 _ (List.mem_of_getElem? (i := 101) rfl) rfl
theorem q_507 : Cond.fieldLink "CallOpener$Reader" 36 "CallOpener$Reader" "branches" "[I" ∈ zwd := zt_2 _ (List.mem_of_getElem? (i := 102) rfl) rfl
theorem q_499 : Cond.fieldLink "CallOpener$Reader" 39 "CallOpener$Reader" "into" "LCallOpener$Program;" ∈ zwd := zt_2 _ (List.mem_of_getElem? (i := 94) rfl) rfl
theorem q_871 : Cond.methodLink "CallOpener$Reader" 43 ⟨"CallOpener$Program", "clear", "()V"⟩ ∈ zwd := zt_3 _ (List.mem_of_getElem? (i := 226) rfl) rfl
theorem q_872 : Cond.instanceMethod ⟨"CallOpener$Program", "clear", "()V"⟩ ∈ zwd := zt_3 _ (List.mem_of_getElem? (i := 227) rfl) rfl
theorem q_873 : Cond.selects "CallOpener$Program" ⟨"CallOpener$Program", "clear", "()V"⟩ ⟨"CallOpener$Program", "clear", "()V"⟩ ∈ zwd := zt_3 _ (List.mem_of_getElem? (i := 228) rfl) rfl
theorem q_497 : Cond.fieldLink "CallOpener$Reader" 48 "CallOpener$Reader" "fault" "I" ∈ zwd := zt_2 _ (List.mem_of_getElem? (i := 92) rfl) rfl
theorem q_498 : Cond.fieldLink "CallOpener$Reader" 52 "CallOpener$Reader" "place" "I" ∈ zwd := zt_2 _ (List.mem_of_getElem? (i := 93) rfl) rfl
theorem q_495 : Cond.fieldLink "CallOpener$Reader" 55 "CallOpener$Reader" "at" "I" ∈ zwd := zt_2 _ (List.mem_of_getElem? (i := 90) rfl) rfl
theorem q_875 : Cond.methodLink "CallOpener$Reader" 58 ⟨"java/lang/Math", "min", "(II)I"⟩ ∈ zwd := zt_3 _ (List.mem_of_getElem? (i := 230) rfl) rfl
theorem q_878 : Cond.methodLink "CallOpener$Reader" 64 ⟨"CallOpener$Reader", "takeTokens", "([II)V"⟩ ∈ zwd := zt_3 _ (List.mem_of_getElem? (i := 233) rfl) rfl
theorem q_880 : Cond.instanceMethod ⟨"CallOpener$Reader", "takeTokens", "([II)V"⟩ ∈ zwd := zt_3 _ (List.mem_of_getElem? (i := 235) rfl) rfl
theorem q_1 : Cond.selects "CallOpener$Reader" ⟨"CallOpener$Reader", "takeTokens", "([II)V"⟩ ⟨"CallOpener$Reader", "takeTokens", "([II)V"⟩ ∈ zwd := zt_0 _ (List.mem_of_getElem? (i := 1) rfl) rfl
theorem q_958 : Cond.methodLink "CallOpener$Reader" 68 ⟨"CallOpener$Reader", "readFunctionHead", "()Z"⟩ ∈ zwd := zt_4 _ (List.mem_of_getElem? (i := 73) rfl) rfl
theorem q_960 : Cond.instanceMethod ⟨"CallOpener$Reader", "readFunctionHead", "()Z"⟩ ∈ zwd := zt_4 _ (List.mem_of_getElem? (i := 75) rfl) rfl
theorem q_4 : Cond.selects "CallOpener$Reader" ⟨"CallOpener$Reader", "readFunctionHead", "()Z"⟩ ⟨"CallOpener$Reader", "readFunctionHead", "()Z"⟩ ∈ zwd := zt_0 _ (List.mem_of_getElem? (i := 4) rfl) rfl
theorem q_997 : Cond.methodLink "CallOpener$Reader" 72 ⟨"CallOpener$Reader", "readLines", "()Z"⟩ ∈ zwd := zt_4 _ (List.mem_of_getElem? (i := 112) rfl) rfl
theorem q_999 : Cond.instanceMethod ⟨"CallOpener$Reader", "readLines", "()Z"⟩ ∈ zwd := zt_4 _ (List.mem_of_getElem? (i := 114) rfl) rfl
theorem q_12 : Cond.selects "CallOpener$Reader" ⟨"CallOpener$Reader", "readLines", "()Z"⟩ ⟨"CallOpener$Reader", "readLines", "()Z"⟩ ∈ zwd := zt_0 _ (List.mem_of_getElem? (i := 12) rfl) rfl
theorem q_1072 : Cond.methodLink "CallOpener$Reader" 75 ⟨"CallOpener$Reader", "findCalled", "()V"⟩ ∈ zwd := zt_4 _ (List.mem_of_getElem? (i := 187) rfl) rfl
theorem q_1074 : Cond.instanceMethod ⟨"CallOpener$Reader", "findCalled", "()V"⟩ ∈ zwd := zt_4 _ (List.mem_of_getElem? (i := 189) rfl) rfl
theorem q_27 : Cond.selects "CallOpener$Reader" ⟨"CallOpener$Reader", "findCalled", "()V"⟩ ⟨"CallOpener$Reader", "findCalled", "()V"⟩ ∈ zwd := zt_0 _ (List.mem_of_getElem? (i := 27) rfl) rfl
theorem q_494 : Cond.fieldLink "CallOpener$Reader" 78 "CallOpener$Reader" "tokens" "I" ∈ zwd := zt_2 _ (List.mem_of_getElem? (i := 89) rfl) rfl
theorem q_882 : Cond.methodLink "CallOpener$Reader" 81 ⟨"CallOpener$Reader", "isLetter", "(I)Z"⟩ ∈ zwd := zt_3 _ (List.mem_of_getElem? (i := 237) rfl) rfl
theorem q_883 : Cond.static ⟨"CallOpener$Reader", "isLetter", "(I)Z"⟩ ∈ zwd := zt_3 _ (List.mem_of_getElem? (i := 238) rfl) rfl
theorem q_885 : Cond.methodLink "CallOpener$Reader" 85 ⟨"CallOpener$Reader", "takeWord", "([III)I"⟩ ∈ zwd := zt_4 _ (List.mem_of_getElem? (i := 0) rfl) rfl
theorem q_887 : Cond.instanceMethod ⟨"CallOpener$Reader", "takeWord", "([III)I"⟩ ∈ zwd := zt_4 _ (List.mem_of_getElem? (i := 2) rfl) rfl
theorem q_2 : Cond.selects "CallOpener$Reader" ⟨"CallOpener$Reader", "takeWord", "([III)I"⟩ ⟨"CallOpener$Reader", "takeWord", "([III)I"⟩ ∈ zwd := zt_0 _ (List.mem_of_getElem? (i := 2) rfl) rfl
theorem q_951 : Cond.methodLink "CallOpener$Reader" 89 ⟨"CallOpener$Reader", "isDigit", "(I)Z"⟩ ∈ zwd := zt_4 _ (List.mem_of_getElem? (i := 66) rfl) rfl
theorem q_952 : Cond.static ⟨"CallOpener$Reader", "isDigit", "(I)Z"⟩ ∈ zwd := zt_4 _ (List.mem_of_getElem? (i := 67) rfl) rfl
theorem q_954 : Cond.methodLink "CallOpener$Reader" 92 ⟨"CallOpener$Reader", "takeNumber", "([III)I"⟩ ∈ zwd := zt_4 _ (List.mem_of_getElem? (i := 69) rfl) rfl
theorem q_956 : Cond.instanceMethod ⟨"CallOpener$Reader", "takeNumber", "([III)I"⟩ ∈ zwd := zt_4 _ (List.mem_of_getElem? (i := 71) rfl) rfl
theorem q_3 : Cond.selects "CallOpener$Reader" ⟨"CallOpener$Reader", "takeNumber", "([III)I"⟩ ⟨"CallOpener$Reader", "takeNumber", "([III)I"⟩ ∈ zwd := zt_0 _ (List.mem_of_getElem? (i := 3) rfl) rfl
theorem q_889 : Cond.methodLink "CallOpener$Reader" 95 ⟨"CallOpener$Program", "nameWith", "(II)I"⟩ ∈ zwd := zt_4 _ (List.mem_of_getElem? (i := 4) rfl) rfl
theorem q_890 : Cond.static ⟨"CallOpener$Program", "nameWith", "(II)I"⟩ ∈ zwd := zt_4 _ (List.mem_of_getElem? (i := 5) rfl) rfl
theorem q_892 : Cond.methodLink "CallOpener$Reader" 98 ⟨"CallOpener$Reader", "sortOfWord", "([III)I"⟩ ∈ zwd := zt_4 _ (List.mem_of_getElem? (i := 7) rfl) rfl
theorem q_893 : Cond.static ⟨"CallOpener$Reader", "sortOfWord", "([III)I"⟩ ∈ zwd := zt_4 _ (List.mem_of_getElem? (i := 8) rfl) rfl
theorem q_896 : Cond.methodLink "CallOpener$Reader" 103 ⟨"CallOpener$Reader", "isWord", "(Ljava/lang/String;[III)Z"⟩ ∈ zwd := zt_4 _ (List.mem_of_getElem? (i := 11) rfl) rfl
theorem q_897 : Cond.static ⟨"CallOpener$Reader", "isWord", "(Ljava/lang/String;[III)Z"⟩ ∈ zwd := zt_4 _ (List.mem_of_getElem? (i := 12) rfl) rfl
theorem q_899 : Cond.methodLink "CallOpener$Reader" 115 ⟨"java/lang/String", "length", "()I"⟩ ∈ zwd := zt_4 _ (List.mem_of_getElem? (i := 14) rfl) rfl
theorem q_900 : Cond.instanceMethod ⟨"java/lang/String", "length", "()I"⟩ ∈ zwd := zt_4 _ (List.mem_of_getElem? (i := 15) rfl) rfl
theorem q_901 : Cond.selects "java/lang/String" ⟨"java/lang/String", "length", "()I"⟩ ⟨"java/lang/String", "length", "()I"⟩ ∈ zwd := zt_4 _ (List.mem_of_getElem? (i := 16) rfl) rfl
theorem q_180 : Cond.initialized "java/lang/String" ∈ zwd := zt_1 _ (List.mem_of_getElem? (i := 15) rfl) rfl
theorem q_909 : Cond.methodLink "CallOpener$Reader" 121 ⟨"java/lang/String", "charAt", "(I)C"⟩ ∈ zwd := zt_4 _ (List.mem_of_getElem? (i := 24) rfl) rfl
theorem q_910 : Cond.instanceMethod ⟨"java/lang/String", "charAt", "(I)C"⟩ ∈ zwd := zt_4 _ (List.mem_of_getElem? (i := 25) rfl) rfl
theorem q_911 : Cond.selects "java/lang/String" ⟨"java/lang/String", "charAt", "(I)C"⟩ ⟨"java/lang/String", "charAt", "(I)C"⟩ ∈ zwd := zt_4 _ (List.mem_of_getElem? (i := 26) rfl) rfl
theorem q_962 : Cond.methodLink "CallOpener$Reader" 125 ⟨"CallOpener$Reader", "wrong", "(I)Z"⟩ ∈ zwd := zt_4 _ (List.mem_of_getElem? (i := 77) rfl) rfl
theorem q_964 : Cond.instanceMethod ⟨"CallOpener$Reader", "wrong", "(I)Z"⟩ ∈ zwd := zt_4 _ (List.mem_of_getElem? (i := 79) rfl) rfl
theorem q_5 : Cond.selects "CallOpener$Reader" ⟨"CallOpener$Reader", "wrong", "(I)Z"⟩ ⟨"CallOpener$Reader", "wrong", "(I)Z"⟩ ∈ zwd := zt_0 _ (List.mem_of_getElem? (i := 5) rfl) rfl
theorem q_381 : Cond.fieldLink "CallOpener$Reader" 128 "CallOpener$Program" "functions" "I" ∈ zwd := zt_1 _ (List.mem_of_getElem? (i := 216) rfl) rfl
theorem q_966 : Cond.methodLink "CallOpener$Reader" 131 ⟨"CallOpener$Reader", "faultOfNoName", "()I"⟩ ∈ zwd := zt_4 _ (List.mem_of_getElem? (i := 81) rfl) rfl
theorem q_968 : Cond.instanceMethod ⟨"CallOpener$Reader", "faultOfNoName", "()I"⟩ ∈ zwd := zt_4 _ (List.mem_of_getElem? (i := 83) rfl) rfl
theorem q_6 : Cond.selects "CallOpener$Reader" ⟨"CallOpener$Reader", "faultOfNoName", "()I"⟩ ⟨"CallOpener$Reader", "faultOfNoName", "()I"⟩ ∈ zwd := zt_0 _ (List.mem_of_getElem? (i := 6) rfl) rfl
theorem q_970 : Cond.methodLink "CallOpener$Reader" 134 ⟨"CallOpener$Program", "functionNamed", "(I)I"⟩ ∈ zwd := zt_4 _ (List.mem_of_getElem? (i := 85) rfl) rfl
theorem q_971 : Cond.instanceMethod ⟨"CallOpener$Program", "functionNamed", "(I)I"⟩ ∈ zwd := zt_4 _ (List.mem_of_getElem? (i := 86) rfl) rfl
theorem q_972 : Cond.selects "CallOpener$Program" ⟨"CallOpener$Program", "functionNamed", "(I)I"⟩ ⟨"CallOpener$Program", "functionNamed", "(I)I"⟩ ∈ zwd := zt_4 _ (List.mem_of_getElem? (i := 87) rfl) rfl
theorem q_974 : Cond.methodLink "CallOpener$Reader" 138 ⟨"CallOpener$Reader", "beginFunction", "()I"⟩ ∈ zwd := zt_4 _ (List.mem_of_getElem? (i := 89) rfl) rfl
theorem q_976 : Cond.instanceMethod ⟨"CallOpener$Reader", "beginFunction", "()I"⟩ ∈ zwd := zt_4 _ (List.mem_of_getElem? (i := 91) rfl) rfl
theorem q_7 : Cond.selects "CallOpener$Reader" ⟨"CallOpener$Reader", "beginFunction", "()I"⟩ ⟨"CallOpener$Reader", "beginFunction", "()I"⟩ ∈ zwd := zt_0 _ (List.mem_of_getElem? (i := 7) rfl) rfl
theorem q_981 : Cond.methodLink "CallOpener$Reader" 141 ⟨"CallOpener$Reader", "takeSign", "(C)Z"⟩ ∈ zwd := zt_4 _ (List.mem_of_getElem? (i := 96) rfl) rfl
theorem q_983 : Cond.instanceMethod ⟨"CallOpener$Reader", "takeSign", "(C)Z"⟩ ∈ zwd := zt_4 _ (List.mem_of_getElem? (i := 98) rfl) rfl
theorem q_8 : Cond.selects "CallOpener$Reader" ⟨"CallOpener$Reader", "takeSign", "(C)Z"⟩ ⟨"CallOpener$Reader", "takeSign", "(C)Z"⟩ ∈ zwd := zt_0 _ (List.mem_of_getElem? (i := 8) rfl) rfl
theorem q_985 : Cond.methodLink "CallOpener$Reader" 145 ⟨"CallOpener$Reader", "readParameters", "()Z"⟩ ∈ zwd := zt_4 _ (List.mem_of_getElem? (i := 100) rfl) rfl
theorem q_987 : Cond.instanceMethod ⟨"CallOpener$Reader", "readParameters", "()Z"⟩ ∈ zwd := zt_4 _ (List.mem_of_getElem? (i := 102) rfl) rfl
theorem q_9 : Cond.selects "CallOpener$Reader" ⟨"CallOpener$Reader", "readParameters", "()Z"⟩ ⟨"CallOpener$Reader", "readParameters", "()Z"⟩ ∈ zwd := zt_0 _ (List.mem_of_getElem? (i := 9) rfl) rfl
theorem q_394 : Cond.fieldLink "CallOpener$Reader" 148 "CallOpener$Program" "parameters" "[I" ∈ zwd := zt_1 _ (List.mem_of_getElem? (i := 229) rfl) rfl
theorem q_500 : Cond.fieldLink "CallOpener$Reader" 151 "CallOpener$Reader" "variables" "I" ∈ zwd := zt_2 _ (List.mem_of_getElem? (i := 95) rfl) rfl
theorem q_386 : Cond.fieldLink "CallOpener$Reader" 154 "CallOpener$Program" "name" "[I" ∈ zwd := zt_1 _ (List.mem_of_getElem? (i := 221) rfl) rfl
theorem q_389 : Cond.fieldLink "CallOpener$Reader" 157 "CallOpener$Program" "nameLength" "[I" ∈ zwd := zt_1 _ (List.mem_of_getElem? (i := 224) rfl) rfl
theorem q_978 : Cond.methodLink "CallOpener$Reader" 160 ⟨"CallOpener$Reader", "lengthOfName", "(I)I"⟩ ∈ zwd := zt_4 _ (List.mem_of_getElem? (i := 93) rfl) rfl
theorem q_979 : Cond.static ⟨"CallOpener$Reader", "lengthOfName", "(I)I"⟩ ∈ zwd := zt_4 _ (List.mem_of_getElem? (i := 94) rfl) rfl
theorem q_405 : Cond.fieldLink "CallOpener$Reader" 163 "CallOpener$Program" "firstLine" "[I" ∈ zwd := zt_2 _ (List.mem_of_getElem? (i := 0) rfl) rfl
theorem q_449 : Cond.fieldLink "CallOpener$Reader" 166 "CallOpener$Program" "lines" "LCallOpener$Lines;" ∈ zwd := zt_2 _ (List.mem_of_getElem? (i := 44) rfl) rfl
theorem q_349 : Cond.fieldLink "CallOpener$Reader" 170 "CallOpener$Lines" "size" "I" ∈ zwd := zt_1 _ (List.mem_of_getElem? (i := 184) rfl) rfl
theorem q_416 : Cond.fieldLink "CallOpener$Reader" 175 "CallOpener$Program" "firstSite" "[I" ∈ zwd := zt_2 _ (List.mem_of_getElem? (i := 11) rfl) rfl
theorem q_384 : Cond.fieldLink "CallOpener$Reader" 178 "CallOpener$Program" "sites" "I" ∈ zwd := zt_1 _ (List.mem_of_getElem? (i := 219) rfl) rfl
theorem q_424 : Cond.fieldLink "CallOpener$Reader" 181 "CallOpener$Program" "given" "[I" ∈ zwd := zt_2 _ (List.mem_of_getElem? (i := 19) rfl) rfl
theorem q_505 : Cond.fieldLink "CallOpener$Reader" 184 "CallOpener$Reader" "depth" "I" ∈ zwd := zt_2 _ (List.mem_of_getElem? (i := 100) rfl) rfl
theorem q_401 : Cond.fieldLink "CallOpener$Reader" 187 "CallOpener$Program" "variables" "[I" ∈ zwd := zt_1 _ (List.mem_of_getElem? (i := 236) rfl) rfl
theorem q_411 : Cond.fieldLink "CallOpener$Reader" 189 "CallOpener$Program" "lineCount" "[I" ∈ zwd := zt_2 _ (List.mem_of_getElem? (i := 6) rfl) rfl
theorem q_421 : Cond.fieldLink "CallOpener$Reader" 192 "CallOpener$Program" "siteCount" "[I" ∈ zwd := zt_2 _ (List.mem_of_getElem? (i := 16) rfl) rfl
theorem q_429 : Cond.fieldLink "CallOpener$Reader" 195 "CallOpener$Program" "adds" "[I" ∈ zwd := zt_2 _ (List.mem_of_getElem? (i := 24) rfl) rfl
theorem q_1005 : Cond.methodLink "CallOpener$Reader" 198 ⟨"CallOpener$Program", "gives", "(I)Z"⟩ ∈ zwd := zt_4 _ (List.mem_of_getElem? (i := 120) rfl) rfl
theorem q_989 : Cond.methodLink "CallOpener$Reader" 201 ⟨"CallOpener$Reader", "readParameter", "()Z"⟩ ∈ zwd := zt_4 _ (List.mem_of_getElem? (i := 104) rfl) rfl
theorem q_991 : Cond.instanceMethod ⟨"CallOpener$Reader", "readParameter", "()Z"⟩ ∈ zwd := zt_4 _ (List.mem_of_getElem? (i := 106) rfl) rfl
theorem q_10 : Cond.selects "CallOpener$Reader" ⟨"CallOpener$Reader", "readParameter", "()Z"⟩ ⟨"CallOpener$Reader", "readParameter", "()Z"⟩ ∈ zwd := zt_0 _ (List.mem_of_getElem? (i := 10) rfl) rfl
theorem q_993 : Cond.methodLink "CallOpener$Reader" 204 ⟨"CallOpener$Reader", "variableHere", "()I"⟩ ∈ zwd := zt_4 _ (List.mem_of_getElem? (i := 108) rfl) rfl
theorem q_995 : Cond.instanceMethod ⟨"CallOpener$Reader", "variableHere", "()I"⟩ ∈ zwd := zt_4 _ (List.mem_of_getElem? (i := 110) rfl) rfl
theorem q_11 : Cond.selects "CallOpener$Reader" ⟨"CallOpener$Reader", "variableHere", "()I"⟩ ⟨"CallOpener$Reader", "variableHere", "()I"⟩ ∈ zwd := zt_0 _ (List.mem_of_getElem? (i := 11) rfl) rfl
theorem q_1001 : Cond.methodLink "CallOpener$Reader" 207 ⟨"CallOpener$Reader", "endFunction", "()V"⟩ ∈ zwd := zt_4 _ (List.mem_of_getElem? (i := 116) rfl) rfl
theorem q_1003 : Cond.instanceMethod ⟨"CallOpener$Reader", "endFunction", "()V"⟩ ∈ zwd := zt_4 _ (List.mem_of_getElem? (i := 118) rfl) rfl
theorem q_13 : Cond.selects "CallOpener$Reader" ⟨"CallOpener$Reader", "endFunction", "()V"⟩ ⟨"CallOpener$Reader", "endFunction", "()V"⟩ ∈ zwd := zt_0 _ (List.mem_of_getElem? (i := 13) rfl) rfl
theorem q_1009 : Cond.methodLink "CallOpener$Reader" 210 ⟨"CallOpener$Reader", "closeBlock", "()Z"⟩ ∈ zwd := zt_4 _ (List.mem_of_getElem? (i := 124) rfl) rfl
theorem q_1011 : Cond.instanceMethod ⟨"CallOpener$Reader", "closeBlock", "()Z"⟩ ∈ zwd := zt_4 _ (List.mem_of_getElem? (i := 126) rfl) rfl
theorem q_14 : Cond.selects "CallOpener$Reader" ⟨"CallOpener$Reader", "closeBlock", "()Z"⟩ ⟨"CallOpener$Reader", "closeBlock", "()Z"⟩ ∈ zwd := zt_0 _ (List.mem_of_getElem? (i := 14) rfl) rfl
theorem q_1017 : Cond.methodLink "CallOpener$Reader" 213 ⟨"CallOpener$Reader", "readLine", "()Z"⟩ ∈ zwd := zt_4 _ (List.mem_of_getElem? (i := 132) rfl) rfl
theorem q_1019 : Cond.instanceMethod ⟨"CallOpener$Reader", "readLine", "()Z"⟩ ∈ zwd := zt_4 _ (List.mem_of_getElem? (i := 134) rfl) rfl
theorem q_16 : Cond.selects "CallOpener$Reader" ⟨"CallOpener$Reader", "readLine", "()Z"⟩ ⟨"CallOpener$Reader", "readLine", "()Z"⟩ ∈ zwd := zt_0 _ (List.mem_of_getElem? (i := 16) rfl) rfl
theorem q_298 : Cond.fieldLink "CallOpener$Reader" 216 "CallOpener$Lines" "kind" "[I" ∈ zwd := zt_1 _ (List.mem_of_getElem? (i := 133) rfl) rfl
theorem q_333 : Cond.fieldLink "CallOpener$Reader" 219 "CallOpener$Lines" "withElse" "[I" ∈ zwd := zt_1 _ (List.mem_of_getElem? (i := 168) rfl) rfl
theorem q_1013 : Cond.methodLink "CallOpener$Reader" 222 ⟨"CallOpener$Reader", "openBlock", "(II)Z"⟩ ∈ zwd := zt_4 _ (List.mem_of_getElem? (i := 128) rfl) rfl
theorem q_1015 : Cond.instanceMethod ⟨"CallOpener$Reader", "openBlock", "(II)Z"⟩ ∈ zwd := zt_4 _ (List.mem_of_getElem? (i := 130) rfl) rfl
theorem q_15 : Cond.selects "CallOpener$Reader" ⟨"CallOpener$Reader", "openBlock", "(II)Z"⟩ ⟨"CallOpener$Reader", "openBlock", "(II)Z"⟩ ∈ zwd := zt_0 _ (List.mem_of_getElem? (i := 15) rfl) rfl
theorem q_1021 : Cond.methodLink "CallOpener$Reader" 226 ⟨"CallOpener$Reader", "readHead", "(I)Z"⟩ ∈ zwd := zt_4 _ (List.mem_of_getElem? (i := 136) rfl) rfl
theorem q_1023 : Cond.instanceMethod ⟨"CallOpener$Reader", "readHead", "(I)Z"⟩ ∈ zwd := zt_4 _ (List.mem_of_getElem? (i := 138) rfl) rfl
theorem q_17 : Cond.selects "CallOpener$Reader" ⟨"CallOpener$Reader", "readHead", "(I)Z"⟩ ⟨"CallOpener$Reader", "readHead", "(I)Z"⟩ ∈ zwd := zt_0 _ (List.mem_of_getElem? (i := 17) rfl) rfl
theorem q_1041 : Cond.methodLink "CallOpener$Reader" 229 ⟨"CallOpener$Reader", "readGive", "()Z"⟩ ∈ zwd := zt_4 _ (List.mem_of_getElem? (i := 156) rfl) rfl
theorem q_1043 : Cond.instanceMethod ⟨"CallOpener$Reader", "readGive", "()Z"⟩ ∈ zwd := zt_4 _ (List.mem_of_getElem? (i := 158) rfl) rfl
theorem q_21 : Cond.selects "CallOpener$Reader" ⟨"CallOpener$Reader", "readGive", "()Z"⟩ ⟨"CallOpener$Reader", "readGive", "()Z"⟩ ∈ zwd := zt_0 _ (List.mem_of_getElem? (i := 21) rfl) rfl
theorem q_1045 : Cond.methodLink "CallOpener$Reader" 232 ⟨"CallOpener$Reader", "readPut", "()Z"⟩ ∈ zwd := zt_4 _ (List.mem_of_getElem? (i := 160) rfl) rfl
theorem q_1047 : Cond.instanceMethod ⟨"CallOpener$Reader", "readPut", "()Z"⟩ ∈ zwd := zt_4 _ (List.mem_of_getElem? (i := 162) rfl) rfl
theorem q_22 : Cond.selects "CallOpener$Reader" ⟨"CallOpener$Reader", "readPut", "()Z"⟩ ⟨"CallOpener$Reader", "readPut", "()Z"⟩ ∈ zwd := zt_0 _ (List.mem_of_getElem? (i := 22) rfl) rfl
theorem q_1029 : Cond.methodLink "CallOpener$Reader" 235 ⟨"CallOpener$Lines", "add", "(III)I"⟩ ∈ zwd := zt_4 _ (List.mem_of_getElem? (i := 144) rfl) rfl
theorem q_1030 : Cond.instanceMethod ⟨"CallOpener$Lines", "add", "(III)I"⟩ ∈ zwd := zt_4 _ (List.mem_of_getElem? (i := 145) rfl) rfl
theorem q_1031 : Cond.selects "CallOpener$Lines" ⟨"CallOpener$Lines", "add", "(III)I"⟩ ⟨"CallOpener$Lines", "add", "(III)I"⟩ ∈ zwd := zt_4 _ (List.mem_of_getElem? (i := 146) rfl) rfl
theorem q_1025 : Cond.methodLink "CallOpener$Reader" 239 ⟨"CallOpener$Reader", "addLine", "(I)I"⟩ ∈ zwd := zt_4 _ (List.mem_of_getElem? (i := 140) rfl) rfl
theorem q_1027 : Cond.instanceMethod ⟨"CallOpener$Reader", "addLine", "(I)I"⟩ ∈ zwd := zt_4 _ (List.mem_of_getElem? (i := 142) rfl) rfl
theorem q_18 : Cond.selects "CallOpener$Reader" ⟨"CallOpener$Reader", "addLine", "(I)I"⟩ ⟨"CallOpener$Reader", "addLine", "(I)I"⟩ ∈ zwd := zt_0 _ (List.mem_of_getElem? (i := 18) rfl) rfl
theorem q_1037 : Cond.methodLink "CallOpener$Reader" 242 ⟨"CallOpener$Reader", "readOperand", "()Z"⟩ ∈ zwd := zt_4 _ (List.mem_of_getElem? (i := 152) rfl) rfl
theorem q_1039 : Cond.instanceMethod ⟨"CallOpener$Reader", "readOperand", "()Z"⟩ ∈ zwd := zt_4 _ (List.mem_of_getElem? (i := 154) rfl) rfl
theorem q_20 : Cond.selects "CallOpener$Reader" ⟨"CallOpener$Reader", "readOperand", "()Z"⟩ ⟨"CallOpener$Reader", "readOperand", "()Z"⟩ ∈ zwd := zt_0 _ (List.mem_of_getElem? (i := 20) rfl) rfl
theorem q_311 : Cond.fieldLink "CallOpener$Reader" 245 "CallOpener$Lines" "first" "[I" ∈ zwd := zt_1 _ (List.mem_of_getElem? (i := 146) rfl) rfl
theorem q_496 : Cond.fieldLink "CallOpener$Reader" 248 "CallOpener$Reader" "operand" "I" ∈ zwd := zt_2 _ (List.mem_of_getElem? (i := 91) rfl) rfl
theorem q_305 : Cond.fieldLink "CallOpener$Reader" 251 "CallOpener$Lines" "target" "[I" ∈ zwd := zt_1 _ (List.mem_of_getElem? (i := 140) rfl) rfl
theorem q_1049 : Cond.methodLink "CallOpener$Reader" 254 ⟨"CallOpener$Reader", "opensBehind", "()Z"⟩ ∈ zwd := zt_4 _ (List.mem_of_getElem? (i := 164) rfl) rfl
theorem q_1051 : Cond.instanceMethod ⟨"CallOpener$Reader", "opensBehind", "()Z"⟩ ∈ zwd := zt_4 _ (List.mem_of_getElem? (i := 166) rfl) rfl
theorem q_23 : Cond.selects "CallOpener$Reader" ⟨"CallOpener$Reader", "opensBehind", "()Z"⟩ ⟨"CallOpener$Reader", "opensBehind", "()Z"⟩ ∈ zwd := zt_0 _ (List.mem_of_getElem? (i := 23) rfl) rfl
theorem q_1053 : Cond.methodLink "CallOpener$Reader" 257 ⟨"CallOpener$Reader", "readCall", "(I)Z"⟩ ∈ zwd := zt_4 _ (List.mem_of_getElem? (i := 168) rfl) rfl
theorem q_1055 : Cond.instanceMethod ⟨"CallOpener$Reader", "readCall", "(I)Z"⟩ ∈ zwd := zt_4 _ (List.mem_of_getElem? (i := 170) rfl) rfl
theorem q_24 : Cond.selects "CallOpener$Reader" ⟨"CallOpener$Reader", "readCall", "(I)Z"⟩ ⟨"CallOpener$Reader", "readCall", "(I)Z"⟩ ∈ zwd := zt_0 _ (List.mem_of_getElem? (i := 24) rfl) rfl
theorem q_1065 : Cond.methodLink "CallOpener$Reader" 260 ⟨"CallOpener$Reader", "readWork", "(I)Z"⟩ ∈ zwd := zt_4 _ (List.mem_of_getElem? (i := 180) rfl) rfl
theorem q_1067 : Cond.instanceMethod ⟨"CallOpener$Reader", "readWork", "(I)Z"⟩ ∈ zwd := zt_4 _ (List.mem_of_getElem? (i := 182) rfl) rfl
theorem q_26 : Cond.selects "CallOpener$Reader" ⟨"CallOpener$Reader", "readWork", "(I)Z"⟩ ⟨"CallOpener$Reader", "readWork", "(I)Z"⟩ ∈ zwd := zt_0 _ (List.mem_of_getElem? (i := 26) rfl) rfl
theorem q_1069 : Cond.methodLink "CallOpener$Reader" 263 ⟨"CallOpener$Reader", "kindOfSign", "(I)I"⟩ ∈ zwd := zt_4 _ (List.mem_of_getElem? (i := 184) rfl) rfl
theorem q_1070 : Cond.static ⟨"CallOpener$Reader", "kindOfSign", "(I)I"⟩ ∈ zwd := zt_4 _ (List.mem_of_getElem? (i := 185) rfl) rfl
theorem q_317 : Cond.fieldLink "CallOpener$Reader" 266 "CallOpener$Lines" "second" "[I" ∈ zwd := zt_1 _ (List.mem_of_getElem? (i := 152) rfl) rfl
theorem q_1057 : Cond.methodLink "CallOpener$Reader" 269 ⟨"CallOpener$Reader", "beginSite", "(II)V"⟩ ∈ zwd := zt_4 _ (List.mem_of_getElem? (i := 172) rfl) rfl
theorem q_1059 : Cond.instanceMethod ⟨"CallOpener$Reader", "beginSite", "(II)V"⟩ ∈ zwd := zt_4 _ (List.mem_of_getElem? (i := 174) rfl) rfl
