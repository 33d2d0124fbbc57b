/-! Printed by wip/tools/s_code.py: words by their places, fields by their numbers. -/
theorem q_186 : Cond.classLink "CallOpenerLaw" 7 "CallOpener" ∈ zwd := zt_1 _ (List.mem_of_getElem? (i := 21) rfl) rfl
theorem q_187 : Cond.instantiable "CallOpener" 16 ∈ zwd := zt_1 _ (List.mem_of_getElem? (i := 22) rfl) rfl
theorem q_166 : Cond.initialized "CallOpener" ∈ zwd := zt_1 _ (List.mem_of_getElem? (i := 1) rfl) rfl
theorem q_188 : Cond.methodLink "CallOpenerLaw" 9 ⟨"CallOpener", "<init>", "()V"⟩ ∈ zwd := zt_1 _ (List.mem_of_getElem? (i := 23) rfl) rfl
theorem q_189 : Cond.instanceMethod ⟨"CallOpener", "<init>", "()V"⟩ ∈ zwd := zt_1 _ (List.mem_of_getElem? (i := 24) rfl) rfl
theorem q_1532 : Cond.classLink "CallOpenerLaw" 10 "CallOpenerModel" ∈ zwd := zt_6 _ (List.mem_of_getElem? (i := 167) rfl) rfl
theorem q_1533 : Cond.instantiable "CallOpenerModel" 139 ∈ zwd := zt_6 _ (List.mem_of_getElem? (i := 168) rfl) rfl
theorem q_178 : Cond.initialized "CallOpenerModel" ∈ zwd := zt_1 _ (List.mem_of_getElem? (i := 13) rfl) rfl
theorem q_1534 : Cond.methodLink "CallOpenerLaw" 12 ⟨"CallOpenerModel", "<init>", "()V"⟩ ∈ zwd := zt_6 _ (List.mem_of_getElem? (i := 169) rfl) rfl
theorem q_1535 : Cond.instanceMethod ⟨"CallOpenerModel", "<init>", "()V"⟩ ∈ zwd := zt_6 _ (List.mem_of_getElem? (i := 170) rfl) rfl
theorem q_855 : Cond.methodLink "CallOpenerLaw" 13 ⟨"CallOpener", "feed", "(IIIII)I"⟩ ∈ zwd := zt_3 _ (List.mem_of_getElem? (i := 210) rfl) rfl
theorem q_856 : Cond.instanceMethod ⟨"CallOpener", "feed", "(IIIII)I"⟩ ∈ zwd := zt_3 _ (List.mem_of_getElem? (i := 211) rfl) rfl
theorem q_857 : Cond.selects "CallOpener" ⟨"CallOpener", "feed", "(IIIII)I"⟩ ⟨"CallOpener", "feed", "(IIIII)I"⟩ ∈ zwd := zt_3 _ (List.mem_of_getElem? (i := 212) rfl) rfl
theorem q_1961 : Cond.methodLink "CallOpenerLaw" 17 ⟨"CallOpenerModel", "feed", "(IIIII)I"⟩ ∈ zwd := zt_8 _ (List.mem_of_getElem? (i := 116) rfl) rfl
theorem q_1962 : Cond.instanceMethod ⟨"CallOpenerModel", "feed", "(IIIII)I"⟩ ∈ zwd := zt_8 _ (List.mem_of_getElem? (i := 117) rfl) rfl
theorem q_1963 : Cond.selects "CallOpenerModel" ⟨"CallOpenerModel", "feed", "(IIIII)I"⟩ ⟨"CallOpenerModel", "feed", "(IIIII)I"⟩ ∈ zwd := zt_8 _ (List.mem_of_getElem? (i := 118) rfl) rfl
theorem q_863 : Cond.methodLink "CallOpenerLaw" 18 ⟨"CallOpener", "program", "(I)I"⟩ ∈ zwd := zt_3 _ (List.mem_of_getElem? (i := 218) rfl) rfl
theorem q_864 : Cond.instanceMethod ⟨"CallOpener", "program", "(I)I"⟩ ∈ zwd := zt_3 _ (List.mem_of_getElem? (i := 219) rfl) rfl
theorem q_865 : Cond.selects "CallOpener" ⟨"CallOpener", "program", "(I)I"⟩ ⟨"CallOpener", "program", "(I)I"⟩ ∈ zwd := zt_3 _ (List.mem_of_getElem? (i := 220) rfl) rfl
theorem q_1969 : Cond.methodLink "CallOpenerLaw" 22 ⟨"CallOpenerModel", "program", "(I)I"⟩ ∈ zwd := zt_8 _ (List.mem_of_getElem? (i := 124) rfl) rfl
theorem q_1970 : Cond.instanceMethod ⟨"CallOpenerModel", "program", "(I)I"⟩ ∈ zwd := zt_8 _ (List.mem_of_getElem? (i := 125) rfl) rfl
theorem q_1971 : Cond.selects "CallOpenerModel" ⟨"CallOpenerModel", "program", "(I)I"⟩ ⟨"CallOpenerModel", "program", "(I)I"⟩ ∈ zwd := zt_8 _ (List.mem_of_getElem? (i := 126) rfl) rfl
theorem q_1088 : Cond.methodLink "CallOpenerLaw" 23 ⟨"CallOpener", "count", "(I)I"⟩ ∈ zwd := zt_4 _ (List.mem_of_getElem? (i := 203) rfl) rfl
theorem q_1089 : Cond.instanceMethod ⟨"CallOpener", "count", "(I)I"⟩ ∈ zwd := zt_4 _ (List.mem_of_getElem? (i := 204) rfl) rfl
theorem q_1090 : Cond.selects "CallOpener" ⟨"CallOpener", "count", "(I)I"⟩ ⟨"CallOpener", "count", "(I)I"⟩ ∈ zwd := zt_4 _ (List.mem_of_getElem? (i := 205) rfl) rfl
theorem q_2404 : Cond.methodLink "CallOpenerLaw" 26 ⟨"CallOpenerModel", "count", "(I)I"⟩ ∈ zwd := zt_10 _ (List.mem_of_getElem? (i := 79) rfl) rfl
theorem q_2405 : Cond.instanceMethod ⟨"CallOpenerModel", "count", "(I)I"⟩ ∈ zwd := zt_10 _ (List.mem_of_getElem? (i := 80) rfl) rfl
theorem q_2406 : Cond.selects "CallOpenerModel" ⟨"CallOpenerModel", "count", "(I)I"⟩ ⟨"CallOpenerModel", "count", "(I)I"⟩ ∈ zwd := zt_10 _ (List.mem_of_getElem? (i := 81) rfl) rfl
theorem q_1103 : Cond.methodLink "CallOpenerLaw" 27 ⟨"CallOpener", "function", "(II)I"⟩ ∈ zwd := zt_4 _ (List.mem_of_getElem? (i := 218) rfl) rfl
theorem q_1104 : Cond.instanceMethod ⟨"CallOpener", "function", "(II)I"⟩ ∈ zwd := zt_4 _ (List.mem_of_getElem? (i := 219) rfl) rfl
theorem q_1105 : Cond.selects "CallOpener" ⟨"CallOpener", "function", "(II)I"⟩ ⟨"CallOpener", "function", "(II)I"⟩ ∈ zwd := zt_4 _ (List.mem_of_getElem? (i := 220) rfl) rfl
theorem q_2412 : Cond.methodLink "CallOpenerLaw" 31 ⟨"CallOpenerModel", "function", "(II)I"⟩ ∈ zwd := zt_10 _ (List.mem_of_getElem? (i := 87) rfl) rfl
theorem q_2413 : Cond.instanceMethod ⟨"CallOpenerModel", "function", "(II)I"⟩ ∈ zwd := zt_10 _ (List.mem_of_getElem? (i := 88) rfl) rfl
theorem q_2414 : Cond.selects "CallOpenerModel" ⟨"CallOpenerModel", "function", "(II)I"⟩ ⟨"CallOpenerModel", "function", "(II)I"⟩ ∈ zwd := zt_10 _ (List.mem_of_getElem? (i := 89) rfl) rfl
theorem q_1124 : Cond.methodLink "CallOpenerLaw" 32 ⟨"CallOpener", "site", "(II)I"⟩ ∈ zwd := zt_4 _ (List.mem_of_getElem? (i := 239) rfl) rfl
theorem q_1125 : Cond.instanceMethod ⟨"CallOpener", "site", "(II)I"⟩ ∈ zwd := zt_5 _ (List.mem_of_getElem? (i := 0) rfl) rfl
theorem q_1126 : Cond.selects "CallOpener" ⟨"CallOpener", "site", "(II)I"⟩ ⟨"CallOpener", "site", "(II)I"⟩ ∈ zwd := zt_5 _ (List.mem_of_getElem? (i := 1) rfl) rfl
theorem q_2424 : Cond.methodLink "CallOpenerLaw" 35 ⟨"CallOpenerModel", "site", "(II)I"⟩ ∈ zwd := zt_10 _ (List.mem_of_getElem? (i := 99) rfl) rfl
theorem q_2425 : Cond.instanceMethod ⟨"CallOpenerModel", "site", "(II)I"⟩ ∈ zwd := zt_10 _ (List.mem_of_getElem? (i := 100) rfl) rfl
theorem q_2426 : Cond.selects "CallOpenerModel" ⟨"CallOpenerModel", "site", "(II)I"⟩ ⟨"CallOpenerModel", "site", "(II)I"⟩ ∈ zwd := zt_10 _ (List.mem_of_getElem? (i := 101) rfl) rfl
theorem q_1136 : Cond.methodLink "CallOpenerLaw" 36 ⟨"CallOpener", "argument", "(II)I"⟩ ∈ zwd := zt_5 _ (List.mem_of_getElem? (i := 11) rfl) rfl
theorem q_1137 : Cond.instanceMethod ⟨"CallOpener", "argument", "(II)I"⟩ ∈ zwd := zt_5 _ (List.mem_of_getElem? (i := 12) rfl) rfl
theorem q_1138 : Cond.selects "CallOpener" ⟨"CallOpener", "argument", "(II)I"⟩ ⟨"CallOpener", "argument", "(II)I"⟩ ∈ zwd := zt_5 _ (List.mem_of_getElem? (i := 13) rfl) rfl
theorem q_2171 : Cond.methodLink "CallOpenerLaw" 39 ⟨"CallOpenerModel", "argument", "(II)I"⟩ ∈ zwd := zt_9 _ (List.mem_of_getElem? (i := 86) rfl) rfl
theorem q_2172 : Cond.instanceMethod ⟨"CallOpenerModel", "argument", "(II)I"⟩ ∈ zwd := zt_9 _ (List.mem_of_getElem? (i := 87) rfl) rfl
theorem q_2173 : Cond.selects "CallOpenerModel" ⟨"CallOpenerModel", "argument", "(II)I"⟩ ⟨"CallOpenerModel", "argument", "(II)I"⟩ ∈ zwd := zt_9 _ (List.mem_of_getElem? (i := 88) rfl) rfl
theorem q_1141 : Cond.methodLink "CallOpenerLaw" 40 ⟨"CallOpener", "run", "(II)I"⟩ ∈ zwd := zt_5 _ (List.mem_of_getElem? (i := 16) rfl) rfl
theorem q_1142 : Cond.instanceMethod ⟨"CallOpener", "run", "(II)I"⟩ ∈ zwd := zt_5 _ (List.mem_of_getElem? (i := 17) rfl) rfl
theorem q_1143 : Cond.selects "CallOpener" ⟨"CallOpener", "run", "(II)I"⟩ ⟨"CallOpener", "run", "(II)I"⟩ ∈ zwd := zt_5 _ (List.mem_of_getElem? (i := 18) rfl) rfl
theorem q_2099 : Cond.methodLink "CallOpenerLaw" 43 ⟨"CallOpenerModel", "run", "(II)I"⟩ ∈ zwd := zt_9 _ (List.mem_of_getElem? (i := 14) rfl) rfl
theorem q_2100 : Cond.instanceMethod ⟨"CallOpenerModel", "run", "(II)I"⟩ ∈ zwd := zt_9 _ (List.mem_of_getElem? (i := 15) rfl) rfl
theorem q_2101 : Cond.selects "CallOpenerModel" ⟨"CallOpenerModel", "run", "(II)I"⟩ ⟨"CallOpenerModel", "run", "(II)I"⟩ ∈ zwd := zt_9 _ (List.mem_of_getElem? (i := 16) rfl) rfl
theorem q_1221 : Cond.methodLink "CallOpenerLaw" 44 ⟨"CallOpener", "counted", "(I)I"⟩ ∈ zwd := zt_5 _ (List.mem_of_getElem? (i := 96) rfl) rfl
theorem q_1222 : Cond.instanceMethod ⟨"CallOpener", "counted", "(I)I"⟩ ∈ zwd := zt_5 _ (List.mem_of_getElem? (i := 97) rfl) rfl
theorem q_1223 : Cond.selects "CallOpener" ⟨"CallOpener", "counted", "(I)I"⟩ ⟨"CallOpener", "counted", "(I)I"⟩ ∈ zwd := zt_5 _ (List.mem_of_getElem? (i := 98) rfl) rfl
theorem q_2166 : Cond.methodLink "CallOpenerLaw" 47 ⟨"CallOpenerModel", "counted", "(I)I"⟩ ∈ zwd := zt_9 _ (List.mem_of_getElem? (i := 81) rfl) rfl
theorem q_2167 : Cond.instanceMethod ⟨"CallOpenerModel", "counted", "(I)I"⟩ ∈ zwd := zt_9 _ (List.mem_of_getElem? (i := 82) rfl) rfl
theorem q_2168 : Cond.selects "CallOpenerModel" ⟨"CallOpenerModel", "counted", "(I)I"⟩ ⟨"CallOpenerModel", "counted", "(I)I"⟩ ∈ zwd := zt_9 _ (List.mem_of_getElem? (i := 83) rfl) rfl
theorem q_1229 : Cond.methodLink "CallOpenerLaw" 48 ⟨"CallOpener", "forget", "()I"⟩ ∈ zwd := zt_5 _ (List.mem_of_getElem? (i := 104) rfl) rfl
theorem q_1230 : Cond.instanceMethod ⟨"CallOpener", "forget", "()I"⟩ ∈ zwd := zt_5 _ (List.mem_of_getElem? (i := 105) rfl) rfl
theorem q_1231 : Cond.selects "CallOpener" ⟨"CallOpener", "forget", "()I"⟩ ⟨"CallOpener", "forget", "()I"⟩ ∈ zwd := zt_5 _ (List.mem_of_getElem? (i := 106) rfl) rfl
theorem q_2170 : Cond.methodLink "CallOpenerLaw" 52 ⟨"CallOpenerModel", "forget", "()I"⟩ ∈ zwd := zt_9 _ (List.mem_of_getElem? (i := 85) rfl) rfl
theorem q_2084 : Cond.instanceMethod ⟨"CallOpenerModel", "forget", "()I"⟩ ∈ zwd := zt_8 _ (List.mem_of_getElem? (i := 239) rfl) rfl
theorem q_2085 : Cond.selects "CallOpenerModel" ⟨"CallOpenerModel", "forget", "()I"⟩ ⟨"CallOpenerModel", "forget", "()I"⟩ ∈ zwd := zt_9 _ (List.mem_of_getElem? (i := 0) rfl) rfl
theorem q_1233 : Cond.methodLink "CallOpenerLaw" 53 ⟨"CallOpener", "set", "(II)I"⟩ ∈ zwd := zt_5 _ (List.mem_of_getElem? (i := 108) rfl) rfl
theorem q_1234 : Cond.instanceMethod ⟨"CallOpener", "set", "(II)I"⟩ ∈ zwd := zt_5 _ (List.mem_of_getElem? (i := 109) rfl) rfl
theorem q_1235 : Cond.selects "CallOpener" ⟨"CallOpener", "set", "(II)I"⟩ ⟨"CallOpener", "set", "(II)I"⟩ ∈ zwd := zt_5 _ (List.mem_of_getElem? (i := 110) rfl) rfl
theorem q_2175 : Cond.methodLink "CallOpenerLaw" 56 ⟨"CallOpenerModel", "set", "(II)I"⟩ ∈ zwd := zt_9 _ (List.mem_of_getElem? (i := 90) rfl) rfl
theorem q_2176 : Cond.instanceMethod ⟨"CallOpenerModel", "set", "(II)I"⟩ ∈ zwd := zt_9 _ (List.mem_of_getElem? (i := 91) rfl) rfl
theorem q_2177 : Cond.selects "CallOpenerModel" ⟨"CallOpenerModel", "set", "(II)I"⟩ ⟨"CallOpenerModel", "set", "(II)I"⟩ ∈ zwd := zt_9 _ (List.mem_of_getElem? (i := 92) rfl) rfl
theorem q_1244 : Cond.methodLink "CallOpenerLaw" 57 ⟨"CallOpener", "tree", "(II)I"⟩ ∈ zwd := zt_5 _ (List.mem_of_getElem? (i := 119) rfl) rfl
theorem q_1245 : Cond.instanceMethod ⟨"CallOpener", "tree", "(II)I"⟩ ∈ zwd := zt_5 _ (List.mem_of_getElem? (i := 120) rfl) rfl
theorem q_1246 : Cond.selects "CallOpener" ⟨"CallOpener", "tree", "(II)I"⟩ ⟨"CallOpener", "tree", "(II)I"⟩ ∈ zwd := zt_5 _ (List.mem_of_getElem? (i := 121) rfl) rfl
theorem q_2182 : Cond.methodLink "CallOpenerLaw" 60 ⟨"CallOpenerModel", "tree", "(II)I"⟩ ∈ zwd := zt_9 _ (List.mem_of_getElem? (i := 97) rfl) rfl
theorem q_2183 : Cond.instanceMethod ⟨"CallOpenerModel", "tree", "(II)I"⟩ ∈ zwd := zt_9 _ (List.mem_of_getElem? (i := 98) rfl) rfl
theorem q_2184 : Cond.selects "CallOpenerModel" ⟨"CallOpenerModel", "tree", "(II)I"⟩ ⟨"CallOpenerModel", "tree", "(II)I"⟩ ∈ zwd := zt_9 _ (List.mem_of_getElem? (i := 99) rfl) rfl
theorem q_1326 : Cond.methodLink "CallOpenerLaw" 61 ⟨"CallOpener", "gain", "(IZ)J"⟩ ∈ zwd := zt_5 _ (List.mem_of_getElem? (i := 201) rfl) rfl
theorem q_1327 : Cond.instanceMethod ⟨"CallOpener", "gain", "(IZ)J"⟩ ∈ zwd := zt_5 _ (List.mem_of_getElem? (i := 202) rfl) rfl
theorem q_1328 : Cond.selects "CallOpener" ⟨"CallOpener", "gain", "(IZ)J"⟩ ⟨"CallOpener", "gain", "(IZ)J"⟩ ∈ zwd := zt_5 _ (List.mem_of_getElem? (i := 203) rfl) rfl
theorem q_2255 : Cond.methodLink "CallOpenerLaw" 65 ⟨"CallOpenerModel", "gain", "(IZ)J"⟩ ∈ zwd := zt_9 _ (List.mem_of_getElem? (i := 170) rfl) rfl
theorem q_2256 : Cond.instanceMethod ⟨"CallOpenerModel", "gain", "(IZ)J"⟩ ∈ zwd := zt_9 _ (List.mem_of_getElem? (i := 171) rfl) rfl
theorem q_2257 : Cond.selects "CallOpenerModel" ⟨"CallOpenerModel", "gain", "(IZ)J"⟩ ⟨"CallOpenerModel", "gain", "(IZ)J"⟩ ∈ zwd := zt_9 _ (List.mem_of_getElem? (i := 172) rfl) rfl
theorem q_1331 : Cond.methodLink "CallOpenerLaw" 66 ⟨"CallOpener", "node", "(III)I"⟩ ∈ zwd := zt_5 _ (List.mem_of_getElem? (i := 206) rfl) rfl
theorem q_1332 : Cond.instanceMethod ⟨"CallOpener", "node", "(III)I"⟩ ∈ zwd := zt_5 _ (List.mem_of_getElem? (i := 207) rfl) rfl
theorem q_1333 : Cond.selects "CallOpener" ⟨"CallOpener", "node", "(III)I"⟩ ⟨"CallOpener", "node", "(III)I"⟩ ∈ zwd := zt_5 _ (List.mem_of_getElem? (i := 208) rfl) rfl
theorem q_2260 : Cond.methodLink "CallOpenerLaw" 70 ⟨"CallOpenerModel", "node", "(III)I"⟩ ∈ zwd := zt_9 _ (List.mem_of_getElem? (i := 175) rfl) rfl
theorem q_2261 : Cond.instanceMethod ⟨"CallOpenerModel", "node", "(III)I"⟩ ∈ zwd := zt_9 _ (List.mem_of_getElem? (i := 176) rfl) rfl
theorem q_2262 : Cond.selects "CallOpenerModel" ⟨"CallOpenerModel", "node", "(III)I"⟩ ⟨"CallOpenerModel", "node", "(III)I"⟩ ∈ zwd := zt_9 _ (List.mem_of_getElem? (i := 177) rfl) rfl
theorem q_1335 : Cond.methodLink "CallOpenerLaw" 71 ⟨"CallOpener", "worth", "(III)J"⟩ ∈ zwd := zt_5 _ (List.mem_of_getElem? (i := 210) rfl) rfl
theorem q_1336 : Cond.instanceMethod ⟨"CallOpener", "worth", "(III)J"⟩ ∈ zwd := zt_5 _ (List.mem_of_getElem? (i := 211) rfl) rfl
theorem q_1337 : Cond.selects "CallOpener" ⟨"CallOpener", "worth", "(III)J"⟩ ⟨"CallOpener", "worth", "(III)J"⟩ ∈ zwd := zt_5 _ (List.mem_of_getElem? (i := 212) rfl) rfl
theorem q_2264 : Cond.methodLink "CallOpenerLaw" 75 ⟨"CallOpenerModel", "worth", "(III)J"⟩ ∈ zwd := zt_9 _ (List.mem_of_getElem? (i := 179) rfl) rfl
theorem q_2265 : Cond.instanceMethod ⟨"CallOpenerModel", "worth", "(III)J"⟩ ∈ zwd := zt_9 _ (List.mem_of_getElem? (i := 180) rfl) rfl
theorem q_2266 : Cond.selects "CallOpenerModel" ⟨"CallOpenerModel", "worth", "(III)J"⟩ ⟨"CallOpenerModel", "worth", "(III)J"⟩ ∈ zwd := zt_9 _ (List.mem_of_getElem? (i := 181) rfl) rfl
theorem q_1339 : Cond.methodLink "CallOpenerLaw" 76 ⟨"CallOpener", "opened", "(II)I"⟩ ∈ zwd := zt_5 _ (List.mem_of_getElem? (i := 214) rfl) rfl
theorem q_1340 : Cond.instanceMethod ⟨"CallOpener", "opened", "(II)I"⟩ ∈ zwd := zt_5 _ (List.mem_of_getElem? (i := 215) rfl) rfl
theorem q_1341 : Cond.selects "CallOpener" ⟨"CallOpener", "opened", "(II)I"⟩ ⟨"CallOpener", "opened", "(II)I"⟩ ∈ zwd := zt_5 _ (List.mem_of_getElem? (i := 216) rfl) rfl
theorem q_2268 : Cond.methodLink "CallOpenerLaw" 79 ⟨"CallOpenerModel", "opened", "(II)I"⟩ ∈ zwd := zt_9 _ (List.mem_of_getElem? (i := 183) rfl) rfl
theorem q_2269 : Cond.instanceMethod ⟨"CallOpenerModel", "opened", "(II)I"⟩ ∈ zwd := zt_9 _ (List.mem_of_getElem? (i := 184) rfl) rfl
theorem q_2270 : Cond.selects "CallOpenerModel" ⟨"CallOpenerModel", "opened", "(II)I"⟩ ⟨"CallOpenerModel", "opened", "(II)I"⟩ ∈ zwd := zt_9 _ (List.mem_of_getElem? (i := 185) rfl) rfl
theorem q_1343 : Cond.methodLink "CallOpenerLaw" 80 ⟨"CallOpener", "result", "(II)I"⟩ ∈ zwd := zt_5 _ (List.mem_of_getElem? (i := 218) rfl) rfl
theorem q_1344 : Cond.instanceMethod ⟨"CallOpener", "result", "(II)I"⟩ ∈ zwd := zt_5 _ (List.mem_of_getElem? (i := 219) rfl) rfl
theorem q_1345 : Cond.selects "CallOpener" ⟨"CallOpener", "result", "(II)I"⟩ ⟨"CallOpener", "result", "(II)I"⟩ ∈ zwd := zt_5 _ (List.mem_of_getElem? (i := 220) rfl) rfl
theorem q_2272 : Cond.methodLink "CallOpenerLaw" 83 ⟨"CallOpenerModel", "result", "(II)I"⟩ ∈ zwd := zt_9 _ (List.mem_of_getElem? (i := 187) rfl) rfl
theorem q_2273 : Cond.instanceMethod ⟨"CallOpenerModel", "result", "(II)I"⟩ ∈ zwd := zt_9 _ (List.mem_of_getElem? (i := 188) rfl) rfl
theorem q_2274 : Cond.selects "CallOpenerModel" ⟨"CallOpenerModel", "result", "(II)I"⟩ ⟨"CallOpenerModel", "result", "(II)I"⟩ ∈ zwd := zt_9 _ (List.mem_of_getElem? (i := 189) rfl) rfl
theorem q_1378 : Cond.methodLink "CallOpenerLaw" 84 ⟨"CallOpener", "line", "(III)I"⟩ ∈ zwd := zt_6 _ (List.mem_of_getElem? (i := 13) rfl) rfl
theorem q_1379 : Cond.instanceMethod ⟨"CallOpener", "line", "(III)I"⟩ ∈ zwd := zt_6 _ (List.mem_of_getElem? (i := 14) rfl) rfl
theorem q_1380 : Cond.selects "CallOpener" ⟨"CallOpener", "line", "(III)I"⟩ ⟨"CallOpener", "line", "(III)I"⟩ ∈ zwd := zt_6 _ (List.mem_of_getElem? (i := 15) rfl) rfl
theorem q_2311 : Cond.methodLink "CallOpenerLaw" 87 ⟨"CallOpenerModel", "line", "(III)I"⟩ ∈ zwd := zt_9 _ (List.mem_of_getElem? (i := 226) rfl) rfl
theorem q_2312 : Cond.instanceMethod ⟨"CallOpenerModel", "line", "(III)I"⟩ ∈ zwd := zt_9 _ (List.mem_of_getElem? (i := 227) rfl) rfl
theorem q_2313 : Cond.selects "CallOpenerModel" ⟨"CallOpenerModel", "line", "(III)I"⟩ ⟨"CallOpenerModel", "line", "(III)I"⟩ ∈ zwd := zt_9 _ (List.mem_of_getElem? (i := 228) rfl) rfl
theorem q_1382 : Cond.methodLink "CallOpenerLaw" 88 ⟨"CallOpener", "after", "(II)I"⟩ ∈ zwd := zt_6 _ (List.mem_of_getElem? (i := 17) rfl) rfl
theorem q_1383 : Cond.instanceMethod ⟨"CallOpener", "after", "(II)I"⟩ ∈ zwd := zt_6 _ (List.mem_of_getElem? (i := 18) rfl) rfl
theorem q_1384 : Cond.selects "CallOpener" ⟨"CallOpener", "after", "(II)I"⟩ ⟨"CallOpener", "after", "(II)I"⟩ ∈ zwd := zt_6 _ (List.mem_of_getElem? (i := 19) rfl) rfl
theorem q_2315 : Cond.methodLink "CallOpenerLaw" 91 ⟨"CallOpenerModel", "after", "(II)I"⟩ ∈ zwd := zt_9 _ (List.mem_of_getElem? (i := 230) rfl) rfl
theorem q_2316 : Cond.instanceMethod ⟨"CallOpenerModel", "after", "(II)I"⟩ ∈ zwd := zt_9 _ (List.mem_of_getElem? (i := 231) rfl) rfl
theorem q_2317 : Cond.selects "CallOpenerModel" ⟨"CallOpenerModel", "after", "(II)I"⟩ ⟨"CallOpenerModel", "after", "(II)I"⟩ ∈ zwd := zt_9 _ (List.mem_of_getElem? (i := 232) rfl) rfl
theorem q_1391 : Cond.methodLink "CallOpenerLaw" 92 ⟨"CallOpener", "saved", "(I)I"⟩ ∈ zwd := zt_6 _ (List.mem_of_getElem? (i := 26) rfl) rfl
theorem q_1392 : Cond.instanceMethod ⟨"CallOpener", "saved", "(I)I"⟩ ∈ zwd := zt_6 _ (List.mem_of_getElem? (i := 27) rfl) rfl
theorem q_1393 : Cond.selects "CallOpener" ⟨"CallOpener", "saved", "(I)I"⟩ ⟨"CallOpener", "saved", "(I)I"⟩ ∈ zwd := zt_6 _ (List.mem_of_getElem? (i := 28) rfl) rfl
theorem q_2323 : Cond.methodLink "CallOpenerLaw" 95 ⟨"CallOpenerModel", "saved", "(I)I"⟩ ∈ zwd := zt_9 _ (List.mem_of_getElem? (i := 238) rfl) rfl
theorem q_2324 : Cond.instanceMethod ⟨"CallOpenerModel", "saved", "(I)I"⟩ ∈ zwd := zt_9 _ (List.mem_of_getElem? (i := 239) rfl) rfl
theorem q_2325 : Cond.selects "CallOpenerModel" ⟨"CallOpenerModel", "saved", "(I)I"⟩ ⟨"CallOpenerModel", "saved", "(I)I"⟩ ∈ zwd := zt_10 _ (List.mem_of_getElem? (i := 0) rfl) rfl
theorem q_1395 : Cond.methodLink "CallOpenerLaw" 96 ⟨"CallOpener", "folded", "(II)I"⟩ ∈ zwd := zt_6 _ (List.mem_of_getElem? (i := 30) rfl) rfl
theorem q_1396 : Cond.instanceMethod ⟨"CallOpener", "folded", "(II)I"⟩ ∈ zwd := zt_6 _ (List.mem_of_getElem? (i := 31) rfl) rfl
theorem q_1397 : Cond.selects "CallOpener" ⟨"CallOpener", "folded", "(II)I"⟩ ⟨"CallOpener", "folded", "(II)I"⟩ ∈ zwd := zt_6 _ (List.mem_of_getElem? (i := 32) rfl) rfl
theorem q_2331 : Cond.methodLink "CallOpenerLaw" 99 ⟨"CallOpenerModel", "folded", "(II)I"⟩ ∈ zwd := zt_10 _ (List.mem_of_getElem? (i := 6) rfl) rfl
theorem q_2332 : Cond.instanceMethod ⟨"CallOpenerModel", "folded", "(II)I"⟩ ∈ zwd := zt_10 _ (List.mem_of_getElem? (i := 7) rfl) rfl
theorem q_2333 : Cond.selects "CallOpenerModel" ⟨"CallOpenerModel", "folded", "(II)I"⟩ ⟨"CallOpenerModel", "folded", "(II)I"⟩ ∈ zwd := zt_10 _ (List.mem_of_getElem? (i := 8) rfl) rfl
theorem q_1463 : Cond.methodLink "CallOpenerLaw" 100 ⟨"CallOpener", "best", "(III)J"⟩ ∈ zwd := zt_6 _ (List.mem_of_getElem? (i := 98) rfl) rfl
theorem q_1464 : Cond.instanceMethod ⟨"CallOpener", "best", "(III)J"⟩ ∈ zwd := zt_6 _ (List.mem_of_getElem? (i := 99) rfl) rfl
theorem q_1465 : Cond.selects "CallOpener" ⟨"CallOpener", "best", "(III)J"⟩ ⟨"CallOpener", "best", "(III)J"⟩ ∈ zwd := zt_6 _ (List.mem_of_getElem? (i := 100) rfl) rfl
theorem q_2383 : Cond.methodLink "CallOpenerLaw" 103 ⟨"CallOpenerModel", "best", "(III)J"⟩ ∈ zwd := zt_10 _ (List.mem_of_getElem? (i := 58) rfl) rfl
theorem q_2384 : Cond.instanceMethod ⟨"CallOpenerModel", "best", "(III)J"⟩ ∈ zwd := zt_10 _ (List.mem_of_getElem? (i := 59) rfl) rfl
theorem q_2385 : Cond.selects "CallOpenerModel" ⟨"CallOpenerModel", "best", "(III)J"⟩ ⟨"CallOpenerModel", "best", "(III)J"⟩ ∈ zwd := zt_10 _ (List.mem_of_getElem? (i := 60) rfl) rfl
theorem q_1504 : Cond.methodLink "CallOpenerLaw" 104 ⟨"CallOpener", "would", "(IIII)I"⟩ ∈ zwd := zt_6 _ (List.mem_of_getElem? (i := 139) rfl) rfl
theorem q_1505 : Cond.instanceMethod ⟨"CallOpener", "would", "(IIII)I"⟩ ∈ zwd := zt_6 _ (List.mem_of_getElem? (i := 140) rfl) rfl
theorem q_1506 : Cond.selects "CallOpener" ⟨"CallOpener", "would", "(IIII)I"⟩ ⟨"CallOpener", "would", "(IIII)I"⟩ ∈ zwd := zt_6 _ (List.mem_of_getElem? (i := 141) rfl) rfl
theorem q_2251 : Cond.methodLink "CallOpenerLaw" 108 ⟨"CallOpenerModel", "would", "(IIII)I"⟩ ∈ zwd := zt_9 _ (List.mem_of_getElem? (i := 166) rfl) rfl
theorem q_2252 : Cond.instanceMethod ⟨"CallOpenerModel", "would", "(IIII)I"⟩ ∈ zwd := zt_9 _ (List.mem_of_getElem? (i := 167) rfl) rfl
theorem q_2253 : Cond.selects "CallOpenerModel" ⟨"CallOpenerModel", "would", "(IIII)I"⟩ ⟨"CallOpenerModel", "would", "(IIII)I"⟩ ∈ zwd := zt_9 _ (List.mem_of_getElem? (i := 168) rfl) rfl
theorem q_1509 : Cond.methodLink "CallOpenerLaw" 109 ⟨"CallOpener", "left", "(III)I"⟩ ∈ zwd := zt_6 _ (List.mem_of_getElem? (i := 144) rfl) rfl
theorem q_1510 : Cond.instanceMethod ⟨"CallOpener", "left", "(III)I"⟩ ∈ zwd := zt_6 _ (List.mem_of_getElem? (i := 145) rfl) rfl
theorem q_1511 : Cond.selects "CallOpener" ⟨"CallOpener", "left", "(III)I"⟩ ⟨"CallOpener", "left", "(III)I"⟩ ∈ zwd := zt_6 _ (List.mem_of_getElem? (i := 146) rfl) rfl
theorem q_2327 : Cond.methodLink "CallOpenerLaw" 112 ⟨"CallOpenerModel", "left", "(III)I"⟩ ∈ zwd := zt_10 _ (List.mem_of_getElem? (i := 2) rfl) rfl
theorem q_2328 : Cond.instanceMethod ⟨"CallOpenerModel", "left", "(III)I"⟩ ∈ zwd := zt_10 _ (List.mem_of_getElem? (i := 3) rfl) rfl
theorem q_2329 : Cond.selects "CallOpenerModel" ⟨"CallOpenerModel", "left", "(III)I"⟩ ⟨"CallOpenerModel", "left", "(III)I"⟩ ∈ zwd := zt_10 _ (List.mem_of_getElem? (i := 4) rfl) rfl
theorem q_1517 : Cond.methodLink "CallOpenerLaw" 113 ⟨"CallOpener", "swap", "(II)I"⟩ ∈ zwd := zt_6 _ (List.mem_of_getElem? (i := 152) rfl) rfl
theorem q_1518 : Cond.instanceMethod ⟨"CallOpener", "swap", "(II)I"⟩ ∈ zwd := zt_6 _ (List.mem_of_getElem? (i := 153) rfl) rfl
theorem q_1519 : Cond.selects "CallOpener" ⟨"CallOpener", "swap", "(II)I"⟩ ⟨"CallOpener", "swap", "(II)I"⟩ ∈ zwd := zt_6 _ (List.mem_of_getElem? (i := 154) rfl) rfl
theorem q_2091 : Cond.methodLink "CallOpenerLaw" 116 ⟨"CallOpenerModel", "swap", "(II)I"⟩ ∈ zwd := zt_9 _ (List.mem_of_getElem? (i := 6) rfl) rfl
theorem q_2092 : Cond.instanceMethod ⟨"CallOpenerModel", "swap", "(II)I"⟩ ∈ zwd := zt_9 _ (List.mem_of_getElem? (i := 7) rfl) rfl
theorem q_2093 : Cond.selects "CallOpenerModel" ⟨"CallOpenerModel", "swap", "(II)I"⟩ ⟨"CallOpenerModel", "swap", "(II)I"⟩ ∈ zwd := zt_9 _ (List.mem_of_getElem? (i := 8) rfl) rfl
theorem q_193 : Cond.code objectInit ⟨#[0xb1]⟩ 1 none ∈ zwd := zt_1 _ (List.mem_of_getElem? (i := 28) rfl) rfl
theorem q_191 : Cond.methodLink "CallOpener" 5 ⟨"java/lang/Object", "<init>", "()V"⟩ ∈ zwd := zt_1 _ (List.mem_of_getElem? (i := 26) rfl) rfl
theorem q_192 : Cond.instanceMethod ⟨"java/lang/Object", "<init>", "()V"⟩ ∈ zwd := zt_1 _ (List.mem_of_getElem? (i := 27) rfl) rfl
theorem q_220 : Cond.arrayClass .int ∈ zwd := zt_1 _ (List.mem_of_getElem? (i := 55) rfl) rfl
theorem q_806 : Cond.fieldLink "CallOpener" 13 "CallOpener" "tape" "[I" ∈ zwd := zt_3 _ (List.mem_of_getElem? (i := 161) rfl) rfl
theorem q_807 : Cond.fieldLink "CallOpener" 17 "CallOpener" "arguments" "[I" ∈ zwd := zt_3 _ (List.mem_of_getElem? (i := 162) rfl) rfl
theorem q_194 : Cond.fieldLink "CallOpener" 20 "CallOpener" "SETTING_FIRST" "[I" ∈ zwd := zt_1 _ (List.mem_of_getElem? (i := 29) rfl) rfl
theorem q_200 : Cond.selects "[I" ⟨"[I", "clone", "()Ljava/lang/Object;"⟩ ⟨"java/lang/Object", "clone", "()Ljava/lang/Object;"⟩ ∈ zwd := zt_1 _ (List.mem_of_getElem? (i := 35) rfl) rfl
theorem q_196 : Cond.methodLink "CallOpener" 23 ⟨"[I", "clone", "()Ljava/lang/Object;"⟩ ∈ zwd := zt_1 _ (List.mem_of_getElem? (i := 31) rfl) rfl
theorem q_197 : Cond.sameMethod "[I" "java/lang/Object" "clone" "()Ljava/lang/Object;" ∈ zwd := zt_1 _ (List.mem_of_getElem? (i := 32) rfl) rfl
theorem q_198 : Cond.native ⟨"java/lang/Object", "clone", "()Ljava/lang/Object;"⟩ ∈ zwd := zt_1 _ (List.mem_of_getElem? (i := 33) rfl) rfl
theorem q_199 : Cond.instanceMethod ⟨"java/lang/Object", "clone", "()Ljava/lang/Object;"⟩ ∈ zwd := zt_1 _ (List.mem_of_getElem? (i := 34) rfl) rfl
theorem q_202 : Cond.classLink "CallOpener" 24 "[I" ∈ zwd := zt_1 _ (List.mem_of_getElem? (i := 37) rfl) rfl
theorem q_808 : Cond.fieldLink "CallOpener" 28 "CallOpener" "settings" "[I" ∈ zwd := zt_3 _ (List.mem_of_getElem? (i := 163) rfl) rfl
theorem q_809 : Cond.fieldLink "CallOpener" 31 "CallOpener" "otherSettings" "[I" ∈ zwd := zt_3 _ (List.mem_of_getElem? (i := 164) rfl) rfl
theorem q_203 : Cond.classLink "CallOpener" 34 "CallOpener$Profile" ∈ zwd := zt_1 _ (List.mem_of_getElem? (i := 38) rfl) rfl
theorem q_204 : Cond.instantiable "CallOpener$Profile" 2 ∈ zwd := zt_1 _ (List.mem_of_getElem? (i := 39) rfl) rfl
theorem q_167 : Cond.initialized "CallOpener$Profile" ∈ zwd := zt_1 _ (List.mem_of_getElem? (i := 2) rfl) rfl
theorem q_206 : Cond.instanceMethod ⟨"CallOpener$Profile", "<init>", "()V"⟩ ∈ zwd := zt_1 _ (List.mem_of_getElem? (i := 41) rfl) rfl
theorem q_810 : Cond.fieldLink "CallOpener" 37 "CallOpener" "profile" "LCallOpener$Profile;" ∈ zwd := zt_3 _ (List.mem_of_getElem? (i := 165) rfl) rfl
theorem q_221 : Cond.classLink "CallOpener" 41 "CallOpener$Known" ∈ zwd := zt_1 _ (List.mem_of_getElem? (i := 56) rfl) rfl
theorem q_222 : Cond.instantiable "CallOpener$Known" 7 ∈ zwd := zt_1 _ (List.mem_of_getElem? (i := 57) rfl) rfl
theorem q_168 : Cond.initialized "CallOpener$Known" ∈ zwd := zt_1 _ (List.mem_of_getElem? (i := 3) rfl) rfl
theorem q_224 : Cond.instanceMethod ⟨"CallOpener$Known", "<init>", "()V"⟩ ∈ zwd := zt_1 _ (List.mem_of_getElem? (i := 59) rfl) rfl
theorem q_815 : Cond.fieldLink "CallOpener" 44 "CallOpener" "known" "LCallOpener$Known;" ∈ zwd := zt_3 _ (List.mem_of_getElem? (i := 170) rfl) rfl
theorem q_820 : Cond.fieldLink "CallOpener" 48 "CallOpener" "grownOf" "I" ∈ zwd := zt_3 _ (List.mem_of_getElem? (i := 175) rfl) rfl
theorem q_821 : Cond.fieldLink "CallOpener" 52 "CallOpener" "writtenOf" "I" ∈ zwd := zt_3 _ (List.mem_of_getElem? (i := 176) rfl) rfl
theorem q_282 : Cond.classLink "CallOpener" 55 "CallOpener$Program" ∈ zwd := zt_1 _ (List.mem_of_getElem? (i := 117) rfl) rfl
theorem q_283 : Cond.instantiable "CallOpener$Program" 17 ∈ zwd := zt_1 _ (List.mem_of_getElem? (i := 118) rfl) rfl
theorem q_170 : Cond.initialized "CallOpener$Program" ∈ zwd := zt_1 _ (List.mem_of_getElem? (i := 5) rfl) rfl
theorem q_285 : Cond.instanceMethod ⟨"CallOpener$Program", "<init>", "()V"⟩ ∈ zwd := zt_1 _ (List.mem_of_getElem? (i := 120) rfl) rfl
theorem q_817 : Cond.fieldLink "CallOpener" 58 "CallOpener" "told" "LCallOpener$Program;" ∈ zwd := zt_3 _ (List.mem_of_getElem? (i := 172) rfl) rfl
theorem q_818 : Cond.fieldLink "CallOpener" 62 "CallOpener" "spare" "LCallOpener$Program;" ∈ zwd := zt_3 _ (List.mem_of_getElem? (i := 173) rfl) rfl
theorem q_485 : Cond.classLink "CallOpener" 65 "CallOpener$Reader" ∈ zwd := zt_2 _ (List.mem_of_getElem? (i := 80) rfl) rfl
theorem q_486 : Cond.instantiable "CallOpener$Reader" 17 ∈ zwd := zt_2 _ (List.mem_of_getElem? (i := 81) rfl) rfl
theorem q_172 : Cond.initialized "CallOpener$Reader" ∈ zwd := zt_1 _ (List.mem_of_getElem? (i := 7) rfl) rfl
theorem q_487 : Cond.methodLink "CallOpener" 67 ⟨"CallOpener$Reader", "<init>", "(LCallOpener$Program;)V"⟩ ∈ zwd := zt_2 _ (List.mem_of_getElem? (i := 82) rfl) rfl
theorem q_488 : Cond.instanceMethod ⟨"CallOpener$Reader", "<init>", "(LCallOpener$Program;)V"⟩ ∈ zwd := zt_2 _ (List.mem_of_getElem? (i := 83) rfl) rfl
theorem q_811 : Cond.fieldLink "CallOpener" 70 "CallOpener" "reader" "LCallOpener$Reader;" ∈ zwd := zt_3 _ (List.mem_of_getElem? (i := 166) rfl) rfl
theorem q_543 : Cond.classLink "CallOpener" 74 "CallOpener$Machine" ∈ zwd := zt_2 _ (List.mem_of_getElem? (i := 138) rfl) rfl
theorem q_544 : Cond.instantiable "CallOpener$Machine" 16 ∈ zwd := zt_2 _ (List.mem_of_getElem? (i := 139) rfl) rfl
theorem q_173 : Cond.initialized "CallOpener$Machine" ∈ zwd := zt_1 _ (List.mem_of_getElem? (i := 8) rfl) rfl
theorem q_545 : Cond.methodLink "CallOpener" 76 ⟨"CallOpener$Machine", "<init>", "(LCallOpener$Program;)V"⟩ ∈ zwd := zt_2 _ (List.mem_of_getElem? (i := 140) rfl) rfl
theorem q_546 : Cond.instanceMethod ⟨"CallOpener$Machine", "<init>", "(LCallOpener$Program;)V"⟩ ∈ zwd := zt_2 _ (List.mem_of_getElem? (i := 141) rfl) rfl
theorem q_812 : Cond.fieldLink "CallOpener" 77 "CallOpener" "machine" "LCallOpener$Machine;" ∈ zwd := zt_3 _ (List.mem_of_getElem? (i := 167) rfl) rfl
theorem q_603 : Cond.classLink "CallOpener" 81 "CallOpener$Tree" ∈ zwd := zt_2 _ (List.mem_of_getElem? (i := 198) rfl) rfl
theorem q_604 : Cond.instantiable "CallOpener$Tree" 14 ∈ zwd := zt_2 _ (List.mem_of_getElem? (i := 199) rfl) rfl
theorem q_174 : Cond.initialized "CallOpener$Tree" ∈ zwd := zt_1 _ (List.mem_of_getElem? (i := 9) rfl) rfl
theorem q_605 : Cond.methodLink "CallOpener" 83 ⟨"CallOpener$Tree", "<init>", "(LCallOpener$Program;)V"⟩ ∈ zwd := zt_2 _ (List.mem_of_getElem? (i := 200) rfl) rfl
theorem q_606 : Cond.instanceMethod ⟨"CallOpener$Tree", "<init>", "(LCallOpener$Program;)V"⟩ ∈ zwd := zt_2 _ (List.mem_of_getElem? (i := 201) rfl) rfl
theorem q_813 : Cond.fieldLink "CallOpener" 84 "CallOpener" "grown" "LCallOpener$Tree;" ∈ zwd := zt_3 _ (List.mem_of_getElem? (i := 168) rfl) rfl
theorem q_731 : Cond.classLink "CallOpener" 88 "CallOpener$Result" ∈ zwd := zt_3 _ (List.mem_of_getElem? (i := 86) rfl) rfl
theorem q_732 : Cond.instantiable "CallOpener$Result" 4 ∈ zwd := zt_3 _ (List.mem_of_getElem? (i := 87) rfl) rfl
theorem q_176 : Cond.initialized "CallOpener$Result" ∈ zwd := zt_1 _ (List.mem_of_getElem? (i := 11) rfl) rfl
theorem q_733 : Cond.methodLink "CallOpener" 90 ⟨"CallOpener$Result", "<init>", "(LCallOpener$Program;)V"⟩ ∈ zwd := zt_3 _ (List.mem_of_getElem? (i := 88) rfl) rfl
theorem q_734 : Cond.instanceMethod ⟨"CallOpener$Result", "<init>", "(LCallOpener$Program;)V"⟩ ∈ zwd := zt_3 _ (List.mem_of_getElem? (i := 89) rfl) rfl
theorem q_814 : Cond.fieldLink "CallOpener" 91 "CallOpener" "written" "LCallOpener$Result;" ∈ zwd := zt_3 _ (List.mem_of_getElem? (i := 169) rfl) rfl
theorem q_758 : Cond.classLink "CallOpener" 95 "CallOpener$Best" ∈ zwd := zt_3 _ (List.mem_of_getElem? (i := 113) rfl) rfl
theorem q_759 : Cond.instantiable "CallOpener$Best" 13 ∈ zwd := zt_3 _ (List.mem_of_getElem? (i := 114) rfl) rfl
theorem q_177 : Cond.initialized "CallOpener$Best" ∈ zwd := zt_1 _ (List.mem_of_getElem? (i := 12) rfl) rfl
theorem q_760 : Cond.methodLink "CallOpener" 97 ⟨"CallOpener$Best", "<init>", "(LCallOpener$Program;)V"⟩ ∈ zwd := zt_3 _ (List.mem_of_getElem? (i := 115) rfl) rfl
theorem q_761 : Cond.instanceMethod ⟨"CallOpener$Best", "<init>", "(LCallOpener$Program;)V"⟩ ∈ zwd := zt_3 _ (List.mem_of_getElem? (i := 116) rfl) rfl
theorem q_816 : Cond.fieldLink "CallOpener" 98 "CallOpener" "chooser" "LCallOpener$Best;" ∈ zwd := zt_3 _ (List.mem_of_getElem? (i := 171) rfl) rfl
theorem q_819 : Cond.fieldLink "CallOpener" 102 "CallOpener" "taped" "I" ∈ zwd := zt_3 _ (List.mem_of_getElem? (i := 174) rfl) rfl
theorem q_859 : Cond.methodLink "CallOpener" 105 ⟨"CallOpener", "putBytes", "(I)V"⟩ ∈ zwd := zt_3 _ (List.mem_of_getElem? (i := 214) rfl) rfl
theorem q_861 : Cond.instanceMethod ⟨"CallOpener", "putBytes", "(I)V"⟩ ∈ zwd := zt_3 _ (List.mem_of_getElem? (i := 216) rfl) rfl
theorem q_0 : Cond.selects "CallOpener" ⟨"CallOpener", "putBytes", "(I)V"⟩ ⟨"CallOpener", "putBytes", "(I)V"⟩ ∈ zwd := zt_0 _ (List.mem_of_getElem? (i := 0) rfl) rfl
theorem q_867 : Cond.methodLink "CallOpener" 109 ⟨"CallOpener$Reader", "readProgram", "([IILCallOpener$Program;)I"⟩ ∈ zwd := zt_3 _ (List.mem_of_getElem? (i := 222) rfl) rfl
theorem q_868 : Cond.instanceMethod ⟨"CallOpener$Reader", "readProgram", "([IILCallOpener$Program;)I"⟩ ∈ zwd := zt_3 _ (List.mem_of_getElem? (i := 223) rfl) rfl
theorem q_869 : Cond.selects "CallOpener$Reader" ⟨"CallOpener$Reader", "readProgram", "([IILCallOpener$Program;)I"⟩ ⟨"CallOpener$Reader", "readProgram", "([IILCallOpener$Program;)I"⟩ ∈ zwd := zt_3 _ (List.mem_of_getElem? (i := 224) rfl) rfl
theorem q_1076 : Cond.methodLink "CallOpener" 113 ⟨"CallOpener$Profile", "clear", "()V"⟩ ∈ zwd := zt_4 _ (List.mem_of_getElem? (i := 191) rfl) rfl
theorem q_1077 : Cond.instanceMethod ⟨"CallOpener$Profile", "clear", "()V"⟩ ∈ zwd := zt_4 _ (List.mem_of_getElem? (i := 192) rfl) rfl
theorem q_1078 : Cond.selects "CallOpener$Profile" ⟨"CallOpener$Profile", "clear", "()V"⟩ ⟨"CallOpener$Profile", "clear", "()V"⟩ ∈ zwd := zt_4 _ (List.mem_of_getElem? (i := 193) rfl) rfl
theorem q_1083 : Cond.methodLink "CallOpener" 116 ⟨"CallOpener", "outdate", "()V"⟩ ∈ zwd := zt_4 _ (List.mem_of_getElem? (i := 198) rfl) rfl
theorem q_1085 : Cond.instanceMethod ⟨"CallOpener", "outdate", "()V"⟩ ∈ zwd := zt_4 _ (List.mem_of_getElem? (i := 200) rfl) rfl
theorem q_28 : Cond.selects "CallOpener" ⟨"CallOpener", "outdate", "()V"⟩ ⟨"CallOpener", "outdate", "()V"⟩ ∈ zwd := zt_0 _ (List.mem_of_getElem? (i := 28) rfl) rfl
theorem q_380 : Cond.fieldLink "CallOpener" 119 "CallOpener$Program" "functions" "I" ∈ zwd := zt_1 _ (List.mem_of_getElem? (i := 215) rfl) rfl
theorem q_448 : Cond.fieldLink "CallOpener" 122 "CallOpener$Program" "lines" "LCallOpener$Lines;" ∈ zwd := zt_2 _ (List.mem_of_getElem? (i := 43) rfl) rfl
theorem q_348 : Cond.fieldLink "CallOpener" 126 "CallOpener$Lines" "size" "I" ∈ zwd := zt_1 _ (List.mem_of_getElem? (i := 183) rfl) rfl
theorem q_383 : Cond.fieldLink "CallOpener" 131 "CallOpener$Program" "sites" "I" ∈ zwd := zt_1 _ (List.mem_of_getElem? (i := 218) rfl) rfl
theorem q_1092 : Cond.methodLink "CallOpener" 134 ⟨"CallOpener$Profile", "allEntries", "()I"⟩ ∈ zwd := zt_4 _ (List.mem_of_getElem? (i := 207) rfl) rfl
theorem q_1093 : Cond.instanceMethod ⟨"CallOpener$Profile", "allEntries", "()I"⟩ ∈ zwd := zt_4 _ (List.mem_of_getElem? (i := 208) rfl) rfl
theorem q_1094 : Cond.selects "CallOpener$Profile" ⟨"CallOpener$Profile", "allEntries", "()I"⟩ ⟨"CallOpener$Profile", "allEntries", "()I"⟩ ∈ zwd := zt_4 _ (List.mem_of_getElem? (i := 209) rfl) rfl
theorem q_1099 : Cond.methodLink "CallOpener" 138 ⟨"CallOpener$Profile", "allCounts", "()I"⟩ ∈ zwd := zt_4 _ (List.mem_of_getElem? (i := 214) rfl) rfl
theorem q_1100 : Cond.instanceMethod ⟨"CallOpener$Profile", "allCounts", "()I"⟩ ∈ zwd := zt_4 _ (List.mem_of_getElem? (i := 215) rfl) rfl
theorem q_1101 : Cond.selects "CallOpener$Profile" ⟨"CallOpener$Profile", "allCounts", "()I"⟩ ⟨"CallOpener$Profile", "allCounts", "()I"⟩ ∈ zwd := zt_4 _ (List.mem_of_getElem? (i := 216) rfl) rfl
theorem q_1107 : Cond.methodLink "CallOpener" 141 ⟨"CallOpener", "isFunction", "(I)Z"⟩ ∈ zwd := zt_4 _ (List.mem_of_getElem? (i := 222) rfl) rfl
theorem q_1109 : Cond.instanceMethod ⟨"CallOpener", "isFunction", "(I)Z"⟩ ∈ zwd := zt_4 _ (List.mem_of_getElem? (i := 224) rfl) rfl
theorem q_29 : Cond.selects "CallOpener" ⟨"CallOpener", "isFunction", "(I)Z"⟩ ⟨"CallOpener", "isFunction", "(I)Z"⟩ ∈ zwd := zt_0 _ (List.mem_of_getElem? (i := 29) rfl) rfl
theorem q_393 : Cond.fieldLink "CallOpener" 145 "CallOpener$Program" "parameters" "[I" ∈ zwd := zt_1 _ (List.mem_of_getElem? (i := 228) rfl) rfl
theorem q_399 : Cond.fieldLink "CallOpener" 148 "CallOpener$Program" "variables" "[I" ∈ zwd := zt_1 _ (List.mem_of_getElem? (i := 234) rfl) rfl
theorem q_410 : Cond.fieldLink "CallOpener" 151 "CallOpener$Program" "lineCount" "[I" ∈ zwd := zt_2 _ (List.mem_of_getElem? (i := 5) rfl) rfl
theorem q_419 : Cond.fieldLink "CallOpener" 154 "CallOpener$Program" "siteCount" "[I" ∈ zwd := zt_2 _ (List.mem_of_getElem? (i := 14) rfl) rfl
theorem q_212 : Cond.fieldLink "CallOpener" 157 "CallOpener$Profile" "entries" "[I" ∈ zwd := zt_1 _ (List.mem_of_getElem? (i := 47) rfl) rfl
theorem q_428 : Cond.fieldLink "CallOpener" 160 "CallOpener$Program" "adds" "[I" ∈ zwd := zt_2 _ (List.mem_of_getElem? (i := 23) rfl) rfl
theorem q_1111 : Cond.methodLink "CallOpener" 163 ⟨"CallOpener$Program", "gives", "(I)Z"⟩ ∈ zwd := zt_4 _ (List.mem_of_getElem? (i := 226) rfl) rfl
theorem q_1006 : Cond.instanceMethod ⟨"CallOpener$Program", "gives", "(I)Z"⟩ ∈ zwd := zt_4 _ (List.mem_of_getElem? (i := 121) rfl) rfl
theorem q_1007 : Cond.selects "CallOpener$Program" ⟨"CallOpener$Program", "gives", "(I)Z"⟩ ⟨"CallOpener$Program", "gives", "(I)Z"⟩ ∈ zwd := zt_4 _ (List.mem_of_getElem? (i := 122) rfl) rfl
theorem q_1112 : Cond.methodLink "CallOpener" 166 ⟨"CallOpener$Program", "comesToItself", "(I)Z"⟩ ∈ zwd := zt_4 _ (List.mem_of_getElem? (i := 227) rfl) rfl
theorem q_1113 : Cond.instanceMethod ⟨"CallOpener$Program", "comesToItself", "(I)Z"⟩ ∈ zwd := zt_4 _ (List.mem_of_getElem? (i := 228) rfl) rfl
theorem q_1114 : Cond.selects "CallOpener$Program" ⟨"CallOpener$Program", "comesToItself", "(I)Z"⟩ ⟨"CallOpener$Program", "comesToItself", "(I)Z"⟩ ∈ zwd := zt_4 _ (List.mem_of_getElem? (i := 229) rfl) rfl
theorem q_388 : Cond.fieldLink "CallOpener" 169 "CallOpener$Program" "nameLength" "[I" ∈ zwd := zt_1 _ (List.mem_of_getElem? (i := 223) rfl) rfl
theorem q_1120 : Cond.methodLink "CallOpener" 172 ⟨"CallOpener$Program", "letter", "(II)I"⟩ ∈ zwd := zt_4 _ (List.mem_of_getElem? (i := 235) rfl) rfl
theorem q_1121 : Cond.instanceMethod ⟨"CallOpener$Program", "letter", "(II)I"⟩ ∈ zwd := zt_4 _ (List.mem_of_getElem? (i := 236) rfl) rfl
theorem q_1122 : Cond.selects "CallOpener$Program" ⟨"CallOpener$Program", "letter", "(II)I"⟩ ⟨"CallOpener$Program", "letter", "(II)I"⟩ ∈ zwd := zt_4 _ (List.mem_of_getElem? (i := 237) rfl) rfl
theorem q_1128 : Cond.methodLink "CallOpener" 176 ⟨"CallOpener", "isSite", "(I)Z"⟩ ∈ zwd := zt_5 _ (List.mem_of_getElem? (i := 3) rfl) rfl
theorem q_1130 : Cond.instanceMethod ⟨"CallOpener", "isSite", "(I)Z"⟩ ∈ zwd := zt_5 _ (List.mem_of_getElem? (i := 5) rfl) rfl
theorem q_31 : Cond.selects "CallOpener" ⟨"CallOpener", "isSite", "(I)Z"⟩ ⟨"CallOpener", "isSite", "(I)Z"⟩ ∈ zwd := zt_0 _ (List.mem_of_getElem? (i := 31) rfl) rfl
theorem q_440 : Cond.fieldLink "CallOpener" 179 "CallOpener$Program" "siteLine" "[I" ∈ zwd := zt_2 _ (List.mem_of_getElem? (i := 35) rfl) rfl
theorem q_431 : Cond.fieldLink "CallOpener" 182 "CallOpener$Program" "siteIn" "[I" ∈ zwd := zt_2 _ (List.mem_of_getElem? (i := 26) rfl) rfl
theorem q_435 : Cond.fieldLink "CallOpener" 185 "CallOpener$Program" "siteTo" "[I" ∈ zwd := zt_2 _ (List.mem_of_getElem? (i := 30) rfl) rfl
theorem q_214 : Cond.fieldLink "CallOpener" 188 "CallOpener$Profile" "counts" "[I" ∈ zwd := zt_1 _ (List.mem_of_getElem? (i := 49) rfl) rfl
theorem q_1132 : Cond.methodLink "CallOpener" 191 ⟨"CallOpener$Lines", "howManyAround", "(II)I"⟩ ∈ zwd := zt_5 _ (List.mem_of_getElem? (i := 7) rfl) rfl
theorem q_1133 : Cond.instanceMethod ⟨"CallOpener$Lines", "howManyAround", "(II)I"⟩ ∈ zwd := zt_5 _ (List.mem_of_getElem? (i := 8) rfl) rfl
theorem q_1134 : Cond.selects "CallOpener$Lines" ⟨"CallOpener$Lines", "howManyAround", "(II)I"⟩ ⟨"CallOpener$Lines", "howManyAround", "(II)I"⟩ ∈ zwd := zt_5 _ (List.mem_of_getElem? (i := 9) rfl) rfl
theorem q_171 : Cond.initialized "CallOpener$Lines" ∈ zwd := zt_1 _ (List.mem_of_getElem? (i := 6) rfl) rfl
theorem q_303 : Cond.fieldLink "CallOpener" 194 "CallOpener$Lines" "target" "[I" ∈ zwd := zt_1 _ (List.mem_of_getElem? (i := 138) rfl) rfl
theorem q_1140 : Cond.constant "CallOpener" 197 (Int32.ofInt (-2147483648)) ∈ zwd := zt_5 _ (List.mem_of_getElem? (i := 15) rfl) rfl
theorem q_1145 : Cond.methodLink "CallOpener" 198 ⟨"CallOpener$Machine", "runFunction", "(LCallOpener$Program;I[II)V"⟩ ∈ zwd := zt_5 _ (List.mem_of_getElem? (i := 20) rfl) rfl
theorem q_1146 : Cond.instanceMethod ⟨"CallOpener$Machine", "runFunction", "(LCallOpener$Program;I[II)V"⟩ ∈ zwd := zt_5 _ (List.mem_of_getElem? (i := 21) rfl) rfl
theorem q_1147 : Cond.selects "CallOpener$Machine" ⟨"CallOpener$Machine", "runFunction", "(LCallOpener$Program;I[II)V"⟩ ⟨"CallOpener$Machine", "runFunction", "(LCallOpener$Program;I[II)V"⟩ ∈ zwd := zt_5 _ (List.mem_of_getElem? (i := 22) rfl) rfl
theorem q_552 : Cond.fieldLink "CallOpener" 202 "CallOpener$Machine" "answers" "[I" ∈ zwd := zt_2 _ (List.mem_of_getElem? (i := 147) rfl) rfl
theorem q_554 : Cond.fieldLink "CallOpener" 205 "CallOpener$Machine" "entered" "[I" ∈ zwd := zt_2 _ (List.mem_of_getElem? (i := 149) rfl) rfl
theorem q_556 : Cond.fieldLink "CallOpener" 208 "CallOpener$Machine" "done" "[I" ∈ zwd := zt_2 _ (List.mem_of_getElem? (i := 151) rfl) rfl
theorem q_1225 : Cond.methodLink "CallOpener" 211 ⟨"CallOpener$Profile", "add", "([I[I)V"⟩ ∈ zwd := zt_5 _ (List.mem_of_getElem? (i := 100) rfl) rfl
theorem q_1226 : Cond.instanceMethod ⟨"CallOpener$Profile", "add", "([I[I)V"⟩ ∈ zwd := zt_5 _ (List.mem_of_getElem? (i := 101) rfl) rfl
theorem q_1227 : Cond.selects "CallOpener$Profile" ⟨"CallOpener$Profile", "add", "([I[I)V"⟩ ⟨"CallOpener$Profile", "add", "([I[I)V"⟩ ∈ zwd := zt_5 _ (List.mem_of_getElem? (i := 102) rfl) rfl
theorem q_1237 : Cond.methodLink "CallOpener" 215 ⟨"CallOpener", "isSetting", "(II)Z"⟩ ∈ zwd := zt_5 _ (List.mem_of_getElem? (i := 112) rfl) rfl
theorem q_1238 : Cond.static ⟨"CallOpener", "isSetting", "(II)Z"⟩ ∈ zwd := zt_5 _ (List.mem_of_getElem? (i := 113) rfl) rfl
theorem q_1248 : Cond.methodLink "CallOpener" 219 ⟨"CallOpener", "growTree", "(I)Z"⟩ ∈ zwd := zt_5 _ (List.mem_of_getElem? (i := 123) rfl) rfl
theorem q_1250 : Cond.instanceMethod ⟨"CallOpener", "growTree", "(I)Z"⟩ ∈ zwd := zt_5 _ (List.mem_of_getElem? (i := 125) rfl) rfl
theorem q_44 : Cond.selects "CallOpener" ⟨"CallOpener", "growTree", "(I)Z"⟩ ⟨"CallOpener", "growTree", "(I)Z"⟩ ∈ zwd := zt_0 _ (List.mem_of_getElem? (i := 44) rfl) rfl
theorem q_1322 : Cond.methodLink "CallOpener" 222 ⟨"CallOpener$Tree", "answer", "(I)I"⟩ ∈ zwd := zt_5 _ (List.mem_of_getElem? (i := 197) rfl) rfl
theorem q_1323 : Cond.instanceMethod ⟨"CallOpener$Tree", "answer", "(I)I"⟩ ∈ zwd := zt_5 _ (List.mem_of_getElem? (i := 198) rfl) rfl
theorem q_1324 : Cond.selects "CallOpener$Tree" ⟨"CallOpener$Tree", "answer", "(I)I"⟩ ⟨"CallOpener$Tree", "answer", "(I)I"⟩ ∈ zwd := zt_5 _ (List.mem_of_getElem? (i := 199) rfl) rfl
theorem q_1330 : Cond.constantLong "CallOpener" 226 (Int64.ofInt (-9223372036854775808)) ∈ zwd := zt_5 _ (List.mem_of_getElem? (i := 205) rfl) rfl
theorem q_693 : Cond.fieldLink "CallOpener" 228 "CallOpener$Tree" "openedGain" "J" ∈ zwd := zt_3 _ (List.mem_of_getElem? (i := 48) rfl) rfl
theorem q_683 : Cond.fieldLink "CallOpener" 232 "CallOpener$Tree" "calls" "[LCallOpener$Call;" ∈ zwd := zt_3 _ (List.mem_of_getElem? (i := 38) rfl) rfl
theorem q_648 : Cond.fieldLink "CallOpener" 236 "CallOpener$Call" "chainGain" "J" ∈ zwd := zt_3 _ (List.mem_of_getElem? (i := 3) rfl) rfl
theorem q_689 : Cond.fieldLink "CallOpener" 241 "CallOpener$Tree" "nodeCount" "I" ∈ zwd := zt_3 _ (List.mem_of_getElem? (i := 44) rfl) rfl
theorem q_685 : Cond.fieldLink "CallOpener" 244 "CallOpener$Tree" "nodes" "[I" ∈ zwd := zt_3 _ (List.mem_of_getElem? (i := 40) rfl) rfl
theorem q_618 : Cond.fieldLink "CallOpener" 247 "CallOpener$Call" "site" "I" ∈ zwd := zt_2 _ (List.mem_of_getElem? (i := 213) rfl) rfl
theorem q_621 : Cond.fieldLink "CallOpener" 250 "CallOpener$Call" "function" "I" ∈ zwd := zt_2 _ (List.mem_of_getElem? (i := 216) rfl) rfl
theorem q_623 : Cond.fieldLink "CallOpener" 253 "CallOpener$Call" "owner" "I" ∈ zwd := zt_2 _ (List.mem_of_getElem? (i := 218) rfl) rfl
theorem q_643 : Cond.fieldLink "CallOpener" 256 "CallOpener$Call" "number" "I" ∈ zwd := zt_2 _ (List.mem_of_getElem? (i := 238) rfl) rfl
theorem q_626 : Cond.fieldLink "CallOpener" 259 "CallOpener$Call" "depth" "I" ∈ zwd := zt_2 _ (List.mem_of_getElem? (i := 221) rfl) rfl
theorem q_629 : Cond.fieldLink "CallOpener" 262 "CallOpener$Call" "openedAs" "I" ∈ zwd := zt_2 _ (List.mem_of_getElem? (i := 224) rfl) rfl
theorem q_645 : Cond.fieldLink "CallOpener" 265 "CallOpener$Call" "chainNodes" "I" ∈ zwd := zt_3 _ (List.mem_of_getElem? (i := 0) rfl) rfl
theorem q_638 : Cond.fieldLink "CallOpener" 268 "CallOpener$Call" "heat" "J" ∈ zwd := zt_2 _ (List.mem_of_getElem? (i := 233) rfl) rfl
theorem q_640 : Cond.fieldLink "CallOpener" 271 "CallOpener$Call" "worth" "J" ∈ zwd := zt_2 _ (List.mem_of_getElem? (i := 235) rfl) rfl
theorem q_642 : Cond.fieldLink "CallOpener" 274 "CallOpener$Call" "gain" "J" ∈ zwd := zt_2 _ (List.mem_of_getElem? (i := 237) rfl) rfl
theorem q_1347 : Cond.methodLink "CallOpener" 277 ⟨"CallOpener", "writeResult", "()V"⟩ ∈ zwd := zt_5 _ (List.mem_of_getElem? (i := 222) rfl) rfl
theorem q_1349 : Cond.instanceMethod ⟨"CallOpener", "writeResult", "()V"⟩ ∈ zwd := zt_5 _ (List.mem_of_getElem? (i := 224) rfl) rfl
theorem q_58 : Cond.selects "CallOpener" ⟨"CallOpener", "writeResult", "()V"⟩ ⟨"CallOpener", "writeResult", "()V"⟩ ∈ zwd := zt_0 _ (List.mem_of_getElem? (i := 58) rfl) rfl
theorem q_741 : Cond.fieldLink "CallOpener" 280 "CallOpener$Result" "lines" "LCallOpener$Lines;" ∈ zwd := zt_3 _ (List.mem_of_getElem? (i := 96) rfl) rfl
theorem q_744 : Cond.fieldLink "CallOpener" 281 "CallOpener$Result" "variables" "I" ∈ zwd := zt_3 _ (List.mem_of_getElem? (i := 99) rfl) rfl
theorem q_691 : Cond.fieldLink "CallOpener" 283 "CallOpener$Tree" "leftCount" "I" ∈ zwd := zt_3 _ (List.mem_of_getElem? (i := 46) rfl) rfl
theorem q_747 : Cond.fieldLink "CallOpener" 286 "CallOpener$Result" "parameters" "I" ∈ zwd := zt_3 _ (List.mem_of_getElem? (i := 102) rfl) rfl
theorem q_299 : Cond.fieldLink "CallOpener" 288 "CallOpener$Lines" "kind" "[I" ∈ zwd := zt_1 _ (List.mem_of_getElem? (i := 134) rfl) rfl
theorem q_310 : Cond.fieldLink "CallOpener" 291 "CallOpener$Lines" "first" "[I" ∈ zwd := zt_1 _ (List.mem_of_getElem? (i := 145) rfl) rfl
theorem q_316 : Cond.fieldLink "CallOpener" 294 "CallOpener$Lines" "second" "[I" ∈ zwd := zt_1 _ (List.mem_of_getElem? (i := 151) rfl) rfl
theorem q_320 : Cond.fieldLink "CallOpener" 297 "CallOpener$Lines" "third" "[I" ∈ zwd := zt_1 _ (List.mem_of_getElem? (i := 155) rfl) rfl
theorem q_324 : Cond.fieldLink "CallOpener" 300 "CallOpener$Lines" "site" "[I" ∈ zwd := zt_1 _ (List.mem_of_getElem? (i := 159) rfl) rfl
theorem q_328 : Cond.fieldLink "CallOpener" 302 "CallOpener$Lines" "depth" "[I" ∈ zwd := zt_1 _ (List.mem_of_getElem? (i := 163) rfl) rfl
theorem q_334 : Cond.fieldLink "CallOpener" 304 "CallOpener$Lines" "withElse" "[I" ∈ zwd := zt_1 _ (List.mem_of_getElem? (i := 169) rfl) rfl
theorem q_1386 : Cond.methodLink "CallOpener" 307 ⟨"CallOpener$Machine", "runResult", "(LCallOpener$Program;LCallOpener$Result;[II)V"⟩ ∈ zwd := zt_6 _ (List.mem_of_getElem? (i := 21) rfl) rfl
theorem q_1387 : Cond.instanceMethod ⟨"CallOpener$Machine", "runResult", "(LCallOpener$Program;LCallOpener$Result;[II)V"⟩ ∈ zwd := zt_6 _ (List.mem_of_getElem? (i := 22) rfl) rfl
theorem q_1388 : Cond.selects "CallOpener$Machine" ⟨"CallOpener$Machine", "runResult", "(LCallOpener$Program;LCallOpener$Result;[II)V"⟩ ⟨"CallOpener$Machine", "runResult", "(LCallOpener$Program;LCallOpener$Result;[II)V"⟩ ∈ zwd := zt_6 _ (List.mem_of_getElem? (i := 23) rfl) rfl
theorem q_1399 : Cond.methodLink "CallOpener" 311 ⟨"CallOpener$Known", "goThrough", "(LCallOpener$Lines;II)V"⟩ ∈ zwd := zt_6 _ (List.mem_of_getElem? (i := 34) rfl) rfl
theorem q_1400 : Cond.instanceMethod ⟨"CallOpener$Known", "goThrough", "(LCallOpener$Lines;II)V"⟩ ∈ zwd := zt_6 _ (List.mem_of_getElem? (i := 35) rfl) rfl
theorem q_1401 : Cond.selects "CallOpener$Known" ⟨"CallOpener$Known", "goThrough", "(LCallOpener$Lines;II)V"⟩ ⟨"CallOpener$Known", "goThrough", "(LCallOpener$Lines;II)V"⟩ ∈ zwd := zt_6 _ (List.mem_of_getElem? (i := 36) rfl) rfl
theorem q_260 : Cond.fieldLink "CallOpener" 315 "CallOpener$Known" "answers" "[I" ∈ zwd := zt_1 _ (List.mem_of_getElem? (i := 95) rfl) rfl
theorem q_1467 : Cond.methodLink "CallOpener" 316 ⟨"CallOpener$Best", "collect", "(LCallOpener$Program;LCallOpener$Profile;[II)V"⟩ ∈ zwd := zt_6 _ (List.mem_of_getElem? (i := 102) rfl) rfl
theorem q_1468 : Cond.instanceMethod ⟨"CallOpener$Best", "collect", "(LCallOpener$Program;LCallOpener$Profile;[II)V"⟩ ∈ zwd := zt_6 _ (List.mem_of_getElem? (i := 103) rfl) rfl
theorem q_1469 : Cond.selects "CallOpener$Best" ⟨"CallOpener$Best", "collect", "(LCallOpener$Program;LCallOpener$Profile;[II)V"⟩ ⟨"CallOpener$Best", "collect", "(LCallOpener$Program;LCallOpener$Profile;[II)V"⟩ ∈ zwd := zt_6 _ (List.mem_of_getElem? (i := 104) rfl) rfl
theorem q_1481 : Cond.methodLink "CallOpener" 320 ⟨"CallOpener$Best", "greatestGain", "(I)J"⟩ ∈ zwd := zt_6 _ (List.mem_of_getElem? (i := 116) rfl) rfl
theorem q_1482 : Cond.instanceMethod ⟨"CallOpener$Best", "greatestGain", "(I)J"⟩ ∈ zwd := zt_6 _ (List.mem_of_getElem? (i := 117) rfl) rfl
theorem q_1483 : Cond.selects "CallOpener$Best" ⟨"CallOpener$Best", "greatestGain", "(I)J"⟩ ⟨"CallOpener$Best", "greatestGain", "(I)J"⟩ ∈ zwd := zt_6 _ (List.mem_of_getElem? (i := 118) rfl) rfl
theorem q_1500 : Cond.methodLink "CallOpener" 324 ⟨"CallOpener$Best", "leastAdds", "(I)I"⟩ ∈ zwd := zt_6 _ (List.mem_of_getElem? (i := 135) rfl) rfl
theorem q_1501 : Cond.instanceMethod ⟨"CallOpener$Best", "leastAdds", "(I)I"⟩ ∈ zwd := zt_6 _ (List.mem_of_getElem? (i := 136) rfl) rfl
theorem q_1502 : Cond.selects "CallOpener$Best" ⟨"CallOpener$Best", "leastAdds", "(I)I"⟩ ⟨"CallOpener$Best", "leastAdds", "(I)I"⟩ ∈ zwd := zt_6 _ (List.mem_of_getElem? (i := 137) rfl) rfl
theorem q_766 : Cond.fieldLink "CallOpener" 327 "CallOpener$Best" "found" "I" ∈ zwd := zt_3 _ (List.mem_of_getElem? (i := 121) rfl) rfl
theorem q_1508 : Cond.methodLink "CallOpener" 330 ⟨"java/lang/System", "arraycopy", "(Ljava/lang/Object;ILjava/lang/Object;II)V"⟩ ∈ zwd := zt_6 _ (List.mem_of_getElem? (i := 143) rfl) rfl
theorem q_1258 : Cond.native ⟨"java/lang/System", "arraycopy", "(Ljava/lang/Object;ILjava/lang/Object;II)V"⟩ ∈ zwd := zt_5 _ (List.mem_of_getElem? (i := 133) rfl) rfl
theorem q_1257 : Cond.static ⟨"java/lang/System", "arraycopy", "(Ljava/lang/Object;ILjava/lang/Object;II)V"⟩ ∈ zwd := zt_5 _ (List.mem_of_getElem? (i := 132) rfl) rfl
theorem q_185 : Cond.initialized "java/lang/System" ∈ zwd := zt_1 _ (List.mem_of_getElem? (i := 20) rfl) rfl
theorem q_1252 : Cond.methodLink "CallOpener" 336 ⟨"CallOpener$Tree", "grow", "(LCallOpener$Program;LCallOpener$Profile;[II)V"⟩ ∈ zwd := zt_5 _ (List.mem_of_getElem? (i := 127) rfl) rfl
theorem q_1253 : Cond.instanceMethod ⟨"CallOpener$Tree", "grow", "(LCallOpener$Program;LCallOpener$Profile;[II)V"⟩ ∈ zwd := zt_5 _ (List.mem_of_getElem? (i := 128) rfl) rfl
theorem q_1254 : Cond.selects "CallOpener$Tree" ⟨"CallOpener$Tree", "grow", "(LCallOpener$Program;LCallOpener$Profile;[II)V"⟩ ⟨"CallOpener$Tree", "grow", "(LCallOpener$Program;LCallOpener$Profile;[II)V"⟩ ∈ zwd := zt_5 _ (List.mem_of_getElem? (i := 129) rfl) rfl
theorem q_687 : Cond.fieldLink "CallOpener" 339 "CallOpener$Tree" "left" "[I" ∈ zwd := zt_3 _ (List.mem_of_getElem? (i := 42) rfl) rfl
theorem q_1513 : Cond.methodLink "CallOpener" 342 ⟨"CallOpener$Call", "whyLeft", "()I"⟩ ∈ zwd := zt_6 _ (List.mem_of_getElem? (i := 148) rfl) rfl
theorem q_1514 : Cond.instanceMethod ⟨"CallOpener$Call", "whyLeft", "()I"⟩ ∈ zwd := zt_6 _ (List.mem_of_getElem? (i := 149) rfl) rfl
theorem q_1515 : Cond.selects "CallOpener$Call" ⟨"CallOpener$Call", "whyLeft", "()I"⟩ ⟨"CallOpener$Call", "whyLeft", "()I"⟩ ∈ zwd := zt_6 _ (List.mem_of_getElem? (i := 150) rfl) rfl
theorem q_175 : Cond.initialized "CallOpener$Call" ∈ zwd := zt_1 _ (List.mem_of_getElem? (i := 10) rfl) rfl
theorem q_1521 : Cond.methodLink "CallOpener" 345 ⟨"CallOpener$Program", "changePlaces", "(II)V"⟩ ∈ zwd := zt_6 _ (List.mem_of_getElem? (i := 156) rfl) rfl
theorem q_1522 : Cond.instanceMethod ⟨"CallOpener$Program", "changePlaces", "(II)V"⟩ ∈ zwd := zt_6 _ (List.mem_of_getElem? (i := 157) rfl) rfl
theorem q_1523 : Cond.selects "CallOpener$Program" ⟨"CallOpener$Program", "changePlaces", "(II)V"⟩ ⟨"CallOpener$Program", "changePlaces", "(II)V"⟩ ∈ zwd := zt_6 _ (List.mem_of_getElem? (i := 158) rfl) rfl
theorem q_1531 : Cond.methodLink "CallOpener" 349 ⟨"CallOpener", "exchange", "([III)V"⟩ ∈ zwd := zt_6 _ (List.mem_of_getElem? (i := 166) rfl) rfl
theorem q_1526 : Cond.static ⟨"CallOpener", "exchange", "([III)V"⟩ ∈ zwd := zt_6 _ (List.mem_of_getElem? (i := 161) rfl) rfl
theorem q_1240 : Cond.fieldLink "CallOpener" 353 "CallOpener" "SETTING_MOST" "[I" ∈ zwd := zt_5 _ (List.mem_of_getElem? (i := 115) rfl) rfl
theorem q_1242 : Cond.fieldLink "CallOpener" 356 "CallOpener" "SETTING_LEAST" "[I" ∈ zwd := zt_5 _ (List.mem_of_getElem? (i := 117) rfl) rfl
theorem q_1351 : Cond.methodLink "CallOpener" 359 ⟨"CallOpener$Result", "write", "(LCallOpener$Program;LCallOpener$Tree;)V"⟩ ∈ zwd := zt_5 _ (List.mem_of_getElem? (i := 226) rfl) rfl
theorem q_1352 : Cond.instanceMethod ⟨"CallOpener$Result", "write", "(LCallOpener$Program;LCallOpener$Tree;)V"⟩ ∈ zwd := zt_5 _ (List.mem_of_getElem? (i := 227) rfl) rfl
theorem q_1353 : Cond.selects "CallOpener$Result" ⟨"CallOpener$Result", "write", "(LCallOpener$Program;LCallOpener$Tree;)V"⟩ ⟨"CallOpener$Result", "write", "(LCallOpener$Program;LCallOpener$Tree;)V"⟩ ∈ zwd := zt_5 _ (List.mem_of_getElem? (i := 228) rfl) rfl
theorem q_1537 : Cond.methodLink "CallOpenerModel" 1 ⟨"java/lang/Object", "<init>", "()V"⟩ ∈ zwd := zt_6 _ (List.mem_of_getElem? (i := 172) rfl) rfl
theorem q_1087 : Cond.arrayClass .byte ∈ zwd := zt_4 _ (List.mem_of_getElem? (i := 202) rfl) rfl
theorem q_1542 : Cond.fieldLink "CallOpenerModel" 7 "CallOpenerModel" "tape" "[B" ∈ zwd := zt_6 _ (List.mem_of_getElem? (i := 177) rfl) rfl
theorem q_1555 : Cond.fieldLink "CallOpenerModel" 13 "CallOpenerModel" "functions" "[I" ∈ zwd := zt_6 _ (List.mem_of_getElem? (i := 190) rfl) rfl
theorem q_1556 : Cond.fieldLink "CallOpenerModel" 17 "CallOpenerModel" "lines" "[I" ∈ zwd := zt_6 _ (List.mem_of_getElem? (i := 191) rfl) rfl
theorem q_1557 : Cond.fieldLink "CallOpenerModel" 20 "CallOpenerModel" "sites" "[I" ∈ zwd := zt_6 _ (List.mem_of_getElem? (i := 192) rfl) rfl
theorem q_258 : Cond.arrayClass .long ∈ zwd := zt_1 _ (List.mem_of_getElem? (i := 93) rfl) rfl
theorem q_1558 : Cond.fieldLink "CallOpenerModel" 23 "CallOpenerModel" "fName" "[J" ∈ zwd := zt_6 _ (List.mem_of_getElem? (i := 193) rfl) rfl
theorem q_1559 : Cond.fieldLink "CallOpenerModel" 27 "CallOpenerModel" "fParams" "[I" ∈ zwd := zt_6 _ (List.mem_of_getElem? (i := 194) rfl) rfl
theorem q_1560 : Cond.fieldLink "CallOpenerModel" 30 "CallOpenerModel" "fVars" "[I" ∈ zwd := zt_6 _ (List.mem_of_getElem? (i := 195) rfl) rfl
theorem q_1561 : Cond.fieldLink "CallOpenerModel" 33 "CallOpenerModel" "fFirst" "[I" ∈ zwd := zt_6 _ (List.mem_of_getElem? (i := 196) rfl) rfl
theorem q_1562 : Cond.fieldLink "CallOpenerModel" 36 "CallOpenerModel" "fMany" "[I" ∈ zwd := zt_6 _ (List.mem_of_getElem? (i := 197) rfl) rfl
theorem q_1563 : Cond.fieldLink "CallOpenerModel" 39 "CallOpenerModel" "fSite" "[I" ∈ zwd := zt_6 _ (List.mem_of_getElem? (i := 198) rfl) rfl
theorem q_1564 : Cond.fieldLink "CallOpenerModel" 42 "CallOpenerModel" "fSites" "[I" ∈ zwd := zt_6 _ (List.mem_of_getElem? (i := 199) rfl) rfl
theorem q_1960 : Cond.arrayClass .boolean ∈ zwd := zt_8 _ (List.mem_of_getElem? (i := 115) rfl) rfl
theorem q_1565 : Cond.fieldLink "CallOpenerModel" 45 "CallOpenerModel" "fGives" "[Z" ∈ zwd := zt_6 _ (List.mem_of_getElem? (i := 200) rfl) rfl
theorem q_1566 : Cond.fieldLink "CallOpenerModel" 49 "CallOpenerModel" "lKind" "[I" ∈ zwd := zt_6 _ (List.mem_of_getElem? (i := 201) rfl) rfl
theorem q_1567 : Cond.fieldLink "CallOpenerModel" 52 "CallOpenerModel" "lX" "[I" ∈ zwd := zt_6 _ (List.mem_of_getElem? (i := 202) rfl) rfl
theorem q_1568 : Cond.fieldLink "CallOpenerModel" 55 "CallOpenerModel" "lA" "[I" ∈ zwd := zt_6 _ (List.mem_of_getElem? (i := 203) rfl) rfl
theorem q_1569 : Cond.fieldLink "CallOpenerModel" 58 "CallOpenerModel" "lB" "[I" ∈ zwd := zt_6 _ (List.mem_of_getElem? (i := 204) rfl) rfl
theorem q_1570 : Cond.fieldLink "CallOpenerModel" 61 "CallOpenerModel" "lC" "[I" ∈ zwd := zt_6 _ (List.mem_of_getElem? (i := 205) rfl) rfl
theorem q_1571 : Cond.fieldLink "CallOpenerModel" 64 "CallOpenerModel" "lCalled" "[I" ∈ zwd := zt_6 _ (List.mem_of_getElem? (i := 206) rfl) rfl
theorem q_1572 : Cond.fieldLink "CallOpenerModel" 67 "CallOpenerModel" "lSite" "[I" ∈ zwd := zt_6 _ (List.mem_of_getElem? (i := 207) rfl) rfl
theorem q_1573 : Cond.fieldLink "CallOpenerModel" 70 "CallOpenerModel" "lDeep" "[I" ∈ zwd := zt_6 _ (List.mem_of_getElem? (i := 208) rfl) rfl
theorem q_1574 : Cond.fieldLink "CallOpenerModel" 73 "CallOpenerModel" "lThen" "[I" ∈ zwd := zt_6 _ (List.mem_of_getElem? (i := 209) rfl) rfl
theorem q_1575 : Cond.fieldLink "CallOpenerModel" 76 "CallOpenerModel" "lElse" "[I" ∈ zwd := zt_6 _ (List.mem_of_getElem? (i := 210) rfl) rfl
theorem q_1576 : Cond.fieldLink "CallOpenerModel" 79 "CallOpenerModel" "lCall" "[I" ∈ zwd := zt_6 _ (List.mem_of_getElem? (i := 211) rfl) rfl
theorem q_1577 : Cond.fieldLink "CallOpenerModel" 82 "CallOpenerModel" "lHasElse" "[Z" ∈ zwd := zt_6 _ (List.mem_of_getElem? (i := 212) rfl) rfl
theorem q_1578 : Cond.fieldLink "CallOpenerModel" 85 "CallOpenerModel" "sLine" "[I" ∈ zwd := zt_6 _ (List.mem_of_getElem? (i := 213) rfl) rfl
theorem q_1579 : Cond.fieldLink "CallOpenerModel" 88 "CallOpenerModel" "sLoops" "[I" ∈ zwd := zt_6 _ (List.mem_of_getElem? (i := 214) rfl) rfl
theorem q_1580 : Cond.fieldLink "CallOpenerModel" 91 "CallOpenerModel" "sIfs" "[I" ∈ zwd := zt_6 _ (List.mem_of_getElem? (i := 215) rfl) rfl
theorem q_1581 : Cond.fieldLink "CallOpenerModel" 94 "CallOpenerModel" "sGiven" "[I" ∈ zwd := zt_6 _ (List.mem_of_getElem? (i := 216) rfl) rfl
theorem q_1582 : Cond.fieldLink "CallOpenerModel" 97 "CallOpenerModel" "sPlace" "[I" ∈ zwd := zt_6 _ (List.mem_of_getElem? (i := 217) rfl) rfl
theorem q_1583 : Cond.fieldLink "CallOpenerModel" 100 "CallOpenerModel" "sNumbers" "[I" ∈ zwd := zt_6 _ (List.mem_of_getElem? (i := 218) rfl) rfl
theorem q_1584 : Cond.fieldLink "CallOpenerModel" 103 "CallOpenerModel" "sIn" "[I" ∈ zwd := zt_6 _ (List.mem_of_getElem? (i := 219) rfl) rfl
theorem q_1585 : Cond.fieldLink "CallOpenerModel" 106 "CallOpenerModel" "sName" "[J" ∈ zwd := zt_6 _ (List.mem_of_getElem? (i := 220) rfl) rfl
theorem q_1586 : Cond.fieldLink "CallOpenerModel" 109 "CallOpenerModel" "varName" "[J" ∈ zwd := zt_6 _ (List.mem_of_getElem? (i := 221) rfl) rfl
theorem q_1587 : Cond.fieldLink "CallOpenerModel" 112 "CallOpenerModel" "owner" "[I" ∈ zwd := zt_6 _ (List.mem_of_getElem? (i := 222) rfl) rfl
theorem q_1588 : Cond.fieldLink "CallOpenerModel" 115 "CallOpenerModel" "isElse" "[Z" ∈ zwd := zt_6 _ (List.mem_of_getElem? (i := 223) rfl) rfl
theorem q_1591 : Cond.fieldLink "CallOpenerModel" 118 "CallOpenerModel" "lies" "[I" ∈ zwd := zt_6 _ (List.mem_of_getElem? (i := 226) rfl) rfl
theorem q_1592 : Cond.fieldLink "CallOpenerModel" 121 "CallOpenerModel" "numberOf" "[I" ∈ zwd := zt_6 _ (List.mem_of_getElem? (i := 227) rfl) rfl
theorem q_1593 : Cond.fieldLink "CallOpenerModel" 124 "CallOpenerModel" "argument" "[I" ∈ zwd := zt_6 _ (List.mem_of_getElem? (i := 228) rfl) rfl
