/-! Printed by wip/tools/s_code.py: words by their places, fields by their numbers. -/
theorem q_1594 : Cond.fieldLink "CallOpenerModel" 127 "CallOpenerModel" "setting" "[I" ∈ zwd := zt_6 _ (List.mem_of_getElem? (i := 229) rfl) rfl
theorem q_1595 : Cond.fieldLink "CallOpenerModel" 130 "CallOpenerModel" "entries" "[I" ∈ zwd := zt_6 _ (List.mem_of_getElem? (i := 230) rfl) rfl
theorem q_1596 : Cond.fieldLink "CallOpenerModel" 133 "CallOpenerModel" "times" "[I" ∈ zwd := zt_6 _ (List.mem_of_getElem? (i := 231) rfl) rfl
theorem q_1597 : Cond.fieldLink "CallOpenerModel" 136 "CallOpenerModel" "ranEntries" "[I" ∈ zwd := zt_6 _ (List.mem_of_getElem? (i := 232) rfl) rfl
theorem q_1598 : Cond.fieldLink "CallOpenerModel" 139 "CallOpenerModel" "ranTimes" "[I" ∈ zwd := zt_6 _ (List.mem_of_getElem? (i := 233) rfl) rfl
theorem q_1599 : Cond.fieldLink "CallOpenerModel" 142 "CallOpenerModel" "rAt" "[I" ∈ zwd := zt_6 _ (List.mem_of_getElem? (i := 234) rfl) rfl
theorem q_1600 : Cond.fieldLink "CallOpenerModel" 145 "CallOpenerModel" "rEnd" "[I" ∈ zwd := zt_6 _ (List.mem_of_getElem? (i := 235) rfl) rfl
theorem q_1601 : Cond.fieldLink "CallOpenerModel" 148 "CallOpenerModel" "rBase" "[I" ∈ zwd := zt_6 _ (List.mem_of_getElem? (i := 236) rfl) rfl
theorem q_1602 : Cond.fieldLink "CallOpenerModel" 151 "CallOpenerModel" "rLine" "[I" ∈ zwd := zt_6 _ (List.mem_of_getElem? (i := 237) rfl) rfl
theorem q_1603 : Cond.fieldLink "CallOpenerModel" 154 "CallOpenerModel" "rBlock" "[I" ∈ zwd := zt_6 _ (List.mem_of_getElem? (i := 238) rfl) rfl
theorem q_1604 : Cond.fieldLink "CallOpenerModel" 157 "CallOpenerModel" "variables" "[I" ∈ zwd := zt_6 _ (List.mem_of_getElem? (i := 239) rfl) rfl
theorem q_1605 : Cond.fieldLink "CallOpenerModel" 160 "CallOpenerModel" "bFirst" "[I" ∈ zwd := zt_7 _ (List.mem_of_getElem? (i := 0) rfl) rfl
theorem q_1606 : Cond.fieldLink "CallOpenerModel" 163 "CallOpenerModel" "bLeft" "[I" ∈ zwd := zt_7 _ (List.mem_of_getElem? (i := 1) rfl) rfl
theorem q_1607 : Cond.fieldLink "CallOpenerModel" 166 "CallOpenerModel" "bEnd" "[I" ∈ zwd := zt_7 _ (List.mem_of_getElem? (i := 2) rfl) rfl
theorem q_1608 : Cond.fieldLink "CallOpenerModel" 169 "CallOpenerModel" "bBehind" "[I" ∈ zwd := zt_7 _ (List.mem_of_getElem? (i := 3) rfl) rfl
theorem q_1617 : Cond.fieldLink "CallOpenerModel" 172 "CallOpenerModel" "cUp" "[I" ∈ zwd := zt_7 _ (List.mem_of_getElem? (i := 12) rfl) rfl
theorem q_1618 : Cond.fieldLink "CallOpenerModel" 175 "CallOpenerModel" "cSite" "[I" ∈ zwd := zt_7 _ (List.mem_of_getElem? (i := 13) rfl) rfl
theorem q_1619 : Cond.fieldLink "CallOpenerModel" 178 "CallOpenerModel" "cFunction" "[I" ∈ zwd := zt_7 _ (List.mem_of_getElem? (i := 14) rfl) rfl
theorem q_1620 : Cond.fieldLink "CallOpenerModel" 181 "CallOpenerModel" "cDeep" "[I" ∈ zwd := zt_7 _ (List.mem_of_getElem? (i := 15) rfl) rfl
theorem q_1621 : Cond.fieldLink "CallOpenerModel" 184 "CallOpenerModel" "cOrder" "[I" ∈ zwd := zt_7 _ (List.mem_of_getElem? (i := 16) rfl) rfl
theorem q_1622 : Cond.fieldLink "CallOpenerModel" 187 "CallOpenerModel" "cFirst" "[I" ∈ zwd := zt_7 _ (List.mem_of_getElem? (i := 17) rfl) rfl
theorem q_1623 : Cond.fieldLink "CallOpenerModel" 190 "CallOpenerModel" "cAdds" "[I" ∈ zwd := zt_7 _ (List.mem_of_getElem? (i := 18) rfl) rfl
theorem q_1624 : Cond.fieldLink "CallOpenerModel" 193 "CallOpenerModel" "cNodes" "[I" ∈ zwd := zt_7 _ (List.mem_of_getElem? (i := 19) rfl) rfl
theorem q_1625 : Cond.fieldLink "CallOpenerModel" 196 "CallOpenerModel" "cHeat" "[J" ∈ zwd := zt_7 _ (List.mem_of_getElem? (i := 20) rfl) rfl
theorem q_1626 : Cond.fieldLink "CallOpenerModel" 199 "CallOpenerModel" "cGain" "[J" ∈ zwd := zt_7 _ (List.mem_of_getElem? (i := 21) rfl) rfl
theorem q_1627 : Cond.fieldLink "CallOpenerModel" 202 "CallOpenerModel" "cIs" "[Z" ∈ zwd := zt_7 _ (List.mem_of_getElem? (i := 22) rfl) rfl
theorem q_1633 : Cond.fieldLink "CallOpenerModel" 205 "CallOpenerModel" "nodes" "[I" ∈ zwd := zt_7 _ (List.mem_of_getElem? (i := 28) rfl) rfl
theorem q_1634 : Cond.fieldLink "CallOpenerModel" 208 "CallOpenerModel" "numberAt" "[I" ∈ zwd := zt_7 _ (List.mem_of_getElem? (i := 29) rfl) rfl
theorem q_1635 : Cond.fieldLink "CallOpenerModel" 211 "CallOpenerModel" "waits" "[I" ∈ zwd := zt_7 _ (List.mem_of_getElem? (i := 30) rfl) rfl
theorem q_1637 : Cond.fieldLink "CallOpenerModel" 214 "CallOpenerModel" "nNode" "[I" ∈ zwd := zt_7 _ (List.mem_of_getElem? (i := 32) rfl) rfl
theorem q_1638 : Cond.fieldLink "CallOpenerModel" 217 "CallOpenerModel" "nAt" "[I" ∈ zwd := zt_7 _ (List.mem_of_getElem? (i := 33) rfl) rfl
theorem q_1639 : Cond.fieldLink "CallOpenerModel" 220 "CallOpenerModel" "nEnd" "[I" ∈ zwd := zt_7 _ (List.mem_of_getElem? (i := 34) rfl) rfl
theorem q_1640 : Cond.fieldLink "CallOpenerModel" 223 "CallOpenerModel" "nBase" "[I" ∈ zwd := zt_7 _ (List.mem_of_getElem? (i := 35) rfl) rfl
theorem q_1641 : Cond.fieldLink "CallOpenerModel" 226 "CallOpenerModel" "nDeep" "[I" ∈ zwd := zt_7 _ (List.mem_of_getElem? (i := 36) rfl) rfl
theorem q_1642 : Cond.fieldLink "CallOpenerModel" 229 "CallOpenerModel" "nCall" "[I" ∈ zwd := zt_7 _ (List.mem_of_getElem? (i := 37) rfl) rfl
theorem q_1643 : Cond.fieldLink "CallOpenerModel" 232 "CallOpenerModel" "nBlock" "[I" ∈ zwd := zt_7 _ (List.mem_of_getElem? (i := 38) rfl) rfl
theorem q_1644 : Cond.fieldLink "CallOpenerModel" 235 "CallOpenerModel" "oLine" "[I" ∈ zwd := zt_7 _ (List.mem_of_getElem? (i := 39) rfl) rfl
theorem q_1645 : Cond.fieldLink "CallOpenerModel" 238 "CallOpenerModel" "oOf" "[I" ∈ zwd := zt_7 _ (List.mem_of_getElem? (i := 40) rfl) rfl
theorem q_1646 : Cond.fieldLink "CallOpenerModel" 241 "CallOpenerModel" "oEnd" "[I" ∈ zwd := zt_7 _ (List.mem_of_getElem? (i := 41) rfl) rfl
theorem q_1647 : Cond.fieldLink "CallOpenerModel" 244 "CallOpenerModel" "leftCall" "[I" ∈ zwd := zt_7 _ (List.mem_of_getElem? (i := 42) rfl) rfl
theorem q_1648 : Cond.fieldLink "CallOpenerModel" 247 "CallOpenerModel" "oElse" "[Z" ∈ zwd := zt_7 _ (List.mem_of_getElem? (i := 43) rfl) rfl
theorem q_1654 : Cond.fieldLink "CallOpenerModel" 250 "CallOpenerModel" "isKnown" "[Z" ∈ zwd := zt_7 _ (List.mem_of_getElem? (i := 49) rfl) rfl
theorem q_1655 : Cond.fieldLink "CallOpenerModel" 253 "CallOpenerModel" "known" "[I" ∈ zwd := zt_7 _ (List.mem_of_getElem? (i := 50) rfl) rfl
theorem q_1656 : Cond.fieldLink "CallOpenerModel" 256 "CallOpenerModel" "trailVar" "[I" ∈ zwd := zt_7 _ (List.mem_of_getElem? (i := 51) rfl) rfl
theorem q_1657 : Cond.fieldLink "CallOpenerModel" 259 "CallOpenerModel" "trailNumber" "[I" ∈ zwd := zt_7 _ (List.mem_of_getElem? (i := 52) rfl) rfl
theorem q_1658 : Cond.fieldLink "CallOpenerModel" 262 "CallOpenerModel" "keptVar" "[I" ∈ zwd := zt_7 _ (List.mem_of_getElem? (i := 53) rfl) rfl
theorem q_1659 : Cond.fieldLink "CallOpenerModel" 265 "CallOpenerModel" "keptNumber" "[I" ∈ zwd := zt_7 _ (List.mem_of_getElem? (i := 54) rfl) rfl
theorem q_1660 : Cond.fieldLink "CallOpenerModel" 268 "CallOpenerModel" "kSort" "[I" ∈ zwd := zt_7 _ (List.mem_of_getElem? (i := 55) rfl) rfl
theorem q_1661 : Cond.fieldLink "CallOpenerModel" 271 "CallOpenerModel" "kLine" "[I" ∈ zwd := zt_7 _ (List.mem_of_getElem? (i := 56) rfl) rfl
theorem q_1662 : Cond.fieldLink "CallOpenerModel" 274 "CallOpenerModel" "kEnd" "[I" ∈ zwd := zt_7 _ (List.mem_of_getElem? (i := 57) rfl) rfl
theorem q_1663 : Cond.fieldLink "CallOpenerModel" 277 "CallOpenerModel" "kTrail" "[I" ∈ zwd := zt_7 _ (List.mem_of_getElem? (i := 58) rfl) rfl
theorem q_1664 : Cond.fieldLink "CallOpenerModel" 280 "CallOpenerModel" "kKept" "[I" ∈ zwd := zt_7 _ (List.mem_of_getElem? (i := 59) rfl) rfl
theorem q_1665 : Cond.fieldLink "CallOpenerModel" 283 "CallOpenerModel" "trailKnown" "[Z" ∈ zwd := zt_7 _ (List.mem_of_getElem? (i := 60) rfl) rfl
theorem q_1666 : Cond.fieldLink "CallOpenerModel" 286 "CallOpenerModel" "keptKnown" "[Z" ∈ zwd := zt_7 _ (List.mem_of_getElem? (i := 61) rfl) rfl
theorem q_1667 : Cond.fieldLink "CallOpenerModel" 289 "CallOpenerModel" "isSeen" "[Z" ∈ zwd := zt_7 _ (List.mem_of_getElem? (i := 62) rfl) rfl
theorem q_1675 : Cond.fieldLink "CallOpenerModel" 292 "CallOpenerModel" "mostBy" "[J" ∈ zwd := zt_7 _ (List.mem_of_getElem? (i := 70) rfl) rfl
theorem q_1676 : Cond.fieldLink "CallOpenerModel" 295 "CallOpenerModel" "mixed" "[J" ∈ zwd := zt_7 _ (List.mem_of_getElem? (i := 71) rfl) rfl
theorem q_1677 : Cond.fieldLink "CallOpenerModel" 298 "CallOpenerModel" "qUp" "[I" ∈ zwd := zt_7 _ (List.mem_of_getElem? (i := 72) rfl) rfl
theorem q_1678 : Cond.fieldLink "CallOpenerModel" 301 "CallOpenerModel" "qFunction" "[I" ∈ zwd := zt_7 _ (List.mem_of_getElem? (i := 73) rfl) rfl
theorem q_1679 : Cond.fieldLink "CallOpenerModel" 304 "CallOpenerModel" "qHeat" "[J" ∈ zwd := zt_7 _ (List.mem_of_getElem? (i := 74) rfl) rfl
theorem q_1538 : Cond.methodLink "CallOpenerModel" 307 ⟨"CallOpenerModel", "laysNumbers", "()V"⟩ ∈ zwd := zt_6 _ (List.mem_of_getElem? (i := 173) rfl) rfl
theorem q_1540 : Cond.instanceMethod ⟨"CallOpenerModel", "laysNumbers", "()V"⟩ ∈ zwd := zt_6 _ (List.mem_of_getElem? (i := 175) rfl) rfl
theorem q_81 : Cond.selects "CallOpenerModel" ⟨"CallOpenerModel", "laysNumbers", "()V"⟩ ⟨"CallOpenerModel", "laysNumbers", "()V"⟩ ∈ zwd := zt_0 _ (List.mem_of_getElem? (i := 81) rfl) rfl
theorem q_1543 : Cond.fieldLink "CallOpenerModel" 310 "CallOpenerModel" "taped" "I" ∈ zwd := zt_6 _ (List.mem_of_getElem? (i := 178) rfl) rfl
theorem q_1965 : Cond.methodLink "CallOpenerModel" 314 ⟨"CallOpenerModel", "typed4", "(I)V"⟩ ∈ zwd := zt_8 _ (List.mem_of_getElem? (i := 120) rfl) rfl
theorem q_1967 : Cond.instanceMethod ⟨"CallOpenerModel", "typed4", "(I)V"⟩ ∈ zwd := zt_8 _ (List.mem_of_getElem? (i := 122) rfl) rfl
theorem q_82 : Cond.selects "CallOpenerModel" ⟨"CallOpenerModel", "typed4", "(I)V"⟩ ⟨"CallOpenerModel", "typed4", "(I)V"⟩ ∈ zwd := zt_0 _ (List.mem_of_getElem? (i := 82) rfl) rfl
theorem q_1544 : Cond.fieldLink "CallOpenerModel" 318 "CallOpenerModel" "place0" "I" ∈ zwd := zt_6 _ (List.mem_of_getElem? (i := 179) rfl) rfl
theorem q_1545 : Cond.fieldLink "CallOpenerModel" 321 "CallOpenerModel" "length0" "I" ∈ zwd := zt_6 _ (List.mem_of_getElem? (i := 180) rfl) rfl
theorem q_1980 : Cond.methodLink "CallOpenerModel" 324 ⟨"CallOpenerModel", "here", "()I"⟩ ∈ zwd := zt_8 _ (List.mem_of_getElem? (i := 135) rfl) rfl
theorem q_1982 : Cond.instanceMethod ⟨"CallOpenerModel", "here", "()I"⟩ ∈ zwd := zt_8 _ (List.mem_of_getElem? (i := 137) rfl) rfl
theorem q_84 : Cond.selects "CallOpenerModel" ⟨"CallOpenerModel", "here", "()I"⟩ ⟨"CallOpenerModel", "here", "()I"⟩ ∈ zwd := zt_0 _ (List.mem_of_getElem? (i := 84) rfl) rfl
theorem q_1548 : Cond.fieldLink "CallOpenerModel" 328 "CallOpenerModel" "begun" "I" ∈ zwd := zt_6 _ (List.mem_of_getElem? (i := 183) rfl) rfl
theorem q_1547 : Cond.fieldLink "CallOpenerModel" 331 "CallOpenerModel" "token" "I" ∈ zwd := zt_6 _ (List.mem_of_getElem? (i := 182) rfl) rfl
theorem q_1973 : Cond.methodLink "CallOpenerModel" 334 ⟨"CallOpenerModel", "in", "(III)Z"⟩ ∈ zwd := zt_8 _ (List.mem_of_getElem? (i := 128) rfl) rfl
theorem q_1974 : Cond.static ⟨"CallOpenerModel", "in", "(III)Z"⟩ ∈ zwd := zt_8 _ (List.mem_of_getElem? (i := 129) rfl) rfl
theorem q_1552 : Cond.fieldLink "CallOpenerModel" 338 "CallOpenerModel" "word" "J" ∈ zwd := zt_6 _ (List.mem_of_getElem? (i := 187) rfl) rfl
theorem q_1984 : Cond.constantLong "CallOpenerModel" 342 (Int64.ofInt 32) ∈ zwd := zt_8 _ (List.mem_of_getElem? (i := 139) rfl) rfl
theorem q_1985 : Cond.constantLong "CallOpenerModel" 344 (Int64.ofInt 97) ∈ zwd := zt_8 _ (List.mem_of_getElem? (i := 140) rfl) rfl
theorem q_1986 : Cond.constantLong "CallOpenerModel" 346 (Int64.ofInt (-1)) ∈ zwd := zt_8 _ (List.mem_of_getElem? (i := 141) rfl) rfl
theorem q_1551 : Cond.fieldLink "CallOpenerModel" 348 "CallOpenerModel" "letters" "I" ∈ zwd := zt_6 _ (List.mem_of_getElem? (i := 186) rfl) rfl
theorem q_1549 : Cond.fieldLink "CallOpenerModel" 351 "CallOpenerModel" "amount" "I" ∈ zwd := zt_6 _ (List.mem_of_getElem? (i := 184) rfl) rfl
theorem q_1987 : Cond.methodLink "CallOpenerModel" 354 ⟨"CallOpenerModel", "isSignByte", "(I)Z"⟩ ∈ zwd := zt_8 _ (List.mem_of_getElem? (i := 142) rfl) rfl
theorem q_1988 : Cond.static ⟨"CallOpenerModel", "isSignByte", "(I)Z"⟩ ∈ zwd := zt_8 _ (List.mem_of_getElem? (i := 143) rfl) rfl
theorem q_1550 : Cond.fieldLink "CallOpenerModel" 358 "CallOpenerModel" "sign" "I" ∈ zwd := zt_6 _ (List.mem_of_getElem? (i := 185) rfl) rfl
theorem q_1546 : Cond.fieldLink "CallOpenerModel" 361 "CallOpenerModel" "fault" "I" ∈ zwd := zt_6 _ (List.mem_of_getElem? (i := 181) rfl) rfl
theorem q_2007 : Cond.methodLink "CallOpenerModel" 364 ⟨"CallOpenerModel", "wrongAt", "(II)Z"⟩ ∈ zwd := zt_8 _ (List.mem_of_getElem? (i := 162) rfl) rfl
theorem q_2009 : Cond.instanceMethod ⟨"CallOpenerModel", "wrongAt", "(II)Z"⟩ ∈ zwd := zt_8 _ (List.mem_of_getElem? (i := 164) rfl) rfl
theorem q_89 : Cond.selects "CallOpenerModel" ⟨"CallOpenerModel", "wrongAt", "(II)Z"⟩ ⟨"CallOpenerModel", "wrongAt", "(II)Z"⟩ ∈ zwd := zt_0 _ (List.mem_of_getElem? (i := 89) rfl) rfl
theorem q_1998 : Cond.constantLong "CallOpenerModel" 368 (Int64.ofInt 6830) ∈ zwd := zt_8 _ (List.mem_of_getElem? (i := 153) rfl) rfl
theorem q_1999 : Cond.methodLink "CallOpenerModel" 370 ⟨"CallOpenerModel", "isWord", "(J)Z"⟩ ∈ zwd := zt_8 _ (List.mem_of_getElem? (i := 154) rfl) rfl
theorem q_2001 : Cond.instanceMethod ⟨"CallOpenerModel", "isWord", "(J)Z"⟩ ∈ zwd := zt_8 _ (List.mem_of_getElem? (i := 156) rfl) rfl
theorem q_87 : Cond.selects "CallOpenerModel" ⟨"CallOpenerModel", "isWord", "(J)Z"⟩ ⟨"CallOpenerModel", "isWord", "(J)Z"⟩ ∈ zwd := zt_0 _ (List.mem_of_getElem? (i := 87) rfl) rfl
theorem q_2023 : Cond.constantLong "CallOpenerModel" 374 (Int64.ofInt 294) ∈ zwd := zt_8 _ (List.mem_of_getElem? (i := 178) rfl) rfl
theorem q_2024 : Cond.constantLong "CallOpenerModel" 376 (Int64.ofInt 176741) ∈ zwd := zt_8 _ (List.mem_of_getElem? (i := 179) rfl) rfl
theorem q_2025 : Cond.constantLong "CallOpenerModel" 378 (Int64.ofInt 409072) ∈ zwd := zt_8 _ (List.mem_of_getElem? (i := 180) rfl) rfl
theorem q_2026 : Cond.constantLong "CallOpenerModel" 380 (Int64.ofInt 239301) ∈ zwd := zt_8 _ (List.mem_of_getElem? (i := 181) rfl) rfl
theorem q_2031 : Cond.methodLink "CallOpenerModel" 382 ⟨"CallOpenerModel", "isSign", "(I)Z"⟩ ∈ zwd := zt_8 _ (List.mem_of_getElem? (i := 186) rfl) rfl
theorem q_2033 : Cond.instanceMethod ⟨"CallOpenerModel", "isSign", "(I)Z"⟩ ∈ zwd := zt_8 _ (List.mem_of_getElem? (i := 188) rfl) rfl
theorem q_94 : Cond.selects "CallOpenerModel" ⟨"CallOpenerModel", "isSign", "(I)Z"⟩ ⟨"CallOpenerModel", "isSign", "(I)Z"⟩ ∈ zwd := zt_0 _ (List.mem_of_getElem? (i := 94) rfl) rfl
theorem q_2003 : Cond.methodLink "CallOpenerModel" 385 ⟨"CallOpenerModel", "wrong", "(I)Z"⟩ ∈ zwd := zt_8 _ (List.mem_of_getElem? (i := 158) rfl) rfl
theorem q_2005 : Cond.instanceMethod ⟨"CallOpenerModel", "wrong", "(I)Z"⟩ ∈ zwd := zt_8 _ (List.mem_of_getElem? (i := 160) rfl) rfl
theorem q_88 : Cond.selects "CallOpenerModel" ⟨"CallOpenerModel", "wrong", "(I)Z"⟩ ⟨"CallOpenerModel", "wrong", "(I)Z"⟩ ∈ zwd := zt_0 _ (List.mem_of_getElem? (i := 88) rfl) rfl
theorem q_1976 : Cond.methodLink "CallOpenerModel" 388 ⟨"CallOpenerModel", "next", "()V"⟩ ∈ zwd := zt_8 _ (List.mem_of_getElem? (i := 131) rfl) rfl
theorem q_1978 : Cond.instanceMethod ⟨"CallOpenerModel", "next", "()V"⟩ ∈ zwd := zt_8 _ (List.mem_of_getElem? (i := 133) rfl) rfl
theorem q_83 : Cond.selects "CallOpenerModel" ⟨"CallOpenerModel", "next", "()V"⟩ ⟨"CallOpenerModel", "next", "()V"⟩ ∈ zwd := zt_0 _ (List.mem_of_getElem? (i := 83) rfl) rfl
theorem q_2019 : Cond.methodLink "CallOpenerModel" 391 ⟨"CallOpenerModel", "isOwn", "()Z"⟩ ∈ zwd := zt_8 _ (List.mem_of_getElem? (i := 174) rfl) rfl
theorem q_2021 : Cond.instanceMethod ⟨"CallOpenerModel", "isOwn", "()Z"⟩ ∈ zwd := zt_8 _ (List.mem_of_getElem? (i := 176) rfl) rfl
theorem q_92 : Cond.selects "CallOpenerModel" ⟨"CallOpenerModel", "isOwn", "()Z"⟩ ⟨"CallOpenerModel", "isOwn", "()Z"⟩ ∈ zwd := zt_0 _ (List.mem_of_getElem? (i := 92) rfl) rfl
theorem q_1553 : Cond.fieldLink "CallOpenerModel" 395 "CallOpenerModel" "bank" "I" ∈ zwd := zt_6 _ (List.mem_of_getElem? (i := 188) rfl) rfl
theorem q_1554 : Cond.fieldLink "CallOpenerModel" 398 "CallOpenerModel" "now" "I" ∈ zwd := zt_6 _ (List.mem_of_getElem? (i := 189) rfl) rfl
theorem q_2011 : Cond.methodLink "CallOpenerModel" 401 ⟨"CallOpenerModel", "f", "()I"⟩ ∈ zwd := zt_8 _ (List.mem_of_getElem? (i := 166) rfl) rfl
theorem q_2013 : Cond.instanceMethod ⟨"CallOpenerModel", "f", "()I"⟩ ∈ zwd := zt_8 _ (List.mem_of_getElem? (i := 168) rfl) rfl
theorem q_90 : Cond.selects "CallOpenerModel" ⟨"CallOpenerModel", "f", "()I"⟩ ⟨"CallOpenerModel", "f", "()I"⟩ ∈ zwd := zt_0 _ (List.mem_of_getElem? (i := 90) rfl) rfl
theorem q_1590 : Cond.fieldLink "CallOpenerModel" 404 "CallOpenerModel" "operand" "I" ∈ zwd := zt_6 _ (List.mem_of_getElem? (i := 225) rfl) rfl
theorem q_2015 : Cond.methodLink "CallOpenerModel" 407 ⟨"CallOpenerModel", "isName", "()Z"⟩ ∈ zwd := zt_8 _ (List.mem_of_getElem? (i := 170) rfl) rfl
theorem q_2017 : Cond.instanceMethod ⟨"CallOpenerModel", "isName", "()Z"⟩ ∈ zwd := zt_8 _ (List.mem_of_getElem? (i := 172) rfl) rfl
theorem q_91 : Cond.selects "CallOpenerModel" ⟨"CallOpenerModel", "isName", "()Z"⟩ ⟨"CallOpenerModel", "isName", "()Z"⟩ ∈ zwd := zt_0 _ (List.mem_of_getElem? (i := 91) rfl) rfl
theorem q_2063 : Cond.methodLink "CallOpenerModel" 410 ⟨"CallOpenerModel", "variable", "(JI)I"⟩ ∈ zwd := zt_8 _ (List.mem_of_getElem? (i := 218) rfl) rfl
theorem q_2065 : Cond.instanceMethod ⟨"CallOpenerModel", "variable", "(JI)I"⟩ ∈ zwd := zt_8 _ (List.mem_of_getElem? (i := 220) rfl) rfl
theorem q_102 : Cond.selects "CallOpenerModel" ⟨"CallOpenerModel", "variable", "(JI)I"⟩ ⟨"CallOpenerModel", "variable", "(JI)I"⟩ ∈ zwd := zt_0 _ (List.mem_of_getElem? (i := 102) rfl) rfl
theorem q_2027 : Cond.methodLink "CallOpenerModel" 414 ⟨"CallOpenerModel", "takesSign", "(I)Z"⟩ ∈ zwd := zt_8 _ (List.mem_of_getElem? (i := 182) rfl) rfl
theorem q_2029 : Cond.instanceMethod ⟨"CallOpenerModel", "takesSign", "(I)Z"⟩ ∈ zwd := zt_8 _ (List.mem_of_getElem? (i := 184) rfl) rfl
theorem q_93 : Cond.selects "CallOpenerModel" ⟨"CallOpenerModel", "takesSign", "(I)Z"⟩ ⟨"CallOpenerModel", "takesSign", "(I)Z"⟩ ∈ zwd := zt_0 _ (List.mem_of_getElem? (i := 93) rfl) rfl
theorem q_2035 : Cond.methodLink "CallOpenerModel" 417 ⟨"CallOpenerModel", "readsParameter", "()Z"⟩ ∈ zwd := zt_8 _ (List.mem_of_getElem? (i := 190) rfl) rfl
theorem q_2037 : Cond.instanceMethod ⟨"CallOpenerModel", "readsParameter", "()Z"⟩ ∈ zwd := zt_8 _ (List.mem_of_getElem? (i := 192) rfl) rfl
theorem q_95 : Cond.selects "CallOpenerModel" ⟨"CallOpenerModel", "readsParameter", "()Z"⟩ ⟨"CallOpenerModel", "readsParameter", "()Z"⟩ ∈ zwd := zt_0 _ (List.mem_of_getElem? (i := 95) rfl) rfl
theorem q_1589 : Cond.fieldLink "CallOpenerModel" 420 "CallOpenerModel" "blocks" "I" ∈ zwd := zt_6 _ (List.mem_of_getElem? (i := 224) rfl) rfl
theorem q_2055 : Cond.methodLink "CallOpenerModel" 423 ⟨"CallOpenerModel", "laysLine", "(III)V"⟩ ∈ zwd := zt_8 _ (List.mem_of_getElem? (i := 210) rfl) rfl
theorem q_2057 : Cond.instanceMethod ⟨"CallOpenerModel", "laysLine", "(III)V"⟩ ∈ zwd := zt_8 _ (List.mem_of_getElem? (i := 212) rfl) rfl
theorem q_100 : Cond.selects "CallOpenerModel" ⟨"CallOpenerModel", "laysLine", "(III)V"⟩ ⟨"CallOpenerModel", "laysLine", "(III)V"⟩ ∈ zwd := zt_0 _ (List.mem_of_getElem? (i := 100) rfl) rfl
theorem q_2059 : Cond.methodLink "CallOpenerModel" 427 ⟨"CallOpenerModel", "readsOperand", "()Z"⟩ ∈ zwd := zt_8 _ (List.mem_of_getElem? (i := 214) rfl) rfl
theorem q_2061 : Cond.instanceMethod ⟨"CallOpenerModel", "readsOperand", "()Z"⟩ ∈ zwd := zt_8 _ (List.mem_of_getElem? (i := 216) rfl) rfl
theorem q_101 : Cond.selects "CallOpenerModel" ⟨"CallOpenerModel", "readsOperand", "()Z"⟩ ⟨"CallOpenerModel", "readsOperand", "()Z"⟩ ∈ zwd := zt_0 _ (List.mem_of_getElem? (i := 101) rfl) rfl
theorem q_2071 : Cond.methodLink "CallOpenerModel" 430 ⟨"CallOpenerModel", "readsCall", "(IJI)Z"⟩ ∈ zwd := zt_8 _ (List.mem_of_getElem? (i := 226) rfl) rfl
theorem q_2073 : Cond.instanceMethod ⟨"CallOpenerModel", "readsCall", "(IJI)Z"⟩ ∈ zwd := zt_8 _ (List.mem_of_getElem? (i := 228) rfl) rfl
theorem q_104 : Cond.selects "CallOpenerModel" ⟨"CallOpenerModel", "readsCall", "(IJI)Z"⟩ ⟨"CallOpenerModel", "readsCall", "(IJI)Z"⟩ ∈ zwd := zt_0 _ (List.mem_of_getElem? (i := 104) rfl) rfl
theorem q_2075 : Cond.methodLink "CallOpenerModel" 434 ⟨"CallOpenerModel", "signOp", "()I"⟩ ∈ zwd := zt_8 _ (List.mem_of_getElem? (i := 230) rfl) rfl
theorem q_2077 : Cond.instanceMethod ⟨"CallOpenerModel", "signOp", "()I"⟩ ∈ zwd := zt_8 _ (List.mem_of_getElem? (i := 232) rfl) rfl
theorem q_105 : Cond.selects "CallOpenerModel" ⟨"CallOpenerModel", "signOp", "()I"⟩ ⟨"CallOpenerModel", "signOp", "()I"⟩ ∈ zwd := zt_0 _ (List.mem_of_getElem? (i := 105) rfl) rfl
theorem q_2051 : Cond.methodLink "CallOpenerModel" 437 ⟨"CallOpenerModel", "begins", "(I)I"⟩ ∈ zwd := zt_8 _ (List.mem_of_getElem? (i := 206) rfl) rfl
theorem q_2053 : Cond.instanceMethod ⟨"CallOpenerModel", "begins", "(I)I"⟩ ∈ zwd := zt_8 _ (List.mem_of_getElem? (i := 208) rfl) rfl
theorem q_99 : Cond.selects "CallOpenerModel" ⟨"CallOpenerModel", "begins", "(I)I"⟩ ⟨"CallOpenerModel", "begins", "(I)I"⟩ ∈ zwd := zt_0 _ (List.mem_of_getElem? (i := 99) rfl) rfl
theorem q_2039 : Cond.methodLink "CallOpenerModel" 441 ⟨"CallOpenerModel", "opens", "(IZ)Z"⟩ ∈ zwd := zt_8 _ (List.mem_of_getElem? (i := 194) rfl) rfl
theorem q_2041 : Cond.instanceMethod ⟨"CallOpenerModel", "opens", "(IZ)Z"⟩ ∈ zwd := zt_8 _ (List.mem_of_getElem? (i := 196) rfl) rfl
theorem q_96 : Cond.selects "CallOpenerModel" ⟨"CallOpenerModel", "opens", "(IZ)Z"⟩ ⟨"CallOpenerModel", "opens", "(IZ)Z"⟩ ∈ zwd := zt_0 _ (List.mem_of_getElem? (i := 96) rfl) rfl
theorem q_2067 : Cond.methodLink "CallOpenerModel" 445 ⟨"CallOpenerModel", "readsValue", "(I)Z"⟩ ∈ zwd := zt_8 _ (List.mem_of_getElem? (i := 222) rfl) rfl
theorem q_2069 : Cond.instanceMethod ⟨"CallOpenerModel", "readsValue", "(I)Z"⟩ ∈ zwd := zt_8 _ (List.mem_of_getElem? (i := 224) rfl) rfl
theorem q_103 : Cond.selects "CallOpenerModel" ⟨"CallOpenerModel", "readsValue", "(I)Z"⟩ ⟨"CallOpenerModel", "readsValue", "(I)Z"⟩ ∈ zwd := zt_0 _ (List.mem_of_getElem? (i := 103) rfl) rfl
theorem q_1994 : Cond.methodLink "CallOpenerModel" 448 ⟨"CallOpenerModel", "readsHead", "()Z"⟩ ∈ zwd := zt_8 _ (List.mem_of_getElem? (i := 149) rfl) rfl
theorem q_1996 : Cond.instanceMethod ⟨"CallOpenerModel", "readsHead", "()Z"⟩ ∈ zwd := zt_8 _ (List.mem_of_getElem? (i := 151) rfl) rfl
theorem q_86 : Cond.selects "CallOpenerModel" ⟨"CallOpenerModel", "readsHead", "()Z"⟩ ⟨"CallOpenerModel", "readsHead", "()Z"⟩ ∈ zwd := zt_0 _ (List.mem_of_getElem? (i := 86) rfl) rfl
theorem q_2043 : Cond.methodLink "CallOpenerModel" 451 ⟨"CallOpenerModel", "closes", "()Z"⟩ ∈ zwd := zt_8 _ (List.mem_of_getElem? (i := 198) rfl) rfl
theorem q_2045 : Cond.instanceMethod ⟨"CallOpenerModel", "closes", "()Z"⟩ ∈ zwd := zt_8 _ (List.mem_of_getElem? (i := 200) rfl) rfl
theorem q_97 : Cond.selects "CallOpenerModel" ⟨"CallOpenerModel", "closes", "()Z"⟩ ⟨"CallOpenerModel", "closes", "()Z"⟩ ∈ zwd := zt_0 _ (List.mem_of_getElem? (i := 97) rfl) rfl
theorem q_2047 : Cond.methodLink "CallOpenerModel" 454 ⟨"CallOpenerModel", "readsLine", "()Z"⟩ ∈ zwd := zt_8 _ (List.mem_of_getElem? (i := 202) rfl) rfl
theorem q_2049 : Cond.instanceMethod ⟨"CallOpenerModel", "readsLine", "()Z"⟩ ∈ zwd := zt_8 _ (List.mem_of_getElem? (i := 204) rfl) rfl
theorem q_98 : Cond.selects "CallOpenerModel" ⟨"CallOpenerModel", "readsLine", "()Z"⟩ ⟨"CallOpenerModel", "readsLine", "()Z"⟩ ∈ zwd := zt_0 _ (List.mem_of_getElem? (i := 98) rfl) rfl
theorem q_1990 : Cond.methodLink "CallOpenerModel" 457 ⟨"CallOpenerModel", "reads", "()Z"⟩ ∈ zwd := zt_8 _ (List.mem_of_getElem? (i := 145) rfl) rfl
theorem q_1992 : Cond.instanceMethod ⟨"CallOpenerModel", "reads", "()Z"⟩ ∈ zwd := zt_8 _ (List.mem_of_getElem? (i := 147) rfl) rfl
theorem q_85 : Cond.selects "CallOpenerModel" ⟨"CallOpenerModel", "reads", "()Z"⟩ ⟨"CallOpenerModel", "reads", "()Z"⟩ ∈ zwd := zt_0 _ (List.mem_of_getElem? (i := 85) rfl) rfl
theorem q_2079 : Cond.methodLink "CallOpenerModel" 460 ⟨"CallOpenerModel", "finds", "()Z"⟩ ∈ zwd := zt_8 _ (List.mem_of_getElem? (i := 234) rfl) rfl
theorem q_2081 : Cond.instanceMethod ⟨"CallOpenerModel", "finds", "()Z"⟩ ∈ zwd := zt_8 _ (List.mem_of_getElem? (i := 236) rfl) rfl
theorem q_106 : Cond.selects "CallOpenerModel" ⟨"CallOpenerModel", "finds", "()Z"⟩ ⟨"CallOpenerModel", "finds", "()Z"⟩ ∈ zwd := zt_0 _ (List.mem_of_getElem? (i := 106) rfl) rfl
theorem q_2083 : Cond.methodLink "CallOpenerModel" 463 ⟨"CallOpenerModel", "forget", "()I"⟩ ∈ zwd := zt_8 _ (List.mem_of_getElem? (i := 238) rfl) rfl
theorem q_2095 : Cond.methodLink "CallOpenerModel" 466 ⟨"CallOpenerModel", "isFunction", "(I)Z"⟩ ∈ zwd := zt_9 _ (List.mem_of_getElem? (i := 10) rfl) rfl
theorem q_2097 : Cond.instanceMethod ⟨"CallOpenerModel", "isFunction", "(I)Z"⟩ ∈ zwd := zt_9 _ (List.mem_of_getElem? (i := 12) rfl) rfl
theorem q_108 : Cond.selects "CallOpenerModel" ⟨"CallOpenerModel", "isFunction", "(I)Z"⟩ ⟨"CallOpenerModel", "isFunction", "(I)Z"⟩ ∈ zwd := zt_0 _ (List.mem_of_getElem? (i := 108) rfl) rfl
theorem q_2116 : Cond.methodLink "CallOpenerModel" 469 ⟨"CallOpenerModel", "manyOf", "(I)I"⟩ ∈ zwd := zt_9 _ (List.mem_of_getElem? (i := 31) rfl) rfl
theorem q_2118 : Cond.instanceMethod ⟨"CallOpenerModel", "manyOf", "(I)I"⟩ ∈ zwd := zt_9 _ (List.mem_of_getElem? (i := 33) rfl) rfl
theorem q_112 : Cond.selects "CallOpenerModel" ⟨"CallOpenerModel", "manyOf", "(I)I"⟩ ⟨"CallOpenerModel", "manyOf", "(I)I"⟩ ∈ zwd := zt_0 _ (List.mem_of_getElem? (i := 112) rfl) rfl
theorem q_2213 : Cond.methodLink "CallOpenerModel" 472 ⟨"CallOpenerModel", "isGiving", "(I)Z"⟩ ∈ zwd := zt_9 _ (List.mem_of_getElem? (i := 128) rfl) rfl
theorem q_2215 : Cond.instanceMethod ⟨"CallOpenerModel", "isGiving", "(I)Z"⟩ ∈ zwd := zt_9 _ (List.mem_of_getElem? (i := 130) rfl) rfl
theorem q_129 : Cond.selects "CallOpenerModel" ⟨"CallOpenerModel", "isGiving", "(I)Z"⟩ ⟨"CallOpenerModel", "isGiving", "(I)Z"⟩ ∈ zwd := zt_0 _ (List.mem_of_getElem? (i := 129) rfl) rfl
theorem q_2120 : Cond.methodLink "CallOpenerModel" 475 ⟨"CallOpenerModel", "varsOf", "(I)I"⟩ ∈ zwd := zt_9 _ (List.mem_of_getElem? (i := 35) rfl) rfl
theorem q_2122 : Cond.instanceMethod ⟨"CallOpenerModel", "varsOf", "(I)I"⟩ ∈ zwd := zt_9 _ (List.mem_of_getElem? (i := 37) rfl) rfl
theorem q_113 : Cond.selects "CallOpenerModel" ⟨"CallOpenerModel", "varsOf", "(I)I"⟩ ⟨"CallOpenerModel", "varsOf", "(I)I"⟩ ∈ zwd := zt_0 _ (List.mem_of_getElem? (i := 113) rfl) rfl
theorem q_1609 : Cond.fieldLink "CallOpenerModel" 478 "CallOpenerModel" "frames" "I" ∈ zwd := zt_7 _ (List.mem_of_getElem? (i := 4) rfl) rfl
theorem q_1611 : Cond.fieldLink "CallOpenerModel" 481 "CallOpenerModel" "based" "I" ∈ zwd := zt_7 _ (List.mem_of_getElem? (i := 6) rfl) rfl
theorem q_1610 : Cond.fieldLink "CallOpenerModel" 484 "CallOpenerModel" "open" "I" ∈ zwd := zt_7 _ (List.mem_of_getElem? (i := 5) rfl) rfl
theorem q_1614 : Cond.fieldLink "CallOpenerModel" 487 "CallOpenerModel" "mostFrames" "I" ∈ zwd := zt_7 _ (List.mem_of_getElem? (i := 9) rfl) rfl
theorem q_2136 : Cond.methodLink "CallOpenerModel" 490 ⟨"CallOpenerModel", "max", "(II)I"⟩ ∈ zwd := zt_9 _ (List.mem_of_getElem? (i := 51) rfl) rfl
theorem q_2137 : Cond.static ⟨"CallOpenerModel", "max", "(II)I"⟩ ∈ zwd := zt_9 _ (List.mem_of_getElem? (i := 52) rfl) rfl
theorem q_1615 : Cond.fieldLink "CallOpenerModel" 494 "CallOpenerModel" "stop" "I" ∈ zwd := zt_7 _ (List.mem_of_getElem? (i := 10) rfl) rfl
theorem q_1616 : Cond.fieldLink "CallOpenerModel" 497 "CallOpenerModel" "given" "I" ∈ zwd := zt_7 _ (List.mem_of_getElem? (i := 11) rfl) rfl
theorem q_2147 : Cond.methodLink "CallOpenerModel" 500 ⟨"CallOpenerModel", "valueOf", "(I)I"⟩ ∈ zwd := zt_9 _ (List.mem_of_getElem? (i := 62) rfl) rfl
theorem q_2149 : Cond.instanceMethod ⟨"CallOpenerModel", "valueOf", "(I)I"⟩ ∈ zwd := zt_9 _ (List.mem_of_getElem? (i := 64) rfl) rfl
theorem q_119 : Cond.selects "CallOpenerModel" ⟨"CallOpenerModel", "valueOf", "(I)I"⟩ ⟨"CallOpenerModel", "valueOf", "(I)I"⟩ ∈ zwd := zt_0 _ (List.mem_of_getElem? (i := 119) rfl) rfl
theorem q_2155 : Cond.methodLink "CallOpenerModel" 503 ⟨"CallOpenerModel", "opensBlock", "(IIII)V"⟩ ∈ zwd := zt_9 _ (List.mem_of_getElem? (i := 70) rfl) rfl
theorem q_2157 : Cond.instanceMethod ⟨"CallOpenerModel", "opensBlock", "(IIII)V"⟩ ∈ zwd := zt_9 _ (List.mem_of_getElem? (i := 72) rfl) rfl
theorem q_121 : Cond.selects "CallOpenerModel" ⟨"CallOpenerModel", "opensBlock", "(IIII)V"⟩ ⟨"CallOpenerModel", "opensBlock", "(IIII)V"⟩ ∈ zwd := zt_0 _ (List.mem_of_getElem? (i := 121) rfl) rfl
theorem q_2139 : Cond.methodLink "CallOpenerModel" 507 ⟨"CallOpenerModel", "leaves", "(I)V"⟩ ∈ zwd := zt_9 _ (List.mem_of_getElem? (i := 54) rfl) rfl
theorem q_2141 : Cond.instanceMethod ⟨"CallOpenerModel", "leaves", "(I)V"⟩ ∈ zwd := zt_9 _ (List.mem_of_getElem? (i := 56) rfl) rfl
theorem q_117 : Cond.selects "CallOpenerModel" ⟨"CallOpenerModel", "leaves", "(I)V"⟩ ⟨"CallOpenerModel", "leaves", "(I)V"⟩ ∈ zwd := zt_0 _ (List.mem_of_getElem? (i := 117) rfl) rfl
theorem q_2151 : Cond.methodLink "CallOpenerModel" 510 ⟨"CallOpenerModel", "goesInto", "(I)V"⟩ ∈ zwd := zt_9 _ (List.mem_of_getElem? (i := 66) rfl) rfl
theorem q_2153 : Cond.instanceMethod ⟨"CallOpenerModel", "goesInto", "(I)V"⟩ ∈ zwd := zt_9 _ (List.mem_of_getElem? (i := 68) rfl) rfl
theorem q_120 : Cond.selects "CallOpenerModel" ⟨"CallOpenerModel", "goesInto", "(I)V"⟩ ⟨"CallOpenerModel", "goesInto", "(I)V"⟩ ∈ zwd := zt_0 _ (List.mem_of_getElem? (i := 120) rfl) rfl
theorem q_2159 : Cond.methodLink "CallOpenerModel" 513 ⟨"CallOpenerModel", "worked", "(III)I"⟩ ∈ zwd := zt_9 _ (List.mem_of_getElem? (i := 74) rfl) rfl
theorem q_2160 : Cond.static ⟨"CallOpenerModel", "worked", "(III)I"⟩ ∈ zwd := zt_9 _ (List.mem_of_getElem? (i := 75) rfl) rfl
theorem q_1612 : Cond.fieldLink "CallOpenerModel" 517 "CallOpenerModel" "steps" "I" ∈ zwd := zt_7 _ (List.mem_of_getElem? (i := 7) rfl) rfl
theorem q_2124 : Cond.methodLink "CallOpenerModel" 520 ⟨"CallOpenerModel", "paramsOf", "(I)I"⟩ ∈ zwd := zt_9 _ (List.mem_of_getElem? (i := 39) rfl) rfl
theorem q_2126 : Cond.instanceMethod ⟨"CallOpenerModel", "paramsOf", "(I)I"⟩ ∈ zwd := zt_9 _ (List.mem_of_getElem? (i := 41) rfl) rfl
theorem q_114 : Cond.selects "CallOpenerModel" ⟨"CallOpenerModel", "paramsOf", "(I)I"⟩ ⟨"CallOpenerModel", "paramsOf", "(I)I"⟩ ∈ zwd := zt_0 _ (List.mem_of_getElem? (i := 114) rfl) rfl
theorem q_1613 : Cond.fieldLink "CallOpenerModel" 523 "CallOpenerModel" "calls" "I" ∈ zwd := zt_7 _ (List.mem_of_getElem? (i := 8) rfl) rfl
theorem q_2112 : Cond.methodLink "CallOpenerModel" 526 ⟨"CallOpenerModel", "first", "(I)I"⟩ ∈ zwd := zt_9 _ (List.mem_of_getElem? (i := 27) rfl) rfl
theorem q_2114 : Cond.instanceMethod ⟨"CallOpenerModel", "first", "(I)I"⟩ ∈ zwd := zt_9 _ (List.mem_of_getElem? (i := 29) rfl) rfl
theorem q_111 : Cond.selects "CallOpenerModel" ⟨"CallOpenerModel", "first", "(I)I"⟩ ⟨"CallOpenerModel", "first", "(I)I"⟩ ∈ zwd := zt_0 _ (List.mem_of_getElem? (i := 111) rfl) rfl
theorem q_2132 : Cond.methodLink "CallOpenerModel" 529 ⟨"CallOpenerModel", "enters", "(IIII)V"⟩ ∈ zwd := zt_9 _ (List.mem_of_getElem? (i := 47) rfl) rfl
theorem q_2134 : Cond.instanceMethod ⟨"CallOpenerModel", "enters", "(IIII)V"⟩ ∈ zwd := zt_9 _ (List.mem_of_getElem? (i := 49) rfl) rfl
theorem q_116 : Cond.selects "CallOpenerModel" ⟨"CallOpenerModel", "enters", "(IIII)V"⟩ ⟨"CallOpenerModel", "enters", "(IIII)V"⟩ ∈ zwd := zt_0 _ (List.mem_of_getElem? (i := 116) rfl) rfl
theorem q_2143 : Cond.methodLink "CallOpenerModel" 532 ⟨"CallOpenerModel", "does", "(I)V"⟩ ∈ zwd := zt_9 _ (List.mem_of_getElem? (i := 58) rfl) rfl
theorem q_2145 : Cond.instanceMethod ⟨"CallOpenerModel", "does", "(I)V"⟩ ∈ zwd := zt_9 _ (List.mem_of_getElem? (i := 60) rfl) rfl
theorem q_118 : Cond.selects "CallOpenerModel" ⟨"CallOpenerModel", "does", "(I)V"⟩ ⟨"CallOpenerModel", "does", "(I)V"⟩ ∈ zwd := zt_0 _ (List.mem_of_getElem? (i := 118) rfl) rfl
theorem q_2128 : Cond.methodLink "CallOpenerModel" 535 ⟨"CallOpenerModel", "runs", "(IIII)V"⟩ ∈ zwd := zt_9 _ (List.mem_of_getElem? (i := 43) rfl) rfl
theorem q_2130 : Cond.instanceMethod ⟨"CallOpenerModel", "runs", "(IIII)V"⟩ ∈ zwd := zt_9 _ (List.mem_of_getElem? (i := 45) rfl) rfl
theorem q_115 : Cond.selects "CallOpenerModel" ⟨"CallOpenerModel", "runs", "(IIII)V"⟩ ⟨"CallOpenerModel", "runs", "(IIII)V"⟩ ∈ zwd := zt_0 _ (List.mem_of_getElem? (i := 115) rfl) rfl
theorem q_2103 : Cond.constant "CallOpenerModel" 538 (Int32.ofInt (-2147483648)) ∈ zwd := zt_9 _ (List.mem_of_getElem? (i := 18) rfl) rfl
theorem q_2104 : Cond.methodLink "CallOpenerModel" 539 ⟨"CallOpenerModel", "at", "(I)I"⟩ ∈ zwd := zt_9 _ (List.mem_of_getElem? (i := 19) rfl) rfl
theorem q_2106 : Cond.instanceMethod ⟨"CallOpenerModel", "at", "(I)I"⟩ ∈ zwd := zt_9 _ (List.mem_of_getElem? (i := 21) rfl) rfl
theorem q_109 : Cond.selects "CallOpenerModel" ⟨"CallOpenerModel", "at", "(I)I"⟩ ⟨"CallOpenerModel", "at", "(I)I"⟩ ∈ zwd := zt_0 _ (List.mem_of_getElem? (i := 109) rfl) rfl
theorem q_2108 : Cond.methodLink "CallOpenerModel" 542 ⟨"CallOpenerModel", "runsOf", "(I)V"⟩ ∈ zwd := zt_9 _ (List.mem_of_getElem? (i := 23) rfl) rfl
theorem q_2110 : Cond.instanceMethod ⟨"CallOpenerModel", "runsOf", "(I)V"⟩ ∈ zwd := zt_9 _ (List.mem_of_getElem? (i := 25) rfl) rfl
theorem q_110 : Cond.selects "CallOpenerModel" ⟨"CallOpenerModel", "runsOf", "(I)V"⟩ ⟨"CallOpenerModel", "runsOf", "(I)V"⟩ ∈ zwd := zt_0 _ (List.mem_of_getElem? (i := 110) rfl) rfl
theorem q_2162 : Cond.methodLink "CallOpenerModel" 545 ⟨"CallOpenerModel", "ran", "(I)I"⟩ ∈ zwd := zt_9 _ (List.mem_of_getElem? (i := 77) rfl) rfl
theorem q_2164 : Cond.instanceMethod ⟨"CallOpenerModel", "ran", "(I)I"⟩ ∈ zwd := zt_9 _ (List.mem_of_getElem? (i := 79) rfl) rfl
theorem q_122 : Cond.selects "CallOpenerModel" ⟨"CallOpenerModel", "ran", "(I)I"⟩ ⟨"CallOpenerModel", "ran", "(I)I"⟩ ∈ zwd := zt_0 _ (List.mem_of_getElem? (i := 122) rfl) rfl
theorem q_2087 : Cond.methodLink "CallOpenerModel" 548 ⟨"CallOpenerModel", "allEntries", "()I"⟩ ∈ zwd := zt_9 _ (List.mem_of_getElem? (i := 2) rfl) rfl
theorem q_2089 : Cond.instanceMethod ⟨"CallOpenerModel", "allEntries", "()I"⟩ ∈ zwd := zt_9 _ (List.mem_of_getElem? (i := 4) rfl) rfl
theorem q_107 : Cond.selects "CallOpenerModel" ⟨"CallOpenerModel", "allEntries", "()I"⟩ ⟨"CallOpenerModel", "allEntries", "()I"⟩ ∈ zwd := zt_0 _ (List.mem_of_getElem? (i := 107) rfl) rfl
theorem q_2179 : Cond.methodLink "CallOpenerModel" 551 ⟨"CallOpenerModel", "isSetting", "(II)Z"⟩ ∈ zwd := zt_9 _ (List.mem_of_getElem? (i := 94) rfl) rfl
theorem q_2180 : Cond.static ⟨"CallOpenerModel", "isSetting", "(II)Z"⟩ ∈ zwd := zt_9 _ (List.mem_of_getElem? (i := 95) rfl) rfl
theorem q_2229 : Cond.constantLong "CallOpenerModel" 554 (Int64.ofInt 64) ∈ zwd := zt_9 _ (List.mem_of_getElem? (i := 144) rfl) rfl
theorem q_2209 : Cond.methodLink "CallOpenerModel" 556 ⟨"CallOpenerModel", "addsOf", "(I)I"⟩ ∈ zwd := zt_9 _ (List.mem_of_getElem? (i := 124) rfl) rfl
theorem q_2211 : Cond.instanceMethod ⟨"CallOpenerModel", "addsOf", "(I)I"⟩ ∈ zwd := zt_9 _ (List.mem_of_getElem? (i := 126) rfl) rfl
theorem q_128 : Cond.selects "CallOpenerModel" ⟨"CallOpenerModel", "addsOf", "(I)I"⟩ ⟨"CallOpenerModel", "addsOf", "(I)I"⟩ ∈ zwd := zt_0 _ (List.mem_of_getElem? (i := 128) rfl) rfl
theorem q_1628 : Cond.fieldLink "CallOpenerModel" 559 "CallOpenerModel" "callMany" "I" ∈ zwd := zt_7 _ (List.mem_of_getElem? (i := 23) rfl) rfl
theorem q_2202 : Cond.methodLink "CallOpenerModel" 562 ⟨"CallOpenerModel", "heatOf", "(JII)J"⟩ ∈ zwd := zt_9 _ (List.mem_of_getElem? (i := 117) rfl) rfl
theorem q_2203 : Cond.static ⟨"CallOpenerModel", "heatOf", "(JII)J"⟩ ∈ zwd := zt_9 _ (List.mem_of_getElem? (i := 118) rfl) rfl
theorem q_2225 : Cond.methodLink "CallOpenerModel" 566 ⟨"CallOpenerModel", "worthOf", "(I)J"⟩ ∈ zwd := zt_9 _ (List.mem_of_getElem? (i := 140) rfl) rfl
theorem q_2227 : Cond.instanceMethod ⟨"CallOpenerModel", "worthOf", "(I)J"⟩ ∈ zwd := zt_9 _ (List.mem_of_getElem? (i := 142) rfl) rfl
theorem q_132 : Cond.selects "CallOpenerModel" ⟨"CallOpenerModel", "worthOf", "(I)J"⟩ ⟨"CallOpenerModel", "worthOf", "(I)J"⟩ ∈ zwd := zt_0 _ (List.mem_of_getElem? (i := 132) rfl) rfl
theorem q_2230 : Cond.methodLink "CallOpenerModel" 570 ⟨"CallOpenerModel", "isAhead", "(II)Z"⟩ ∈ zwd := zt_9 _ (List.mem_of_getElem? (i := 145) rfl) rfl
theorem q_2232 : Cond.instanceMethod ⟨"CallOpenerModel", "isAhead", "(II)Z"⟩ ∈ zwd := zt_9 _ (List.mem_of_getElem? (i := 147) rfl) rfl
theorem q_133 : Cond.selects "CallOpenerModel" ⟨"CallOpenerModel", "isAhead", "(II)Z"⟩ ⟨"CallOpenerModel", "isAhead", "(II)Z"⟩ ∈ zwd := zt_0 _ (List.mem_of_getElem? (i := 133) rfl) rfl
theorem q_1632 : Cond.fieldLink "CallOpenerModel" 573 "CallOpenerModel" "size" "I" ∈ zwd := zt_7 _ (List.mem_of_getElem? (i := 27) rfl) rfl
theorem q_2217 : Cond.methodLink "CallOpenerModel" 576 ⟨"CallOpenerModel", "isRecursive", "(I)Z"⟩ ∈ zwd := zt_9 _ (List.mem_of_getElem? (i := 132) rfl) rfl
theorem q_2219 : Cond.instanceMethod ⟨"CallOpenerModel", "isRecursive", "(I)Z"⟩ ∈ zwd := zt_9 _ (List.mem_of_getElem? (i := 134) rfl) rfl
theorem q_130 : Cond.selects "CallOpenerModel" ⟨"CallOpenerModel", "isRecursive", "(I)Z"⟩ ⟨"CallOpenerModel", "isRecursive", "(I)Z"⟩ ∈ zwd := zt_0 _ (List.mem_of_getElem? (i := 130) rfl) rfl
theorem q_2221 : Cond.methodLink "CallOpenerModel" 579 ⟨"CallOpenerModel", "isWorthier", "(II)Z"⟩ ∈ zwd := zt_9 _ (List.mem_of_getElem? (i := 136) rfl) rfl
theorem q_2223 : Cond.instanceMethod ⟨"CallOpenerModel", "isWorthier", "(II)Z"⟩ ∈ zwd := zt_9 _ (List.mem_of_getElem? (i := 138) rfl) rfl
theorem q_131 : Cond.selects "CallOpenerModel" ⟨"CallOpenerModel", "isWorthier", "(II)Z"⟩ ⟨"CallOpenerModel", "isWorthier", "(II)Z"⟩ ∈ zwd := zt_0 _ (List.mem_of_getElem? (i := 131) rfl) rfl
theorem q_1629 : Cond.fieldLink "CallOpenerModel" 582 "CallOpenerModel" "opened" "I" ∈ zwd := zt_7 _ (List.mem_of_getElem? (i := 24) rfl) rfl
theorem q_1630 : Cond.fieldLink "CallOpenerModel" 585 "CallOpenerModel" "undone" "I" ∈ zwd := zt_7 _ (List.mem_of_getElem? (i := 25) rfl) rfl
theorem q_1631 : Cond.fieldLink "CallOpenerModel" 588 "CallOpenerModel" "chains" "I" ∈ zwd := zt_7 _ (List.mem_of_getElem? (i := 26) rfl) rfl
theorem q_2198 : Cond.methodLink "CallOpenerModel" 591 ⟨"CallOpenerModel", "laysCalls", "(I)V"⟩ ∈ zwd := zt_9 _ (List.mem_of_getElem? (i := 113) rfl) rfl
theorem q_2200 : Cond.instanceMethod ⟨"CallOpenerModel", "laysCalls", "(I)V"⟩ ∈ zwd := zt_9 _ (List.mem_of_getElem? (i := 115) rfl) rfl
theorem q_126 : Cond.selects "CallOpenerModel" ⟨"CallOpenerModel", "laysCalls", "(I)V"⟩ ⟨"CallOpenerModel", "laysCalls", "(I)V"⟩ ∈ zwd := zt_0 _ (List.mem_of_getElem? (i := 126) rfl) rfl
theorem q_2205 : Cond.methodLink "CallOpenerModel" 594 ⟨"CallOpenerModel", "worthiest", "()I"⟩ ∈ zwd := zt_9 _ (List.mem_of_getElem? (i := 120) rfl) rfl
theorem q_2207 : Cond.instanceMethod ⟨"CallOpenerModel", "worthiest", "()I"⟩ ∈ zwd := zt_9 _ (List.mem_of_getElem? (i := 122) rfl) rfl
theorem q_127 : Cond.selects "CallOpenerModel" ⟨"CallOpenerModel", "worthiest", "()I"⟩ ⟨"CallOpenerModel", "worthiest", "()I"⟩ ∈ zwd := zt_0 _ (List.mem_of_getElem? (i := 127) rfl) rfl
theorem q_2238 : Cond.methodLink "CallOpenerModel" 597 ⟨"CallOpenerModel", "ownGain", "(I)J"⟩ ∈ zwd := zt_9 _ (List.mem_of_getElem? (i := 153) rfl) rfl
theorem q_2240 : Cond.instanceMethod ⟨"CallOpenerModel", "ownGain", "(I)J"⟩ ∈ zwd := zt_9 _ (List.mem_of_getElem? (i := 155) rfl) rfl
theorem q_135 : Cond.selects "CallOpenerModel" ⟨"CallOpenerModel", "ownGain", "(I)J"⟩ ⟨"CallOpenerModel", "ownGain", "(I)J"⟩ ∈ zwd := zt_0 _ (List.mem_of_getElem? (i := 135) rfl) rfl
theorem q_2242 : Cond.constantLong "CallOpenerModel" 600 (Int64.ofInt 100) ∈ zwd := zt_9 _ (List.mem_of_getElem? (i := 157) rfl) rfl
theorem q_2194 : Cond.methodLink "CallOpenerModel" 602 ⟨"CallOpenerModel", "grows", "(I)V"⟩ ∈ zwd := zt_9 _ (List.mem_of_getElem? (i := 109) rfl) rfl
theorem q_2196 : Cond.instanceMethod ⟨"CallOpenerModel", "grows", "(I)V"⟩ ∈ zwd := zt_9 _ (List.mem_of_getElem? (i := 111) rfl) rfl
theorem q_125 : Cond.selects "CallOpenerModel" ⟨"CallOpenerModel", "grows", "(I)V"⟩ ⟨"CallOpenerModel", "grows", "(I)V"⟩ ∈ zwd := zt_0 _ (List.mem_of_getElem? (i := 125) rfl) rfl
theorem q_2234 : Cond.methodLink "CallOpenerModel" 605 ⟨"CallOpenerModel", "undoes", "()V"⟩ ∈ zwd := zt_9 _ (List.mem_of_getElem? (i := 149) rfl) rfl
theorem q_2236 : Cond.instanceMethod ⟨"CallOpenerModel", "undoes", "()V"⟩ ∈ zwd := zt_9 _ (List.mem_of_getElem? (i := 151) rfl) rfl
theorem q_134 : Cond.selects "CallOpenerModel" ⟨"CallOpenerModel", "undoes", "()V"⟩ ⟨"CallOpenerModel", "undoes", "()V"⟩ ∈ zwd := zt_0 _ (List.mem_of_getElem? (i := 134) rfl) rfl
theorem q_1636 : Cond.fieldLink "CallOpenerModel" 608 "CallOpenerModel" "nodeMany" "I" ∈ zwd := zt_7 _ (List.mem_of_getElem? (i := 31) rfl) rfl
theorem q_2190 : Cond.methodLink "CallOpenerModel" 611 ⟨"CallOpenerModel", "laysTree", "(I)V"⟩ ∈ zwd := zt_9 _ (List.mem_of_getElem? (i := 105) rfl) rfl
theorem q_2192 : Cond.instanceMethod ⟨"CallOpenerModel", "laysTree", "(I)V"⟩ ∈ zwd := zt_9 _ (List.mem_of_getElem? (i := 107) rfl) rfl
theorem q_124 : Cond.selects "CallOpenerModel" ⟨"CallOpenerModel", "laysTree", "(I)V"⟩ ⟨"CallOpenerModel", "laysTree", "(I)V"⟩ ∈ zwd := zt_0 _ (List.mem_of_getElem? (i := 124) rfl) rfl
theorem q_2243 : Cond.methodLink "CallOpenerModel" 614 ⟨"CallOpenerModel", "deepest", "()I"⟩ ∈ zwd := zt_9 _ (List.mem_of_getElem? (i := 158) rfl) rfl
theorem q_2245 : Cond.instanceMethod ⟨"CallOpenerModel", "deepest", "()I"⟩ ∈ zwd := zt_9 _ (List.mem_of_getElem? (i := 160) rfl) rfl
theorem q_136 : Cond.selects "CallOpenerModel" ⟨"CallOpenerModel", "deepest", "()I"⟩ ⟨"CallOpenerModel", "deepest", "()I"⟩ ∈ zwd := zt_0 _ (List.mem_of_getElem? (i := 136) rfl) rfl
theorem q_2247 : Cond.methodLink "CallOpenerModel" 617 ⟨"CallOpenerModel", "callsLeft", "()I"⟩ ∈ zwd := zt_9 _ (List.mem_of_getElem? (i := 162) rfl) rfl
theorem q_2249 : Cond.instanceMethod ⟨"CallOpenerModel", "callsLeft", "()I"⟩ ∈ zwd := zt_9 _ (List.mem_of_getElem? (i := 164) rfl) rfl
theorem q_137 : Cond.selects "CallOpenerModel" ⟨"CallOpenerModel", "callsLeft", "()I"⟩ ⟨"CallOpenerModel", "callsLeft", "()I"⟩ ∈ zwd := zt_0 _ (List.mem_of_getElem? (i := 137) rfl) rfl
theorem q_2186 : Cond.methodLink "CallOpenerModel" 620 ⟨"CallOpenerModel", "treeOf", "(II)I"⟩ ∈ zwd := zt_9 _ (List.mem_of_getElem? (i := 101) rfl) rfl
theorem q_2188 : Cond.instanceMethod ⟨"CallOpenerModel", "treeOf", "(II)I"⟩ ∈ zwd := zt_9 _ (List.mem_of_getElem? (i := 103) rfl) rfl
theorem q_123 : Cond.selects "CallOpenerModel" ⟨"CallOpenerModel", "treeOf", "(II)I"⟩ ⟨"CallOpenerModel", "treeOf", "(II)I"⟩ ∈ zwd := zt_0 _ (List.mem_of_getElem? (i := 123) rfl) rfl
theorem q_2259 : Cond.constantLong "CallOpenerModel" 623 (Int64.ofInt (-9223372036854775808)) ∈ zwd := zt_9 _ (List.mem_of_getElem? (i := 174) rfl) rfl
theorem q_1651 : Cond.fieldLink "CallOpenerModel" 625 "CallOpenerModel" "lastLine" "I" ∈ zwd := zt_7 _ (List.mem_of_getElem? (i := 46) rfl) rfl
theorem q_2296 : Cond.methodLink "CallOpenerModel" 628 ⟨"CallOpenerModel", "lays", "(II)I"⟩ ∈ zwd := zt_9 _ (List.mem_of_getElem? (i := 211) rfl) rfl
theorem q_2298 : Cond.instanceMethod ⟨"CallOpenerModel", "lays", "(II)I"⟩ ∈ zwd := zt_9 _ (List.mem_of_getElem? (i := 213) rfl) rfl
theorem q_143 : Cond.selects "CallOpenerModel" ⟨"CallOpenerModel", "lays", "(II)I"⟩ ⟨"CallOpenerModel", "lays", "(II)I"⟩ ∈ zwd := zt_0 _ (List.mem_of_getElem? (i := 143) rfl) rfl
theorem q_1649 : Cond.fieldLink "CallOpenerModel" 631 "CallOpenerModel" "nested" "I" ∈ zwd := zt_7 _ (List.mem_of_getElem? (i := 44) rfl) rfl
theorem q_1652 : Cond.fieldLink "CallOpenerModel" 634 "CallOpenerModel" "resultVars" "I" ∈ zwd := zt_7 _ (List.mem_of_getElem? (i := 47) rfl) rfl
theorem q_1650 : Cond.fieldLink "CallOpenerModel" 637 "CallOpenerModel" "openMany" "I" ∈ zwd := zt_7 _ (List.mem_of_getElem? (i := 45) rfl) rfl
theorem q_2292 : Cond.methodLink "CallOpenerModel" 640 ⟨"CallOpenerModel", "moves", "(III)V"⟩ ∈ zwd := zt_9 _ (List.mem_of_getElem? (i := 207) rfl) rfl
theorem q_2294 : Cond.instanceMethod ⟨"CallOpenerModel", "moves", "(III)V"⟩ ∈ zwd := zt_9 _ (List.mem_of_getElem? (i := 209) rfl) rfl
theorem q_142 : Cond.selects "CallOpenerModel" ⟨"CallOpenerModel", "moves", "(III)V"⟩ ⟨"CallOpenerModel", "moves", "(III)V"⟩ ∈ zwd := zt_0 _ (List.mem_of_getElem? (i := 142) rfl) rfl
theorem q_2304 : Cond.methodLink "CallOpenerModel" 643 ⟨"CallOpenerModel", "laid", "(II)I"⟩ ∈ zwd := zt_9 _ (List.mem_of_getElem? (i := 219) rfl) rfl
theorem q_2305 : Cond.static ⟨"CallOpenerModel", "laid", "(II)I"⟩ ∈ zwd := zt_9 _ (List.mem_of_getElem? (i := 220) rfl) rfl
theorem q_2288 : Cond.methodLink "CallOpenerModel" 646 ⟨"CallOpenerModel", "endsNode", "(I)V"⟩ ∈ zwd := zt_9 _ (List.mem_of_getElem? (i := 203) rfl) rfl
theorem q_2290 : Cond.instanceMethod ⟨"CallOpenerModel", "endsNode", "(I)V"⟩ ∈ zwd := zt_9 _ (List.mem_of_getElem? (i := 205) rfl) rfl
theorem q_141 : Cond.selects "CallOpenerModel" ⟨"CallOpenerModel", "endsNode", "(I)V"⟩ ⟨"CallOpenerModel", "endsNode", "(I)V"⟩ ∈ zwd := zt_0 _ (List.mem_of_getElem? (i := 141) rfl) rfl
theorem q_2280 : Cond.methodLink "CallOpenerModel" 649 ⟨"CallOpenerModel", "goesIntoNode", "(III)V"⟩ ∈ zwd := zt_9 _ (List.mem_of_getElem? (i := 195) rfl) rfl
theorem q_2282 : Cond.instanceMethod ⟨"CallOpenerModel", "goesIntoNode", "(III)V"⟩ ∈ zwd := zt_9 _ (List.mem_of_getElem? (i := 197) rfl) rfl
theorem q_139 : Cond.selects "CallOpenerModel" ⟨"CallOpenerModel", "goesIntoNode", "(III)V"⟩ ⟨"CallOpenerModel", "goesIntoNode", "(III)V"⟩ ∈ zwd := zt_0 _ (List.mem_of_getElem? (i := 139) rfl) rfl
theorem q_1653 : Cond.fieldLink "CallOpenerModel" 652 "CallOpenerModel" "leftMany" "I" ∈ zwd := zt_7 _ (List.mem_of_getElem? (i := 48) rfl) rfl
theorem q_2284 : Cond.methodLink "CallOpenerModel" 655 ⟨"CallOpenerModel", "endsBlock", "()V"⟩ ∈ zwd := zt_9 _ (List.mem_of_getElem? (i := 199) rfl) rfl
theorem q_2286 : Cond.instanceMethod ⟨"CallOpenerModel", "endsBlock", "()V"⟩ ∈ zwd := zt_9 _ (List.mem_of_getElem? (i := 201) rfl) rfl
theorem q_140 : Cond.selects "CallOpenerModel" ⟨"CallOpenerModel", "endsBlock", "()V"⟩ ⟨"CallOpenerModel", "endsBlock", "()V"⟩ ∈ zwd := zt_0 _ (List.mem_of_getElem? (i := 140) rfl) rfl
theorem q_2300 : Cond.methodLink "CallOpenerModel" 658 ⟨"CallOpenerModel", "copies", "(I)V"⟩ ∈ zwd := zt_9 _ (List.mem_of_getElem? (i := 215) rfl) rfl
theorem q_2302 : Cond.instanceMethod ⟨"CallOpenerModel", "copies", "(I)V"⟩ ∈ zwd := zt_9 _ (List.mem_of_getElem? (i := 217) rfl) rfl
theorem q_144 : Cond.selects "CallOpenerModel" ⟨"CallOpenerModel", "copies", "(I)V"⟩ ⟨"CallOpenerModel", "copies", "(I)V"⟩ ∈ zwd := zt_0 _ (List.mem_of_getElem? (i := 144) rfl) rfl
theorem q_2276 : Cond.methodLink "CallOpenerModel" 661 ⟨"CallOpenerModel", "laysResult", "(I)V"⟩ ∈ zwd := zt_9 _ (List.mem_of_getElem? (i := 191) rfl) rfl
theorem q_2278 : Cond.instanceMethod ⟨"CallOpenerModel", "laysResult", "(I)V"⟩ ∈ zwd := zt_9 _ (List.mem_of_getElem? (i := 193) rfl) rfl
theorem q_138 : Cond.selects "CallOpenerModel" ⟨"CallOpenerModel", "laysResult", "(I)V"⟩ ⟨"CallOpenerModel", "laysResult", "(I)V"⟩ ∈ zwd := zt_0 _ (List.mem_of_getElem? (i := 138) rfl) rfl
theorem q_2307 : Cond.methodLink "CallOpenerModel" 664 ⟨"CallOpenerModel", "resultLines", "()I"⟩ ∈ zwd := zt_9 _ (List.mem_of_getElem? (i := 222) rfl) rfl
theorem q_2309 : Cond.instanceMethod ⟨"CallOpenerModel", "resultLines", "()I"⟩ ∈ zwd := zt_9 _ (List.mem_of_getElem? (i := 224) rfl) rfl
theorem q_145 : Cond.selects "CallOpenerModel" ⟨"CallOpenerModel", "resultLines", "()I"⟩ ⟨"CallOpenerModel", "resultLines", "()I"⟩ ∈ zwd := zt_0 _ (List.mem_of_getElem? (i := 145) rfl) rfl
theorem q_2319 : Cond.methodLink "CallOpenerModel" 667 ⟨"CallOpenerModel", "runsResult", "(I)V"⟩ ∈ zwd := zt_9 _ (List.mem_of_getElem? (i := 234) rfl) rfl
theorem q_2321 : Cond.instanceMethod ⟨"CallOpenerModel", "runsResult", "(I)V"⟩ ∈ zwd := zt_9 _ (List.mem_of_getElem? (i := 236) rfl) rfl
theorem q_146 : Cond.selects "CallOpenerModel" ⟨"CallOpenerModel", "runsResult", "(I)V"⟩ ⟨"CallOpenerModel", "runsResult", "(I)V"⟩ ∈ zwd := zt_0 _ (List.mem_of_getElem? (i := 146) rfl) rfl
theorem q_1668 : Cond.fieldLink "CallOpenerModel" 670 "CallOpenerModel" "trail" "I" ∈ zwd := zt_7 _ (List.mem_of_getElem? (i := 63) rfl) rfl
theorem q_1670 : Cond.fieldLink "CallOpenerModel" 673 "CallOpenerModel" "gone" "I" ∈ zwd := zt_7 _ (List.mem_of_getElem? (i := 65) rfl) rfl
theorem q_1669 : Cond.fieldLink "CallOpenerModel" 676 "CallOpenerModel" "kept" "I" ∈ zwd := zt_7 _ (List.mem_of_getElem? (i := 64) rfl) rfl
theorem q_2355 : Cond.methodLink "CallOpenerModel" 679 ⟨"CallOpenerModel", "sets", "(IZI)V"⟩ ∈ zwd := zt_10 _ (List.mem_of_getElem? (i := 30) rfl) rfl
theorem q_2357 : Cond.instanceMethod ⟨"CallOpenerModel", "sets", "(IZI)V"⟩ ∈ zwd := zt_10 _ (List.mem_of_getElem? (i := 32) rfl) rfl
theorem q_152 : Cond.selects "CallOpenerModel" ⟨"CallOpenerModel", "sets", "(IZI)V"⟩ ⟨"CallOpenerModel", "sets", "(IZI)V"⟩ ∈ zwd := zt_0 _ (List.mem_of_getElem? (i := 152) rfl) rfl
theorem q_2367 : Cond.methodLink "CallOpenerModel" 683 ⟨"CallOpenerModel", "isKnownOf", "(I)Z"⟩ ∈ zwd := zt_10 _ (List.mem_of_getElem? (i := 42) rfl) rfl
theorem q_2369 : Cond.instanceMethod ⟨"CallOpenerModel", "isKnownOf", "(I)Z"⟩ ∈ zwd := zt_10 _ (List.mem_of_getElem? (i := 44) rfl) rfl
theorem q_155 : Cond.selects "CallOpenerModel" ⟨"CallOpenerModel", "isKnownOf", "(I)Z"⟩ ⟨"CallOpenerModel", "isKnownOf", "(I)Z"⟩ ∈ zwd := zt_0 _ (List.mem_of_getElem? (i := 155) rfl) rfl
theorem q_2371 : Cond.methodLink "CallOpenerModel" 686 ⟨"CallOpenerModel", "knownOf", "(I)I"⟩ ∈ zwd := zt_10 _ (List.mem_of_getElem? (i := 46) rfl) rfl
theorem q_2373 : Cond.instanceMethod ⟨"CallOpenerModel", "knownOf", "(I)I"⟩ ∈ zwd := zt_10 _ (List.mem_of_getElem? (i := 48) rfl) rfl
theorem q_156 : Cond.selects "CallOpenerModel" ⟨"CallOpenerModel", "knownOf", "(I)I"⟩ ⟨"CallOpenerModel", "knownOf", "(I)I"⟩ ∈ zwd := zt_0 _ (List.mem_of_getElem? (i := 156) rfl) rfl
theorem q_1673 : Cond.fieldLink "CallOpenerModel" 689 "CallOpenerModel" "never" "I" ∈ zwd := zt_7 _ (List.mem_of_getElem? (i := 68) rfl) rfl
theorem q_2347 : Cond.methodLink "CallOpenerModel" 692 ⟨"CallOpenerModel", "behind", "(I)I"⟩ ∈ zwd := zt_10 _ (List.mem_of_getElem? (i := 22) rfl) rfl
theorem q_2349 : Cond.instanceMethod ⟨"CallOpenerModel", "behind", "(I)I"⟩ ∈ zwd := zt_10 _ (List.mem_of_getElem? (i := 24) rfl) rfl
theorem q_150 : Cond.selects "CallOpenerModel" ⟨"CallOpenerModel", "behind", "(I)I"⟩ ⟨"CallOpenerModel", "behind", "(I)I"⟩ ∈ zwd := zt_0 _ (List.mem_of_getElem? (i := 150) rfl) rfl
theorem q_1674 : Cond.fieldLink "CallOpenerModel" 695 "CallOpenerModel" "atLine" "I" ∈ zwd := zt_7 _ (List.mem_of_getElem? (i := 69) rfl) rfl
theorem q_2359 : Cond.methodLink "CallOpenerModel" 698 ⟨"CallOpenerModel", "forgets", "(I)V"⟩ ∈ zwd := zt_10 _ (List.mem_of_getElem? (i := 34) rfl) rfl
theorem q_2361 : Cond.instanceMethod ⟨"CallOpenerModel", "forgets", "(I)V"⟩ ∈ zwd := zt_10 _ (List.mem_of_getElem? (i := 36) rfl) rfl
theorem q_153 : Cond.selects "CallOpenerModel" ⟨"CallOpenerModel", "forgets", "(I)V"⟩ ⟨"CallOpenerModel", "forgets", "(I)V"⟩ ∈ zwd := zt_0 _ (List.mem_of_getElem? (i := 153) rfl) rfl
theorem q_2375 : Cond.methodLink "CallOpenerModel" 701 ⟨"CallOpenerModel", "opensKnown", "(III)V"⟩ ∈ zwd := zt_10 _ (List.mem_of_getElem? (i := 50) rfl) rfl
theorem q_2377 : Cond.instanceMethod ⟨"CallOpenerModel", "opensKnown", "(III)V"⟩ ∈ zwd := zt_10 _ (List.mem_of_getElem? (i := 52) rfl) rfl
theorem q_157 : Cond.selects "CallOpenerModel" ⟨"CallOpenerModel", "opensKnown", "(III)V"⟩ ⟨"CallOpenerModel", "opensKnown", "(III)V"⟩ ∈ zwd := zt_0 _ (List.mem_of_getElem? (i := 157) rfl) rfl
theorem q_1672 : Cond.fieldLink "CallOpenerModel" 704 "CallOpenerModel" "decided" "I" ∈ zwd := zt_7 _ (List.mem_of_getElem? (i := 67) rfl) rfl
theorem q_1671 : Cond.fieldLink "CallOpenerModel" 707 "CallOpenerModel" "folds" "I" ∈ zwd := zt_7 _ (List.mem_of_getElem? (i := 66) rfl) rfl
theorem q_2343 : Cond.methodLink "CallOpenerModel" 710 ⟨"CallOpenerModel", "endsFirst", "(I)V"⟩ ∈ zwd := zt_10 _ (List.mem_of_getElem? (i := 18) rfl) rfl
theorem q_2345 : Cond.instanceMethod ⟨"CallOpenerModel", "endsFirst", "(I)V"⟩ ∈ zwd := zt_10 _ (List.mem_of_getElem? (i := 20) rfl) rfl
theorem q_149 : Cond.selects "CallOpenerModel" ⟨"CallOpenerModel", "endsFirst", "(I)V"⟩ ⟨"CallOpenerModel", "endsFirst", "(I)V"⟩ ∈ zwd := zt_0 _ (List.mem_of_getElem? (i := 149) rfl) rfl
theorem q_2351 : Cond.methodLink "CallOpenerModel" 713 ⟨"CallOpenerModel", "endsSecond", "(I)V"⟩ ∈ zwd := zt_10 _ (List.mem_of_getElem? (i := 26) rfl) rfl
theorem q_2353 : Cond.instanceMethod ⟨"CallOpenerModel", "endsSecond", "(I)V"⟩ ∈ zwd := zt_10 _ (List.mem_of_getElem? (i := 28) rfl) rfl
theorem q_151 : Cond.selects "CallOpenerModel" ⟨"CallOpenerModel", "endsSecond", "(I)V"⟩ ⟨"CallOpenerModel", "endsSecond", "(I)V"⟩ ∈ zwd := zt_0 _ (List.mem_of_getElem? (i := 151) rfl) rfl
theorem q_2339 : Cond.methodLink "CallOpenerModel" 716 ⟨"CallOpenerModel", "endsKnown", "()V"⟩ ∈ zwd := zt_10 _ (List.mem_of_getElem? (i := 14) rfl) rfl
theorem q_2341 : Cond.instanceMethod ⟨"CallOpenerModel", "endsKnown", "()V"⟩ ∈ zwd := zt_10 _ (List.mem_of_getElem? (i := 16) rfl) rfl
theorem q_148 : Cond.selects "CallOpenerModel" ⟨"CallOpenerModel", "endsKnown", "()V"⟩ ⟨"CallOpenerModel", "endsKnown", "()V"⟩ ∈ zwd := zt_0 _ (List.mem_of_getElem? (i := 148) rfl) rfl
theorem q_2363 : Cond.methodLink "CallOpenerModel" 719 ⟨"CallOpenerModel", "looks", "(I)V"⟩ ∈ zwd := zt_10 _ (List.mem_of_getElem? (i := 38) rfl) rfl
theorem q_2365 : Cond.instanceMethod ⟨"CallOpenerModel", "looks", "(I)V"⟩ ∈ zwd := zt_10 _ (List.mem_of_getElem? (i := 40) rfl) rfl
theorem q_154 : Cond.selects "CallOpenerModel" ⟨"CallOpenerModel", "looks", "(I)V"⟩ ⟨"CallOpenerModel", "looks", "(I)V"⟩ ∈ zwd := zt_0 _ (List.mem_of_getElem? (i := 154) rfl) rfl
theorem q_2335 : Cond.methodLink "CallOpenerModel" 722 ⟨"CallOpenerModel", "laysKnown", "(I)V"⟩ ∈ zwd := zt_10 _ (List.mem_of_getElem? (i := 10) rfl) rfl
theorem q_2337 : Cond.instanceMethod ⟨"CallOpenerModel", "laysKnown", "(I)V"⟩ ∈ zwd := zt_10 _ (List.mem_of_getElem? (i := 12) rfl) rfl
theorem q_147 : Cond.selects "CallOpenerModel" ⟨"CallOpenerModel", "laysKnown", "(I)V"⟩ ⟨"CallOpenerModel", "laysKnown", "(I)V"⟩ ∈ zwd := zt_0 _ (List.mem_of_getElem? (i := 147) rfl) rfl
theorem q_2379 : Cond.methodLink "CallOpenerModel" 725 ⟨"CallOpenerModel", "knownMany", "()I"⟩ ∈ zwd := zt_10 _ (List.mem_of_getElem? (i := 54) rfl) rfl
theorem q_2381 : Cond.instanceMethod ⟨"CallOpenerModel", "knownMany", "()I"⟩ ∈ zwd := zt_10 _ (List.mem_of_getElem? (i := 56) rfl) rfl
theorem q_158 : Cond.selects "CallOpenerModel" ⟨"CallOpenerModel", "knownMany", "()I"⟩ ⟨"CallOpenerModel", "knownMany", "()I"⟩ ∈ zwd := zt_0 _ (List.mem_of_getElem? (i := 158) rfl) rfl
theorem q_1680 : Cond.fieldLink "CallOpenerModel" 728 "CallOpenerModel" "found" "I" ∈ zwd := zt_7 _ (List.mem_of_getElem? (i := 75) rfl) rfl
theorem q_2391 : Cond.methodLink "CallOpenerModel" 731 ⟨"CallOpenerModel", "isTooOften", "(II)Z"⟩ ∈ zwd := zt_10 _ (List.mem_of_getElem? (i := 66) rfl) rfl
theorem q_2393 : Cond.instanceMethod ⟨"CallOpenerModel", "isTooOften", "(II)Z"⟩ ∈ zwd := zt_10 _ (List.mem_of_getElem? (i := 68) rfl) rfl
theorem q_160 : Cond.selects "CallOpenerModel" ⟨"CallOpenerModel", "isTooOften", "(II)Z"⟩ ⟨"CallOpenerModel", "isTooOften", "(II)Z"⟩ ∈ zwd := zt_0 _ (List.mem_of_getElem? (i := 160) rfl) rfl
theorem q_2399 : Cond.constantLong "CallOpenerModel" 734 (Int64.ofInt (-4611686018427387904)) ∈ zwd := zt_10 _ (List.mem_of_getElem? (i := 74) rfl) rfl
theorem q_2400 : Cond.methodLink "CallOpenerModel" 736 ⟨"CallOpenerModel", "joins", "(II)V"⟩ ∈ zwd := zt_10 _ (List.mem_of_getElem? (i := 75) rfl) rfl
theorem q_2402 : Cond.instanceMethod ⟨"CallOpenerModel", "joins", "(II)V"⟩ ∈ zwd := zt_10 _ (List.mem_of_getElem? (i := 77) rfl) rfl
theorem q_162 : Cond.selects "CallOpenerModel" ⟨"CallOpenerModel", "joins", "(II)V"⟩ ⟨"CallOpenerModel", "joins", "(II)V"⟩ ∈ zwd := zt_0 _ (List.mem_of_getElem? (i := 162) rfl) rfl
theorem q_2387 : Cond.methodLink "CallOpenerModel" 740 ⟨"CallOpenerModel", "laysFound", "(I)V"⟩ ∈ zwd := zt_10 _ (List.mem_of_getElem? (i := 62) rfl) rfl
theorem q_2389 : Cond.instanceMethod ⟨"CallOpenerModel", "laysFound", "(I)V"⟩ ∈ zwd := zt_10 _ (List.mem_of_getElem? (i := 64) rfl) rfl
theorem q_159 : Cond.selects "CallOpenerModel" ⟨"CallOpenerModel", "laysFound", "(I)V"⟩ ⟨"CallOpenerModel", "laysFound", "(I)V"⟩ ∈ zwd := zt_0 _ (List.mem_of_getElem? (i := 159) rfl) rfl
theorem q_2395 : Cond.methodLink "CallOpenerModel" 743 ⟨"CallOpenerModel", "laysMost", "()V"⟩ ∈ zwd := zt_10 _ (List.mem_of_getElem? (i := 70) rfl) rfl
theorem q_2397 : Cond.instanceMethod ⟨"CallOpenerModel", "laysMost", "()V"⟩ ∈ zwd := zt_10 _ (List.mem_of_getElem? (i := 72) rfl) rfl
theorem q_161 : Cond.selects "CallOpenerModel" ⟨"CallOpenerModel", "laysMost", "()V"⟩ ⟨"CallOpenerModel", "laysMost", "()V"⟩ ∈ zwd := zt_0 _ (List.mem_of_getElem? (i := 161) rfl) rfl
theorem q_2408 : Cond.methodLink "CallOpenerModel" 746 ⟨"CallOpenerModel", "allTimes", "()I"⟩ ∈ zwd := zt_10 _ (List.mem_of_getElem? (i := 83) rfl) rfl
theorem q_2410 : Cond.instanceMethod ⟨"CallOpenerModel", "allTimes", "()I"⟩ ∈ zwd := zt_10 _ (List.mem_of_getElem? (i := 85) rfl) rfl
theorem q_163 : Cond.selects "CallOpenerModel" ⟨"CallOpenerModel", "allTimes", "()I"⟩ ⟨"CallOpenerModel", "allTimes", "()I"⟩ ∈ zwd := zt_0 _ (List.mem_of_getElem? (i := 163) rfl) rfl
theorem q_2416 : Cond.methodLink "CallOpenerModel" 749 ⟨"CallOpenerModel", "comesTo", "(I)I"⟩ ∈ zwd := zt_10 _ (List.mem_of_getElem? (i := 91) rfl) rfl
theorem q_2418 : Cond.instanceMethod ⟨"CallOpenerModel", "comesTo", "(I)I"⟩ ∈ zwd := zt_10 _ (List.mem_of_getElem? (i := 93) rfl) rfl
theorem q_164 : Cond.selects "CallOpenerModel" ⟨"CallOpenerModel", "comesTo", "(I)I"⟩ ⟨"CallOpenerModel", "comesTo", "(I)I"⟩ ∈ zwd := zt_0 _ (List.mem_of_getElem? (i := 164) rfl) rfl
theorem q_2420 : Cond.methodLink "CallOpenerModel" 752 ⟨"CallOpenerModel", "lettersOf", "(J)I"⟩ ∈ zwd := zt_10 _ (List.mem_of_getElem? (i := 95) rfl) rfl
theorem q_2421 : Cond.static ⟨"CallOpenerModel", "lettersOf", "(J)I"⟩ ∈ zwd := zt_10 _ (List.mem_of_getElem? (i := 96) rfl) rfl
theorem q_2423 : Cond.constantLong "CallOpenerModel" 756 (Int64.ofInt 31) ∈ zwd := zt_10 _ (List.mem_of_getElem? (i := 98) rfl) rfl
theorem q_763 : Cond.methodLink "CallOpener$Best" 3 ⟨"java/lang/Object", "<init>", "()V"⟩ ∈ zwd := zt_3 _ (List.mem_of_getElem? (i := 118) rfl) rfl
theorem q_767 : Cond.fieldLink "CallOpener$Best" 9 "CallOpener$Best" "function" "[I" ∈ zwd := zt_3 _ (List.mem_of_getElem? (i := 122) rfl) rfl
theorem q_768 : Cond.fieldLink "CallOpener$Best" 15 "CallOpener$Best" "owner" "[I" ∈ zwd := zt_3 _ (List.mem_of_getElem? (i := 123) rfl) rfl
theorem q_769 : Cond.fieldLink "CallOpener$Best" 18 "CallOpener$Best" "adds" "[I" ∈ zwd := zt_3 _ (List.mem_of_getElem? (i := 124) rfl) rfl
theorem q_770 : Cond.fieldLink "CallOpener$Best" 21 "CallOpener$Best" "heat" "[J" ∈ zwd := zt_3 _ (List.mem_of_getElem? (i := 125) rfl) rfl
theorem q_771 : Cond.fieldLink "CallOpener$Best" 25 "CallOpener$Best" "gain" "[J" ∈ zwd := zt_3 _ (List.mem_of_getElem? (i := 126) rfl) rfl
theorem q_772 : Cond.fieldLink "CallOpener$Best" 28 "CallOpener$Best" "branchSize" "[I" ∈ zwd := zt_3 _ (List.mem_of_getElem? (i := 127) rfl) rfl
theorem q_773 : Cond.fieldLink "CallOpener$Best" 31 "CallOpener$Best" "nextPlace" "[I" ∈ zwd := zt_3 _ (List.mem_of_getElem? (i := 128) rfl) rfl
theorem q_774 : Cond.fieldLink "CallOpener$Best" 34 "CallOpener$Best" "order" "[I" ∈ zwd := zt_3 _ (List.mem_of_getElem? (i := 129) rfl) rfl
theorem q_775 : Cond.fieldLink "CallOpener$Best" 37 "CallOpener$Best" "table" "[J" ∈ zwd := zt_3 _ (List.mem_of_getElem? (i := 130) rfl) rfl
theorem q_776 : Cond.fieldLink "CallOpener$Best" 43 "CallOpener$Best" "settings" "[I" ∈ zwd := zt_3 _ (List.mem_of_getElem? (i := 131) rfl) rfl
theorem q_777 : Cond.fieldLink "CallOpener$Best" 46 "CallOpener$Best" "program" "LCallOpener$Program;" ∈ zwd := zt_3 _ (List.mem_of_getElem? (i := 132) rfl) rfl
theorem q_1471 : Cond.methodLink "CallOpener$Best" 50 ⟨"java/lang/System", "arraycopy", "(Ljava/lang/Object;ILjava/lang/Object;II)V"⟩ ∈ zwd := zt_6 _ (List.mem_of_getElem? (i := 106) rfl) rfl
theorem q_778 : Cond.fieldLink "CallOpener$Best" 56 "CallOpener$Best" "root" "I" ∈ zwd := zt_3 _ (List.mem_of_getElem? (i := 133) rfl) rfl
theorem q_765 : Cond.fieldLink "CallOpener$Best" 60 "CallOpener$Best" "found" "I" ∈ zwd := zt_3 _ (List.mem_of_getElem? (i := 120) rfl) rfl
theorem q_210 : Cond.fieldLink "CallOpener$Best" 63 "CallOpener$Profile" "entries" "[I" ∈ zwd := zt_1 _ (List.mem_of_getElem? (i := 45) rfl) rfl
