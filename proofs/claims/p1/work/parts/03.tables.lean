/-! Printed by wip/tools/tables.py out of the listing: the cells, the code of every method as steps. -/
def zshpL : List (List (Nat × Nat)) := [[(99, 0), (14, 0), (14, 4), (14, 4), (14, 4), (18, 0), (18, 0), (18, 0), (18, 0), (18, 0), (13, 3), (13, 2), (13, 4), (13, 4), (13, 4), (99, 0), (11, 0), (14, 480), (14, 3), (14, 4), (14, 4), (6, 0), (14, 8), (14, 16), (2, 0), (14, 6), (15, 320), (15, 20000), (5, 0), (14, 320), (14, 320), (14, 320)],
  [(14, 320), (7, 0), (14, 8), (14, 8), (14, 8), (14, 8), (14, 8), (14, 8), (14, 8), (14, 8), (14, 8), (14, 8), (14, 16), (14, 16), (14, 16), (14, 16), (3, 0), (14, 60), (14, 60), (14, 60), (14, 60), (14, 60), (14, 60), (14, 60), (14, 60), (14, 60), (14, 60), (14, 60), (14, 60), (14, 60), (7, 0), (14, 8)],
  [(14, 8), (14, 8), (14, 8), (14, 8), (14, 8), (14, 8), (14, 8), (14, 8), (14, 8), (14, 16), (14, 16), (14, 16), (14, 16), (3, 0), (14, 60), (14, 60), (14, 60), (14, 60), (14, 60), (14, 60), (14, 60), (14, 60), (14, 60), (14, 60), (14, 60), (14, 60), (14, 60), (8, 0), (14, 401), (14, 401), (14, 401), (14, 8)],
  [(14, 16), (14, 16), (14, 16), (14, 5), (14, 5), (4, 0), (14, 5), (14, 8), (14, 16), (14, 512), (5, 0), (14, 512), (14, 512), (14, 512), (14, 512), (5, 0), (14, 24), (14, 24), (14, 24), (14, 24), (10, 0), (17, 320), (14, 320), (14, 320), (14, 4), (1, 0), (1, 0), (1, 0), (1, 0), (1, 0), (1, 0), (1, 0)],
  [(1, 0), (1, 0), (1, 0), (1, 0), (1, 0), (1, 0), (1, 0), (1, 0), (1, 0), (1, 0), (1, 0), (1, 0), (1, 0), (1, 0), (1, 0), (1, 0), (1, 0), (1, 0), (1, 0), (1, 0), (1, 0), (1, 0), (1, 0), (1, 0), (1, 0), (1, 0), (1, 0), (1, 0), (1, 0), (1, 0), (1, 0), (1, 0)],
  [(1, 0), (1, 0), (1, 0), (1, 0), (1, 0), (1, 0), (1, 0), (1, 0), (1, 0), (1, 0), (1, 0), (1, 0), (1, 0), (1, 0), (1, 0), (1, 0), (1, 0), (1, 0), (1, 0), (1, 0), (1, 0), (1, 0), (1, 0), (1, 0), (1, 0), (1, 0), (1, 0), (1, 0), (1, 0), (1, 0), (1, 0), (1, 0)],
  [(1, 0), (1, 0), (1, 0), (1, 0), (1, 0), (1, 0), (1, 0), (1, 0), (1, 0), (1, 0), (1, 0), (1, 0), (1, 0), (1, 0), (1, 0), (1, 0), (1, 0), (1, 0), (1, 0), (1, 0), (1, 0), (1, 0), (1, 0), (1, 0), (1, 0), (1, 0), (1, 0), (1, 0), (1, 0), (1, 0), (1, 0), (1, 0)],
  [(1, 0), (1, 0), (1, 0), (1, 0), (1, 0), (1, 0), (1, 0), (1, 0), (1, 0), (1, 0), (1, 0), (1, 0), (1, 0), (1, 0), (1, 0), (1, 0), (1, 0), (1, 0), (1, 0), (1, 0), (1, 0), (1, 0), (1, 0), (1, 0), (1, 0), (1, 0), (1, 0), (1, 0), (1, 0), (1, 0), (1, 0), (1, 0)],
  [(1, 0), (1, 0), (1, 0), (1, 0), (1, 0), (1, 0), (1, 0), (1, 0), (1, 0), (1, 0), (1, 0), (1, 0), (1, 0), (1, 0), (1, 0), (1, 0), (1, 0), (1, 0), (1, 0), (1, 0), (1, 0), (1, 0), (1, 0), (1, 0), (1, 0), (1, 0), (1, 0), (1, 0), (1, 0), (1, 0), (1, 0), (1, 0)],
  [(1, 0), (1, 0), (1, 0), (1, 0), (1, 0), (1, 0), (1, 0), (1, 0), (1, 0), (1, 0), (1, 0), (1, 0), (1, 0), (1, 0), (1, 0), (1, 0), (1, 0), (1, 0), (1, 0), (1, 0), (1, 0), (1, 0), (1, 0), (1, 0), (1, 0), (1, 0), (1, 0), (1, 0), (1, 0), (1, 0), (1, 0), (1, 0)],
  [(1, 0), (1, 0), (1, 0), (1, 0), (1, 0), (1, 0), (1, 0), (1, 0), (1, 0), (1, 0), (1, 0), (1, 0), (1, 0), (1, 0), (1, 0), (1, 0), (1, 0), (1, 0), (1, 0), (1, 0), (1, 0), (1, 0), (1, 0), (1, 0), (1, 0), (1, 0), (1, 0), (1, 0), (1, 0), (1, 0), (1, 0), (1, 0)],
  [(1, 0), (1, 0), (1, 0), (1, 0), (1, 0), (1, 0), (1, 0), (1, 0), (1, 0), (1, 0), (1, 0), (1, 0), (1, 0), (1, 0), (1, 0), (1, 0), (1, 0), (1, 0), (1, 0), (1, 0), (1, 0), (1, 0), (1, 0), (1, 0), (1, 0), (1, 0), (1, 0), (1, 0), (1, 0), (1, 0), (1, 0), (1, 0)],
  [(1, 0), (1, 0), (1, 0), (1, 0), (1, 0), (1, 0), (1, 0), (1, 0), (1, 0), (1, 0), (1, 0), (1, 0), (1, 0), (1, 0), (1, 0), (1, 0), (1, 0), (1, 0), (1, 0), (1, 0), (1, 0), (1, 0), (1, 0), (1, 0), (1, 0), (1, 0), (1, 0), (1, 0), (1, 0), (1, 0), (1, 0), (1, 0)],
  [(1, 0), (1, 0), (1, 0), (1, 0), (1, 0), (1, 0), (1, 0), (1, 0), (1, 0), (1, 0), (1, 0), (1, 0), (1, 0), (1, 0), (1, 0), (1, 0), (1, 0), (1, 0), (1, 0), (1, 0), (1, 0), (1, 0), (1, 0), (1, 0), (1, 0), (9, 0), (3, 0), (14, 320), (14, 320), (14, 320), (14, 320), (14, 320)],
  [(14, 320), (14, 320), (14, 320), (14, 320), (14, 320), (14, 320), (14, 320), (14, 320), (0, 0), (14, 32), (14, 32), (14, 32), (15, 32), (15, 32), (14, 32), (14, 32), (14, 32), (15, 9933), (14, 4), (12, 0), (13, 480), (14, 2), (14, 2), (14, 2), (15, 16), (14, 16), (14, 16), (14, 16), (14, 16), (14, 16), (14, 16), (16, 16)],
  [(14, 520), (14, 520), (14, 520), (14, 520), (14, 520), (14, 520), (14, 520), (14, 520), (14, 520), (14, 520), (14, 520), (16, 520), (14, 32), (14, 32), (14, 32), (14, 32), (14, 32), (14, 32), (14, 32), (15, 32), (15, 8), (14, 6), (16, 6), (14, 8), (14, 8), (14, 3), (14, 4), (14, 8), (14, 16), (14, 8), (14, 16), (14, 24)],
  [(14, 24), (14, 24), (14, 24), (14, 24), (14, 700), (14, 400), (14, 400), (14, 400), (14, 400), (14, 420), (14, 420), (14, 420), (14, 420), (14, 420), (14, 420), (14, 420), (14, 420), (15, 420), (15, 420), (16, 420), (14, 420), (14, 420), (14, 420), (14, 420), (14, 420), (14, 420), (14, 420), (14, 420), (14, 420), (14, 420), (14, 400), (14, 400)],
  [(14, 400), (14, 420), (16, 400), (16, 400), (14, 400), (14, 12000), (14, 12000), (14, 5000), (14, 5000), (14, 400), (14, 400), (14, 400), (14, 400), (14, 400), (16, 12000), (16, 5000), (16, 400), (15, 9933), (15, 301), (14, 33), (14, 33), (15, 33)]]
def zshp (c : Nat) : Nat × Nat := (zshpL.getD (c / 32) []).getD (c % 32) (99, 0)
/-- CallOpenerLaw.law([I)Z -/
def k_0 : List (List zO) := [[o_new zshp 3 11 16 550 400000, o_bad, o_bad, o_dup 4, o_inw zshp 7 1 1 11 0 2 450 108204 550 400000, o_bad, o_bad, o_astore 8 1, o_new zshp 11 12 139 550 400000, o_bad, o_bad, o_dup 12, o_inw zshp 15 36 1 12 0 1 98 84994 550 400000, o_bad, o_bad, o_astore 16 2],
  [o_con 17 (vI 0), o_istore 18 3, o_iload 19 3, o_aload 20 0, o_alen zshp 21 14, o_con 23 (vI 6), o_bad, o_isub 24, o_icmpgt 27 1001, o_bad, o_bad, o_aload 28 0, o_iload 29 3, o_ald zshp 30 14, o_con 32 (vI 31), o_bad],
  [o_iand 33, o_sw [(0, 144), (1, 207), (2, 230), (3, 253), (4, 286), (5, 319), (6, 352), (7, 385), (8, 408), (9, 421), (10, 454), (11, 487), (12, 537), (13, 580), (14, 624), (15, 657), (16, 690), (17, 733), (18, 766), (19, 789), (20, 822), (21, 866), (22, 919), (23, 962)] 995, o_bad, o_bad, o_bad, o_bad, o_bad, o_bad, o_bad, o_bad, o_bad, o_bad, o_bad, o_bad, o_bad, o_bad],
  [o_bad, o_bad, o_bad, o_bad, o_bad, o_bad, o_bad, o_bad, o_bad, o_bad, o_bad, o_bad, o_bad, o_bad, o_bad, o_bad],
  [o_bad, o_bad, o_bad, o_bad, o_bad, o_bad, o_bad, o_bad, o_bad, o_bad, o_bad, o_bad, o_bad, o_bad, o_bad, o_bad],
  [o_bad, o_bad, o_bad, o_bad, o_bad, o_bad, o_bad, o_bad, o_bad, o_bad, o_bad, o_bad, o_bad, o_bad, o_bad, o_bad],
  [o_bad, o_bad, o_bad, o_bad, o_bad, o_bad, o_bad, o_bad, o_bad, o_bad, o_bad, o_bad, o_bad, o_bad, o_bad, o_bad],
  [o_bad, o_bad, o_bad, o_bad, o_bad, o_bad, o_bad, o_bad, o_bad, o_bad, o_bad, o_bad, o_bad, o_bad, o_bad, o_bad],
  [o_bad, o_bad, o_bad, o_bad, o_bad, o_bad, o_bad, o_bad, o_bad, o_bad, o_bad, o_bad, o_bad, o_bad, o_bad, o_bad],
  [o_aload 145 1, o_aload 146 0, o_iload 147 3, o_con 148 (vI 1), o_iadd 149, o_ald zshp 150 14, o_aload 151 0, o_iload 152 3, o_con 153 (vI 2), o_iadd 154, o_ald zshp 155 14, o_aload 156 0, o_iload 157 3, o_con 158 (vI 3), o_iadd 159, o_ald zshp 160 14],
  [o_aload 161 0, o_iload 162 3, o_con 163 (vI 4), o_iadd 164, o_ald zshp 165 14, o_aload 166 0, o_iload 167 3, o_con 168 (vI 5), o_iadd 169, o_ald zshp 170 14, o_inv zshp 173 2 6 11 1 6, o_bad, o_bad, o_aload 174 2, o_aload 175 0, o_iload 176 3],
  [o_con 177 (vI 1), o_iadd 178, o_ald zshp 179 14, o_aload 180 0, o_iload 181 3, o_con 182 (vI 2), o_iadd 183, o_ald zshp 184 14, o_aload 185 0, o_iload 186 3, o_con 187 (vI 3), o_iadd 188, o_ald zshp 189 14, o_aload 190 0, o_iload 191 3, o_con 192 (vI 4)],
  [o_iadd 193, o_ald zshp 194 14, o_aload 195 0, o_iload 196 3, o_con 197 (vI 5), o_iadd 198, o_ald zshp 199 14, o_inv zshp 202 40 6 12 1 6, o_bad, o_bad, o_icmpeq 205 995, o_bad, o_bad, o_con 206 (vI 0), o_zretm 550, o_aload 208 1],
  [o_aload 209 0, o_iload 210 3, o_con 211 (vI 1), o_iadd 212, o_ald zshp 213 14, o_inv zshp 216 3 2 11 1 4, o_bad, o_bad, o_aload 217 2, o_aload 218 0, o_iload 219 3, o_con 220 (vI 1), o_iadd 221, o_ald zshp 222 14, o_inv zshp 225 66 2 12 1 2, o_bad],
  [o_bad, o_icmpeq 228 995, o_bad, o_bad, o_con 229 (vI 0), o_zretm 550, o_aload 231 1, o_aload 232 0, o_iload 233 3, o_con 234 (vI 1), o_iadd 235, o_ald zshp 236 14, o_inv zshp 239 4 2 11 1 2, o_bad, o_bad, o_aload 240 2],
  [o_aload 241 0, o_iload 242 3, o_con 243 (vI 1), o_iadd 244, o_ald zshp 245 14, o_inv zshp 248 148 2 12 1 2, o_bad, o_bad, o_icmpeq 251 995, o_bad, o_bad, o_con 252 (vI 0), o_zretm 550, o_aload 254 1, o_aload 255 0, o_iload 256 3],
  [o_con 257 (vI 1), o_iadd 258, o_ald zshp 259 14, o_aload 260 0, o_iload 261 3, o_con 262 (vI 2), o_iadd 263, o_ald zshp 264 14, o_inv zshp 267 5 3 11 1 3, o_bad, o_bad, o_aload 268 2, o_aload 269 0, o_iload 270 3, o_con 271 (vI 1), o_iadd 272],
  [o_ald zshp 273 14, o_aload 274 0, o_iload 275 3, o_con 276 (vI 2), o_iadd 277, o_ald zshp 278 14, o_inv zshp 281 151 3 12 1 6, o_bad, o_bad, o_icmpeq 284 995, o_bad, o_bad, o_con 285 (vI 0), o_zretm 550, o_aload 287 1, o_aload 288 0],
  [o_iload 289 3, o_con 290 (vI 1), o_iadd 291, o_ald zshp 292 14, o_aload 293 0, o_iload 294 3, o_con 295 (vI 2), o_iadd 296, o_ald zshp 297 14, o_inv zshp 300 6 3 11 1 4, o_bad, o_bad, o_aload 301 2, o_aload 302 0, o_iload 303 3, o_con 304 (vI 1)],
  [o_iadd 305, o_ald zshp 306 14, o_aload 307 0, o_iload 308 3, o_con 309 (vI 2), o_iadd 310, o_ald zshp 311 14, o_inv zshp 314 152 3 12 1 4, o_bad, o_bad, o_icmpeq 317 995, o_bad, o_bad, o_con 318 (vI 0), o_zretm 550, o_aload 320 1],
  [o_aload 321 0, o_iload 322 3, o_con 323 (vI 1), o_iadd 324, o_ald zshp 325 14, o_aload 326 0, o_iload 327 3, o_con 328 (vI 2), o_iadd 329, o_ald zshp 330 14, o_inv zshp 333 7 3 11 1 4, o_bad, o_bad, o_aload 334 2, o_aload 335 0, o_iload 336 3],
  [o_con 337 (vI 1), o_iadd 338, o_ald zshp 339 14, o_aload 340 0, o_iload 341 3, o_con 342 (vI 2), o_iadd 343, o_ald zshp 344 14, o_inv zshp 347 92 3 12 1 4, o_bad, o_bad, o_icmpeq 350 995, o_bad, o_bad, o_con 351 (vI 0), o_zretm 550],
  [o_aload 353 1, o_aload 354 0, o_iload 355 3, o_con 356 (vI 1), o_iadd 357, o_ald zshp 358 14, o_aload 359 0, o_iload 360 3, o_con 361 (vI 2), o_iadd 362, o_ald zshp 363 14, o_inv zshp 366 8 3 11 1 3, o_bad, o_bad, o_aload 367 2, o_aload 368 0],
  [o_iload 369 3, o_con 370 (vI 1), o_iadd 371, o_ald zshp 372 14, o_aload 373 0, o_iload 374 3, o_con 375 (vI 2), o_iadd 376, o_ald zshp 377 14, o_inv zshp 380 87 3 12 1 3, o_bad, o_bad, o_icmpeq 383 995, o_bad, o_bad, o_con 384 (vI 0)],
  [o_zretm 550, o_aload 386 1, o_aload 387 0, o_iload 388 3, o_con 389 (vI 1), o_iadd 390, o_ald zshp 391 14, o_inv zshp 394 9 2 11 1 3, o_bad, o_bad, o_aload 395 2, o_aload 396 0, o_iload 397 3, o_con 398 (vI 1), o_iadd 399, o_ald zshp 400 14],
  [o_inv zshp 403 88 2 12 1 3, o_bad, o_bad, o_icmpeq 406 995, o_bad, o_bad, o_con 407 (vI 0), o_zretm 550, o_aload 409 1, o_inv zshp 412 10 1 11 1 2, o_bad, o_bad, o_aload 413 2, o_inv zshp 416 91 1 12 1 3, o_bad, o_bad],
  [o_icmpeq 419 995, o_bad, o_bad, o_con 420 (vI 0), o_zretm 550, o_aload 422 1, o_aload 423 0, o_iload 424 3, o_con 425 (vI 1), o_iadd 426, o_ald zshp 427 14, o_aload 428 0, o_iload 429 3, o_con 430 (vI 2), o_iadd 431, o_ald zshp 432 14],
  [o_inv zshp 435 11 3 11 1 4, o_bad, o_bad, o_aload 436 2, o_aload 437 0, o_iload 438 3, o_con 439 (vI 1), o_iadd 440, o_ald zshp 441 14, o_aload 442 0, o_iload 443 3, o_con 444 (vI 2), o_iadd 445, o_ald zshp 446 14, o_inv zshp 449 94 3 12 1 4, o_bad],
  [o_bad, o_icmpeq 452 995, o_bad, o_bad, o_con 453 (vI 0), o_zretm 550, o_aload 455 1, o_aload 456 0, o_iload 457 3, o_con 458 (vI 1), o_iadd 459, o_ald zshp 460 14, o_aload 461 0, o_iload 462 3, o_con 463 (vI 2), o_iadd 464],
  [o_ald zshp 465 14, o_inv zshp 468 12 3 11 1 3, o_bad, o_bad, o_aload 469 2, o_aload 470 0, o_iload 471 3, o_con 472 (vI 1), o_iadd 473, o_ald zshp 474 14, o_aload 475 0, o_iload 476 3, o_con 477 (vI 2), o_iadd 478, o_ald zshp 479 14, o_inv zshp 482 109 3 12 1 3],
  [o_bad, o_bad, o_icmpeq 485 995, o_bad, o_bad, o_con 486 (vI 0), o_zretm 550, o_aload 488 1, o_aload 489 0, o_iload 490 3, o_con 491 (vI 1), o_iadd 492, o_ald zshp 493 14, o_aload 494 0, o_iload 495 3, o_con 496 (vI 2)],
  [o_iadd 497, o_ald zshp 498 14, o_ifeq 501 505, o_bad, o_bad, o_con 502 (vI 1), o_goto 506, o_bad, o_bad, o_con 506 (vI 0), o_inv zshp 509 13 3 11 2 3, o_bad, o_bad, o_aload 510 2, o_aload 511 0, o_iload 512 3],
  [o_con 513 (vI 1), o_iadd 514, o_ald zshp 515 14, o_aload 516 0, o_iload 517 3, o_con 518 (vI 2), o_iadd 519, o_ald zshp 520 14, o_ifeq 523 527, o_bad, o_bad, o_con 524 (vI 1), o_goto 528, o_bad, o_bad, o_con 528 (vI 0)],
  [o_inv zshp 531 111 3 12 2 6, o_bad, o_bad, o_lcmp 532, o_ifeq 535 995, o_bad, o_bad, o_con 536 (vI 0), o_zretm 550, o_aload 538 1, o_aload 539 0, o_iload 540 3, o_con 541 (vI 1), o_iadd 542, o_ald zshp 543 14, o_aload 544 0],
  [o_iload 545 3, o_con 546 (vI 2), o_iadd 547, o_ald zshp 548 14, o_aload 549 0, o_iload 550 3, o_con 551 (vI 3), o_iadd 552, o_ald zshp 553 14, o_inv zshp 556 14 4 11 1 5, o_bad, o_bad, o_aload 557 2, o_aload 558 0, o_iload 559 3, o_con 560 (vI 1)],
  [o_iadd 561, o_ald zshp 562 14, o_aload 563 0, o_iload 564 3, o_con 565 (vI 2), o_iadd 566, o_ald zshp 567 14, o_aload 568 0, o_iload 569 3, o_con 570 (vI 3), o_iadd 571, o_ald zshp 572 14, o_inv zshp 575 112 4 12 1 5, o_bad, o_bad, o_icmpeq 578 995],
  [o_bad, o_bad, o_con 579 (vI 0), o_zretm 550, o_aload 581 1, o_aload 582 0, o_iload 583 3, o_con 584 (vI 1), o_iadd 585, o_ald zshp 586 14, o_aload 587 0, o_iload 588 3, o_con 589 (vI 2), o_iadd 590, o_ald zshp 591 14, o_aload 592 0],
  [o_iload 593 3, o_con 594 (vI 3), o_iadd 595, o_ald zshp 596 14, o_inv zshp 599 15 4 11 2 5, o_bad, o_bad, o_aload 600 2, o_aload 601 0, o_iload 602 3, o_con 603 (vI 1), o_iadd 604, o_ald zshp 605 14, o_aload 606 0, o_iload 607 3, o_con 608 (vI 2)],
  [o_iadd 609, o_ald zshp 610 14, o_aload 611 0, o_iload 612 3, o_con 613 (vI 3), o_iadd 614, o_ald zshp 615 14, o_inv zshp 618 113 4 12 2 5, o_bad, o_bad, o_lcmp 619, o_ifeq 622 995, o_bad, o_bad, o_con 623 (vI 0), o_zretm 550],
  [o_aload 625 1, o_aload 626 0, o_iload 627 3, o_con 628 (vI 1), o_iadd 629, o_ald zshp 630 14, o_aload 631 0, o_iload 632 3, o_con 633 (vI 2), o_iadd 634, o_ald zshp 635 14, o_inv zshp 638 16 3 11 1 5, o_bad, o_bad, o_aload 639 2, o_aload 640 0],
  [o_iload 641 3, o_con 642 (vI 1), o_iadd 643, o_ald zshp 644 14, o_aload 645 0, o_iload 646 3, o_con 647 (vI 2), o_iadd 648, o_ald zshp 649 14, o_inv zshp 652 114 3 12 1 5, o_bad, o_bad, o_icmpeq 655 995, o_bad, o_bad, o_con 656 (vI 0)],
  [o_zretm 550, o_aload 658 1, o_aload 659 0, o_iload 660 3, o_con 661 (vI 1), o_iadd 662, o_ald zshp 663 14, o_aload 664 0, o_iload 665 3, o_con 666 (vI 2), o_iadd 667, o_ald zshp 668 14, o_inv zshp 671 17 3 11 1 3, o_bad, o_bad, o_aload 672 2],
  [o_aload 673 0, o_iload 674 3, o_con 675 (vI 1), o_iadd 676, o_ald zshp 677 14, o_aload 678 0, o_iload 679 3, o_con 680 (vI 2), o_iadd 681, o_ald zshp 682 14, o_inv zshp 685 124 3 12 1 3, o_bad, o_bad, o_icmpeq 688 995, o_bad, o_bad],
  [o_con 689 (vI 0), o_zretm 550, o_aload 691 1, o_aload 692 0, o_iload 693 3, o_con 694 (vI 1), o_iadd 695, o_ald zshp 696 14, o_aload 697 0, o_iload 698 3, o_con 699 (vI 2), o_iadd 700, o_ald zshp 701 14, o_aload 702 0, o_iload 703 3, o_con 704 (vI 3)],
  [o_iadd 705, o_ald zshp 706 14, o_inv zshp 709 18 4 11 1 5, o_bad, o_bad, o_aload 710 2, o_aload 711 0, o_iload 712 3, o_con 713 (vI 1), o_iadd 714, o_ald zshp 715 14, o_aload 716 0, o_iload 717 3, o_con 718 (vI 2), o_iadd 719, o_ald zshp 720 14],
  [o_aload 721 0, o_iload 722 3, o_con 723 (vI 3), o_iadd 724, o_ald zshp 725 14, o_inv zshp 728 125 4 12 1 5, o_bad, o_bad, o_icmpeq 731 995, o_bad, o_bad, o_con 732 (vI 0), o_zretm 550, o_aload 734 1, o_aload 735 0, o_iload 736 3],
  [o_con 737 (vI 1), o_iadd 738, o_ald zshp 739 14, o_aload 740 0, o_iload 741 3, o_con 742 (vI 2), o_iadd 743, o_ald zshp 744 14, o_inv zshp 747 19 3 11 1 3, o_bad, o_bad, o_aload 748 2, o_aload 749 0, o_iload 750 3, o_con 751 (vI 1), o_iadd 752],
  [o_ald zshp 753 14, o_aload 754 0, o_iload 755 3, o_con 756 (vI 2), o_iadd 757, o_ald zshp 758 14, o_inv zshp 761 127 3 12 1 3, o_bad, o_bad, o_icmpeq 764 995, o_bad, o_bad, o_con 765 (vI 0), o_zretm 550, o_aload 767 1, o_aload 768 0],
  [o_iload 769 3, o_con 770 (vI 1), o_iadd 771, o_ald zshp 772 14, o_inv zshp 775 20 2 11 1 4, o_bad, o_bad, o_aload 776 2, o_aload 777 0, o_iload 778 3, o_con 779 (vI 1), o_iadd 780, o_ald zshp 781 14, o_inv zshp 784 128 2 12 1 3, o_bad, o_bad],
  [o_icmpeq 787 995, o_bad, o_bad, o_con 788 (vI 0), o_zretm 550, o_aload 790 1, o_aload 791 0, o_iload 792 3, o_con 793 (vI 1), o_iadd 794, o_ald zshp 795 14, o_aload 796 0, o_iload 797 3, o_con 798 (vI 2), o_iadd 799, o_ald zshp 800 14],
  [o_inv zshp 803 21 3 11 1 3, o_bad, o_bad, o_aload 804 2, o_aload 805 0, o_iload 806 3, o_con 807 (vI 1), o_iadd 808, o_ald zshp 809 14, o_aload 810 0, o_iload 811 3, o_con 812 (vI 2), o_iadd 813, o_ald zshp 814 14, o_inv zshp 817 142 3 12 1 5, o_bad],
  [o_bad, o_icmpeq 820 995, o_bad, o_bad, o_con 821 (vI 0), o_zretm 550, o_aload 823 1, o_aload 824 0, o_iload 825 3, o_con 826 (vI 1), o_iadd 827, o_ald zshp 828 14, o_aload 829 0, o_iload 830 3, o_con 831 (vI 2), o_iadd 832],
  [o_ald zshp 833 14, o_aload 834 0, o_iload 835 3, o_con 836 (vI 3), o_iadd 837, o_ald zshp 838 14, o_inv zshp 841 22 4 11 2 4, o_bad, o_bad, o_aload 842 2, o_aload 843 0, o_iload 844 3, o_con 845 (vI 1), o_iadd 846, o_ald zshp 847 14, o_aload 848 0],
  [o_iload 849 3, o_con 850 (vI 2), o_iadd 851, o_ald zshp 852 14, o_aload 853 0, o_iload 854 3, o_con 855 (vI 3), o_iadd 856, o_ald zshp 857 14, o_inv zshp 860 147 4 12 2 6, o_bad, o_bad, o_lcmp 861, o_ifeq 864 995, o_bad, o_bad],
  [o_con 865 (vI 0), o_zretm 550, o_aload 867 1, o_aload 868 0, o_iload 869 3, o_con 870 (vI 1), o_iadd 871, o_ald zshp 872 14, o_aload 873 0, o_iload 874 3, o_con 875 (vI 2), o_iadd 876, o_ald zshp 877 14, o_aload 878 0, o_iload 879 3, o_con 880 (vI 3)],
  [o_iadd 881, o_ald zshp 882 14, o_aload 883 0, o_iload 884 3, o_con 885 (vI 4), o_iadd 886, o_ald zshp 887 14, o_inv zshp 890 23 5 11 1 5, o_bad, o_bad, o_aload 891 2, o_aload 892 0, o_iload 893 3, o_con 894 (vI 1), o_iadd 895, o_ald zshp 896 14],
  [o_aload 897 0, o_iload 898 3, o_con 899 (vI 2), o_iadd 900, o_ald zshp 901 14, o_aload 902 0, o_iload 903 3, o_con 904 (vI 3), o_iadd 905, o_ald zshp 906 14, o_aload 907 0, o_iload 908 3, o_con 909 (vI 4), o_iadd 910, o_ald zshp 911 14, o_inv zshp 914 110 5 12 1 7],
  [o_bad, o_bad, o_icmpeq 917 995, o_bad, o_bad, o_con 918 (vI 0), o_zretm 550, o_aload 920 1, o_aload 921 0, o_iload 922 3, o_con 923 (vI 1), o_iadd 924, o_ald zshp 925 14, o_aload 926 0, o_iload 927 3, o_con 928 (vI 2)],
  [o_iadd 929, o_ald zshp 930 14, o_aload 931 0, o_iload 932 3, o_con 933 (vI 3), o_iadd 934, o_ald zshp 935 14, o_inv zshp 938 24 4 11 1 5, o_bad, o_bad, o_aload 939 2, o_aload 940 0, o_iload 941 3, o_con 942 (vI 1), o_iadd 943, o_ald zshp 944 14],
  [o_aload 945 0, o_iload 946 3, o_con 947 (vI 2), o_iadd 948, o_ald zshp 949 14, o_aload 950 0, o_iload 951 3, o_con 952 (vI 3), o_iadd 953, o_ald zshp 954 14, o_inv zshp 957 129 4 12 1 5, o_bad, o_bad, o_icmpeq 960 995, o_bad, o_bad],
  [o_con 961 (vI 0), o_zretm 550, o_aload 963 1, o_aload 964 0, o_iload 965 3, o_con 966 (vI 1), o_iadd 967, o_ald zshp 968 14, o_aload 969 0, o_iload 970 3, o_con 971 (vI 2), o_iadd 972, o_ald zshp 973 14, o_inv zshp 976 25 3 11 1 3, o_bad, o_bad],
  [o_aload 977 2, o_aload 978 0, o_iload 979 3, o_con 980 (vI 1), o_iadd 981, o_ald zshp 982 14, o_aload 983 0, o_iload 984 3, o_con 985 (vI 2), o_iadd 986, o_ald zshp 987 14, o_inv zshp 990 70 3 12 1 4, o_bad, o_bad, o_icmpeq 993 995, o_bad],
  [o_bad, o_con 994 (vI 0), o_zretm 550, o_iinc 998 3 6, o_bad, o_bad, o_goto 18, o_bad, o_bad, o_con 1002 (vI 1), o_zretm 550]]
/-- CallOpener.<init>()V -/
def k_1 : List (List zO) := [[o_aload 1 0, o_obj 4, o_bad, o_bad, o_aload 5 0, o_con 8 (vI 480), o_bad, o_bad, o_newa zshp 10 14 450 108204, o_bad, o_putF zshp 13 11 0, o_bad, o_bad, o_aload 14 0, o_con 15 (vI 3), o_newa zshp 17 14 450 108204],
  [o_bad, o_putF zshp 20 11 1, o_bad, o_bad, o_aload 21 0, o_con 24 (vR 4), o_bad, o_bad, o_clone zshp 27 450 108204, o_bad, o_bad, o_castk zshp 30, o_bad, o_bad, o_putF zshp 33 11 2, o_bad],
  [o_bad, o_aload 34 0, o_con 37 (vR 4), o_bad, o_bad, o_clone zshp 40 450 108204, o_bad, o_bad, o_castk zshp 43, o_bad, o_bad, o_putF zshp 46 11 3, o_bad, o_bad, o_aload 47 0, o_new zshp 50 6 2 450 108204],
  [o_bad, o_bad, o_dup 51, o_inw zshp 54 203 1 6 0 1 2 24 450 108204, o_bad, o_bad, o_putF zshp 57 11 4, o_bad, o_bad, o_aload 58 0, o_new zshp 61 2 7 450 108204, o_bad, o_bad, o_dup 62, o_inw zshp 65 164 1 2 0 1 8 25707 450 108204, o_bad],
  [o_bad, o_putF zshp 68 11 9, o_bad, o_bad, o_aload 69 0, o_con 70 (vI (-1)), o_putI zshp 73 11 14, o_bad, o_bad, o_aload 74 0, o_con 75 (vI (-1)), o_putI zshp 78 11 15, o_bad, o_bad, o_new zshp 81 7 17 450 108204, o_bad],
  [o_bad, o_dup 82, o_inw zshp 85 210 1 7 0 1 28 5938 450 108204, o_bad, o_bad, o_astore 86 1, o_aload 87 0, o_aload 88 1, o_putP zshp 91 11 11, o_bad, o_bad, o_aload 92 0, o_new zshp 95 7 17 450 108204, o_bad, o_bad, o_dup 96],
  [o_inw zshp 99 210 1 7 0 1 28 5938 450 108204, o_bad, o_bad, o_putP zshp 102 11 12, o_bad, o_bad, o_aload 103 0, o_new zshp 106 8 17 450 108204, o_bad, o_bad, o_dup 107, o_aload 108 1, o_inw zshp 111 220 2 8 0 2 9 1269 450 108204, o_bad, o_bad, o_putF zshp 114 11 5],
  [o_bad, o_bad, o_aload 115 0, o_new zshp 118 4 16 450 108204, o_bad, o_bad, o_dup 119, o_aload 120 1, o_inw zshp 123 185 2 4 0 2 14 6791 450 108204, o_bad, o_bad, o_putF zshp 126 11 6, o_bad, o_bad, o_aload 127 0, o_new zshp 130 10 14 450 108204],
  [o_bad, o_bad, o_dup 131, o_aload 132 1, o_inw zshp 135 261 2 10 0 3 324 5764 450 108204, o_bad, o_bad, o_putF zshp 138 11 7, o_bad, o_bad, o_aload 139 0, o_new zshp 142 9 4 450 108204, o_bad, o_bad, o_dup 143, o_aload 144 1],
  [o_inw zshp 147 254 2 9 0 2 14 4274 450 108204, o_bad, o_bad, o_putF zshp 150 11 8, o_bad, o_bad, o_aload 151 0, o_new zshp 154 0 13 450 108204, o_bad, o_bad, o_dup 155, o_aload 156 1, o_inw zshp 159 153 2 0 0 2 10 10193 450 108204, o_bad, o_bad, o_putF zshp 162 11 10],
  [o_bad, o_bad, o_retm 450]]
/-- CallOpener.feed(IIIII)I -/
def k_2 : List (List zO) := [[o_aload 1 0, o_getI zshp 4 11 13, o_bad, o_bad, o_con 6 (vI 20), o_bad, o_iadd 7, o_con 10 (vI 480), o_bad, o_bad, o_icmple 13 15, o_bad, o_bad, o_con 14 (vI (-1)), o_iret, o_aload 16 0],
  [o_iload 17 1, o_inv zshp 20 26 2 11 0 3, o_bad, o_bad, o_aload 21 0, o_iload 22 2, o_inv zshp 25 26 2 11 0 3, o_bad, o_bad, o_aload 26 0, o_iload 27 3, o_inv zshp 30 26 2 11 0 3, o_bad, o_bad, o_aload 31 0, o_iload 33 4],
  [o_bad, o_inv zshp 36 26 2 11 0 3, o_bad, o_bad, o_aload 37 0, o_iload 39 5, o_bad, o_inv zshp 42 26 2 11 0 3, o_bad, o_bad, o_aload 43 0, o_getI zshp 46 11 13, o_bad, o_bad, o_iret]]
/-- CallOpener.program(I)I -/
def k_3 : List (List zO) := [[o_iload 1 1, o_iflt 4 19, o_bad, o_bad, o_iload 5 1, o_con 8 (vI 400), o_bad, o_bad, o_icmpgt 11 19, o_bad, o_bad, o_iload 12 1, o_aload 13 0, o_getI zshp 16 11 13, o_bad, o_bad],
  [o_icmple 19 21, o_bad, o_bad, o_con 20 (vI (-1)), o_iret, o_aload 22 0, o_con 23 (vI 0), o_putI zshp 26 11 13, o_bad, o_bad, o_aload 27 0, o_getF zshp 30 11 5, o_bad, o_bad, o_aload 31 0, o_getF zshp 34 11 0],
  [o_bad, o_bad, o_iload 35 1, o_aload 36 0, o_getP zshp 39 11 12, o_bad, o_bad, o_inv zshp 42 221 4 8 1 6, o_bad, o_bad, o_istore 43 2, o_iload 44 2, o_ifeq 47 49, o_bad, o_bad, o_iload 48 2],
  [o_iret, o_aload 50 0, o_getP zshp 53 11 11, o_bad, o_bad, o_astore 54 3, o_aload 55 0, o_aload 56 0, o_getP zshp 59 11 12, o_bad, o_bad, o_putP zshp 62 11 11, o_bad, o_bad, o_aload 63 0, o_aload 64 3],
  [o_putP zshp 67 11 12, o_bad, o_bad, o_aload 68 0, o_getF zshp 71 11 4, o_bad, o_bad, o_inv zshp 74 204 1 6 0 1, o_bad, o_bad, o_aload 75 0, o_inv zshp 78 30 1 11 0 1, o_bad, o_bad, o_aload 79 0, o_getP zshp 82 11 11],
  [o_bad, o_bad, o_getI zshp 85 7 0, o_bad, o_bad, o_iret]]
/-- CallOpener.count(I)I -/
def k_4 : List (List zO) := [[o_iload 1 1, o_sw [(0, 40), (1, 48), (2, 59), (3, 67), (4, 72), (5, 80)] 88, o_bad, o_bad, o_bad, o_bad, o_bad, o_bad, o_bad, o_bad, o_bad, o_bad, o_bad, o_bad, o_bad, o_bad],
  [o_bad, o_bad, o_bad, o_bad, o_bad, o_bad, o_bad, o_bad, o_bad, o_bad, o_bad, o_bad, o_bad, o_bad, o_bad, o_bad],
  [o_bad, o_bad, o_bad, o_bad, o_bad, o_bad, o_bad, o_bad, o_aload 41 0, o_getP zshp 44 11 11, o_bad, o_bad, o_getI zshp 47 7 0, o_bad, o_bad, o_iret],
  [o_aload 49 0, o_getP zshp 52 11 11, o_bad, o_bad, o_getF zshp 55 7 16, o_bad, o_bad, o_getI zshp 58 3 13, o_bad, o_bad, o_iret, o_aload 60 0, o_getP zshp 63 11 11, o_bad, o_bad, o_getI zshp 66 7 1],
  [o_bad, o_bad, o_iret, o_aload 68 0, o_getI zshp 71 11 13, o_bad, o_bad, o_iret, o_aload 73 0, o_getF zshp 76 11 4, o_bad, o_bad, o_inv zshp 79 206 1 6 1 1, o_bad, o_bad, o_iret],
  [o_aload 81 0, o_getF zshp 84 11 4, o_bad, o_bad, o_inv zshp 87 207 1 6 1 1, o_bad, o_bad, o_iret, o_con 89 (vI (-1)), o_iret]]
/-- CallOpener.function(II)I -/
def k_5 : List (List zO) := [[o_aload 1 0, o_iload 2 1, o_inv zshp 5 27 2 11 1 2, o_bad, o_bad, o_ifne 8 10, o_bad, o_bad, o_con 9 (vI (-1)), o_iret, o_iload 11 2, o_sw [(0, 60), (1, 70), (2, 80), (3, 90), (4, 100), (5, 110), (6, 120), (7, 137), (8, 154)] 164, o_bad, o_bad, o_bad, o_bad],
  [o_bad, o_bad, o_bad, o_bad, o_bad, o_bad, o_bad, o_bad, o_bad, o_bad, o_bad, o_bad, o_bad, o_bad, o_bad, o_bad],
  [o_bad, o_bad, o_bad, o_bad, o_bad, o_bad, o_bad, o_bad, o_bad, o_bad, o_bad, o_bad, o_bad, o_bad, o_bad, o_bad],
  [o_bad, o_bad, o_bad, o_bad, o_bad, o_bad, o_bad, o_bad, o_bad, o_bad, o_bad, o_bad, o_aload 61 0, o_getP zshp 64 11 11, o_bad, o_bad],
  [o_getF zshp 67 7 4, o_bad, o_bad, o_iload 68 1, o_ald zshp 69 14, o_iret, o_aload 71 0, o_getP zshp 74 11 11, o_bad, o_bad, o_getF zshp 77 7 5, o_bad, o_bad, o_iload 78 1, o_ald zshp 79 14, o_iret],
  [o_aload 81 0, o_getP zshp 84 11 11, o_bad, o_bad, o_getF zshp 87 7 7, o_bad, o_bad, o_iload 88 1, o_ald zshp 89 14, o_iret, o_aload 91 0, o_getP zshp 94 11 11, o_bad, o_bad, o_getF zshp 97 7 9, o_bad],
  [o_bad, o_iload 98 1, o_ald zshp 99 14, o_iret, o_aload 101 0, o_getF zshp 104 11 4, o_bad, o_bad, o_getF zshp 107 6 0, o_bad, o_bad, o_iload 108 1, o_ald zshp 109 14, o_iret, o_aload 111 0, o_getP zshp 114 11 11],
  [o_bad, o_bad, o_getF zshp 117 7 11, o_bad, o_bad, o_iload 118 1, o_ald zshp 119 14, o_iret, o_aload 121 0, o_getP zshp 124 11 11, o_bad, o_bad, o_iload 125 1, o_inv zshp 128 214 2 7 1 2, o_bad, o_bad],
  [o_ifeq 131 135, o_bad, o_bad, o_con 132 (vI 1), o_goto 136, o_bad, o_bad, o_con 136 (vI 0), o_iret, o_aload 138 0, o_getP zshp 141 11 11, o_bad, o_bad, o_iload 142 1, o_inv zshp 145 216 2 7 1 5, o_bad],
  [o_bad, o_ifeq 148 152, o_bad, o_bad, o_con 149 (vI 1), o_goto 153, o_bad, o_bad, o_con 153 (vI 0), o_iret, o_aload 155 0, o_getP zshp 158 11 11, o_bad, o_bad, o_getF zshp 161 7 3, o_bad],
  [o_bad, o_iload 162 1, o_ald zshp 163 14, o_iret, o_aload 165 0, o_getP zshp 168 11 11, o_bad, o_bad, o_iload 169 1, o_iload 170 2, o_inv zshp 173 213 3 7 1 4, o_bad, o_bad, o_iret]]
/-- CallOpener.site(II)I -/
def k_6 : List (List zO) := [[o_aload 1 0, o_iload 2 1, o_inv zshp 5 28 2 11 1 2, o_bad, o_bad, o_ifne 8 10, o_bad, o_bad, o_con 9 (vI (-1)), o_iret, o_aload 11 0, o_getP zshp 14 11 11, o_bad, o_bad, o_getF zshp 17 7 14, o_bad],
  [o_bad, o_iload 18 1, o_ald zshp 19 14, o_istore 20 3, o_iload 21 2, o_sw [(0, 64), (1, 74), (2, 84), (3, 94), (4, 108), (5, 122), (6, 124)] 137, o_bad, o_bad, o_bad, o_bad, o_bad, o_bad, o_bad, o_bad, o_bad, o_bad],
  [o_bad, o_bad, o_bad, o_bad, o_bad, o_bad, o_bad, o_bad, o_bad, o_bad, o_bad, o_bad, o_bad, o_bad, o_bad, o_bad],
  [o_bad, o_bad, o_bad, o_bad, o_bad, o_bad, o_bad, o_bad, o_bad, o_bad, o_bad, o_bad, o_bad, o_bad, o_bad, o_bad],
  [o_aload 65 0, o_getP zshp 68 11 11, o_bad, o_bad, o_getF zshp 71 7 12, o_bad, o_bad, o_iload 72 1, o_ald zshp 73 14, o_iret, o_aload 75 0, o_getP zshp 78 11 11, o_bad, o_bad, o_getF zshp 81 7 13, o_bad],
  [o_bad, o_iload 82 1, o_ald zshp 83 14, o_iret, o_aload 85 0, o_getF zshp 88 11 4, o_bad, o_bad, o_getF zshp 91 6 1, o_bad, o_bad, o_iload 92 1, o_ald zshp 93 14, o_iret, o_aload 95 0, o_getP zshp 98 11 11],
  [o_bad, o_bad, o_getF zshp 101 7 16, o_bad, o_bad, o_iload 102 3, o_con 104 (vI 8), o_bad, o_inv zshp 107 184 3 3 1 6, o_bad, o_bad, o_iret, o_aload 109 0, o_getP zshp 112 11 11, o_bad, o_bad],
  [o_getF zshp 115 7 16, o_bad, o_bad, o_iload 116 3, o_con 118 (vI 7), o_bad, o_inv zshp 121 184 3 3 1 6, o_bad, o_bad, o_iret, o_iload 123 3, o_iret, o_aload 125 0, o_getP zshp 128 11 11, o_bad, o_bad],
  [o_getF zshp 131 7 16, o_bad, o_bad, o_getF zshp 134 3 1, o_bad, o_bad, o_iload 135 3, o_ald zshp 136 14, o_iret, o_con 138 (vI (-1)), o_iret]]
/-- CallOpener.argument(II)I -/
def k_7 : List (List zO) := [[o_iload 1 1, o_iflt 4 9, o_bad, o_bad, o_iload 5 1, o_con 6 (vI 3), o_icmplt 9 12, o_bad, o_bad, o_con 11 (vI (-2147483648)), o_bad, o_iret, o_aload 13 0, o_getF zshp 16 11 1, o_bad, o_bad],
  [o_iload 17 1, o_ald zshp 18 14, o_istore 19 3, o_aload 20 0, o_getF zshp 23 11 1, o_bad, o_bad, o_iload 24 1, o_iload 25 2, o_iast zshp 26, o_iload 27 3, o_iret]]
/-- CallOpener.run(II)I -/
def k_8 : List (List zO) := [[o_aload 1 0, o_iload 2 1, o_inv zshp 5 27 2 11 1 2, o_bad, o_bad, o_ifeq 8 17, o_bad, o_bad, o_iload 9 2, o_iflt 12 17, o_bad, o_bad, o_iload 13 2, o_con 14 (vI 5), o_icmplt 17 20, o_bad],
  [o_bad, o_con 19 (vI (-2147483648)), o_bad, o_iret, o_aload 21 0, o_getF zshp 24 11 6, o_bad, o_bad, o_aload 25 0, o_getP zshp 28 11 11, o_bad, o_bad, o_iload 29 1, o_aload 30 0, o_getF zshp 33 11 1, o_bad],
  [o_bad, o_aload 34 0, o_getF zshp 37 11 2, o_bad, o_bad, o_con 38 (vI 1), o_ald zshp 39 14, o_inv zshp 42 186 5 4 0 5, o_bad, o_bad, o_aload 43 0, o_getF zshp 46 11 6, o_bad, o_bad, o_getF zshp 49 4 0, o_bad],
  [o_bad, o_iload 50 2, o_ald zshp 51 14, o_iret]]
/-- CallOpener.counted(I)I -/
def k_9 : List (List zO) := [[o_aload 1 0, o_iload 2 1, o_inv zshp 5 27 2 11 1 2, o_bad, o_bad, o_ifne 8 10, o_bad, o_bad, o_con 9 (vI (-1)), o_iret, o_aload 11 0, o_getF zshp 14 11 6, o_bad, o_bad, o_aload 15 0, o_getP zshp 18 11 11],
  [o_bad, o_bad, o_iload 19 1, o_aload 20 0, o_getF zshp 23 11 1, o_bad, o_bad, o_aload 24 0, o_getF zshp 27 11 2, o_bad, o_bad, o_con 28 (vI 1), o_ald zshp 29 14, o_inv zshp 32 186 5 4 0 5, o_bad, o_bad],
  [o_aload 33 0, o_getF zshp 36 11 6, o_bad, o_bad, o_getF zshp 39 4 0, o_bad, o_bad, o_con 40 (vI 0), o_ald zshp 41 14, o_istore 42 2, o_iload 43 2, o_ifne 46 71, o_bad, o_bad, o_aload 47 0, o_getF zshp 50 11 4],
  [o_bad, o_bad, o_aload 51 0, o_getF zshp 54 11 6, o_bad, o_bad, o_getF zshp 57 4 1, o_bad, o_bad, o_aload 58 0, o_getF zshp 61 11 6, o_bad, o_bad, o_getF zshp 64 4 2, o_bad, o_bad],
  [o_inv zshp 67 205 3 6 0 4, o_bad, o_bad, o_aload 68 0, o_inv zshp 71 30 1 11 0 1, o_bad, o_bad, o_iload 72 2, o_iret]]
/-- CallOpener.forget()I -/
def k_10 : List (List zO) := [[o_aload 1 0, o_getF zshp 4 11 4, o_bad, o_bad, o_inv zshp 7 206 1 6 1 1, o_bad, o_bad, o_istore 8 1, o_aload 9 0, o_getF zshp 12 11 4, o_bad, o_bad, o_inv zshp 15 204 1 6 0 1, o_bad, o_bad, o_aload 16 0],
  [o_inv zshp 19 30 1 11 0 1, o_bad, o_bad, o_iload 20 1, o_iret]]
/-- CallOpener.set(II)I -/
def k_11 : List (List zO) := [[o_iload 1 1, o_iload 2 2, o_inv zshp 5 29 2 99 1 2, o_bad, o_bad, o_ifne 8 10, o_bad, o_bad, o_con 9 (vI (-1)), o_iret, o_aload 11 0, o_getF zshp 14 11 2, o_bad, o_bad, o_iload 15 1, o_ald zshp 16 14],
  [o_istore 17 3, o_aload 18 0, o_getF zshp 21 11 2, o_bad, o_bad, o_iload 22 1, o_iload 23 2, o_iast zshp 24, o_aload 25 0, o_inv zshp 28 30 1 11 0 1, o_bad, o_bad, o_iload 29 3, o_iret]]
/-- CallOpener.tree(II)I -/
def k_12 : List (List zO) := [[o_aload 1 0, o_iload 2 1, o_inv zshp 5 31 2 11 1 2, o_bad, o_bad, o_ifeq 8 19, o_bad, o_bad, o_aload 9 0, o_getF zshp 12 11 7, o_bad, o_bad, o_iload 13 2, o_inv zshp 16 263 2 10 1 2, o_bad, o_bad],
  [o_goto 20, o_bad, o_bad, o_con 20 (vI (-1)), o_iret]]
/-- CallOpener.gain(IZ)J -/
def k_13 : List (List zO) := [[o_aload 1 0, o_iload 2 1, o_inv zshp 5 31 2 11 1 2, o_bad, o_bad, o_ifne 8 12, o_bad, o_bad, o_con 11 (vJ (-9223372036854775808)), o_bad, o_bad, o_lret, o_iload 13 2, o_ifeq 16 26, o_bad, o_bad],
  [o_aload 17 0, o_getF zshp 20 11 7, o_bad, o_bad, o_getJ zshp 23 10 5, o_bad, o_bad, o_goto 38, o_bad, o_bad, o_aload 27 0, o_getF zshp 30 11 7, o_bad, o_bad, o_getF zshp 33 10 0, o_bad],
  [o_bad, o_con 34 (vI 0), o_aald zshp 35, o_getJ zshp 38 1 14, o_bad, o_bad, o_lret]]
/-- CallOpener.node(III)I -/
def k_14 : List (List zO) := [[o_aload 1 0, o_iload 2 1, o_inv zshp 5 31 2 11 1 2, o_bad, o_bad, o_ifeq 8 23, o_bad, o_bad, o_iload 9 2, o_iflt 12 23, o_bad, o_bad, o_iload 13 2, o_aload 14 0, o_getF zshp 17 11 7, o_bad],
  [o_bad, o_getI zshp 20 10 3, o_bad, o_bad, o_icmplt 23 25, o_bad, o_bad, o_con 24 (vI (-1)), o_iret, o_aload 26 0, o_getF zshp 29 11 7, o_bad, o_bad, o_getF zshp 32 10 0, o_bad, o_bad],
  [o_aload 33 0, o_getF zshp 36 11 7, o_bad, o_bad, o_getF zshp 39 10 1, o_bad, o_bad, o_iload 40 2, o_ald zshp 41 14, o_aald zshp 42, o_astore 44 4, o_bad, o_iload 45 3, o_sw [(0, 84), (1, 90), (2, 96), (3, 126), (4, 132), (5, 138)] 144, o_bad, o_bad],
  [o_bad, o_bad, o_bad, o_bad, o_bad, o_bad, o_bad, o_bad, o_bad, o_bad, o_bad, o_bad, o_bad, o_bad, o_bad, o_bad],
  [o_bad, o_bad, o_bad, o_bad, o_bad, o_bad, o_bad, o_bad, o_bad, o_bad, o_bad, o_bad, o_bad, o_bad, o_bad, o_bad],
  [o_bad, o_bad, o_bad, o_bad, o_aload 86 4, o_bad, o_getI zshp 89 1 0, o_bad, o_bad, o_iret, o_aload 92 4, o_bad, o_getI zshp 95 1 1, o_bad, o_bad, o_iret],
  [o_aload 98 4, o_bad, o_getI zshp 101 1 2, o_bad, o_bad, o_ifge 104 109, o_bad, o_bad, o_con 106 (vI (-2)), o_bad, o_goto 125, o_bad, o_bad, o_aload 110 0, o_getF zshp 113 11 7, o_bad],
  [o_bad, o_getF zshp 116 10 0, o_bad, o_bad, o_aload 118 4, o_bad, o_getI zshp 121 1 2, o_bad, o_bad, o_aald zshp 122, o_getI zshp 125 1 11, o_bad, o_bad, o_iret, o_aload 128 4, o_bad],
  [o_getI zshp 131 1 3, o_bad, o_bad, o_iret, o_aload 134 4, o_bad, o_getI zshp 137 1 4, o_bad, o_bad, o_iret, o_aload 140 4, o_bad, o_getI zshp 143 1 12, o_bad, o_bad, o_iret],
  [o_con 145 (vI (-1)), o_iret]]
/-- CallOpener.worth(III)J -/
def k_15 : List (List zO) := [[o_aload 1 0, o_iload 2 1, o_inv zshp 5 31 2 11 1 2, o_bad, o_bad, o_ifeq 8 23, o_bad, o_bad, o_iload 9 2, o_iflt 12 23, o_bad, o_bad, o_iload 13 2, o_aload 14 0, o_getF zshp 17 11 7, o_bad],
  [o_bad, o_getI zshp 20 10 3, o_bad, o_bad, o_icmplt 23 27, o_bad, o_bad, o_con 26 (vJ (-9223372036854775808)), o_bad, o_bad, o_lret, o_aload 28 0, o_getF zshp 31 11 7, o_bad, o_bad, o_getF zshp 34 10 0],
  [o_bad, o_bad, o_aload 35 0, o_getF zshp 38 11 7, o_bad, o_bad, o_getF zshp 41 10 1, o_bad, o_bad, o_iload 42 2, o_ald zshp 43 14, o_aald zshp 44, o_astore 46 4, o_bad, o_iload 47 3, o_sw [(0, 76), (1, 82), (2, 88), (3, 94)] 100],
  [o_bad, o_bad, o_bad, o_bad, o_bad, o_bad, o_bad, o_bad, o_bad, o_bad, o_bad, o_bad, o_bad, o_bad, o_bad, o_bad],
  [o_bad, o_bad, o_bad, o_bad, o_bad, o_bad, o_bad, o_bad, o_bad, o_bad, o_bad, o_bad, o_aload 78 4, o_bad, o_getJ zshp 81 1 8, o_bad],
  [o_bad, o_lret, o_aload 84 4, o_bad, o_getJ zshp 87 1 9, o_bad, o_bad, o_lret, o_aload 90 4, o_bad, o_getJ zshp 93 1 10, o_bad, o_bad, o_lret, o_aload 96 4, o_bad],
  [o_getJ zshp 99 1 14, o_bad, o_bad, o_lret, o_con 103 (vJ (-9223372036854775808)), o_bad, o_bad, o_lret]]
/-- CallOpener.opened(II)I -/
def k_16 : List (List zO) := [[o_aload 1 0, o_iload 2 2, o_inv zshp 5 28 2 11 1 2, o_bad, o_bad, o_ifeq 8 16, o_bad, o_bad, o_aload 9 0, o_iload 10 1, o_inv zshp 13 31 2 11 1 2, o_bad, o_bad, o_ifne 16 18, o_bad, o_bad],
  [o_con 17 (vI (-1)), o_iret, o_con 19 (vI 0), o_istore 20 3, o_con 21 (vI 1), o_istore 23 4, o_bad, o_iload 25 4, o_bad, o_aload 26 0, o_getF zshp 29 11 7, o_bad, o_bad, o_getI zshp 32 10 3, o_bad, o_bad],
  [o_icmpge 35 69, o_bad, o_bad, o_aload 36 0, o_getF zshp 39 11 7, o_bad, o_bad, o_getF zshp 42 10 0, o_bad, o_bad, o_aload 43 0, o_getF zshp 46 11 7, o_bad, o_bad, o_getF zshp 49 10 1, o_bad],
  [o_bad, o_iload 51 4, o_bad, o_ald zshp 52 14, o_aald zshp 53, o_getI zshp 56 1 0, o_bad, o_bad, o_iload 57 2, o_icmpne 60 63, o_bad, o_bad, o_iinc 63 3 1, o_bad, o_bad, o_iinc 66 4 1],
  [o_bad, o_bad, o_goto 23, o_bad, o_bad, o_iload 70 3, o_iret]]
/-- CallOpener.result(II)I -/
def k_17 : List (List zO) := [[o_aload 1 0, o_iload 2 1, o_inv zshp 5 31 2 11 1 2, o_bad, o_bad, o_ifne 8 10, o_bad, o_bad, o_con 9 (vI (-1)), o_iret, o_aload 11 0, o_inv zshp 14 32 1 11 0 1, o_bad, o_bad, o_iload 15 2, o_sw [(0, 44), (1, 55), (2, 63), (3, 71)] 79],
  [o_bad, o_bad, o_bad, o_bad, o_bad, o_bad, o_bad, o_bad, o_bad, o_bad, o_bad, o_bad, o_bad, o_bad, o_bad, o_bad],
  [o_bad, o_bad, o_bad, o_bad, o_bad, o_bad, o_bad, o_bad, o_bad, o_bad, o_bad, o_bad, o_aload 45 0, o_getF zshp 48 11 8, o_bad, o_bad],
  [o_getF zshp 51 9 0, o_bad, o_bad, o_getI zshp 54 3 13, o_bad, o_bad, o_iret, o_aload 56 0, o_getF zshp 59 11 8, o_bad, o_bad, o_getI zshp 62 9 1, o_bad, o_bad, o_iret, o_aload 64 0],
  [o_getF zshp 67 11 7, o_bad, o_bad, o_getI zshp 70 10 4, o_bad, o_bad, o_iret, o_aload 72 0, o_getF zshp 75 11 8, o_bad, o_bad, o_getI zshp 78 9 2, o_bad, o_bad, o_iret, o_con 80 (vI (-1))],
  [o_iret]]
/-- CallOpener.line(III)I -/
def k_18 : List (List zO) := [[o_aload 1 0, o_iload 2 1, o_inv zshp 5 31 2 11 1 2, o_bad, o_bad, o_ifne 8 10, o_bad, o_bad, o_con 9 (vI (-1)), o_iret, o_aload 11 0, o_inv zshp 14 32 1 11 0 1, o_bad, o_bad, o_iload 15 2, o_iflt 18 32],
  [o_bad, o_bad, o_iload 19 2, o_aload 20 0, o_getF zshp 23 11 8, o_bad, o_bad, o_getF zshp 26 9 0, o_bad, o_bad, o_getI zshp 29 3 13, o_bad, o_bad, o_icmplt 32 34, o_bad, o_bad],
  [o_con 33 (vI (-1)), o_iret, o_aload 35 0, o_getF zshp 38 11 8, o_bad, o_bad, o_getF zshp 41 9 0, o_bad, o_bad, o_astore 43 4, o_bad, o_iload 44 3, o_sw [(0, 92), (1, 100), (2, 108), (3, 116), (4, 124), (5, 132), (6, 167), (7, 175)] 183, o_bad, o_bad, o_bad],
  [o_bad, o_bad, o_bad, o_bad, o_bad, o_bad, o_bad, o_bad, o_bad, o_bad, o_bad, o_bad, o_bad, o_bad, o_bad, o_bad],
  [o_bad, o_bad, o_bad, o_bad, o_bad, o_bad, o_bad, o_bad, o_bad, o_bad, o_bad, o_bad, o_bad, o_bad, o_bad, o_bad],
  [o_bad, o_bad, o_bad, o_bad, o_bad, o_bad, o_bad, o_bad, o_bad, o_bad, o_bad, o_bad, o_aload 94 4, o_bad, o_getF zshp 97 3 0, o_bad],
  [o_bad, o_iload 98 2, o_ald zshp 99 14, o_iret, o_aload 102 4, o_bad, o_getF zshp 105 3 1, o_bad, o_bad, o_iload 106 2, o_ald zshp 107 14, o_iret, o_aload 110 4, o_bad, o_getF zshp 113 3 2, o_bad],
  [o_bad, o_iload 114 2, o_ald zshp 115 14, o_iret, o_aload 118 4, o_bad, o_getF zshp 121 3 3, o_bad, o_bad, o_iload 122 2, o_ald zshp 123 14, o_iret, o_aload 126 4, o_bad, o_getF zshp 129 3 4, o_bad],
  [o_bad, o_iload 130 2, o_ald zshp 131 14, o_iret, o_aload 133 0, o_aload 135 4, o_bad, o_getF zshp 138 3 5, o_bad, o_bad, o_iload 139 2, o_ald zshp 140 14, o_inv zshp 143 28 2 11 1 2, o_bad, o_bad, o_ifeq 146 164],
  [o_bad, o_bad, o_aload 147 0, o_getP zshp 150 11 11, o_bad, o_bad, o_getF zshp 153 7 13, o_bad, o_bad, o_aload 155 4, o_bad, o_getF zshp 158 3 5, o_bad, o_bad, o_iload 159 2, o_ald zshp 160 14],
  [o_ald zshp 161 14, o_goto 166, o_bad, o_bad, o_con 166 (vI (-2)), o_bad, o_iret, o_aload 169 4, o_bad, o_getF zshp 172 3 6, o_bad, o_bad, o_iload 173 2, o_ald zshp 174 14, o_iret, o_aload 177 4],
  [o_bad, o_getF zshp 180 3 8, o_bad, o_bad, o_iload 181 2, o_ald zshp 182 14, o_iret, o_con 184 (vI (-1)), o_iret]]
/-- CallOpener.after(II)I -/
def k_19 : List (List zO) := [[o_iload 1 2, o_iflt 4 17, o_bad, o_bad, o_iload 5 2, o_con 6 (vI 5), o_icmpge 9 17, o_bad, o_bad, o_aload 10 0, o_iload 11 1, o_inv zshp 14 31 2 11 1 2, o_bad, o_bad, o_ifne 17 20, o_bad],
  [o_bad, o_con 19 (vI (-2147483648)), o_bad, o_iret, o_aload 21 0, o_inv zshp 24 32 1 11 0 1, o_bad, o_bad, o_aload 25 0, o_getF zshp 28 11 6, o_bad, o_bad, o_aload 29 0, o_getP zshp 32 11 11, o_bad, o_bad],
  [o_aload 33 0, o_getF zshp 36 11 8, o_bad, o_bad, o_aload 37 0, o_getF zshp 40 11 1, o_bad, o_bad, o_aload 41 0, o_getF zshp 44 11 2, o_bad, o_bad, o_con 45 (vI 1), o_ald zshp 46 14, o_inv zshp 49 187 5 4 0 5, o_bad],
  [o_bad, o_aload 50 0, o_getF zshp 53 11 6, o_bad, o_bad, o_getF zshp 56 4 0, o_bad, o_bad, o_iload 57 2, o_ald zshp 58 14, o_iret]]
/-- CallOpener.saved(I)I -/
def k_20 : List (List zO) := [[o_aload 1 0, o_iload 2 1, o_inv zshp 5 31 2 11 1 2, o_bad, o_bad, o_ifne 8 11, o_bad, o_bad, o_con 10 (vI (-2147483648)), o_bad, o_iret, o_aload 12 0, o_inv zshp 15 32 1 11 0 1, o_bad, o_bad, o_aload 16 0],
  [o_getF zshp 19 11 6, o_bad, o_bad, o_aload 20 0, o_getP zshp 23 11 11, o_bad, o_bad, o_iload 24 1, o_aload 25 0, o_getF zshp 28 11 1, o_bad, o_bad, o_aload 29 0, o_getF zshp 32 11 2, o_bad, o_bad],
  [o_con 33 (vI 1), o_ald zshp 34 14, o_inv zshp 37 186 5 4 0 5, o_bad, o_bad, o_aload 38 0, o_getF zshp 41 11 6, o_bad, o_bad, o_getF zshp 44 4 0, o_bad, o_bad, o_con 45 (vI 0), o_ald zshp 46 14, o_istore 47 2, o_aload 48 0],
  [o_getF zshp 51 11 6, o_bad, o_bad, o_getF zshp 54 4 0, o_bad, o_bad, o_con 55 (vI 2), o_ald zshp 56 14, o_istore 57 3, o_aload 58 0, o_getF zshp 61 11 6, o_bad, o_bad, o_aload 62 0, o_getP zshp 65 11 11, o_bad],
  [o_bad, o_aload 66 0, o_getF zshp 69 11 8, o_bad, o_bad, o_aload 70 0, o_getF zshp 73 11 1, o_bad, o_bad, o_aload 74 0, o_getF zshp 77 11 2, o_bad, o_bad, o_con 78 (vI 1), o_ald zshp 79 14, o_inv zshp 82 187 5 4 0 5],
  [o_bad, o_bad, o_iload 83 2, o_ifne 86 98, o_bad, o_bad, o_aload 87 0, o_getF zshp 90 11 6, o_bad, o_bad, o_getF zshp 93 4 0, o_bad, o_bad, o_con 94 (vI 0), o_ald zshp 95 14, o_ifeq 98 101],
  [o_bad, o_bad, o_con 100 (vI (-2147483648)), o_bad, o_iret, o_iload 102 3, o_aload 103 0, o_getF zshp 106 11 6, o_bad, o_bad, o_getF zshp 109 4 0, o_bad, o_bad, o_con 110 (vI 2), o_ald zshp 111 14, o_isub 112],
  [o_iret]]
/-- CallOpener.folded(II)I -/
def k_21 : List (List zO) := [[o_iload 1 2, o_iflt 4 18, o_bad, o_bad, o_iload 5 2, o_con 7 (vI 6), o_bad, o_icmpge 10 18, o_bad, o_bad, o_aload 11 0, o_iload 12 1, o_inv zshp 15 31 2 11 1 2, o_bad, o_bad, o_ifne 18 21],
  [o_bad, o_bad, o_con 20 (vI (-2147483648)), o_bad, o_iret, o_aload 22 0, o_inv zshp 25 32 1 11 0 1, o_bad, o_bad, o_aload 26 0, o_getF zshp 29 11 9, o_bad, o_bad, o_aload 30 0, o_getF zshp 33 11 8, o_bad],
  [o_bad, o_getF zshp 36 9 0, o_bad, o_bad, o_aload 37 0, o_getF zshp 40 11 8, o_bad, o_bad, o_getI zshp 43 9 1, o_bad, o_bad, o_aload 44 0, o_getF zshp 47 11 8, o_bad, o_bad, o_getI zshp 50 9 2],
  [o_bad, o_bad, o_inv zshp 53 165 4 2 0 5, o_bad, o_bad, o_aload 54 0, o_getF zshp 57 11 9, o_bad, o_bad, o_getF zshp 60 2 0, o_bad, o_bad, o_iload 61 2, o_ald zshp 62 14, o_iret]]
/-- CallOpener.best(III)J -/
def k_22 : List (List zO) := [[o_aload 1 0, o_iload 2 1, o_inv zshp 5 27 2 11 1 2, o_bad, o_bad, o_ifeq 8 19, o_bad, o_bad, o_iload 9 2, o_iflt 12 19, o_bad, o_bad, o_iload 13 2, o_con 16 (vI 300), o_bad, o_bad],
  [o_icmple 19 23, o_bad, o_bad, o_con 22 (vJ (-9223372036854775808)), o_bad, o_bad, o_lret, o_aload 24 0, o_getF zshp 27 11 10, o_bad, o_bad, o_aload 28 0, o_getP zshp 31 11 11, o_bad, o_bad, o_aload 32 0],
  [o_getF zshp 35 11 4, o_bad, o_bad, o_aload 36 0, o_getF zshp 39 11 2, o_bad, o_bad, o_iload 40 1, o_inv zshp 43 154 5 0 0 6, o_bad, o_bad, o_iload 44 3, o_sw [(0, 72), (1, 81), (2, 91)] 100, o_bad, o_bad, o_bad],
  [o_bad, o_bad, o_bad, o_bad, o_bad, o_bad, o_bad, o_bad, o_bad, o_bad, o_bad, o_bad, o_bad, o_bad, o_bad, o_bad],
  [o_bad, o_bad, o_bad, o_bad, o_bad, o_bad, o_bad, o_bad, o_aload 73 0, o_getF zshp 76 11 10, o_bad, o_bad, o_iload 77 2, o_inv zshp 80 157 2 0 2 2, o_bad, o_bad],
  [o_lret, o_aload 82 0, o_getF zshp 85 11 10, o_bad, o_bad, o_iload 86 2, o_inv zshp 89 158 2 0 1 3, o_bad, o_bad, o_i2l 90, o_lret, o_aload 92 0, o_getF zshp 95 11 10, o_bad, o_bad, o_getI zshp 98 0 0],
  [o_bad, o_bad, o_i2l 99, o_lret, o_con 103 (vJ (-9223372036854775808)), o_bad, o_bad, o_lret]]
/-- CallOpener.would(IIII)I -/
def k_23 : List (List zO) := [[o_aload 1 0, o_iload 2 1, o_inv zshp 5 27 2 11 1 2, o_bad, o_bad, o_ifeq 8 16, o_bad, o_bad, o_iload 9 2, o_iload 10 3, o_inv zshp 13 29 2 99 1 2, o_bad, o_bad, o_ifne 16 18, o_bad, o_bad],
  [o_con 17 (vI (-1)), o_iret, o_aload 19 0, o_getF zshp 22 11 2, o_bad, o_bad, o_con 23 (vI 0), o_aload 24 0, o_getF zshp 27 11 3, o_bad, o_bad, o_con 28 (vI 0), o_aload 29 0, o_getF zshp 32 11 2, o_bad, o_bad],
  [o_alen zshp 33 14, o_acpw zshp 36 14, o_bad, o_bad, o_aload 37 0, o_getF zshp 40 11 3, o_bad, o_bad, o_iload 41 2, o_iload 42 3, o_iast zshp 43, o_aload 44 0, o_getF zshp 47 11 7, o_bad, o_bad, o_aload 48 0],
  [o_getP zshp 51 11 11, o_bad, o_bad, o_aload 52 0, o_getF zshp 55 11 4, o_bad, o_bad, o_aload 56 0, o_getF zshp 59 11 3, o_bad, o_bad, o_iload 60 1, o_inv zshp 63 262 5 10 0 5, o_bad, o_bad, o_aload 64 0],
  [o_inv zshp 67 30 1 11 0 1, o_bad, o_bad, o_aload 68 0, o_getF zshp 71 11 7, o_bad, o_bad, o_iload 73 4, o_bad, o_inv zshp 76 263 2 10 1 2, o_bad, o_bad, o_iret]]
/-- CallOpener.left(III)I -/
def k_24 : List (List zO) := [[o_aload 1 0, o_iload 2 1, o_inv zshp 5 31 2 11 1 2, o_bad, o_bad, o_ifeq 8 23, o_bad, o_bad, o_iload 9 2, o_iflt 12 23, o_bad, o_bad, o_iload 13 2, o_aload 14 0, o_getF zshp 17 11 7, o_bad],
  [o_bad, o_getI zshp 20 10 4, o_bad, o_bad, o_icmplt 23 25, o_bad, o_bad, o_con 24 (vI (-1)), o_iret, o_aload 26 0, o_getF zshp 29 11 7, o_bad, o_bad, o_getF zshp 32 10 0, o_bad, o_bad],
  [o_aload 33 0, o_getF zshp 36 11 7, o_bad, o_bad, o_getF zshp 39 10 2, o_bad, o_bad, o_iload 40 2, o_ald zshp 41 14, o_aald zshp 42, o_astore 44 4, o_bad, o_iload 45 3, o_sw [(0, 72), (1, 78), (2, 84)] 101, o_bad, o_bad],
  [o_bad, o_bad, o_bad, o_bad, o_bad, o_bad, o_bad, o_bad, o_bad, o_bad, o_bad, o_bad, o_bad, o_bad, o_bad, o_bad],
  [o_bad, o_bad, o_bad, o_bad, o_bad, o_bad, o_bad, o_bad, o_aload 74 4, o_bad, o_getI zshp 77 1 0, o_bad, o_bad, o_iret, o_aload 80 4, o_bad],
  [o_inv zshp 83 163 1 1 1 1, o_bad, o_bad, o_iret, o_aload 85 0, o_getF zshp 88 11 7, o_bad, o_bad, o_getF zshp 91 10 0, o_bad, o_bad, o_aload 93 4, o_bad, o_getI zshp 96 1 2, o_bad, o_bad],
  [o_aald zshp 97, o_getI zshp 100 1 11, o_bad, o_bad, o_iret, o_con 102 (vI (-1)), o_iret]]
/-- CallOpener.swap(II)I -/
def k_25 : List (List zO) := [[o_aload 1 0, o_iload 2 1, o_inv zshp 5 27 2 11 1 2, o_bad, o_bad, o_ifeq 8 16, o_bad, o_bad, o_aload 9 0, o_iload 10 2, o_inv zshp 13 27 2 11 1 2, o_bad, o_bad, o_ifne 16 18, o_bad, o_bad],
  [o_con 17 (vI (-1)), o_iret, o_iload 19 1, o_iload 20 2, o_icmpne 23 25, o_bad, o_bad, o_con 24 (vI 0), o_iret, o_aload 26 0, o_getP zshp 29 11 11, o_bad, o_bad, o_iload 30 1, o_iload 31 2, o_inv zshp 34 218 3 7 0 4],
  [o_bad, o_bad, o_aload 35 0, o_getF zshp 38 11 4, o_bad, o_bad, o_getF zshp 41 6 0, o_bad, o_bad, o_iload 42 1, o_iload 43 2, o_inv zshp 46 33 3 99 0 4, o_bad, o_bad, o_aload 47 0, o_inv zshp 50 30 1 11 0 1],
  [o_bad, o_bad, o_con 51 (vI 1), o_iret]]
/-- CallOpener.putBytes(I)V -/
def k_26 : List (List zO) := [[o_con 2 (vI 24), o_bad, o_istore 3 2, o_iload 4 2, o_iflt 7 39, o_bad, o_bad, o_aload 8 0, o_getF zshp 11 11 0, o_bad, o_bad, o_aload 12 0, o_getI zshp 15 11 13, o_bad, o_bad, o_iload 16 1],
  [o_iload 17 2, o_iushr 18, o_con 21 (vI 255), o_bad, o_bad, o_iand 22, o_iast zshp 23, o_aload 24 0, o_dup 25, o_getI zshp 28 11 13, o_bad, o_bad, o_con 29 (vI 1), o_iadd 30, o_putI zshp 33 11 13, o_bad],
  [o_bad, o_iinc 36 2 (-8), o_bad, o_bad, o_goto 3, o_bad, o_bad, o_ret]]
/-- CallOpener.isFunction(I)Z -/
def k_27 : List (List zO) := [[o_iload 1 1, o_iflt 4 19, o_bad, o_bad, o_iload 5 1, o_aload 6 0, o_getP zshp 9 11 11, o_bad, o_bad, o_getI zshp 12 7 0, o_bad, o_bad, o_icmpge 15 19, o_bad, o_bad, o_con 16 (vI 1)],
  [o_goto 20, o_bad, o_bad, o_con 20 (vI 0), o_zret]]
/-- CallOpener.isSite(I)Z -/
def k_28 : List (List zO) := [[o_iload 1 1, o_iflt 4 19, o_bad, o_bad, o_iload 5 1, o_aload 6 0, o_getP zshp 9 11 11, o_bad, o_bad, o_getI zshp 12 7 1, o_bad, o_bad, o_icmpge 15 19, o_bad, o_bad, o_con 16 (vI 1)],
  [o_goto 20, o_bad, o_bad, o_con 20 (vI 0), o_zret]]
/-- CallOpener.isSetting(II)Z -/
def k_29 : List (List zO) := [[o_iload 1 0, o_iflt 4 34, o_bad, o_bad, o_iload 5 0, o_con 8 (vR 3), o_bad, o_bad, o_alen zshp 9 14, o_icmpge 12 34, o_bad, o_bad, o_iload 13 1, o_con 16 (vR 2), o_bad, o_bad],
  [o_iload 17 0, o_ald zshp 18 14, o_icmplt 21 34, o_bad, o_bad, o_iload 22 1, o_con 25 (vR 3), o_bad, o_bad, o_iload 26 0, o_ald zshp 27 14, o_icmpgt 30 34, o_bad, o_bad, o_con 31 (vI 1), o_goto 35],
  [o_bad, o_bad, o_con 35 (vI 0), o_zret]]
/-- CallOpener.outdate()V -/
def k_30 : List (List zO) := [[o_aload 1 0, o_con 2 (vI (-1)), o_putI zshp 5 11 14, o_bad, o_bad, o_aload 6 0, o_con 7 (vI (-1)), o_putI zshp 10 11 15, o_bad, o_bad, o_ret]]
/-- CallOpener.growTree(I)Z -/
def k_31 : List (List zO) := [[o_aload 1 0, o_iload 2 1, o_inv zshp 5 27 2 11 1 2, o_bad, o_bad, o_ifne 8 10, o_bad, o_bad, o_con 9 (vI 0), o_zret, o_aload 11 0, o_getI zshp 14 11 14, o_bad, o_bad, o_iload 15 1, o_icmpeq 18 48],
  [o_bad, o_bad, o_aload 19 0, o_getF zshp 22 11 7, o_bad, o_bad, o_aload 23 0, o_getP zshp 26 11 11, o_bad, o_bad, o_aload 27 0, o_getF zshp 30 11 4, o_bad, o_bad, o_aload 31 0, o_getF zshp 34 11 2],
  [o_bad, o_bad, o_iload 35 1, o_inv zshp 38 262 5 10 0 5, o_bad, o_bad, o_aload 39 0, o_iload 40 1, o_putI zshp 43 11 14, o_bad, o_bad, o_aload 44 0, o_con 45 (vI (-1)), o_putI zshp 48 11 15, o_bad, o_bad],
  [o_con 49 (vI 1), o_zret]]
/-- CallOpener.writeResult()V -/
def k_32 : List (List zO) := [[o_aload 1 0, o_getI zshp 4 11 15, o_bad, o_bad, o_aload 5 0, o_getI zshp 8 11 14, o_bad, o_bad, o_icmpeq 11 34, o_bad, o_bad, o_aload 12 0, o_getF zshp 15 11 8, o_bad, o_bad, o_aload 16 0],
  [o_getP zshp 19 11 11, o_bad, o_bad, o_aload 20 0, o_getF zshp 23 11 7, o_bad, o_bad, o_inv zshp 26 255 3 9 0 4, o_bad, o_bad, o_aload 27 0, o_aload 28 0, o_getI zshp 31 11 14, o_bad, o_bad, o_putI zshp 34 11 15],
  [o_bad, o_bad, o_ret]]
/-- CallOpener.exchange([III)V -/
def k_33 : List (List zO) := [[o_aload 1 0, o_iload 2 1, o_ald zshp 3 14, o_istore 4 3, o_aload 5 0, o_iload 6 1, o_aload 7 0, o_iload 8 2, o_ald zshp 9 14, o_iast zshp 10, o_aload 11 0, o_iload 12 2, o_iload 13 3, o_iast zshp 14, o_ret]]
/-- CallOpener.isVariable(I)Z -/
def k_34 : List (List zO) := [[o_iload 1 0, o_con 3 (vI (-10)), o_bad, o_icmpgt 6 10, o_bad, o_bad, o_con 7 (vI 1), o_goto 11, o_bad, o_bad, o_con 11 (vI 0), o_zret]]
/-- CallOpener.workOut(III)I -/
def k_35 : List (List zO) := [[o_iload 1 0, o_sw [(1, 36), (2, 40), (3, 44), (4, 48), (5, 59)] 70, o_bad, o_bad, o_bad, o_bad, o_bad, o_bad, o_bad, o_bad, o_bad, o_bad, o_bad, o_bad, o_bad, o_bad],
  [o_bad, o_bad, o_bad, o_bad, o_bad, o_bad, o_bad, o_bad, o_bad, o_bad, o_bad, o_bad, o_bad, o_bad, o_bad, o_bad],
  [o_bad, o_bad, o_bad, o_bad, o_iload 37 1, o_iload 38 2, o_iadd 39, o_iret, o_iload 41 1, o_iload 42 2, o_isub 43, o_iret, o_iload 45 1, o_iload 46 2, o_imul 47, o_iret],
  [o_iload 49 1, o_iload 50 2, o_icmpge 53 57, o_bad, o_bad, o_con 54 (vI 1), o_goto 58, o_bad, o_bad, o_con 58 (vI 0), o_iret, o_iload 60 1, o_iload 61 2, o_icmpne 64 68, o_bad, o_bad],
  [o_con 65 (vI 1), o_goto 69, o_bad, o_bad, o_con 69 (vI 0), o_iret, o_iload 71 1, o_iret]]
/-- CallOpenerModel.<init>()V -/
def k_36 : List (List zO) := [[o_aload 1 0, o_obj 4, o_bad, o_bad, o_aload 5 0, o_con 8 (vI 480), o_bad, o_bad, o_newa zshp 10 13 98 84994, o_bad, o_putF zshp 13 12 0, o_bad, o_bad, o_aload 14 0, o_con 15 (vI 2), o_newa zshp 17 14 98 84994],
  [o_bad, o_putF zshp 20 12 13, o_bad, o_bad, o_aload 21 0, o_con 22 (vI 2), o_newa zshp 24 14 98 84994, o_bad, o_putF zshp 27 12 14, o_bad, o_bad, o_aload 28 0, o_con 29 (vI 2), o_newa zshp 31 14 98 84994, o_bad, o_putF zshp 34 12 15],
  [o_bad, o_bad, o_aload 35 0, o_con 37 (vI 16), o_bad, o_newa zshp 39 15 98 84994, o_bad, o_putF zshp 42 12 16, o_bad, o_bad, o_aload 43 0, o_con 45 (vI 16), o_bad, o_newa zshp 47 14 98 84994, o_bad, o_putF zshp 50 12 17],
  [o_bad, o_bad, o_aload 51 0, o_con 53 (vI 16), o_bad, o_newa zshp 55 14 98 84994, o_bad, o_putF zshp 58 12 18, o_bad, o_bad, o_aload 59 0, o_con 61 (vI 16), o_bad, o_newa zshp 63 14 98 84994, o_bad, o_putF zshp 66 12 19],
  [o_bad, o_bad, o_aload 67 0, o_con 69 (vI 16), o_bad, o_newa zshp 71 14 98 84994, o_bad, o_putF zshp 74 12 20, o_bad, o_bad, o_aload 75 0, o_con 77 (vI 16), o_bad, o_newa zshp 79 14 98 84994, o_bad, o_putF zshp 82 12 21],
  [o_bad, o_bad, o_aload 83 0, o_con 85 (vI 16), o_bad, o_newa zshp 87 14 98 84994, o_bad, o_putF zshp 90 12 22, o_bad, o_bad, o_aload 91 0, o_con 93 (vI 16), o_bad, o_newa zshp 95 16 98 84994, o_bad, o_putF zshp 98 12 23],
  [o_bad, o_bad, o_aload 99 0, o_con 102 (vI 520), o_bad, o_bad, o_newa zshp 104 14 98 84994, o_bad, o_putF zshp 107 12 24, o_bad, o_bad, o_aload 108 0, o_con 111 (vI 520), o_bad, o_bad, o_newa zshp 113 14 98 84994],
  [o_bad, o_putF zshp 116 12 25, o_bad, o_bad, o_aload 117 0, o_con 120 (vI 520), o_bad, o_bad, o_newa zshp 122 14 98 84994, o_bad, o_putF zshp 125 12 26, o_bad, o_bad, o_aload 126 0, o_con 129 (vI 520), o_bad],
  [o_bad, o_newa zshp 131 14 98 84994, o_bad, o_putF zshp 134 12 27, o_bad, o_bad, o_aload 135 0, o_con 138 (vI 520), o_bad, o_bad, o_newa zshp 140 14 98 84994, o_bad, o_putF zshp 143 12 28, o_bad, o_bad, o_aload 144 0],
  [o_con 147 (vI 520), o_bad, o_bad, o_newa zshp 149 14 98 84994, o_bad, o_putF zshp 152 12 29, o_bad, o_bad, o_aload 153 0, o_con 156 (vI 520), o_bad, o_bad, o_newa zshp 158 14 98 84994, o_bad, o_putF zshp 161 12 30, o_bad],
  [o_bad, o_aload 162 0, o_con 165 (vI 520), o_bad, o_bad, o_newa zshp 167 14 98 84994, o_bad, o_putF zshp 170 12 31, o_bad, o_bad, o_aload 171 0, o_con 174 (vI 520), o_bad, o_bad, o_newa zshp 176 14 98 84994, o_bad],
  [o_putF zshp 179 12 32, o_bad, o_bad, o_aload 180 0, o_con 183 (vI 520), o_bad, o_bad, o_newa zshp 185 14 98 84994, o_bad, o_putF zshp 188 12 33, o_bad, o_bad, o_aload 189 0, o_con 192 (vI 520), o_bad, o_bad],
  [o_newa zshp 194 14 98 84994, o_bad, o_putF zshp 197 12 34, o_bad, o_bad, o_aload 198 0, o_con 201 (vI 520), o_bad, o_bad, o_newa zshp 203 16 98 84994, o_bad, o_putF zshp 206 12 35, o_bad, o_bad, o_aload 207 0, o_con 209 (vI 32)],
  [o_bad, o_newa zshp 211 14 98 84994, o_bad, o_putF zshp 214 12 36, o_bad, o_bad, o_aload 215 0, o_con 217 (vI 32), o_bad, o_newa zshp 219 14 98 84994, o_bad, o_putF zshp 222 12 37, o_bad, o_bad, o_aload 223 0, o_con 225 (vI 32)],
  [o_bad, o_newa zshp 227 14 98 84994, o_bad, o_putF zshp 230 12 38, o_bad, o_bad, o_aload 231 0, o_con 233 (vI 32), o_bad, o_newa zshp 235 14 98 84994, o_bad, o_putF zshp 238 12 39, o_bad, o_bad, o_aload 239 0, o_con 241 (vI 32)],
  [o_bad, o_newa zshp 243 14 98 84994, o_bad, o_putF zshp 246 12 40, o_bad, o_bad, o_aload 247 0, o_con 249 (vI 32), o_bad, o_newa zshp 251 14 98 84994, o_bad, o_putF zshp 254 12 41, o_bad, o_bad, o_aload 255 0, o_con 257 (vI 32)],
  [o_bad, o_newa zshp 259 14 98 84994, o_bad, o_putF zshp 262 12 42, o_bad, o_bad, o_aload 263 0, o_con 265 (vI 32), o_bad, o_newa zshp 267 15 98 84994, o_bad, o_putF zshp 270 12 43, o_bad, o_bad, o_aload 271 0, o_con 273 (vI 8)],
  [o_bad, o_newa zshp 275 15 98 84994, o_bad, o_putF zshp 278 12 44, o_bad, o_bad, o_aload 279 0, o_con 281 (vI 6), o_bad, o_newa zshp 283 14 98 84994, o_bad, o_putF zshp 286 12 45, o_bad, o_bad, o_aload 287 0, o_con 289 (vI 6)],
  [o_bad, o_newa zshp 291 16 98 84994, o_bad, o_putF zshp 294 12 46, o_bad, o_bad, o_aload 295 0, o_con 297 (vI 8), o_bad, o_newa zshp 299 14 98 84994, o_bad, o_putF zshp 302 12 49, o_bad, o_bad, o_aload 303 0, o_con 305 (vI 8)],
  [o_bad, o_newa zshp 307 14 98 84994, o_bad, o_putF zshp 310 12 50, o_bad, o_bad, o_aload 311 0, o_con 312 (vI 3), o_newa zshp 314 14 98 84994, o_bad, o_putF zshp 317 12 51, o_bad, o_bad, o_aload 318 0, o_con 319 (vI 4), o_newa zshp 321 14 98 84994],
  [o_bad, o_putF zshp 324 12 52, o_bad, o_bad, o_aload 325 0, o_con 327 (vI 8), o_bad, o_newa zshp 329 14 98 84994, o_bad, o_putF zshp 332 12 53, o_bad, o_bad, o_aload 333 0, o_con 335 (vI 16), o_bad, o_newa zshp 337 14 98 84994],
  [o_bad, o_putF zshp 340 12 54, o_bad, o_bad, o_aload 341 0, o_con 343 (vI 8), o_bad, o_newa zshp 345 14 98 84994, o_bad, o_putF zshp 348 12 55, o_bad, o_bad, o_aload 349 0, o_con 351 (vI 16), o_bad, o_newa zshp 353 14 98 84994],
  [o_bad, o_putF zshp 356 12 56, o_bad, o_bad, o_aload 357 0, o_con 359 (vI 24), o_bad, o_newa zshp 361 14 98 84994, o_bad, o_putF zshp 364 12 57, o_bad, o_bad, o_aload 365 0, o_con 367 (vI 24), o_bad, o_newa zshp 369 14 98 84994],
  [o_bad, o_putF zshp 372 12 58, o_bad, o_bad, o_aload 373 0, o_con 375 (vI 24), o_bad, o_newa zshp 377 14 98 84994, o_bad, o_putF zshp 380 12 59, o_bad, o_bad, o_aload 381 0, o_con 383 (vI 24), o_bad, o_newa zshp 385 14 98 84994],
  [o_bad, o_putF zshp 388 12 60, o_bad, o_bad, o_aload 389 0, o_con 391 (vI 24), o_bad, o_newa zshp 393 14 98 84994, o_bad, o_putF zshp 396 12 61, o_bad, o_bad, o_aload 397 0, o_con 400 (vI 700), o_bad, o_bad],
  [o_newa zshp 402 14 98 84994, o_bad, o_putF zshp 405 12 62, o_bad, o_bad, o_aload 406 0, o_con 409 (vI 400), o_bad, o_bad, o_newa zshp 411 14 98 84994, o_bad, o_putF zshp 414 12 63, o_bad, o_bad, o_aload 415 0, o_con 418 (vI 400)],
  [o_bad, o_bad, o_newa zshp 420 14 98 84994, o_bad, o_putF zshp 423 12 64, o_bad, o_bad, o_aload 424 0, o_con 427 (vI 400), o_bad, o_bad, o_newa zshp 429 14 98 84994, o_bad, o_putF zshp 432 12 65, o_bad, o_bad],
  [o_aload 433 0, o_con 436 (vI 400), o_bad, o_bad, o_newa zshp 438 14 98 84994, o_bad, o_putF zshp 441 12 66, o_bad, o_bad, o_aload 442 0, o_con 445 (vI 420), o_bad, o_bad, o_newa zshp 447 14 98 84994, o_bad, o_putF zshp 450 12 75],
  [o_bad, o_bad, o_aload 451 0, o_con 454 (vI 420), o_bad, o_bad, o_newa zshp 456 14 98 84994, o_bad, o_putF zshp 459 12 76, o_bad, o_bad, o_aload 460 0, o_con 463 (vI 420), o_bad, o_bad, o_newa zshp 465 14 98 84994],
  [o_bad, o_putF zshp 468 12 77, o_bad, o_bad, o_aload 469 0, o_con 472 (vI 420), o_bad, o_bad, o_newa zshp 474 14 98 84994, o_bad, o_putF zshp 477 12 78, o_bad, o_bad, o_aload 478 0, o_con 481 (vI 420), o_bad],
  [o_bad, o_newa zshp 483 14 98 84994, o_bad, o_putF zshp 486 12 79, o_bad, o_bad, o_aload 487 0, o_con 490 (vI 420), o_bad, o_bad, o_newa zshp 492 14 98 84994, o_bad, o_putF zshp 495 12 80, o_bad, o_bad, o_aload 496 0],
  [o_con 499 (vI 420), o_bad, o_bad, o_newa zshp 501 14 98 84994, o_bad, o_putF zshp 504 12 81, o_bad, o_bad, o_aload 505 0, o_con 508 (vI 420), o_bad, o_bad, o_newa zshp 510 14 98 84994, o_bad, o_putF zshp 513 12 82, o_bad],
  [o_bad, o_aload 514 0, o_con 517 (vI 420), o_bad, o_bad, o_newa zshp 519 15 98 84994, o_bad, o_putF zshp 522 12 83, o_bad, o_bad, o_aload 523 0, o_con 526 (vI 420), o_bad, o_bad, o_newa zshp 528 15 98 84994, o_bad],
  [o_putF zshp 531 12 84, o_bad, o_bad, o_aload 532 0, o_con 535 (vI 420), o_bad, o_bad, o_newa zshp 537 16 98 84994, o_bad, o_putF zshp 540 12 85, o_bad, o_bad, o_aload 541 0, o_con 544 (vI 420), o_bad, o_bad],
  [o_newa zshp 546 14 98 84994, o_bad, o_putF zshp 549 12 91, o_bad, o_bad, o_aload 550 0, o_con 553 (vI 420), o_bad, o_bad, o_newa zshp 555 14 98 84994, o_bad, o_putF zshp 558 12 92, o_bad, o_bad, o_aload 559 0, o_con 562 (vI 420)],
  [o_bad, o_bad, o_newa zshp 564 14 98 84994, o_bad, o_putF zshp 567 12 93, o_bad, o_bad, o_aload 568 0, o_con 571 (vI 420), o_bad, o_bad, o_newa zshp 573 14 98 84994, o_bad, o_putF zshp 576 12 95, o_bad, o_bad],
  [o_aload 577 0, o_con 580 (vI 420), o_bad, o_bad, o_newa zshp 582 14 98 84994, o_bad, o_putF zshp 585 12 96, o_bad, o_bad, o_aload 586 0, o_con 589 (vI 420), o_bad, o_bad, o_newa zshp 591 14 98 84994, o_bad, o_putF zshp 594 12 97],
  [o_bad, o_bad, o_aload 595 0, o_con 598 (vI 420), o_bad, o_bad, o_newa zshp 600 14 98 84994, o_bad, o_putF zshp 603 12 98, o_bad, o_bad, o_aload 604 0, o_con 607 (vI 420), o_bad, o_bad, o_newa zshp 609 14 98 84994],
  [o_bad, o_putF zshp 612 12 99, o_bad, o_bad, o_aload 613 0, o_con 616 (vI 420), o_bad, o_bad, o_newa zshp 618 14 98 84994, o_bad, o_putF zshp 621 12 100, o_bad, o_bad, o_aload 622 0, o_con 625 (vI 420), o_bad],
  [o_bad, o_newa zshp 627 14 98 84994, o_bad, o_putF zshp 630 12 101, o_bad, o_bad, o_aload 631 0, o_con 634 (vI 400), o_bad, o_bad, o_newa zshp 636 14 98 84994, o_bad, o_putF zshp 639 12 102, o_bad, o_bad, o_aload 640 0],
  [o_con 643 (vI 400), o_bad, o_bad, o_newa zshp 645 14 98 84994, o_bad, o_putF zshp 648 12 103, o_bad, o_bad, o_aload 649 0, o_con 652 (vI 400), o_bad, o_bad, o_newa zshp 654 14 98 84994, o_bad, o_putF zshp 657 12 104, o_bad],
  [o_bad, o_aload 658 0, o_con 661 (vI 420), o_bad, o_bad, o_newa zshp 663 14 98 84994, o_bad, o_putF zshp 666 12 105, o_bad, o_bad, o_aload 667 0, o_con 670 (vI 400), o_bad, o_bad, o_newa zshp 672 16 98 84994, o_bad],
  [o_putF zshp 675 12 106, o_bad, o_bad, o_aload 676 0, o_con 679 (vI 400), o_bad, o_bad, o_newa zshp 681 16 98 84994, o_bad, o_putF zshp 684 12 112, o_bad, o_bad, o_aload 685 0, o_con 688 (vI 400), o_bad, o_bad],
  [o_newa zshp 690 14 98 84994, o_bad, o_putF zshp 693 12 113, o_bad, o_bad, o_aload 694 0, o_con 697 (vI 12000), o_bad, o_bad, o_newa zshp 699 14 98 84994, o_bad, o_putF zshp 702 12 114, o_bad, o_bad, o_aload 703 0, o_con 706 (vI 12000)],
  [o_bad, o_bad, o_newa zshp 708 14 98 84994, o_bad, o_putF zshp 711 12 115, o_bad, o_bad, o_aload 712 0, o_con 715 (vI 5000), o_bad, o_bad, o_newa zshp 717 14 98 84994, o_bad, o_putF zshp 720 12 116, o_bad, o_bad],
  [o_aload 721 0, o_con 724 (vI 5000), o_bad, o_bad, o_newa zshp 726 14 98 84994, o_bad, o_putF zshp 729 12 117, o_bad, o_bad, o_aload 730 0, o_con 733 (vI 400), o_bad, o_bad, o_newa zshp 735 14 98 84994, o_bad, o_putF zshp 738 12 118],
  [o_bad, o_bad, o_aload 739 0, o_con 742 (vI 400), o_bad, o_bad, o_newa zshp 744 14 98 84994, o_bad, o_putF zshp 747 12 119, o_bad, o_bad, o_aload 748 0, o_con 751 (vI 400), o_bad, o_bad, o_newa zshp 753 14 98 84994],
  [o_bad, o_putF zshp 756 12 120, o_bad, o_bad, o_aload 757 0, o_con 760 (vI 400), o_bad, o_bad, o_newa zshp 762 14 98 84994, o_bad, o_putF zshp 765 12 121, o_bad, o_bad, o_aload 766 0, o_con 769 (vI 400), o_bad],
  [o_bad, o_newa zshp 771 14 98 84994, o_bad, o_putF zshp 774 12 122, o_bad, o_bad, o_aload 775 0, o_con 778 (vI 12000), o_bad, o_bad, o_newa zshp 780 16 98 84994, o_bad, o_putF zshp 783 12 123, o_bad, o_bad, o_aload 784 0],
  [o_con 787 (vI 5000), o_bad, o_bad, o_newa zshp 789 16 98 84994, o_bad, o_putF zshp 792 12 124, o_bad, o_bad, o_aload 793 0, o_con 796 (vI 400), o_bad, o_bad, o_newa zshp 798 16 98 84994, o_bad, o_putF zshp 801 12 125, o_bad],
  [o_bad, o_aload 802 0, o_con 805 (vI 9933), o_bad, o_bad, o_newa zshp 807 15 98 84994, o_bad, o_putF zshp 810 12 133, o_bad, o_bad, o_aload 811 0, o_con 814 (vI 301), o_bad, o_bad, o_newa zshp 816 15 98 84994, o_bad],
  [o_putF zshp 819 12 134, o_bad, o_bad, o_aload 820 0, o_con 822 (vI 33), o_bad, o_newa zshp 824 14 98 84994, o_bad, o_putF zshp 827 12 135, o_bad, o_bad, o_aload 828 0, o_con 830 (vI 33), o_bad, o_newa zshp 832 14 98 84994, o_bad],
  [o_putF zshp 835 12 136, o_bad, o_bad, o_aload 836 0, o_con 838 (vI 33), o_bad, o_newa zshp 840 15 98 84994, o_bad, o_putF zshp 843 12 137, o_bad, o_bad, o_aload 844 0, o_getF zshp 847 12 52, o_bad, o_bad, o_con 848 (vI 0)],
  [o_con 850 (vI 100), o_bad, o_iast zshp 851, o_aload 852 0, o_getF zshp 855 12 52, o_bad, o_bad, o_con 856 (vI 1), o_con 858 (vI 10), o_bad, o_iast zshp 859, o_aload 860 0, o_getF zshp 863 12 52, o_bad, o_bad, o_con 864 (vI 2)],
  [o_con 865 (vI 1), o_iast zshp 866, o_aload 867 0, o_getF zshp 870 12 52, o_bad, o_bad, o_con 871 (vI 3), o_con 873 (vI 100), o_bad, o_iast zshp 874, o_aload 875 0, o_inv zshp 878 67 1 12 0 2, o_bad, o_bad, o_retm 98]]
/-- CallOpenerModel.in(III)Z -/
def k_37 : List (List zO) := [[o_iload 1 0, o_iload 2 1, o_icmplt 5 14, o_bad, o_bad, o_iload 6 0, o_iload 7 2, o_icmpgt 10 14, o_bad, o_bad, o_con 11 (vI 1), o_goto 15, o_bad, o_bad, o_con 15 (vI 0), o_zret]]
/-- CallOpenerModel.max(II)I -/
def k_38 : List (List zO) := [[o_iload 1 0, o_iload 2 1, o_icmple 5 9, o_bad, o_bad, o_iload 6 0, o_goto 10, o_bad, o_bad, o_iload 10 1, o_iret]]
/-- CallOpenerModel.typed4(I)V -/
def k_39 : List (List zO) := [[o_con 1 (vI 3), o_istore 2 2, o_iload 3 2, o_iflt 6 38, o_bad, o_bad, o_aload 7 0, o_getF zshp 10 12 0, o_bad, o_bad, o_aload 11 0, o_getI zshp 14 12 1, o_bad, o_bad, o_iload 15 1, o_con 17 (vI 8)],
  [o_bad, o_iload 18 2, o_imul 19, o_ishr 20, o_i2b 21, o_bast zshp 22, o_aload 23 0, o_aload 24 0, o_getI zshp 27 12 1, o_bad, o_bad, o_con 28 (vI 1), o_iadd 29, o_putI zshp 32 12 1, o_bad, o_bad],
  [o_iinc 35 2 (-1), o_bad, o_bad, o_goto 2, o_bad, o_bad, o_ret]]
/-- CallOpenerModel.feed(IIIII)I -/
def k_40 : List (List zO) := [[o_aload 1 0, o_getI zshp 4 12 1, o_bad, o_bad, o_con 6 (vI 20), o_bad, o_iadd 7, o_con 10 (vI 480), o_bad, o_bad, o_icmple 13 15, o_bad, o_bad, o_con 14 (vI (-1)), o_iret, o_aload 16 0],
  [o_iload 17 1, o_inv zshp 20 39 2 12 0 3, o_bad, o_bad, o_aload 21 0, o_iload 22 2, o_inv zshp 25 39 2 12 0 3, o_bad, o_bad, o_aload 26 0, o_iload 27 3, o_inv zshp 30 39 2 12 0 3, o_bad, o_bad, o_aload 31 0, o_iload 33 4],
  [o_bad, o_inv zshp 36 39 2 12 0 3, o_bad, o_bad, o_aload 37 0, o_iload 39 5, o_bad, o_inv zshp 42 39 2 12 0 3, o_bad, o_bad, o_aload 43 0, o_getI zshp 46 12 1, o_bad, o_bad, o_iret]]
/-- CallOpenerModel.here()I -/
def k_41 : List (List zO) := [[o_aload 1 0, o_getI zshp 4 12 2, o_bad, o_bad, o_aload 5 0, o_getI zshp 8 12 3, o_bad, o_bad, o_icmpge 11 27, o_bad, o_bad, o_aload 12 0, o_getF zshp 15 12 0, o_bad, o_bad, o_aload 16 0],
  [o_getI zshp 19 12 2, o_bad, o_bad, o_ald zshp 20 13, o_con 23 (vI 255), o_bad, o_bad, o_iand 24, o_goto 28, o_bad, o_bad, o_con 28 (vI (-1)), o_iret]]
/-- CallOpenerModel.isSignByte(I)Z -/
def k_42 : List (List zO) := [[o_iload 1 0, o_con 3 (vI 40), o_bad, o_icmpeq 6 66, o_bad, o_bad, o_iload 7 0, o_con 9 (vI 41), o_bad, o_icmpeq 12 66, o_bad, o_bad, o_iload 13 0, o_con 15 (vI 123), o_bad, o_icmpeq 18 66],
  [o_bad, o_bad, o_iload 19 0, o_con 21 (vI 125), o_bad, o_icmpeq 24 66, o_bad, o_bad, o_iload 25 0, o_con 27 (vI 44), o_bad, o_icmpeq 30 66, o_bad, o_bad, o_iload 31 0, o_con 33 (vI 59)],
  [o_bad, o_icmpeq 36 66, o_bad, o_bad, o_iload 37 0, o_con 39 (vI 61), o_bad, o_icmpeq 42 66, o_bad, o_bad, o_iload 43 0, o_con 45 (vI 43), o_bad, o_icmpeq 48 66, o_bad, o_bad],
  [o_iload 49 0, o_con 51 (vI 45), o_bad, o_icmpeq 54 66, o_bad, o_bad, o_iload 55 0, o_con 57 (vI 42), o_bad, o_icmpeq 60 66, o_bad, o_bad, o_iload 61 0, o_con 63 (vI 60), o_bad, o_icmpne 66 70],
  [o_bad, o_bad, o_con 67 (vI 1), o_goto 71, o_bad, o_bad, o_con 71 (vI 0), o_zret]]
/-- CallOpenerModel.next()V -/
def k_43 : List (List zO) := [[o_aload 1 0, o_inv zshp 4 41 1 12 1 1, o_bad, o_bad, o_con 6 (vI 32), o_bad, o_icmpeq 9 18, o_bad, o_bad, o_aload 10 0, o_inv zshp 13 41 1 12 1 1, o_bad, o_bad, o_con 15 (vI 10), o_bad, o_icmpne 18 31],
  [o_bad, o_bad, o_aload 19 0, o_aload 20 0, o_getI zshp 23 12 2, o_bad, o_bad, o_con 24 (vI 1), o_iadd 25, o_putI zshp 28 12 2, o_bad, o_bad, o_goto 0, o_bad, o_bad, o_aload 32 0],
  [o_aload 33 0, o_getI zshp 36 12 2, o_bad, o_bad, o_putI zshp 39 12 6, o_bad, o_bad, o_aload 40 0, o_inv zshp 43 41 1 12 1 1, o_bad, o_bad, o_istore 44 1, o_iload 45 1, o_con 46 (vI (-1)), o_icmpne 49 57, o_bad],
  [o_bad, o_aload 50 0, o_con 51 (vI 0), o_putI zshp 54 12 5, o_bad, o_bad, o_goto 280, o_bad, o_bad, o_iload 58 1, o_con 60 (vI 97), o_bad, o_con 62 (vI 122), o_bad, o_inv zshp 65 37 3 99 1 3, o_bad],
  [o_bad, o_ifeq 68 165, o_bad, o_bad, o_aload 69 0, o_con 70 (vI 1), o_putI zshp 73 12 5, o_bad, o_bad, o_aload 74 0, o_con 75 (vJ 0), o_putJ zshp 78 12 10, o_bad, o_bad, o_aload 79 0, o_inv zshp 82 41 1 12 1 1],
  [o_bad, o_bad, o_con 84 (vI 97), o_bad, o_con 86 (vI 122), o_bad, o_inv zshp 89 37 3 99 1 3, o_bad, o_bad, o_ifeq 92 149, o_bad, o_bad, o_aload 93 0, o_aload 94 0, o_getI zshp 97 12 2, o_bad],
  [o_bad, o_aload 98 0, o_getI zshp 101 12 6, o_bad, o_bad, o_isub 102, o_con 104 (vI 7), o_bad, o_icmpge 107 130, o_bad, o_bad, o_con 110 (vJ 32), o_bad, o_bad, o_aload 111 0, o_getJ zshp 114 12 10],
  [o_bad, o_bad, o_lmul 115, o_aload 116 0, o_inv zshp 119 41 1 12 1 1, o_bad, o_bad, o_i2l 120, o_ladd 121, o_con 124 (vJ 97), o_bad, o_bad, o_lsub 125, o_con 126 (vJ 1), o_ladd 127, o_goto 133],
  [o_bad, o_bad, o_con 133 (vJ (-1)), o_bad, o_bad, o_putJ zshp 136 12 10, o_bad, o_bad, o_aload 137 0, o_aload 138 0, o_getI zshp 141 12 2, o_bad, o_bad, o_con 142 (vI 1), o_iadd 143, o_putI zshp 146 12 2],
  [o_bad, o_bad, o_goto 78, o_bad, o_bad, o_aload 150 0, o_aload 151 0, o_getI zshp 154 12 2, o_bad, o_bad, o_aload 155 0, o_getI zshp 158 12 6, o_bad, o_bad, o_isub 159, o_putI zshp 162 12 9],
  [o_bad, o_bad, o_goto 280, o_bad, o_bad, o_iload 166 1, o_con 168 (vI 48), o_bad, o_con 170 (vI 57), o_bad, o_inv zshp 173 37 3 99 1 3, o_bad, o_bad, o_ifeq 176 249, o_bad, o_bad],
  [o_aload 177 0, o_con 178 (vI 2), o_putI zshp 181 12 5, o_bad, o_bad, o_aload 182 0, o_con 183 (vI 0), o_putI zshp 186 12 7, o_bad, o_bad, o_aload 187 0, o_inv zshp 190 41 1 12 1 1, o_bad, o_bad, o_con 192 (vI 48), o_bad],
  [o_con 194 (vI 57), o_bad, o_inv zshp 197 37 3 99 1 3, o_bad, o_bad, o_ifeq 200 280, o_bad, o_bad, o_aload 201 0, o_aload 202 0, o_getI zshp 205 12 7, o_bad, o_bad, o_con 208 (vI 9999), o_bad, o_bad],
  [o_icmple 211 218, o_bad, o_bad, o_aload 212 0, o_getI zshp 215 12 7, o_bad, o_bad, o_goto 233, o_bad, o_bad, o_con 220 (vI 10), o_bad, o_aload 221 0, o_getI zshp 224 12 7, o_bad, o_bad],
  [o_imul 225, o_aload 226 0, o_inv zshp 229 41 1 12 1 1, o_bad, o_bad, o_iadd 230, o_con 232 (vI 48), o_bad, o_isub 233, o_putI zshp 236 12 7, o_bad, o_bad, o_aload 237 0, o_aload 238 0, o_getI zshp 241 12 2, o_bad],
  [o_bad, o_con 242 (vI 1), o_iadd 243, o_putI zshp 246 12 2, o_bad, o_bad, o_goto 186, o_bad, o_bad, o_aload 250 0, o_iload 251 1, o_inv zshp 254 42 1 99 1 1, o_bad, o_bad, o_ifeq 257 261, o_bad],
  [o_bad, o_con 258 (vI 3), o_goto 262, o_bad, o_bad, o_con 262 (vI 4), o_putI zshp 265 12 5, o_bad, o_bad, o_aload 266 0, o_iload 267 1, o_putI zshp 270 12 8, o_bad, o_bad, o_aload 271 0, o_aload 272 0],
  [o_getI zshp 275 12 2, o_bad, o_bad, o_con 276 (vI 1), o_iadd 277, o_putI zshp 280 12 2, o_bad, o_bad, o_ret]]
/-- CallOpenerModel.wrongAt(II)Z -/
def k_44 : List (List zO) := [[o_aload 1 0, o_con 4 (vI (-1000)), o_bad, o_bad, o_iload 5 1, o_imul 6, o_iload 7 2, o_isub 8, o_putI zshp 11 12 4, o_bad, o_bad, o_con 12 (vI 0), o_zret]]
/-- CallOpenerModel.wrong(I)Z -/
def k_45 : List (List zO) := [[o_aload 1 0, o_iload 2 1, o_aload 3 0, o_getI zshp 6 12 6, o_bad, o_bad, o_inv zshp 9 44 3 12 1 3, o_bad, o_bad, o_zret]]
/-- CallOpenerModel.isWord(J)Z -/
def k_46 : List (List zO) := [[o_aload 1 0, o_getI zshp 4 12 5, o_bad, o_bad, o_con 5 (vI 1), o_icmpne 8 21, o_bad, o_bad, o_aload 9 0, o_getJ zshp 12 12 10, o_bad, o_bad, o_lload 13 1, o_lcmp 14, o_ifne 17 21, o_bad],
  [o_bad, o_con 18 (vI 1), o_goto 22, o_bad, o_bad, o_con 22 (vI 0), o_zret]]
/-- CallOpenerModel.isSign(I)Z -/
def k_47 : List (List zO) := [[o_aload 1 0, o_getI zshp 4 12 5, o_bad, o_bad, o_con 5 (vI 3), o_icmpne 8 20, o_bad, o_bad, o_aload 9 0, o_getI zshp 12 12 8, o_bad, o_bad, o_iload 13 1, o_icmpne 16 20, o_bad, o_bad],
  [o_con 17 (vI 1), o_goto 21, o_bad, o_bad, o_con 21 (vI 0), o_zret]]
/-- CallOpenerModel.isOwn()Z -/
def k_48 : List (List zO) := [[o_aload 1 0, o_con 4 (vJ 6830), o_bad, o_bad, o_inv zshp 7 46 2 12 1 3, o_bad, o_bad, o_ifne 10 50, o_bad, o_bad, o_aload 11 0, o_con 14 (vJ 294), o_bad, o_bad, o_inv zshp 17 46 2 12 1 3, o_bad],
  [o_bad, o_ifne 20 50, o_bad, o_bad, o_aload 21 0, o_con 24 (vJ 176741), o_bad, o_bad, o_inv zshp 27 46 2 12 1 3, o_bad, o_bad, o_ifne 30 50, o_bad, o_bad, o_aload 31 0, o_con 34 (vJ 409072)],
  [o_bad, o_bad, o_inv zshp 37 46 2 12 1 3, o_bad, o_bad, o_ifne 40 50, o_bad, o_bad, o_aload 41 0, o_con 44 (vJ 239301), o_bad, o_bad, o_inv zshp 47 46 2 12 1 3, o_bad, o_bad, o_ifeq 50 54],
  [o_bad, o_bad, o_con 51 (vI 1), o_goto 55, o_bad, o_bad, o_con 55 (vI 0), o_zret]]
/-- CallOpenerModel.takesSign(I)Z -/
def k_49 : List (List zO) := [[o_aload 1 0, o_iload 2 1, o_inv zshp 5 47 2 12 1 2, o_bad, o_bad, o_ifne 8 14, o_bad, o_bad, o_aload 9 0, o_con 10 (vI 1), o_inv zshp 13 45 2 12 1 2, o_bad, o_bad, o_zret, o_aload 15 0, o_inv zshp 18 43 1 12 0 2],
  [o_bad, o_bad, o_con 19 (vI 1), o_zret]]
/-- CallOpenerModel.isName()Z -/
def k_50 : List (List zO) := [[o_aload 1 0, o_getI zshp 4 12 5, o_bad, o_bad, o_con 5 (vI 1), o_icmpne 8 15, o_bad, o_bad, o_aload 9 0, o_inv zshp 12 48 1 12 1 1, o_bad, o_bad, o_ifeq 15 21, o_bad, o_bad, o_aload 16 0],
  [o_con 17 (vI 1), o_inv zshp 20 45 2 12 1 2, o_bad, o_bad, o_zret, o_aload 22 0, o_getI zshp 25 12 9, o_bad, o_bad, o_con 27 (vI 6), o_bad, o_icmple 30 38, o_bad, o_bad, o_aload 31 0, o_con 32 (vI 2)],
  [o_inv zshp 35 45 2 12 1 2, o_bad, o_bad, o_ifeq 38 42, o_bad, o_bad, o_con 39 (vI 1), o_goto 43, o_bad, o_bad, o_con 43 (vI 0), o_zret]]
/-- CallOpenerModel.f()I -/
def k_51 : List (List zO) := [[o_con 2 (vI 8), o_bad, o_aload 3 0, o_getI zshp 6 12 11, o_bad, o_bad, o_imul 7, o_aload 8 0, o_getI zshp 11 12 12, o_bad, o_bad, o_iadd 12, o_iret]]
/-- CallOpenerModel.variable(JI)I -/
def k_52 : List (List zO) := [[o_con 1 (vI 0), o_istore 3 4, o_bad, o_iload 5 4, o_bad, o_aload 6 0, o_getF zshp 9 12 18, o_bad, o_bad, o_aload 10 0, o_inv zshp 13 51 1 12 1 1, o_bad, o_bad, o_ald zshp 14 14, o_icmpge 17 38, o_bad],
  [o_bad, o_aload 18 0, o_getF zshp 21 12 44, o_bad, o_bad, o_iload 23 4, o_bad, o_lald zshp 24, o_lload 25 1, o_lcmp 26, o_ifeq 29 38, o_bad, o_bad, o_iload 31 4, o_bad, o_con 32 (vI 1)],
  [o_iadd 33, o_istore 35 4, o_bad, o_goto 3, o_bad, o_bad, o_iload 40 4, o_bad, o_aload 41 0, o_getF zshp 44 12 18, o_bad, o_bad, o_aload 45 0, o_inv zshp 48 51 1 12 1 1, o_bad, o_bad],
  [o_ald zshp 49 14, o_icmpge 52 55, o_bad, o_bad, o_iload 54 4, o_bad, o_iret, o_iload 57 4, o_bad, o_con 59 (vI 8), o_bad, o_icmpne 62 71, o_bad, o_bad, o_aload 63 0, o_con 64 (vI 4)],
  [o_iload 65 3, o_inv zshp 68 44 3 12 1 3, o_bad, o_bad, o_pop 69, o_con 70 (vI (-1)), o_iret, o_aload 72 0, o_getF zshp 75 12 44, o_bad, o_bad, o_iload 77 4, o_bad, o_lload 78 1, o_last zshp 79, o_aload 80 0],
  [o_getF zshp 83 12 18, o_bad, o_bad, o_aload 84 0, o_inv zshp 87 51 1 12 1 1, o_bad, o_bad, o_iload 89 4, o_bad, o_con 90 (vI 1), o_iadd 91, o_iast zshp 92, o_iload 94 4, o_bad, o_iret]]
/-- CallOpenerModel.readsOperand()Z -/
def k_53 : List (List zO) := [[o_aload 1 0, o_getI zshp 4 12 5, o_bad, o_bad, o_con 5 (vI 2), o_icmpne 8 38, o_bad, o_bad, o_aload 9 0, o_getI zshp 12 12 7, o_bad, o_bad, o_con 15 (vI 999), o_bad, o_bad, o_icmple 18 24],
  [o_bad, o_bad, o_aload 19 0, o_con 20 (vI 3), o_inv zshp 23 45 2 12 1 2, o_bad, o_bad, o_zret, o_aload 25 0, o_aload 26 0, o_getI zshp 29 12 7, o_bad, o_bad, o_putI zshp 32 12 48, o_bad, o_bad],
  [o_aload 33 0, o_inv zshp 36 43 1 12 0 2, o_bad, o_bad, o_con 37 (vI 1), o_zret, o_aload 39 0, o_inv zshp 42 50 1 12 1 1, o_bad, o_bad, o_ifne 45 47, o_bad, o_bad, o_con 46 (vI 0), o_zret, o_aload 48 0],
  [o_aload 49 0, o_getJ zshp 52 12 10, o_bad, o_bad, o_aload 53 0, o_getI zshp 56 12 6, o_bad, o_bad, o_inv zshp 59 52 3 12 1 5, o_bad, o_bad, o_istore 60 1, o_aload 61 0, o_con 63 (vI (-10)), o_bad, o_iload 64 1],
  [o_isub 65, o_putI zshp 68 12 48, o_bad, o_bad, o_iload 69 1, o_con 70 (vI (-1)), o_icmpne 73 75, o_bad, o_bad, o_con 74 (vI 0), o_zret, o_aload 76 0, o_inv zshp 79 43 1 12 0 2, o_bad, o_bad, o_con 80 (vI 1)],
  [o_zret]]
/-- CallOpenerModel.readsParameter()Z -/
def k_54 : List (List zO) := [[o_aload 1 0, o_inv zshp 4 50 1 12 1 1, o_bad, o_bad, o_ifne 7 9, o_bad, o_bad, o_con 8 (vI 0), o_zret, o_aload 10 0, o_getF zshp 13 12 17, o_bad, o_bad, o_aload 14 0, o_inv zshp 17 51 1 12 1 1, o_bad],
  [o_bad, o_ald zshp 18 14, o_istore 19 1, o_iload 20 1, o_con 21 (vI 3), o_icmpne 24 30, o_bad, o_bad, o_aload 25 0, o_con 26 (vI 4), o_inv zshp 29 45 2 12 1 2, o_bad, o_bad, o_zret, o_con 31 (vI 0), o_istore 32 2],
  [o_iload 33 2, o_iload 34 1, o_icmpge 37 63, o_bad, o_bad, o_aload 38 0, o_getF zshp 41 12 44, o_bad, o_bad, o_iload 42 2, o_lald zshp 43, o_aload 44 0, o_getJ zshp 47 12 10, o_bad, o_bad, o_lcmp 48],
  [o_ifne 51 57, o_bad, o_bad, o_aload 52 0, o_con 53 (vI 5), o_inv zshp 56 45 2 12 1 2, o_bad, o_bad, o_zret, o_iinc 60 2 1, o_bad, o_bad, o_goto 32, o_bad, o_bad, o_aload 64 0],
  [o_getF zshp 67 12 44, o_bad, o_bad, o_iload 68 1, o_aload 69 0, o_getJ zshp 72 12 10, o_bad, o_bad, o_last zshp 73, o_aload 74 0, o_getF zshp 77 12 17, o_bad, o_bad, o_aload 78 0, o_inv zshp 81 51 1 12 1 1, o_bad],
  [o_bad, o_iload 82 1, o_con 83 (vI 1), o_iadd 84, o_iast zshp 85, o_aload 86 0, o_getF zshp 89 12 18, o_bad, o_bad, o_aload 90 0, o_inv zshp 93 51 1 12 1 1, o_bad, o_bad, o_iload 94 1, o_con 95 (vI 1), o_iadd 96],
  [o_iast zshp 97, o_aload 98 0, o_inv zshp 101 43 1 12 0 2, o_bad, o_bad, o_con 102 (vI 1), o_zret]]
/-- CallOpenerModel.readsHead()Z -/
def k_55 : List (List zO) := [[o_aload 1 0, o_con 4 (vJ 6830), o_bad, o_bad, o_inv zshp 7 46 2 12 1 3, o_bad, o_bad, o_ifne 10 16, o_bad, o_bad, o_aload 11 0, o_con 12 (vI 1), o_inv zshp 15 45 2 12 1 2, o_bad, o_bad, o_zret],
  [o_aload 17 0, o_getF zshp 20 12 13, o_bad, o_bad, o_aload 21 0, o_getI zshp 24 12 11, o_bad, o_bad, o_ald zshp 25 14, o_con 27 (vI 8), o_bad, o_icmpne 30 36, o_bad, o_bad, o_aload 31 0, o_con 32 (vI 4)],
  [o_inv zshp 35 45 2 12 1 2, o_bad, o_bad, o_zret, o_aload 37 0, o_aload 38 0, o_getF zshp 41 12 13, o_bad, o_bad, o_aload 42 0, o_getI zshp 45 12 11, o_bad, o_bad, o_ald zshp 46 14, o_putI zshp 49 12 12, o_bad],
  [o_bad, o_aload 50 0, o_inv zshp 53 43 1 12 0 2, o_bad, o_bad, o_aload 54 0, o_getF zshp 57 12 17, o_bad, o_bad, o_aload 58 0, o_inv zshp 61 51 1 12 1 1, o_bad, o_bad, o_con 62 (vI 0), o_iast zshp 63, o_aload 64 0],
  [o_getF zshp 67 12 18, o_bad, o_bad, o_aload 68 0, o_inv zshp 71 51 1 12 1 1, o_bad, o_bad, o_con 72 (vI 0), o_iast zshp 73, o_aload 74 0, o_getF zshp 77 12 19, o_bad, o_bad, o_aload 78 0, o_inv zshp 81 51 1 12 1 1, o_bad],
  [o_bad, o_aload 82 0, o_getF zshp 85 12 14, o_bad, o_bad, o_aload 86 0, o_getI zshp 89 12 11, o_bad, o_bad, o_ald zshp 90 14, o_iast zshp 91, o_aload 92 0, o_getF zshp 95 12 20, o_bad, o_bad, o_aload 96 0],
  [o_inv zshp 99 51 1 12 1 1, o_bad, o_bad, o_con 100 (vI 0), o_iast zshp 101, o_aload 102 0, o_getF zshp 105 12 21, o_bad, o_bad, o_aload 106 0, o_inv zshp 109 51 1 12 1 1, o_bad, o_bad, o_aload 110 0, o_getF zshp 113 12 15, o_bad],
  [o_bad, o_aload 114 0, o_getI zshp 117 12 11, o_bad, o_bad, o_ald zshp 118 14, o_iast zshp 119, o_aload 120 0, o_getF zshp 123 12 22, o_bad, o_bad, o_aload 124 0, o_inv zshp 127 51 1 12 1 1, o_bad, o_bad, o_con 128 (vI 0)],
  [o_iast zshp 129, o_aload 130 0, o_getF zshp 133 12 23, o_bad, o_bad, o_aload 134 0, o_inv zshp 137 51 1 12 1 1, o_bad, o_bad, o_con 138 (vI 0), o_zast zshp 139, o_aload 140 0, o_inv zshp 143 50 1 12 1 1, o_bad, o_bad, o_ifne 146 148],
  [o_bad, o_bad, o_con 147 (vI 0), o_zret, o_con 149 (vI 0), o_istore 150 1, o_iload 151 1, o_aload 152 0, o_getI zshp 155 12 12, o_bad, o_bad, o_icmpge 158 192, o_bad, o_bad, o_aload 159 0, o_getF zshp 162 12 16],
  [o_bad, o_bad, o_con 164 (vI 8), o_bad, o_aload 165 0, o_getI zshp 168 12 11, o_bad, o_bad, o_imul 169, o_iload 170 1, o_iadd 171, o_lald zshp 172, o_aload 173 0, o_getJ zshp 176 12 10, o_bad, o_bad],
  [o_lcmp 177, o_ifne 180 186, o_bad, o_bad, o_aload 181 0, o_con 182 (vI 5), o_inv zshp 185 45 2 12 1 2, o_bad, o_bad, o_zret, o_iinc 189 1 1, o_bad, o_bad, o_goto 150, o_bad, o_bad],
  [o_aload 193 0, o_getF zshp 196 12 16, o_bad, o_bad, o_aload 197 0, o_inv zshp 200 51 1 12 1 1, o_bad, o_bad, o_aload 201 0, o_getJ zshp 204 12 10, o_bad, o_bad, o_last zshp 205, o_aload 206 0, o_getF zshp 209 12 13, o_bad],
  [o_bad, o_aload 210 0, o_getI zshp 213 12 11, o_bad, o_bad, o_aload 214 0, o_getI zshp 217 12 12, o_bad, o_bad, o_con 218 (vI 1), o_iadd 219, o_iast zshp 220, o_aload 221 0, o_inv zshp 224 43 1 12 0 2, o_bad, o_bad],
  [o_aload 225 0, o_con 227 (vI 40), o_bad, o_inv zshp 230 49 2 12 1 2, o_bad, o_bad, o_ifne 233 235, o_bad, o_bad, o_con 234 (vI 0), o_zret, o_aload 236 0, o_con 238 (vI 41), o_bad, o_inv zshp 241 47 2 12 1 2, o_bad],
  [o_bad, o_ifne 244 253, o_bad, o_bad, o_aload 245 0, o_inv zshp 248 54 1 12 1 3, o_bad, o_bad, o_ifne 251 253, o_bad, o_bad, o_con 252 (vI 0), o_zret, o_aload 254 0, o_con 256 (vI 44), o_bad],
  [o_inv zshp 259 47 2 12 1 2, o_bad, o_bad, o_ifeq 262 275, o_bad, o_bad, o_aload 263 0, o_inv zshp 266 43 1 12 0 2, o_bad, o_bad, o_aload 267 0, o_inv zshp 270 54 1 12 1 3, o_bad, o_bad, o_ifne 273 253, o_bad],
  [o_bad, o_con 274 (vI 0), o_zret, o_aload 276 0, o_con 278 (vI 41), o_bad, o_inv zshp 281 49 2 12 1 2, o_bad, o_bad, o_zret]]
/-- CallOpenerModel.opens(IZ)Z -/
def k_56 : List (List zO) := [[o_aload 1 0, o_con 3 (vI 123), o_bad, o_inv zshp 6 47 2 12 1 2, o_bad, o_bad, o_ifne 9 15, o_bad, o_bad, o_aload 10 0, o_con 11 (vI 1), o_inv zshp 14 45 2 12 1 2, o_bad, o_bad, o_zret, o_aload 16 0],
  [o_getI zshp 19 12 47, o_bad, o_bad, o_con 20 (vI 5), o_icmpne 23 29, o_bad, o_bad, o_aload 24 0, o_con 25 (vI 4), o_inv zshp 28 45 2 12 1 2, o_bad, o_bad, o_zret, o_aload 30 0, o_getF zshp 33 12 45, o_bad],
  [o_bad, o_aload 34 0, o_getI zshp 37 12 47, o_bad, o_bad, o_iload 38 1, o_iast zshp 39, o_aload 40 0, o_getF zshp 43 12 46, o_bad, o_bad, o_aload 44 0, o_getI zshp 47 12 47, o_bad, o_bad, o_iload 48 2],
  [o_zast zshp 49, o_aload 50 0, o_aload 51 0, o_getI zshp 54 12 47, o_bad, o_bad, o_con 55 (vI 1), o_iadd 56, o_putI zshp 59 12 47, o_bad, o_bad, o_aload 60 0, o_inv zshp 63 43 1 12 0 2, o_bad, o_bad, o_con 64 (vI 1)],
  [o_zret]]
/-- CallOpenerModel.laysLine(III)V -/
def k_57 : List (List zO) := [[o_aload 1 0, o_getF zshp 4 12 24, o_bad, o_bad, o_iload 5 1, o_iload 6 2, o_iast zshp 7, o_aload 8 0, o_getF zshp 11 12 25, o_bad, o_bad, o_iload 12 1, o_con 14 (vI (-2)), o_bad, o_iast zshp 15, o_aload 16 0],
  [o_getF zshp 19 12 26, o_bad, o_bad, o_iload 20 1, o_con 22 (vI (-2)), o_bad, o_iast zshp 23, o_aload 24 0, o_getF zshp 27 12 27, o_bad, o_bad, o_iload 28 1, o_con 30 (vI (-2)), o_bad, o_iast zshp 31, o_aload 32 0],
  [o_getF zshp 35 12 28, o_bad, o_bad, o_iload 36 1, o_con 38 (vI (-2)), o_bad, o_iast zshp 39, o_aload 40 0, o_getF zshp 43 12 29, o_bad, o_bad, o_iload 44 1, o_con 46 (vI (-2)), o_bad, o_iast zshp 47, o_aload 48 0],
  [o_getF zshp 51 12 30, o_bad, o_bad, o_iload 52 1, o_con 54 (vI (-2)), o_bad, o_iast zshp 55, o_aload 56 0, o_getF zshp 59 12 31, o_bad, o_bad, o_iload 60 1, o_iload 61 3, o_iast zshp 62, o_aload 63 0, o_getF zshp 66 12 32],
  [o_bad, o_bad, o_iload 67 1, o_con 68 (vI 0), o_iast zshp 69, o_aload 70 0, o_getF zshp 73 12 33, o_bad, o_bad, o_iload 74 1, o_con 75 (vI 0), o_iast zshp 76, o_aload 77 0, o_getF zshp 80 12 35, o_bad, o_bad],
  [o_iload 81 1, o_con 82 (vI 0), o_zast zshp 83, o_aload 84 0, o_getF zshp 87 12 34, o_bad, o_bad, o_iload 88 1, o_con 89 (vI (-1)), o_iast zshp 90, o_ret]]
/-- CallOpenerModel.begins(I)I -/
def k_58 : List (List zO) := [[o_con 2 (vI 60), o_bad, o_aload 3 0, o_getI zshp 6 12 11, o_bad, o_bad, o_imul 7, o_aload 8 0, o_getF zshp 11 12 14, o_bad, o_bad, o_aload 12 0, o_getI zshp 15 12 11, o_bad, o_bad, o_ald zshp 16 14],
  [o_iadd 17, o_istore 18 2, o_aload 19 0, o_getF zshp 22 12 14, o_bad, o_bad, o_aload 23 0, o_getI zshp 26 12 11, o_bad, o_bad, o_aload 27 0, o_getF zshp 30 12 14, o_bad, o_bad, o_aload 31 0, o_getI zshp 34 12 11],
  [o_bad, o_bad, o_ald zshp 35 14, o_con 36 (vI 1), o_iadd 37, o_iast zshp 38, o_aload 39 0, o_getF zshp 42 12 20, o_bad, o_bad, o_aload 43 0, o_inv zshp 46 51 1 12 1 1, o_bad, o_bad, o_aload 47 0, o_getF zshp 50 12 20],
  [o_bad, o_bad, o_aload 51 0, o_inv zshp 54 51 1 12 1 1, o_bad, o_bad, o_ald zshp 55 14, o_con 56 (vI 1), o_iadd 57, o_iast zshp 58, o_aload 59 0, o_iload 60 2, o_iload 61 1, o_aload 62 0, o_getI zshp 65 12 47, o_bad],
  [o_bad, o_con 66 (vI 1), o_isub 67, o_inv zshp 70 57 4 12 0 4, o_bad, o_bad, o_iload 71 2, o_iret]]
/-- CallOpenerModel.readsCall(IJI)Z -/
def k_59 : List (List zO) := [[o_aload 1 0, o_getF zshp 4 12 15, o_bad, o_bad, o_aload 5 0, o_getI zshp 8 12 11, o_bad, o_bad, o_ald zshp 9 14, o_con 11 (vI 16), o_bad, o_icmpne 14 22, o_bad, o_bad, o_aload 15 0, o_con 16 (vI 4)],
  [o_iload 18 4, o_bad, o_inv zshp 21 44 3 12 1 3, o_bad, o_bad, o_zret, o_con 24 (vI 16), o_bad, o_aload 25 0, o_getI zshp 28 12 11, o_bad, o_bad, o_imul 29, o_aload 30 0, o_getF zshp 33 12 15, o_bad],
  [o_bad, o_aload 34 0, o_getI zshp 37 12 11, o_bad, o_bad, o_ald zshp 38 14, o_iadd 39, o_istore 41 5, o_bad, o_aload 42 0, o_getF zshp 45 12 15, o_bad, o_bad, o_aload 46 0, o_getI zshp 49 12 11, o_bad],
  [o_bad, o_aload 50 0, o_getF zshp 53 12 15, o_bad, o_bad, o_aload 54 0, o_getI zshp 57 12 11, o_bad, o_bad, o_ald zshp 58 14, o_con 59 (vI 1), o_iadd 60, o_iast zshp 61, o_aload 62 0, o_getF zshp 65 12 22, o_bad],
  [o_bad, o_aload 66 0, o_inv zshp 69 51 1 12 1 1, o_bad, o_bad, o_aload 70 0, o_getF zshp 73 12 22, o_bad, o_bad, o_aload 74 0, o_inv zshp 77 51 1 12 1 1, o_bad, o_bad, o_ald zshp 78 14, o_con 79 (vI 1), o_iadd 80],
  [o_iast zshp 81, o_aload 82 0, o_getF zshp 85 12 24, o_bad, o_bad, o_iload 86 1, o_con 88 (vI 6), o_bad, o_iast zshp 89, o_aload 90 0, o_getF zshp 93 12 30, o_bad, o_bad, o_iload 94 1, o_iload 96 5, o_bad],
  [o_con 98 (vI 16), o_bad, o_aload 99 0, o_getI zshp 102 12 11, o_bad, o_bad, o_imul 103, o_isub 104, o_iast zshp 105, o_aload 106 0, o_getF zshp 109 12 36, o_bad, o_bad, o_iload 111 5, o_bad, o_iload 112 1],
  [o_iast zshp 113, o_aload 114 0, o_getF zshp 117 12 43, o_bad, o_bad, o_iload 119 5, o_bad, o_lload 120 2, o_last zshp 121, o_aload 122 0, o_getF zshp 125 12 40, o_bad, o_bad, o_iload 127 5, o_bad, o_iload 129 4],
  [o_bad, o_iast zshp 130, o_aload 131 0, o_getF zshp 134 12 42, o_bad, o_bad, o_iload 136 5, o_bad, o_aload 137 0, o_getI zshp 140 12 12, o_bad, o_bad, o_iast zshp 141, o_aload 142 0, o_getF zshp 145 12 37, o_bad],
  [o_bad, o_iload 147 5, o_bad, o_con 148 (vI 0), o_iast zshp 149, o_aload 150 0, o_getF zshp 153 12 38, o_bad, o_bad, o_iload 155 5, o_bad, o_con 156 (vI 0), o_iast zshp 157, o_con 158 (vI 1), o_istore 160 6, o_bad],
  [o_iload 162 6, o_bad, o_aload 163 0, o_getI zshp 166 12 47, o_bad, o_bad, o_icmpge 169 227, o_bad, o_bad, o_aload 170 0, o_getF zshp 173 12 24, o_bad, o_bad, o_aload 174 0, o_getF zshp 177 12 45, o_bad],
  [o_bad, o_iload 179 6, o_bad, o_ald zshp 180 14, o_ald zshp 181 14, o_con 183 (vI 8), o_bad, o_icmpne 186 205, o_bad, o_bad, o_aload 187 0, o_getF zshp 190 12 37, o_bad, o_bad, o_iload 192 5, o_bad],
  [o_aload 193 0, o_getF zshp 196 12 37, o_bad, o_bad, o_iload 198 5, o_bad, o_ald zshp 199 14, o_con 200 (vI 1), o_iadd 201, o_iast zshp 202, o_goto 221, o_bad, o_bad, o_aload 206 0, o_getF zshp 209 12 38, o_bad],
  [o_bad, o_iload 211 5, o_bad, o_aload 212 0, o_getF zshp 215 12 38, o_bad, o_bad, o_iload 217 5, o_bad, o_ald zshp 218 14, o_con 219 (vI 1), o_iadd 220, o_iast zshp 221, o_iinc 224 6 1, o_bad, o_bad],
  [o_goto 160, o_bad, o_bad, o_aload 228 0, o_getF zshp 231 12 39, o_bad, o_bad, o_iload 233 5, o_bad, o_con 234 (vI 0), o_iast zshp 235, o_aload 236 0, o_getF zshp 239 12 41, o_bad, o_bad, o_iload 241 5],
  [o_bad, o_con 242 (vI 0), o_iast zshp 243, o_aload 244 0, o_inv zshp 247 43 1 12 0 2, o_bad, o_bad, o_aload 248 0, o_con 250 (vI 41), o_bad, o_inv zshp 253 47 2 12 1 2, o_bad, o_bad, o_ifne 256 260, o_bad, o_bad],
  [o_con 257 (vI 1), o_goto 261, o_bad, o_bad, o_con 261 (vI 0), o_istore 263 6, o_bad, o_iload 265 6, o_bad, o_ifeq 268 398, o_bad, o_bad, o_aload 269 0, o_inv zshp 272 53 1 12 1 2, o_bad, o_bad],
  [o_ifne 275 277, o_bad, o_bad, o_con 276 (vI 0), o_zret, o_aload 278 0, o_getF zshp 281 12 39, o_bad, o_bad, o_iload 283 5, o_bad, o_ald zshp 284 14, o_ifne 287 297, o_bad, o_bad, o_aload 288 0],
  [o_getF zshp 291 12 26, o_bad, o_bad, o_iload 292 1, o_aload 293 0, o_getI zshp 296 12 48, o_bad, o_bad, o_iast zshp 297, o_aload 298 0, o_getF zshp 301 12 39, o_bad, o_bad, o_iload 303 5, o_bad, o_ald zshp 304 14],
  [o_con 305 (vI 1), o_icmpne 308 318, o_bad, o_bad, o_aload 309 0, o_getF zshp 312 12 27, o_bad, o_bad, o_iload 313 1, o_aload 314 0, o_getI zshp 317 12 48, o_bad, o_bad, o_iast zshp 318, o_aload 319 0, o_getF zshp 322 12 39],
  [o_bad, o_bad, o_iload 324 5, o_bad, o_ald zshp 325 14, o_con 326 (vI 2), o_icmpne 329 339, o_bad, o_bad, o_aload 330 0, o_getF zshp 333 12 28, o_bad, o_bad, o_iload 334 1, o_aload 335 0, o_getI zshp 338 12 48],
  [o_bad, o_bad, o_iast zshp 339, o_aload 340 0, o_getF zshp 343 12 39, o_bad, o_bad, o_iload 345 5, o_bad, o_aload 346 0, o_getF zshp 349 12 39, o_bad, o_bad, o_iload 351 5, o_bad, o_ald zshp 352 14],
  [o_con 353 (vI 1), o_iadd 354, o_iast zshp 355, o_aload 356 0, o_getI zshp 359 12 48, o_bad, o_bad, o_iflt 362 378, o_bad, o_bad, o_aload 363 0, o_getF zshp 366 12 41, o_bad, o_bad, o_iload 368 5, o_bad],
  [o_aload 369 0, o_getF zshp 372 12 41, o_bad, o_bad, o_iload 374 5, o_bad, o_ald zshp 375 14, o_con 376 (vI 1), o_iadd 377, o_iast zshp 378, o_aload 379 0, o_con 381 (vI 44), o_bad, o_inv zshp 384 47 2 12 1 2, o_bad, o_bad],
  [o_istore 386 6, o_bad, o_iload 388 6, o_bad, o_ifeq 391 263, o_bad, o_bad, o_aload 392 0, o_inv zshp 395 43 1 12 0 2, o_bad, o_bad, o_goto 263, o_bad, o_bad, o_aload 399 0, o_con 401 (vI 41)],
  [o_bad, o_inv zshp 404 49 2 12 1 2, o_bad, o_bad, o_zret]]
/-- CallOpenerModel.signOp()I -/
def k_60 : List (List zO) := [[o_aload 1 0, o_getI zshp 4 12 5, o_bad, o_bad, o_con 5 (vI 3), o_icmpeq 8 10, o_bad, o_bad, o_con 9 (vI (-1)), o_iret, o_aload 11 0, o_getI zshp 14 12 8, o_bad, o_bad, o_con 16 (vI 43), o_bad],
  [o_icmpne 19 23, o_bad, o_bad, o_con 20 (vI 1), o_goto 76, o_bad, o_bad, o_aload 24 0, o_getI zshp 27 12 8, o_bad, o_bad, o_con 29 (vI 45), o_bad, o_icmpne 32 36, o_bad, o_bad],
  [o_con 33 (vI 2), o_goto 76, o_bad, o_bad, o_aload 37 0, o_getI zshp 40 12 8, o_bad, o_bad, o_con 42 (vI 42), o_bad, o_icmpne 45 49, o_bad, o_bad, o_con 46 (vI 3), o_goto 76, o_bad],
  [o_bad, o_aload 50 0, o_getI zshp 53 12 8, o_bad, o_bad, o_con 55 (vI 60), o_bad, o_icmpne 58 62, o_bad, o_bad, o_con 59 (vI 4), o_goto 76, o_bad, o_bad, o_aload 63 0, o_getI zshp 66 12 8],
  [o_bad, o_bad, o_con 68 (vI 61), o_bad, o_icmpne 71 75, o_bad, o_bad, o_con 72 (vI 5), o_goto 76, o_bad, o_bad, o_con 76 (vI (-1)), o_iret]]
/-- CallOpenerModel.readsValue(I)Z -/
def k_61 : List (List zO) := [[o_aload 1 0, o_getI zshp 4 12 5, o_bad, o_bad, o_con 5 (vI 2), o_icmpne 8 17, o_bad, o_bad, o_aload 9 0, o_inv zshp 12 53 1 12 1 2, o_bad, o_bad, o_ifne 15 85, o_bad, o_bad, o_con 16 (vI 0)],
  [o_zret, o_aload 18 0, o_inv zshp 21 50 1 12 1 1, o_bad, o_bad, o_ifne 24 26, o_bad, o_bad, o_con 25 (vI 0), o_zret, o_aload 27 0, o_getJ zshp 30 12 10, o_bad, o_bad, o_lstore 31 2, o_aload 32 0],
  [o_getI zshp 35 12 6, o_bad, o_bad, o_istore 37 4, o_bad, o_aload 38 0, o_inv zshp 41 43 1 12 0 2, o_bad, o_bad, o_aload 42 0, o_con 44 (vI 40), o_bad, o_inv zshp 47 47 2 12 1 2, o_bad, o_bad, o_ifeq 50 59],
  [o_bad, o_bad, o_aload 51 0, o_iload 52 1, o_lload 53 2, o_iload 55 4, o_bad, o_inv zshp 58 59 4 12 1 7, o_bad, o_bad, o_zret, o_aload 60 0, o_lload 61 2, o_iload 63 4, o_bad, o_inv zshp 66 52 3 12 1 5],
  [o_bad, o_bad, o_istore 68 5, o_bad, o_iload 70 5, o_bad, o_con 71 (vI (-1)), o_icmpne 74 76, o_bad, o_bad, o_con 75 (vI 0), o_zret, o_aload 77 0, o_con 79 (vI (-10)), o_bad, o_iload 81 5],
  [o_bad, o_isub 82, o_putI zshp 85 12 48, o_bad, o_bad, o_aload 86 0, o_getF zshp 89 12 26, o_bad, o_bad, o_iload 90 1, o_aload 91 0, o_getI zshp 94 12 48, o_bad, o_bad, o_iast zshp 95, o_aload 96 0],
  [o_inv zshp 99 60 1 12 1 1, o_bad, o_bad, o_istore 100 2, o_iload 101 2, o_con 102 (vI (-1)), o_icmpne 105 107, o_bad, o_bad, o_con 106 (vI 1), o_zret, o_aload 108 0, o_getF zshp 111 12 24, o_bad, o_bad, o_iload 112 1],
  [o_iload 113 2, o_iast zshp 114, o_aload 115 0, o_inv zshp 118 43 1 12 0 2, o_bad, o_bad, o_aload 119 0, o_inv zshp 122 53 1 12 1 2, o_bad, o_bad, o_ifne 125 127, o_bad, o_bad, o_con 126 (vI 0), o_zret, o_aload 128 0],
  [o_getF zshp 131 12 27, o_bad, o_bad, o_iload 132 1, o_aload 133 0, o_getI zshp 136 12 48, o_bad, o_bad, o_iast zshp 137, o_con 138 (vI 1), o_zret]]
/-- CallOpenerModel.readsLine()Z -/
def k_62 : List (List zO) := [[o_aload 1 0, o_con 4 (vJ 294), o_bad, o_bad, o_inv zshp 7 46 2 12 1 3, o_bad, o_bad, o_ifne 10 20, o_bad, o_bad, o_aload 11 0, o_con 14 (vJ 409072), o_bad, o_bad, o_inv zshp 17 46 2 12 1 3, o_bad],
  [o_bad, o_ifeq 20 24, o_bad, o_bad, o_con 21 (vI 1), o_goto 25, o_bad, o_bad, o_con 25 (vI 0), o_istore 26 1, o_aload 27 0, o_con 30 (vJ 239301), o_bad, o_bad, o_inv zshp 33 46 2 12 1 3, o_bad],
  [o_bad, o_istore 34 2, o_iload 35 2, o_ifeq 38 52, o_bad, o_bad, o_aload 39 0, o_getI zshp 42 12 47, o_bad, o_bad, o_con 43 (vI 1), o_icmple 46 52, o_bad, o_bad, o_aload 47 0, o_con 48 (vI 1)],
  [o_inv zshp 51 45 2 12 1 2, o_bad, o_bad, o_zret, o_iload 53 1, o_ifne 56 69, o_bad, o_bad, o_iload 57 2, o_ifne 60 69, o_bad, o_bad, o_aload 61 0, o_inv zshp 64 50 1 12 1 1, o_bad, o_bad],
  [o_ifne 67 69, o_bad, o_bad, o_con 68 (vI 0), o_zret, o_aload 70 0, o_getF zshp 73 12 14, o_bad, o_bad, o_aload 74 0, o_getI zshp 77 12 11, o_bad, o_bad, o_ald zshp 78 14, o_con 80 (vI 60), o_bad],
  [o_icmpne 83 89, o_bad, o_bad, o_aload 84 0, o_con 85 (vI 4), o_inv zshp 88 45 2 12 1 2, o_bad, o_bad, o_zret, o_aload 90 0, o_aload 91 0, o_con 94 (vJ 294), o_bad, o_bad, o_inv zshp 97 46 2 12 1 3, o_bad],
  [o_bad, o_ifeq 100 105, o_bad, o_bad, o_con 102 (vI 7), o_bad, o_goto 130, o_bad, o_bad, o_aload 106 0, o_con 109 (vJ 409072), o_bad, o_bad, o_inv zshp 112 46 2 12 1 3, o_bad, o_bad],
  [o_ifeq 115 120, o_bad, o_bad, o_con 117 (vI 8), o_bad, o_goto 130, o_bad, o_bad, o_iload 121 2, o_ifeq 124 129, o_bad, o_bad, o_con 126 (vI 9), o_bad, o_goto 130, o_bad],
  [o_bad, o_con 130 (vI 0), o_inv zshp 133 58 2 12 1 3, o_bad, o_bad, o_istore 134 3, o_iload 135 1, o_ifne 138 142, o_bad, o_bad, o_iload 139 2, o_ifeq 142 218, o_bad, o_bad, o_aload 143 0, o_inv zshp 146 43 1 12 0 2],
  [o_bad, o_bad, o_aload 147 0, o_inv zshp 150 53 1 12 1 2, o_bad, o_bad, o_ifne 153 155, o_bad, o_bad, o_con 154 (vI 0), o_zret, o_aload 156 0, o_getF zshp 159 12 26, o_bad, o_bad, o_iload 160 3],
  [o_aload 161 0, o_getI zshp 164 12 48, o_bad, o_bad, o_iast zshp 165, o_iload 166 1, o_ifeq 169 176, o_bad, o_bad, o_aload 170 0, o_iload 171 3, o_con 172 (vI 0), o_inv zshp 175 56 3 12 1 3, o_bad, o_bad, o_zret],
  [o_aload 177 0, o_getF zshp 180 12 23, o_bad, o_bad, o_aload 181 0, o_inv zshp 184 51 1 12 1 1, o_bad, o_bad, o_con 185 (vI 1), o_zast zshp 186, o_aload 187 0, o_con 189 (vI 59), o_bad, o_inv zshp 192 49 2 12 1 2, o_bad, o_bad],
  [o_ifeq 195 216, o_bad, o_bad, o_aload 196 0, o_con 198 (vI 125), o_bad, o_inv zshp 201 47 2 12 1 2, o_bad, o_bad, o_ifne 204 212, o_bad, o_bad, o_aload 205 0, o_con 206 (vI 1), o_inv zshp 209 45 2 12 1 2, o_bad],
  [o_bad, o_ifeq 212 216, o_bad, o_bad, o_con 213 (vI 1), o_goto 217, o_bad, o_bad, o_con 217 (vI 0), o_zret, o_aload 219 0, o_aload 220 0, o_getJ zshp 223 12 10, o_bad, o_bad, o_aload 224 0],
  [o_getI zshp 227 12 6, o_bad, o_bad, o_inv zshp 230 52 3 12 1 5, o_bad, o_bad, o_istore 232 4, o_bad, o_iload 234 4, o_bad, o_con 235 (vI (-1)), o_icmpne 238 240, o_bad, o_bad, o_con 239 (vI 0), o_zret],
  [o_aload 241 0, o_getF zshp 244 12 25, o_bad, o_bad, o_iload 245 3, o_iload 247 4, o_bad, o_iast zshp 248, o_aload 249 0, o_inv zshp 252 43 1 12 0 2, o_bad, o_bad, o_aload 253 0, o_con 255 (vI 61), o_bad, o_inv zshp 258 49 2 12 1 2],
  [o_bad, o_bad, o_ifeq 261 282, o_bad, o_bad, o_aload 262 0, o_iload 263 3, o_inv zshp 266 61 2 12 1 6, o_bad, o_bad, o_ifeq 269 282, o_bad, o_bad, o_aload 270 0, o_con 272 (vI 59), o_bad],
  [o_inv zshp 275 49 2 12 1 2, o_bad, o_bad, o_ifeq 278 282, o_bad, o_bad, o_con 279 (vI 1), o_goto 283, o_bad, o_bad, o_con 283 (vI 0), o_zret]]
/-- CallOpenerModel.closes()Z -/
def k_63 : List (List zO) := [[o_aload 1 0, o_inv zshp 4 43 1 12 0 2, o_bad, o_bad, o_aload 5 0, o_getI zshp 8 12 47, o_bad, o_bad, o_con 9 (vI 1), o_isub 10, o_istore 11 1, o_aload 12 0, o_iload 13 1, o_putI zshp 16 12 47, o_bad, o_bad],
  [o_aload 17 0, o_getF zshp 20 12 45, o_bad, o_bad, o_iload 21 1, o_ald zshp 22 14, o_istore 23 2, o_iload 24 2, o_con 25 (vI (-1)), o_icmpne 28 30, o_bad, o_bad, o_con 29 (vI 1), o_zret, o_con 32 (vI 60), o_bad],
  [o_aload 33 0, o_getI zshp 36 12 11, o_bad, o_bad, o_imul 37, o_aload 38 0, o_getF zshp 41 12 14, o_bad, o_bad, o_aload 42 0, o_getI zshp 45 12 11, o_bad, o_bad, o_ald zshp 46 14, o_iadd 47, o_iload 48 2],
  [o_isub 49, o_con 50 (vI 1), o_isub 51, o_istore 52 3, o_aload 53 0, o_getF zshp 56 12 46, o_bad, o_bad, o_iload 57 1, o_ald zshp 58 16, o_ifeq 61 78, o_bad, o_bad, o_aload 62 0, o_getF zshp 65 12 33, o_bad],
  [o_bad, o_iload 66 2, o_iload 67 3, o_aload 68 0, o_getF zshp 71 12 32, o_bad, o_bad, o_iload 72 2, o_ald zshp 73 14, o_isub 74, o_iast zshp 75, o_goto 85, o_bad, o_bad, o_aload 79 0, o_getF zshp 82 12 32],
  [o_bad, o_bad, o_iload 83 2, o_iload 84 3, o_iast zshp 85, o_aload 86 0, o_getF zshp 89 12 46, o_bad, o_bad, o_iload 90 1, o_ald zshp 91 16, o_ifne 94 115, o_bad, o_bad, o_aload 95 0, o_getF zshp 98 12 24],
  [o_bad, o_bad, o_iload 99 2, o_ald zshp 100 14, o_con 102 (vI 7), o_bad, o_icmpne 105 115, o_bad, o_bad, o_aload 106 0, o_con 109 (vJ 176741), o_bad, o_bad, o_inv zshp 112 46 2 12 1 3, o_bad, o_bad],
  [o_ifne 115 117, o_bad, o_bad, o_con 116 (vI 1), o_zret, o_aload 118 0, o_getF zshp 121 12 35, o_bad, o_bad, o_iload 122 2, o_con 123 (vI 1), o_zast zshp 124, o_aload 125 0, o_inv zshp 128 43 1 12 0 2, o_bad, o_bad],
  [o_aload 129 0, o_iload 130 2, o_con 131 (vI 1), o_inv zshp 134 56 3 12 1 3, o_bad, o_bad, o_zret]]
/-- CallOpenerModel.reads()Z -/
def k_64 : List (List zO) := [[o_aload 1 0, o_getF zshp 4 12 13, o_bad, o_bad, o_aload 5 0, o_getI zshp 8 12 11, o_bad, o_bad, o_con 9 (vI 0), o_iast zshp 10, o_aload 11 0, o_getF zshp 14 12 14, o_bad, o_bad, o_aload 15 0, o_getI zshp 18 12 11],
  [o_bad, o_bad, o_con 19 (vI 0), o_iast zshp 20, o_aload 21 0, o_getF zshp 24 12 15, o_bad, o_bad, o_aload 25 0, o_getI zshp 28 12 11, o_bad, o_bad, o_con 29 (vI 0), o_iast zshp 30, o_aload 31 0, o_getI zshp 34 12 5],
  [o_bad, o_bad, o_ifeq 37 95, o_bad, o_bad, o_aload 38 0, o_con 39 (vI 0), o_putI zshp 42 12 47, o_bad, o_bad, o_aload 43 0, o_inv zshp 46 55 1 12 1 2, o_bad, o_bad, o_ifeq 49 58, o_bad],
  [o_bad, o_aload 50 0, o_con 51 (vI (-1)), o_con 52 (vI 0), o_inv zshp 55 56 3 12 1 3, o_bad, o_bad, o_ifne 58 60, o_bad, o_bad, o_con 59 (vI 0), o_zret, o_aload 61 0, o_getI zshp 64 12 47, o_bad, o_bad],
  [o_ifle 67 30, o_bad, o_bad, o_aload 68 0, o_con 70 (vI 125), o_bad, o_inv zshp 73 47 2 12 1 2, o_bad, o_bad, o_ifeq 76 86, o_bad, o_bad, o_aload 77 0, o_inv zshp 80 63 1 12 1 4, o_bad, o_bad],
  [o_ifne 83 60, o_bad, o_bad, o_goto 93, o_bad, o_bad, o_aload 87 0, o_inv zshp 90 62 1 12 1 5, o_bad, o_bad, o_ifne 93 60, o_bad, o_bad, o_con 94 (vI 0), o_zret, o_con 96 (vI 1)],
  [o_zret]]
/-- CallOpenerModel.finds()Z -/
def k_65 : List (List zO) := [[o_con 1 (vI 0), o_istore 2 1, o_iload 3 1, o_aload 4 0, o_getF zshp 7 12 15, o_bad, o_bad, o_aload 8 0, o_getI zshp 11 12 11, o_bad, o_bad, o_ald zshp 12 14, o_icmpge 15 137, o_bad, o_bad, o_con 17 (vI 16)],
  [o_bad, o_aload 18 0, o_getI zshp 21 12 11, o_bad, o_bad, o_imul 22, o_iload 23 1, o_iadd 24, o_istore 25 2, o_con 26 (vI (-1)), o_istore 27 3, o_con 28 (vI 0), o_istore 30 4, o_bad, o_iload 32 4, o_bad],
  [o_aload 33 0, o_getF zshp 36 12 13, o_bad, o_bad, o_aload 37 0, o_getI zshp 40 12 11, o_bad, o_bad, o_ald zshp 41 14, o_icmpge 44 78, o_bad, o_bad, o_aload 45 0, o_getF zshp 48 12 16, o_bad, o_bad],
  [o_con 50 (vI 8), o_bad, o_aload 51 0, o_getI zshp 54 12 11, o_bad, o_bad, o_imul 55, o_iload 57 4, o_bad, o_iadd 58, o_lald zshp 59, o_aload 60 0, o_getF zshp 63 12 43, o_bad, o_bad, o_iload 64 2],
  [o_lald zshp 65, o_lcmp 66, o_ifne 69 72, o_bad, o_bad, o_iload 71 4, o_bad, o_istore 72 3, o_iinc 75 4 1, o_bad, o_bad, o_goto 30, o_bad, o_bad, o_iload 79 3, o_con 80 (vI (-1))],
  [o_icmpeq 83 106, o_bad, o_bad, o_aload 84 0, o_getF zshp 87 12 17, o_bad, o_bad, o_con 89 (vI 8), o_bad, o_aload 90 0, o_getI zshp 93 12 11, o_bad, o_bad, o_imul 94, o_iload 95 3, o_iadd 96],
  [o_ald zshp 97 14, o_aload 98 0, o_getF zshp 101 12 39, o_bad, o_bad, o_iload 102 2, o_ald zshp 103 14, o_icmpeq 106 119, o_bad, o_bad, o_aload 107 0, o_con 109 (vI 6), o_bad, o_aload 110 0, o_getF zshp 113 12 40, o_bad],
  [o_bad, o_iload 114 2, o_ald zshp 115 14, o_inv zshp 118 44 3 12 1 3, o_bad, o_bad, o_zret, o_aload 120 0, o_getF zshp 123 12 29, o_bad, o_bad, o_aload 124 0, o_getF zshp 127 12 36, o_bad, o_bad, o_iload 128 2],
  [o_ald zshp 129 14, o_iload 130 3, o_iast zshp 131, o_iinc 134 1 1, o_bad, o_bad, o_goto 2, o_bad, o_bad, o_con 138 (vI 1), o_zret]]
/-- CallOpenerModel.program(I)I -/
def k_66 : List (List zO) := [[o_iload 1 1, o_con 2 (vI 0), o_con 5 (vI 400), o_bad, o_bad, o_inv zshp 8 37 3 99 1 3, o_bad, o_bad, o_ifeq 11 19, o_bad, o_bad, o_iload 12 1, o_aload 13 0, o_getI zshp 16 12 1, o_bad, o_bad],
  [o_icmple 19 21, o_bad, o_bad, o_con 20 (vI (-1)), o_iret, o_aload 22 0, o_con 23 (vI 0), o_putI zshp 26 12 2, o_bad, o_bad, o_aload 27 0, o_iload 28 1, o_putI zshp 31 12 3, o_bad, o_bad, o_aload 32 0],
  [o_con 33 (vI 0), o_putI zshp 36 12 1, o_bad, o_bad, o_aload 37 0, o_inv zshp 40 43 1 12 0 2, o_bad, o_bad, o_aload 41 0, o_con 42 (vI 1), o_aload 43 0, o_getI zshp 46 12 11, o_bad, o_bad, o_isub 47, o_putI zshp 50 12 11],
  [o_bad, o_bad, o_aload 51 0, o_inv zshp 54 64 1 12 1 1, o_bad, o_bad, o_ifeq 57 64, o_bad, o_bad, o_aload 58 0, o_inv zshp 61 65 1 12 1 5, o_bad, o_bad, o_ifne 64 79, o_bad, o_bad],
  [o_aload 65 0, o_con 66 (vI 1), o_aload 67 0, o_getI zshp 70 12 11, o_bad, o_bad, o_isub 71, o_putI zshp 74 12 11, o_bad, o_bad, o_aload 75 0, o_getI zshp 78 12 4, o_bad, o_bad, o_iret, o_aload 80 0],
  [o_inv zshp 83 67 1 12 0 2, o_bad, o_bad, o_aload 84 0, o_inv zshp 87 91 1 12 1 3, o_bad, o_bad, o_pop 88, o_aload 89 0, o_getF zshp 92 12 13, o_bad, o_bad, o_aload 93 0, o_getI zshp 96 12 11, o_bad, o_bad],
  [o_ald zshp 97 14, o_iret]]
/-- CallOpenerModel.laysNumbers()V -/
def k_67 : List (List zO) := [[o_con 1 (vI 0), o_istore 2 1, o_iload 3 1, o_con 5 (vI 8), o_bad, o_icmpge 8 28, o_bad, o_bad, o_aload 9 0, o_getF zshp 12 12 49, o_bad, o_bad, o_iload 13 1, o_iload 14 1, o_iast zshp 15, o_aload 16 0],
  [o_getF zshp 19 12 50, o_bad, o_bad, o_iload 20 1, o_iload 21 1, o_iast zshp 22, o_iinc 25 1 1, o_bad, o_bad, o_goto 2, o_bad, o_bad, o_ret]]
/-- CallOpenerModel.isFunction(I)Z -/
def k_68 : List (List zO) := [[o_iload 1 1, o_con 2 (vI 0), o_aload 3 0, o_getF zshp 6 12 13, o_bad, o_bad, o_aload 7 0, o_getI zshp 10 12 11, o_bad, o_bad, o_ald zshp 11 14, o_con 12 (vI 1), o_isub 13, o_inv zshp 16 37 3 99 1 3, o_bad, o_bad],
  [o_zret]]
/-- CallOpenerModel.at(I)I -/
def k_69 : List (List zO) := [[o_aload 1 0, o_getF zshp 4 12 49, o_bad, o_bad, o_iload 5 1, o_ald zshp 6 14, o_iret]]
/-- CallOpenerModel.swap(II)I -/
def k_70 : List (List zO) := [[o_aload 1 0, o_iload 2 1, o_inv zshp 5 68 2 12 1 2, o_bad, o_bad, o_ifeq 8 16, o_bad, o_bad, o_aload 9 0, o_iload 10 2, o_inv zshp 13 68 2 12 1 2, o_bad, o_bad, o_ifne 16 18, o_bad, o_bad],
  [o_con 17 (vI (-1)), o_iret, o_aload 19 0, o_getF zshp 22 12 49, o_bad, o_bad, o_iload 23 1, o_ald zshp 24 14, o_istore 25 3, o_aload 26 0, o_getF zshp 29 12 49, o_bad, o_bad, o_iload 30 1, o_aload 31 0, o_getF zshp 34 12 49],
  [o_bad, o_bad, o_iload 35 2, o_ald zshp 36 14, o_iast zshp 37, o_aload 38 0, o_getF zshp 41 12 49, o_bad, o_bad, o_iload 42 2, o_iload 43 3, o_iast zshp 44, o_aload 45 0, o_getF zshp 48 12 50, o_bad, o_bad],
  [o_aload 49 0, o_getF zshp 52 12 49, o_bad, o_bad, o_iload 53 1, o_ald zshp 54 14, o_iload 55 1, o_iast zshp 56, o_aload 57 0, o_getF zshp 60 12 50, o_bad, o_bad, o_aload 61 0, o_getF zshp 64 12 49, o_bad, o_bad],
  [o_iload 65 2, o_ald zshp 66 14, o_iload 67 2, o_iast zshp 68, o_iload 69 1, o_iload 70 2, o_icmpne 73 77, o_bad, o_bad, o_con 74 (vI 0), o_goto 78, o_bad, o_bad, o_con 78 (vI 1), o_iret]]
/-- CallOpenerModel.first(I)I -/
def k_71 : List (List zO) := [[o_con 2 (vI 60), o_bad, o_aload 3 0, o_getI zshp 6 12 11, o_bad, o_bad, o_imul 7, o_aload 8 0, o_getF zshp 11 12 19, o_bad, o_bad, o_con 13 (vI 8), o_bad, o_aload 14 0, o_getI zshp 17 12 11, o_bad],
  [o_bad, o_imul 18, o_iload 19 1, o_iadd 20, o_ald zshp 21 14, o_iadd 22, o_iret]]
/-- CallOpenerModel.manyOf(I)I -/
def k_72 : List (List zO) := [[o_aload 1 0, o_getF zshp 4 12 20, o_bad, o_bad, o_con 6 (vI 8), o_bad, o_aload 7 0, o_getI zshp 10 12 11, o_bad, o_bad, o_imul 11, o_iload 12 1, o_iadd 13, o_ald zshp 14 14, o_iret]]
/-- CallOpenerModel.varsOf(I)I -/
def k_73 : List (List zO) := [[o_aload 1 0, o_getF zshp 4 12 18, o_bad, o_bad, o_con 6 (vI 8), o_bad, o_aload 7 0, o_getI zshp 10 12 11, o_bad, o_bad, o_imul 11, o_iload 12 1, o_iadd 13, o_ald zshp 14 14, o_iret]]
/-- CallOpenerModel.paramsOf(I)I -/
def k_74 : List (List zO) := [[o_aload 1 0, o_getF zshp 4 12 17, o_bad, o_bad, o_con 6 (vI 8), o_bad, o_aload 7 0, o_getI zshp 10 12 11, o_bad, o_bad, o_imul 11, o_iload 12 1, o_iadd 13, o_ald zshp 14 14, o_iret]]
/-- CallOpenerModel.isGiving(I)Z -/
def k_75 : List (List zO) := [[o_aload 1 0, o_getF zshp 4 12 23, o_bad, o_bad, o_con 6 (vI 8), o_bad, o_aload 7 0, o_getI zshp 10 12 11, o_bad, o_bad, o_imul 11, o_iload 12 1, o_iadd 13, o_ald zshp 14 16, o_zret]]
/-- CallOpenerModel.addsOf(I)I -/
def k_76 : List (List zO) := [[o_aload 1 0, o_iload 2 1, o_inv zshp 5 72 2 12 1 2, o_bad, o_bad, o_aload 6 0, o_iload 7 1, o_inv zshp 10 75 2 12 1 2, o_bad, o_bad, o_ifeq 13 17, o_bad, o_bad, o_con 14 (vI 1), o_goto 18, o_bad],
  [o_bad, o_con 18 (vI 0), o_isub 19, o_aload 20 0, o_iload 21 1, o_inv zshp 24 73 2 12 1 2, o_bad, o_bad, o_iadd 25, o_iret]]
/-- CallOpenerModel.enters(IIII)V -/
def k_77 : List (List zO) := [[o_aload 1 0, o_getF zshp 4 12 57, o_bad, o_bad, o_aload 5 0, o_getI zshp 8 12 67, o_bad, o_bad, o_iload 9 1, o_iast zshp 10, o_aload 11 0, o_getF zshp 14 12 58, o_bad, o_bad, o_aload 15 0, o_getI zshp 18 12 67],
  [o_bad, o_bad, o_iload 19 1, o_iload 20 2, o_iadd 21, o_iast zshp 22, o_aload 23 0, o_getF zshp 26 12 59, o_bad, o_bad, o_aload 27 0, o_getI zshp 30 12 67, o_bad, o_bad, o_aload 31 0, o_getI zshp 34 12 69],
  [o_bad, o_bad, o_iast zshp 35, o_aload 36 0, o_getF zshp 39 12 60, o_bad, o_bad, o_aload 40 0, o_getI zshp 43 12 67, o_bad, o_bad, o_iload 45 4, o_bad, o_iast zshp 46, o_aload 47 0, o_getF zshp 50 12 61],
  [o_bad, o_bad, o_aload 51 0, o_getI zshp 54 12 67, o_bad, o_bad, o_aload 55 0, o_getI zshp 58 12 68, o_bad, o_bad, o_iast zshp 59, o_aload 60 0, o_aload 61 0, o_getI zshp 64 12 67, o_bad, o_bad],
  [o_con 65 (vI 1), o_iadd 66, o_putI zshp 69 12 67, o_bad, o_bad, o_con 70 (vI 0), o_istore 72 5, o_bad, o_iload 74 5, o_bad, o_iload 75 3, o_icmpge 78 97, o_bad, o_bad, o_aload 79 0, o_getF zshp 82 12 62],
  [o_bad, o_bad, o_aload 83 0, o_getI zshp 86 12 69, o_bad, o_bad, o_iload 88 5, o_bad, o_iadd 89, o_con 90 (vI 0), o_iast zshp 91, o_iinc 94 5 1, o_bad, o_bad, o_goto 72, o_bad],
  [o_bad, o_aload 98 0, o_aload 99 0, o_getI zshp 102 12 69, o_bad, o_bad, o_iload 103 3, o_iadd 104, o_putI zshp 107 12 69, o_bad, o_bad, o_aload 108 0, o_aload 109 0, o_getI zshp 112 12 72, o_bad, o_bad],
  [o_aload 113 0, o_getI zshp 116 12 67, o_bad, o_bad, o_inv zshp 119 38 2 99 1 2, o_bad, o_bad, o_putI zshp 122 12 72, o_bad, o_bad, o_ret]]
/-- CallOpenerModel.valueOf(I)I -/
def k_78 : List (List zO) := [[o_iload 1 1, o_iflt 4 8, o_bad, o_bad, o_iload 5 1, o_goto 29, o_bad, o_bad, o_aload 9 0, o_getF zshp 12 12 62, o_bad, o_bad, o_aload 13 0, o_getF zshp 16 12 59, o_bad, o_bad],
  [o_aload 17 0, o_getI zshp 20 12 67, o_bad, o_bad, o_con 21 (vI 1), o_isub 22, o_ald zshp 23 14, o_con 25 (vI 10), o_bad, o_isub 26, o_iload 27 1, o_isub 28, o_ald zshp 29 14, o_iret]]
/-- CallOpenerModel.leaves(I)V -/
def k_79 : List (List zO) := [[o_aload 1 0, o_getI zshp 4 12 67, o_bad, o_bad, o_con 5 (vI 1), o_isub 6, o_istore 7 2, o_aload 8 0, o_iload 9 2, o_putI zshp 12 12 67, o_bad, o_bad, o_aload 13 0, o_aload 14 0, o_getF zshp 17 12 59, o_bad],
  [o_bad, o_iload 18 2, o_ald zshp 19 14, o_putI zshp 22 12 69, o_bad, o_bad, o_aload 23 0, o_aload 24 0, o_getF zshp 27 12 61, o_bad, o_bad, o_iload 28 2, o_ald zshp 29 14, o_putI zshp 32 12 68, o_bad, o_bad],
  [o_iload 33 2, o_ifne 36 49, o_bad, o_bad, o_aload 37 0, o_con 38 (vI 0), o_putI zshp 41 12 73, o_bad, o_bad, o_aload 42 0, o_iload 43 1, o_putI zshp 46 12 74, o_bad, o_bad, o_goto 75, o_bad],
  [o_bad, o_aload 50 0, o_getF zshp 53 12 62, o_bad, o_bad, o_aload 54 0, o_getF zshp 57 12 59, o_bad, o_bad, o_iload 58 2, o_con 59 (vI 1), o_isub 60, o_ald zshp 61 14, o_aload 62 0, o_getF zshp 65 12 25, o_bad],
  [o_bad, o_aload 66 0, o_getF zshp 69 12 60, o_bad, o_bad, o_iload 70 2, o_ald zshp 71 14, o_ald zshp 72 14, o_iadd 73, o_iload 74 1, o_iast zshp 75, o_ret]]
/-- CallOpenerModel.worked(III)I -/
def k_80 : List (List zO) := [[o_iload 1 0, o_sw [(0, 36), (1, 38), (2, 42), (3, 46), (4, 50)] 61, o_bad, o_bad, o_bad, o_bad, o_bad, o_bad, o_bad, o_bad, o_bad, o_bad, o_bad, o_bad, o_bad, o_bad],
  [o_bad, o_bad, o_bad, o_bad, o_bad, o_bad, o_bad, o_bad, o_bad, o_bad, o_bad, o_bad, o_bad, o_bad, o_bad, o_bad],
  [o_bad, o_bad, o_bad, o_bad, o_iload 37 1, o_iret, o_iload 39 1, o_iload 40 2, o_iadd 41, o_iret, o_iload 43 1, o_iload 44 2, o_isub 45, o_iret, o_iload 47 1, o_iload 48 2],
  [o_imul 49, o_iret, o_iload 51 1, o_iload 52 2, o_icmpge 55 59, o_bad, o_bad, o_con 56 (vI 1), o_goto 60, o_bad, o_bad, o_con 60 (vI 0), o_iret, o_iload 62 1, o_iload 63 2, o_icmpne 66 70],
  [o_bad, o_bad, o_con 67 (vI 1), o_goto 71, o_bad, o_bad, o_con 71 (vI 0), o_iret]]
/-- CallOpenerModel.opensBlock(IIII)V -/
def k_81 : List (List zO) := [[o_aload 1 0, o_getF zshp 4 12 63, o_bad, o_bad, o_aload 5 0, o_getI zshp 8 12 68, o_bad, o_bad, o_iload 9 2, o_iast zshp 10, o_aload 11 0, o_getF zshp 14 12 64, o_bad, o_bad, o_aload 15 0, o_getI zshp 18 12 68],
  [o_bad, o_bad, o_iload 20 4, o_bad, o_iast zshp 21, o_aload 22 0, o_getF zshp 25 12 65, o_bad, o_bad, o_aload 26 0, o_getI zshp 29 12 68, o_bad, o_bad, o_iload 30 2, o_iload 31 3, o_iadd 32],
  [o_iast zshp 33, o_aload 34 0, o_getF zshp 37 12 66, o_bad, o_bad, o_aload 38 0, o_getI zshp 41 12 68, o_bad, o_bad, o_iload 42 1, o_con 43 (vI 1), o_iadd 44, o_aload 45 0, o_getF zshp 48 12 32, o_bad, o_bad],
  [o_iload 49 1, o_ald zshp 50 14, o_iadd 51, o_aload 52 0, o_getF zshp 55 12 33, o_bad, o_bad, o_iload 56 1, o_ald zshp 57 14, o_iadd 58, o_iast zshp 59, o_aload 60 0, o_aload 61 0, o_getI zshp 64 12 68, o_bad, o_bad],
  [o_con 65 (vI 1), o_iadd 66, o_putI zshp 69 12 68, o_bad, o_bad, o_aload 70 0, o_getF zshp 73 12 57, o_bad, o_bad, o_aload 74 0, o_getI zshp 77 12 67, o_bad, o_bad, o_con 78 (vI 1), o_isub 79, o_iload 80 2],
  [o_iast zshp 81, o_ret]]
/-- CallOpenerModel.goesInto(I)V -/
def k_82 : List (List zO) := [[o_aload 1 0, o_aload 2 0, o_getF zshp 5 12 26, o_bad, o_bad, o_iload 6 1, o_ald zshp 7 14, o_inv zshp 10 78 2 12 1 2, o_bad, o_bad, o_istore 11 2, o_aload 12 0, o_getF zshp 15 12 24, o_bad, o_bad, o_iload 16 1],
  [o_ald zshp 17 14, o_con 19 (vI 8), o_bad, o_icmpne 22 55, o_bad, o_bad, o_iload 23 2, o_ifle 26 55, o_bad, o_bad, o_aload 27 0, o_getF zshp 30 12 32, o_bad, o_bad, o_iload 31 1, o_ald zshp 32 14],
  [o_ifle 35 55, o_bad, o_bad, o_aload 36 0, o_iload 37 1, o_iload 38 1, o_con 39 (vI 1), o_iadd 40, o_aload 41 0, o_getF zshp 44 12 32, o_bad, o_bad, o_iload 45 1, o_ald zshp 46 14, o_iload 47 2, o_con 48 (vI 1)],
  [o_isub 49, o_inv zshp 52 81 5 12 0 5, o_bad, o_bad, o_goto 174, o_bad, o_bad, o_aload 56 0, o_getF zshp 59 12 24, o_bad, o_bad, o_iload 60 1, o_ald zshp 61 14, o_con 63 (vI 7), o_bad, o_icmpne 66 97],
  [o_bad, o_bad, o_iload 67 2, o_ifeq 70 97, o_bad, o_bad, o_aload 71 0, o_getF zshp 74 12 32, o_bad, o_bad, o_iload 75 1, o_ald zshp 76 14, o_ifle 79 97, o_bad, o_bad, o_aload 80 0],
  [o_iload 81 1, o_iload 82 1, o_con 83 (vI 1), o_iadd 84, o_aload 85 0, o_getF zshp 88 12 32, o_bad, o_bad, o_iload 89 1, o_ald zshp 90 14, o_con 91 (vI 0), o_inv zshp 94 81 5 12 0 5, o_bad, o_bad, o_goto 174, o_bad],
  [o_bad, o_aload 98 0, o_getF zshp 101 12 24, o_bad, o_bad, o_iload 102 1, o_ald zshp 103 14, o_con 105 (vI 7), o_bad, o_icmpne 108 146, o_bad, o_bad, o_iload 109 2, o_ifne 112 146, o_bad, o_bad],
  [o_aload 113 0, o_getF zshp 116 12 33, o_bad, o_bad, o_iload 117 1, o_ald zshp 118 14, o_ifle 121 146, o_bad, o_bad, o_aload 122 0, o_iload 123 1, o_iload 124 1, o_con 125 (vI 1), o_iadd 126, o_aload 127 0, o_getF zshp 130 12 32],
  [o_bad, o_bad, o_iload 131 1, o_ald zshp 132 14, o_iadd 133, o_aload 134 0, o_getF zshp 137 12 33, o_bad, o_bad, o_iload 138 1, o_ald zshp 139 14, o_con 140 (vI 0), o_inv zshp 143 81 5 12 0 5, o_bad, o_bad, o_goto 174],
  [o_bad, o_bad, o_aload 147 0, o_getF zshp 150 12 57, o_bad, o_bad, o_aload 151 0, o_getI zshp 154 12 67, o_bad, o_bad, o_con 155 (vI 1), o_isub 156, o_iload 157 1, o_con 158 (vI 1), o_iadd 159, o_aload 160 0],
  [o_getF zshp 163 12 32, o_bad, o_bad, o_iload 164 1, o_ald zshp 165 14, o_iadd 166, o_aload 167 0, o_getF zshp 170 12 33, o_bad, o_bad, o_iload 171 1, o_ald zshp 172 14, o_iadd 173, o_iast zshp 174, o_ret]]
/-- CallOpenerModel.does(I)V -/
def k_83 : List (List zO) := [[o_aload 1 0, o_getF zshp 4 12 24, o_bad, o_bad, o_iload 5 1, o_ald zshp 6 14, o_istore 7 2, o_iload 8 2, o_con 10 (vI 9), o_bad, o_icmpne 13 28, o_bad, o_bad, o_aload 14 0, o_aload 15 0, o_aload 16 0],
  [o_getF zshp 19 12 26, o_bad, o_bad, o_iload 20 1, o_ald zshp 21 14, o_inv zshp 24 78 2 12 1 2, o_bad, o_bad, o_inv zshp 27 79 2 12 0 3, o_bad, o_bad, o_ret, o_iload 29 2, o_con 31 (vI 7), o_bad, o_icmpeq 34 40],
  [o_bad, o_bad, o_iload 35 2, o_con 37 (vI 8), o_bad, o_icmpne 40 46, o_bad, o_bad, o_aload 41 0, o_iload 42 1, o_inv zshp 45 82 2 12 0 3, o_bad, o_bad, o_ret, o_aload 47 0, o_getF zshp 50 12 57],
  [o_bad, o_bad, o_aload 51 0, o_getI zshp 54 12 67, o_bad, o_bad, o_con 55 (vI 1), o_isub 56, o_iload 57 1, o_con 58 (vI 1), o_iadd 59, o_iast zshp 60, o_iload 61 2, o_con 63 (vI 6), o_bad, o_icmpge 66 122],
  [o_bad, o_bad, o_aload 67 0, o_getF zshp 70 12 62, o_bad, o_bad, o_aload 71 0, o_getF zshp 74 12 59, o_bad, o_bad, o_aload 75 0, o_getI zshp 78 12 67, o_bad, o_bad, o_con 79 (vI 1), o_isub 80],
  [o_ald zshp 81 14, o_aload 82 0, o_getF zshp 85 12 25, o_bad, o_bad, o_iload 86 1, o_ald zshp 87 14, o_iadd 88, o_iload 89 2, o_aload 90 0, o_aload 91 0, o_getF zshp 94 12 26, o_bad, o_bad, o_iload 95 1, o_ald zshp 96 14],
  [o_inv zshp 99 78 2 12 1 2, o_bad, o_bad, o_iload 100 2, o_ifne 103 107, o_bad, o_bad, o_con 104 (vI 0), o_goto 117, o_bad, o_bad, o_aload 108 0, o_aload 109 0, o_getF zshp 112 12 27, o_bad, o_bad],
  [o_iload 113 1, o_ald zshp 114 14, o_inv zshp 117 78 2 12 1 2, o_bad, o_bad, o_inv zshp 120 80 3 99 1 3, o_bad, o_bad, o_iast zshp 121, o_ret, o_aload 123 0, o_getI zshp 126 12 70, o_bad, o_bad, o_aload 127 0, o_getF zshp 130 12 52],
  [o_bad, o_bad, o_con 131 (vI 1), o_ald zshp 132 14, o_iadd 133, o_con 136 (vI 3000), o_bad, o_bad, o_icmple 139 145, o_bad, o_bad, o_aload 140 0, o_con 141 (vI 1), o_putI zshp 144 12 73, o_bad, o_bad],
  [o_ret, o_aload 146 0, o_aload 147 0, o_getI zshp 150 12 70, o_bad, o_bad, o_aload 151 0, o_getF zshp 154 12 52, o_bad, o_bad, o_con 155 (vI 1), o_ald zshp 156 14, o_iadd 157, o_putI zshp 160 12 70, o_bad, o_bad],
  [o_aload 161 0, o_getI zshp 164 12 67, o_bad, o_bad, o_con 166 (vI 24), o_bad, o_icmpne 169 175, o_bad, o_bad, o_aload 170 0, o_con 171 (vI 2), o_putI zshp 174 12 73, o_bad, o_bad, o_ret, o_aload 176 0],
  [o_getF zshp 179 12 29, o_bad, o_bad, o_iload 180 1, o_ald zshp 181 14, o_istore 182 3, o_aload 183 0, o_iload 184 3, o_inv zshp 187 74 2 12 1 2, o_bad, o_bad, o_istore 189 4, o_bad, o_iload 191 4, o_bad, o_ifle 194 207],
  [o_bad, o_bad, o_aload 195 0, o_aload 196 0, o_getF zshp 199 12 26, o_bad, o_bad, o_iload 200 1, o_ald zshp 201 14, o_inv zshp 204 78 2 12 1 2, o_bad, o_bad, o_goto 208, o_bad, o_bad, o_con 208 (vI 0)],
  [o_istore 210 5, o_bad, o_iload 212 4, o_bad, o_con 213 (vI 1), o_icmple 216 229, o_bad, o_bad, o_aload 217 0, o_aload 218 0, o_getF zshp 221 12 27, o_bad, o_bad, o_iload 222 1, o_ald zshp 223 14, o_inv zshp 226 78 2 12 1 2],
  [o_bad, o_bad, o_goto 230, o_bad, o_bad, o_con 230 (vI 0), o_istore 232 6, o_bad, o_iload 234 4, o_bad, o_con 235 (vI 2), o_icmple 238 251, o_bad, o_bad, o_aload 239 0, o_aload 240 0],
  [o_getF zshp 243 12 28, o_bad, o_bad, o_iload 244 1, o_ald zshp 245 14, o_inv zshp 248 78 2 12 1 2, o_bad, o_bad, o_goto 252, o_bad, o_bad, o_con 252 (vI 0), o_istore 254 7, o_bad, o_aload 255 0, o_aload 256 0],
  [o_getI zshp 259 12 71, o_bad, o_bad, o_con 260 (vI 1), o_iadd 261, o_putI zshp 264 12 71, o_bad, o_bad, o_aload 265 0, o_getF zshp 268 12 56, o_bad, o_bad, o_aload 269 0, o_getF zshp 272 12 30, o_bad, o_bad],
  [o_iload 273 1, o_ald zshp 274 14, o_aload 275 0, o_getF zshp 278 12 56, o_bad, o_bad, o_aload 279 0, o_getF zshp 282 12 30, o_bad, o_bad, o_iload 283 1, o_ald zshp 284 14, o_ald zshp 285 14, o_con 286 (vI 1), o_iadd 287, o_iast zshp 288],
  [o_aload 289 0, o_getF zshp 292 12 55, o_bad, o_bad, o_iload 293 3, o_aload 294 0, o_getF zshp 297 12 55, o_bad, o_bad, o_iload 298 3, o_ald zshp 299 14, o_con 300 (vI 1), o_iadd 301, o_iast zshp 302, o_aload 303 0, o_aload 304 0],
  [o_iload 305 3, o_inv zshp 308 71 2 12 1 2, o_bad, o_bad, o_aload 309 0, o_iload 310 3, o_inv zshp 313 72 2 12 1 2, o_bad, o_bad, o_aload 314 0, o_iload 315 3, o_inv zshp 318 73 2 12 1 2, o_bad, o_bad, o_iload 319 1, o_inv zshp 322 77 5 12 0 6],
  [o_bad, o_bad, o_aload 323 0, o_getF zshp 326 12 59, o_bad, o_bad, o_aload 327 0, o_getI zshp 330 12 67, o_bad, o_bad, o_con 331 (vI 1), o_isub 332, o_ald zshp 333 14, o_istore 335 8, o_bad, o_iload 337 4],
  [o_bad, o_ifle 340 349, o_bad, o_bad, o_aload 341 0, o_getF zshp 344 12 62, o_bad, o_bad, o_iload 346 8, o_bad, o_iload 348 5, o_bad, o_iast zshp 349, o_iload 351 4, o_bad, o_con 352 (vI 1)],
  [o_icmple 355 366, o_bad, o_bad, o_aload 356 0, o_getF zshp 359 12 62, o_bad, o_bad, o_iload 361 8, o_bad, o_con 362 (vI 1), o_iadd 363, o_iload 365 6, o_bad, o_iast zshp 366, o_iload 368 4, o_bad],
  [o_con 369 (vI 2), o_icmple 372 383, o_bad, o_bad, o_aload 373 0, o_getF zshp 376 12 62, o_bad, o_bad, o_iload 378 8, o_bad, o_con 379 (vI 2), o_iadd 380, o_iload 382 7, o_bad, o_iast zshp 383, o_ret]]
/-- CallOpenerModel.runs(IIII)V -/
def k_84 : List (List zO) := [[o_aload 1 0, o_con 2 (vI 0), o_putI zshp 5 12 67, o_bad, o_bad, o_aload 6 0, o_con 7 (vI 0), o_putI zshp 10 12 68, o_bad, o_bad, o_aload 11 0, o_con 12 (vI 0), o_putI zshp 15 12 69, o_bad, o_bad, o_aload 16 0],
  [o_con 17 (vI 0), o_putI zshp 20 12 70, o_bad, o_bad, o_aload 21 0, o_con 22 (vI 0), o_putI zshp 25 12 71, o_bad, o_bad, o_aload 26 0, o_con 27 (vI 0), o_putI zshp 30 12 72, o_bad, o_bad, o_aload 31 0, o_con 32 (vI (-1))],
  [o_putI zshp 35 12 73, o_bad, o_bad, o_aload 36 0, o_con 37 (vI 0), o_putI zshp 40 12 74, o_bad, o_bad, o_con 41 (vI 0), o_istore 43 5, o_bad, o_iload 45 5, o_bad, o_con 47 (vI 16), o_bad, o_icmpge 50 64],
  [o_bad, o_bad, o_aload 51 0, o_getF zshp 54 12 56, o_bad, o_bad, o_iload 56 5, o_bad, o_con 57 (vI 0), o_iast zshp 58, o_iinc 61 5 1, o_bad, o_bad, o_goto 43, o_bad, o_bad],
  [o_con 65 (vI 0), o_istore 67 5, o_bad, o_iload 69 5, o_bad, o_con 71 (vI 8), o_bad, o_icmpge 74 88, o_bad, o_bad, o_aload 75 0, o_getF zshp 78 12 55, o_bad, o_bad, o_iload 80 5, o_bad],
  [o_con 81 (vI 0), o_iast zshp 82, o_iinc 85 5 1, o_bad, o_bad, o_goto 67, o_bad, o_bad, o_aload 89 0, o_iload 90 1, o_iload 91 2, o_iload 92 3, o_con 93 (vI (-1)), o_inv zshp 96 77 5 12 0 6, o_bad, o_bad],
  [o_con 97 (vI 0), o_istore 99 5, o_bad, o_iload 101 5, o_bad, o_iload 103 4, o_bad, o_icmpge 106 126, o_bad, o_bad, o_aload 107 0, o_getF zshp 110 12 62, o_bad, o_bad, o_iload 112 5, o_bad],
  [o_aload 113 0, o_getF zshp 116 12 51, o_bad, o_bad, o_iload 118 5, o_bad, o_ald zshp 119 14, o_iast zshp 120, o_iinc 123 5 1, o_bad, o_bad, o_goto 99, o_bad, o_bad, o_aload 127 0, o_getI zshp 130 12 73],
  [o_bad, o_bad, o_con 131 (vI (-1)), o_icmpne 134 314, o_bad, o_bad, o_aload 135 0, o_getI zshp 138 12 67, o_bad, o_bad, o_con 139 (vI 1), o_isub 140, o_istore 142 5, o_bad, o_aload 143 0, o_getI zshp 146 12 68],
  [o_bad, o_bad, o_con 147 (vI 1), o_isub 148, o_istore 150 6, o_bad, o_aload 151 0, o_getI zshp 154 12 68, o_bad, o_bad, o_aload 155 0, o_getF zshp 158 12 61, o_bad, o_bad, o_iload 160 5, o_bad],
  [o_ald zshp 161 14, o_icmple 164 247, o_bad, o_bad, o_aload 165 0, o_getF zshp 168 12 57, o_bad, o_bad, o_iload 170 5, o_bad, o_ald zshp 171 14, o_aload 172 0, o_getF zshp 175 12 65, o_bad, o_bad, o_iload 177 6],
  [o_bad, o_ald zshp 178 14, o_icmpne 181 247, o_bad, o_bad, o_aload 182 0, o_getF zshp 185 12 64, o_bad, o_bad, o_iload 187 6, o_bad, o_ald zshp 188 14, o_ifle 191 224, o_bad, o_bad, o_aload 192 0],
  [o_getF zshp 195 12 64, o_bad, o_bad, o_iload 197 6, o_bad, o_aload 198 0, o_getF zshp 201 12 64, o_bad, o_bad, o_iload 203 6, o_bad, o_ald zshp 204 14, o_con 205 (vI 1), o_isub 206, o_iast zshp 207, o_aload 208 0],
  [o_getF zshp 211 12 57, o_bad, o_bad, o_iload 213 5, o_bad, o_aload 214 0, o_getF zshp 217 12 63, o_bad, o_bad, o_iload 219 6, o_bad, o_ald zshp 220 14, o_iast zshp 221, o_goto 311, o_bad, o_bad],
  [o_aload 225 0, o_iload 227 6, o_bad, o_putI zshp 230 12 68, o_bad, o_bad, o_aload 231 0, o_getF zshp 234 12 57, o_bad, o_bad, o_iload 236 5, o_bad, o_aload 237 0, o_getF zshp 240 12 66, o_bad, o_bad],
  [o_iload 242 6, o_bad, o_ald zshp 243 14, o_iast zshp 244, o_goto 311, o_bad, o_bad, o_aload 248 0, o_getF zshp 251 12 57, o_bad, o_bad, o_iload 253 5, o_bad, o_ald zshp 254 14, o_aload 255 0, o_getF zshp 258 12 58],
  [o_bad, o_bad, o_iload 260 5, o_bad, o_ald zshp 261 14, o_icmpne 264 272, o_bad, o_bad, o_aload 265 0, o_con 266 (vI 0), o_inv zshp 269 79 2 12 0 3, o_bad, o_bad, o_goto 311, o_bad, o_bad],
  [o_aload 273 0, o_getI zshp 276 12 70, o_bad, o_bad, o_con 279 (vI 3000), o_bad, o_bad, o_icmpne 282 290, o_bad, o_bad, o_aload 283 0, o_con 284 (vI 1), o_putI zshp 287 12 73, o_bad, o_bad, o_goto 311],
  [o_bad, o_bad, o_aload 291 0, o_aload 292 0, o_getI zshp 295 12 70, o_bad, o_bad, o_con 296 (vI 1), o_iadd 297, o_putI zshp 300 12 70, o_bad, o_bad, o_aload 301 0, o_aload 302 0, o_getF zshp 305 12 57, o_bad],
  [o_bad, o_iload 307 5, o_bad, o_ald zshp 308 14, o_inv zshp 311 83 2 12 0 9, o_bad, o_bad, o_goto 126, o_bad, o_bad, o_ret]]
/-- CallOpenerModel.ran(I)I -/
def k_85 : List (List zO) := [[o_iload 1 1, o_sw [(0, 32), (1, 37), (2, 53), (3, 58)] 63, o_bad, o_bad, o_bad, o_bad, o_bad, o_bad, o_bad, o_bad, o_bad, o_bad, o_bad, o_bad, o_bad, o_bad],
  [o_bad, o_bad, o_bad, o_bad, o_bad, o_bad, o_bad, o_bad, o_bad, o_bad, o_bad, o_bad, o_bad, o_bad, o_bad, o_bad],
  [o_aload 33 0, o_getI zshp 36 12 73, o_bad, o_bad, o_iret, o_aload 38 0, o_getI zshp 41 12 73, o_bad, o_bad, o_ifne 44 51, o_bad, o_bad, o_aload 45 0, o_getI zshp 48 12 74, o_bad, o_bad],
  [o_goto 52, o_bad, o_bad, o_con 52 (vI 0), o_iret, o_aload 54 0, o_getI zshp 57 12 70, o_bad, o_bad, o_iret, o_aload 59 0, o_getI zshp 62 12 71, o_bad, o_bad, o_iret, o_aload 64 0],
  [o_getI zshp 67 12 72, o_bad, o_bad, o_iret]]
/-- CallOpenerModel.runsOf(I)V -/
def k_86 : List (List zO) := [[o_aload 1 0, o_aload 2 0, o_iload 3 1, o_inv zshp 6 71 2 12 1 2, o_bad, o_bad, o_aload 7 0, o_iload 8 1, o_inv zshp 11 72 2 12 1 2, o_bad, o_bad, o_aload 12 0, o_iload 13 1, o_inv zshp 16 73 2 12 1 2, o_bad, o_bad],
  [o_aload 17 0, o_iload 18 1, o_inv zshp 21 74 2 12 1 2, o_bad, o_bad, o_inv zshp 24 84 5 12 0 7, o_bad, o_bad, o_aload 25 0, o_getF zshp 28 12 55, o_bad, o_bad, o_iload 29 1, o_aload 30 0, o_getF zshp 33 12 55, o_bad],
  [o_bad, o_iload 34 1, o_ald zshp 35 14, o_con 36 (vI 1), o_iadd 37, o_iast zshp 38, o_ret]]
/-- CallOpenerModel.run(II)I -/
def k_87 : List (List zO) := [[o_aload 1 0, o_iload 2 1, o_inv zshp 5 68 2 12 1 2, o_bad, o_bad, o_ifeq 8 17, o_bad, o_bad, o_iload 9 2, o_con 10 (vI 0), o_con 11 (vI 4), o_inv zshp 14 37 3 99 1 3, o_bad, o_bad, o_ifne 17 21, o_bad],
  [o_bad, o_con 20 (vI (-2147483648)), o_bad, o_bad, o_iret, o_aload 22 0, o_aload 23 0, o_iload 24 1, o_inv zshp 27 69 2 12 1 2, o_bad, o_bad, o_inv zshp 30 86 2 12 0 2, o_bad, o_bad, o_aload 31 0, o_iload 32 2],
  [o_inv zshp 35 85 2 12 1 2, o_bad, o_bad, o_iret]]
/-- CallOpenerModel.counted(I)I -/
def k_88 : List (List zO) := [[o_aload 1 0, o_iload 2 1, o_inv zshp 5 68 2 12 1 2, o_bad, o_bad, o_ifne 8 10, o_bad, o_bad, o_con 9 (vI (-1)), o_iret, o_aload 11 0, o_aload 12 0, o_iload 13 1, o_inv zshp 16 69 2 12 1 2, o_bad, o_bad],
  [o_inv zshp 19 86 2 12 0 2, o_bad, o_bad, o_aload 20 0, o_getI zshp 23 12 73, o_bad, o_bad, o_ifle 26 31, o_bad, o_bad, o_aload 27 0, o_getI zshp 30 12 73, o_bad, o_bad, o_iret, o_con 32 (vI 0)],
  [o_istore 33 2, o_iload 34 2, o_con 36 (vI 16), o_bad, o_icmpge 39 64, o_bad, o_bad, o_aload 40 0, o_getF zshp 43 12 54, o_bad, o_bad, o_iload 44 2, o_aload 45 0, o_getF zshp 48 12 54, o_bad, o_bad],
  [o_iload 49 2, o_ald zshp 50 14, o_aload 51 0, o_getF zshp 54 12 56, o_bad, o_bad, o_iload 55 2, o_ald zshp 56 14, o_iadd 57, o_iast zshp 58, o_iinc 61 2 1, o_bad, o_bad, o_goto 33, o_bad, o_bad],
  [o_con 65 (vI 0), o_istore 66 2, o_iload 67 2, o_con 69 (vI 8), o_bad, o_icmpge 72 97, o_bad, o_bad, o_aload 73 0, o_getF zshp 76 12 53, o_bad, o_bad, o_iload 77 2, o_aload 78 0, o_getF zshp 81 12 53, o_bad],
  [o_bad, o_iload 82 2, o_ald zshp 83 14, o_aload 84 0, o_getF zshp 87 12 55, o_bad, o_bad, o_iload 88 2, o_ald zshp 89 14, o_iadd 90, o_iast zshp 91, o_iinc 94 2 1, o_bad, o_bad, o_goto 66, o_bad],
  [o_bad, o_con 98 (vI 0), o_iret]]
/-- CallOpenerModel.allEntries()I -/
def k_89 : List (List zO) := [[o_con 1 (vI 0), o_istore 2 1, o_con 3 (vI 0), o_istore 4 2, o_iload 5 2, o_con 7 (vI 8), o_bad, o_icmpge 10 25, o_bad, o_bad, o_iload 11 1, o_aload 12 0, o_getF zshp 15 12 53, o_bad, o_bad, o_iload 16 2],
  [o_ald zshp 17 14, o_iadd 18, o_istore 19 1, o_iinc 22 2 1, o_bad, o_bad, o_goto 4, o_bad, o_bad, o_iload 26 1, o_iret]]
/-- CallOpenerModel.allTimes()I -/
def k_90 : List (List zO) := [[o_con 1 (vI 0), o_istore 2 1, o_con 3 (vI 0), o_istore 4 2, o_iload 5 2, o_con 7 (vI 16), o_bad, o_icmpge 10 25, o_bad, o_bad, o_iload 11 1, o_aload 12 0, o_getF zshp 15 12 54, o_bad, o_bad, o_iload 16 2],
  [o_ald zshp 17 14, o_iadd 18, o_istore 19 1, o_iinc 22 2 1, o_bad, o_bad, o_goto 4, o_bad, o_bad, o_iload 26 1, o_iret]]
/-- CallOpenerModel.forget()I -/
def k_91 : List (List zO) := [[o_aload 1 0, o_inv zshp 4 89 1 12 1 3, o_bad, o_bad, o_istore 5 1, o_con 6 (vI 0), o_istore 7 2, o_iload 8 2, o_con 10 (vI 16), o_bad, o_icmpge 13 26, o_bad, o_bad, o_aload 14 0, o_getF zshp 17 12 54, o_bad],
  [o_bad, o_iload 18 2, o_con 19 (vI 0), o_iast zshp 20, o_iinc 23 2 1, o_bad, o_bad, o_goto 7, o_bad, o_bad, o_con 27 (vI 0), o_istore 28 2, o_iload 29 2, o_con 31 (vI 8), o_bad, o_icmpge 34 47],
  [o_bad, o_bad, o_aload 35 0, o_getF zshp 38 12 53, o_bad, o_bad, o_iload 39 2, o_con 40 (vI 0), o_iast zshp 41, o_iinc 44 2 1, o_bad, o_bad, o_goto 28, o_bad, o_bad, o_iload 48 1],
  [o_iret]]
/-- CallOpenerModel.argument(II)I -/
def k_92 : List (List zO) := [[o_iload 1 1, o_con 2 (vI 0), o_con 3 (vI 2), o_inv zshp 6 37 3 99 1 3, o_bad, o_bad, o_ifne 9 13, o_bad, o_bad, o_con 12 (vI (-2147483648)), o_bad, o_bad, o_iret, o_aload 14 0, o_getF zshp 17 12 51, o_bad],
  [o_bad, o_iload 18 1, o_ald zshp 19 14, o_istore 20 3, o_aload 21 0, o_getF zshp 24 12 51, o_bad, o_bad, o_iload 25 1, o_iload 26 2, o_iast zshp 27, o_iload 28 3, o_iret]]
/-- CallOpenerModel.isSetting(II)Z -/
def k_93 : List (List zO) := [[o_iload 1 0, o_ifne 4 15, o_bad, o_bad, o_iload 5 1, o_con 6 (vI 0), o_con 9 (vI 300), o_bad, o_bad, o_inv zshp 12 37 3 99 1 3, o_bad, o_bad, o_goto 65, o_bad, o_bad, o_iload 16 0],
  [o_con 17 (vI 1), o_icmpne 20 30, o_bad, o_bad, o_iload 21 1, o_con 22 (vI 1), o_con 24 (vI 50), o_bad, o_inv zshp 27 37 3 99 1 3, o_bad, o_bad, o_goto 65, o_bad, o_bad, o_iload 31 0, o_con 32 (vI 2)],
  [o_icmpne 35 44, o_bad, o_bad, o_iload 36 1, o_con 37 (vI 0), o_con 38 (vI 3), o_inv zshp 41 37 3 99 1 3, o_bad, o_bad, o_goto 65, o_bad, o_bad, o_iload 45 0, o_con 46 (vI 3), o_icmpne 49 64, o_bad],
  [o_bad, o_iload 50 1, o_con 51 (vI 0), o_con 54 (vI 500), o_bad, o_bad, o_inv zshp 57 37 3 99 1 3, o_bad, o_bad, o_ifeq 60 64, o_bad, o_bad, o_con 61 (vI 1), o_goto 65, o_bad, o_bad],
  [o_con 65 (vI 0), o_zret]]
/-- CallOpenerModel.set(II)I -/
def k_94 : List (List zO) := [[o_iload 1 1, o_iload 2 2, o_inv zshp 5 93 2 99 1 2, o_bad, o_bad, o_ifne 8 10, o_bad, o_bad, o_con 9 (vI (-1)), o_iret, o_aload 11 0, o_getF zshp 14 12 52, o_bad, o_bad, o_iload 15 1, o_ald zshp 16 14],
  [o_istore 17 3, o_aload 18 0, o_getF zshp 21 12 52, o_bad, o_bad, o_iload 22 1, o_iload 23 2, o_iast zshp 24, o_iload 25 3, o_iret]]
/-- CallOpenerModel.ownGain(I)J -/
def k_95 : List (List zO) := [[o_iload 1 1, o_ifne 4 8, o_bad, o_bad, o_con 5 (vJ 0), o_goto 33, o_bad, o_bad, o_aload 9 0, o_getF zshp 12 12 83, o_bad, o_bad, o_iload 13 1, o_lald zshp 14, o_aload 15 0, o_getF zshp 18 12 52],
  [o_bad, o_bad, o_con 19 (vI 1), o_ald zshp 20 14, o_aload 21 0, o_aload 22 0, o_getF zshp 25 12 77, o_bad, o_bad, o_iload 26 1, o_ald zshp 27 14, o_inv zshp 30 73 2 12 1 2, o_bad, o_bad, o_isub 31, o_i2l 32],
  [o_lmul 33, o_lret]]
/-- CallOpenerModel.worthOf(I)J -/
def k_96 : List (List zO) := [[o_iload 1 1, o_ifne 4 6, o_bad, o_bad, o_con 5 (vJ 0), o_lret, o_con 8 (vI 16), o_bad, o_aload 9 0, o_getI zshp 12 12 11, o_bad, o_bad, o_imul 13, o_aload 14 0, o_getF zshp 17 12 76, o_bad],
  [o_bad, o_iload 18 1, o_ald zshp 19 14, o_iadd 20, o_istore 21 2, o_aload 22 0, o_getF zshp 25 12 83, o_bad, o_bad, o_iload 26 1, o_lald zshp 27, o_aload 28 0, o_getF zshp 31 12 52, o_bad, o_bad, o_con 32 (vI 1)],
  [o_ald zshp 33 14, o_con 34 (vI 2), o_aload 35 0, o_getF zshp 38 12 41, o_bad, o_bad, o_iload 39 2, o_ald zshp 40 14, o_imul 41, o_iadd 42, o_i2l 43, o_lmul 44, o_con 47 (vJ 64), o_bad, o_bad, o_lmul 48],
  [o_con 49 (vI 1), o_aload 50 0, o_aload 51 0, o_getF zshp 54 12 77, o_bad, o_bad, o_iload 55 1, o_ald zshp 56 14, o_inv zshp 59 76 2 12 1 2, o_bad, o_bad, o_inv zshp 62 38 2 99 1 2, o_bad, o_bad, o_i2l 63, o_ldiv 64],
  [o_lret]]
/-- CallOpenerModel.heatOf(JII)J -/
def k_97 : List (List zO) := [[o_iload 1 3, o_ifne 4 8, o_bad, o_bad, o_con 5 (vJ 0), o_goto 15, o_bad, o_bad, o_lload 9 0, o_iload 10 2, o_i2l 11, o_lmul 12, o_iload 13 3, o_i2l 14, o_ldiv 15, o_lret]]
/-- CallOpenerModel.laysCalls(I)V -/
def k_98 : List (List zO) := [[o_aload 1 0, o_getF zshp 4 12 77, o_bad, o_bad, o_iload 5 1, o_ald zshp 6 14, o_istore 7 2, o_aload 8 0, o_getF zshp 11 12 80, o_bad, o_bad, o_iload 12 1, o_aload 13 0, o_getI zshp 16 12 86, o_bad, o_bad],
  [o_iast zshp 17, o_con 18 (vI 0), o_istore 19 3, o_iload 20 3, o_aload 21 0, o_getF zshp 24 12 22, o_bad, o_bad, o_con 26 (vI 8), o_bad, o_aload 27 0, o_getI zshp 30 12 11, o_bad, o_bad, o_imul 31, o_iload 32 2],
  [o_iadd 33, o_ald zshp 34 14, o_icmpge 37 189, o_bad, o_bad, o_aload 38 0, o_getF zshp 41 12 21, o_bad, o_bad, o_con 43 (vI 8), o_bad, o_aload 44 0, o_getI zshp 47 12 11, o_bad, o_bad, o_imul 48],
  [o_iload 49 2, o_iadd 50, o_ald zshp 51 14, o_iload 52 3, o_iadd 53, o_istore 55 4, o_bad, o_aload 56 0, o_getF zshp 59 12 75, o_bad, o_bad, o_aload 60 0, o_getI zshp 63 12 86, o_bad, o_bad, o_iload 64 1],
  [o_iast zshp 65, o_aload 66 0, o_getF zshp 69 12 76, o_bad, o_bad, o_aload 70 0, o_getI zshp 73 12 86, o_bad, o_bad, o_iload 75 4, o_bad, o_iast zshp 76, o_aload 77 0, o_getF zshp 80 12 77, o_bad, o_bad],
  [o_aload 81 0, o_getI zshp 84 12 86, o_bad, o_bad, o_aload 85 0, o_getF zshp 88 12 29, o_bad, o_bad, o_aload 89 0, o_getF zshp 92 12 36, o_bad, o_bad, o_con 94 (vI 16), o_bad, o_aload 95 0, o_getI zshp 98 12 11],
  [o_bad, o_bad, o_imul 99, o_iload 101 4, o_bad, o_iadd 102, o_ald zshp 103 14, o_ald zshp 104 14, o_iast zshp 105, o_aload 106 0, o_getF zshp 109 12 78, o_bad, o_bad, o_aload 110 0, o_getI zshp 113 12 86, o_bad],
  [o_bad, o_aload 114 0, o_getF zshp 117 12 78, o_bad, o_bad, o_iload 118 1, o_ald zshp 119 14, o_con 120 (vI 1), o_iadd 121, o_iast zshp 122, o_aload 123 0, o_getF zshp 126 12 79, o_bad, o_bad, o_aload 127 0, o_getI zshp 130 12 86],
  [o_bad, o_bad, o_con 131 (vI 0), o_iast zshp 132, o_aload 133 0, o_getF zshp 136 12 85, o_bad, o_bad, o_aload 137 0, o_getI zshp 140 12 86, o_bad, o_bad, o_con 141 (vI 0), o_zast zshp 142, o_aload 143 0, o_getF zshp 146 12 83],
  [o_bad, o_bad, o_aload 147 0, o_getI zshp 150 12 86, o_bad, o_bad, o_aload 151 0, o_getF zshp 154 12 83, o_bad, o_bad, o_iload 155 1, o_lald zshp 156, o_aload 157 0, o_getF zshp 160 12 54, o_bad, o_bad],
  [o_iload 162 4, o_bad, o_ald zshp 163 14, o_aload 164 0, o_getF zshp 167 12 53, o_bad, o_bad, o_iload 168 2, o_ald zshp 169 14, o_inv zshp 172 97 3 99 2 4, o_bad, o_bad, o_last zshp 173, o_aload 174 0, o_aload 175 0, o_getI zshp 178 12 86],
  [o_bad, o_bad, o_con 179 (vI 1), o_iadd 180, o_putI zshp 183 12 86, o_bad, o_bad, o_iinc 186 3 1, o_bad, o_bad, o_goto 19, o_bad, o_bad, o_ret]]
/-- CallOpenerModel.isRecursive(I)Z -/
def k_99 : List (List zO) := [[o_con 1 (vI 0), o_istore 2 2, o_aload 3 0, o_getF zshp 6 12 75, o_bad, o_bad, o_iload 7 1, o_ald zshp 8 14, o_istore 9 3, o_iload 10 3, o_iflt 13 54, o_bad, o_bad, o_iload 14 2, o_aload 15 0, o_getF zshp 18 12 77],
  [o_bad, o_bad, o_iload 19 3, o_ald zshp 20 14, o_aload 21 0, o_getF zshp 24 12 77, o_bad, o_bad, o_iload 25 1, o_ald zshp 26 14, o_icmpne 29 33, o_bad, o_bad, o_con 30 (vI 1), o_goto 34, o_bad],
  [o_bad, o_con 34 (vI 0), o_iadd 35, o_istore 36 2, o_iload 37 3, o_ifne 40 44, o_bad, o_bad, o_con 41 (vI (-1)), o_goto 50, o_bad, o_bad, o_aload 45 0, o_getF zshp 48 12 75, o_bad, o_bad],
  [o_iload 49 3, o_ald zshp 50 14, o_istore 51 3, o_goto 9, o_bad, o_bad, o_iload 55 2, o_aload 56 0, o_getF zshp 59 12 52, o_bad, o_bad, o_con 60 (vI 2), o_ald zshp 61 14, o_icmple 64 68, o_bad, o_bad],
  [o_con 65 (vI 1), o_goto 69, o_bad, o_bad, o_con 69 (vI 0), o_zret]]
/-- CallOpenerModel.isAhead(II)Z -/
def k_100 : List (List zO) := [[o_iload 1 1, o_istore 2 3, o_iload 3 2, o_istore 5 4, o_bad, o_aload 6 0, o_getF zshp 9 12 75, o_bad, o_bad, o_iload 10 3, o_ald zshp 11 14, o_aload 12 0, o_getF zshp 15 12 75, o_bad, o_bad, o_iload 17 4],
  [o_bad, o_ald zshp 18 14, o_icmpeq 21 40, o_bad, o_bad, o_aload 22 0, o_getF zshp 25 12 75, o_bad, o_bad, o_iload 26 3, o_ald zshp 27 14, o_istore 28 3, o_aload 29 0, o_getF zshp 32 12 75, o_bad, o_bad],
  [o_iload 34 4, o_bad, o_ald zshp 35 14, o_istore 37 4, o_bad, o_goto 5, o_bad, o_bad, o_aload 41 0, o_getF zshp 44 12 76, o_bad, o_bad, o_iload 45 3, o_ald zshp 46 14, o_aload 47 0, o_getF zshp 50 12 76],
  [o_bad, o_bad, o_iload 52 4, o_bad, o_ald zshp 53 14, o_icmpge 56 60, o_bad, o_bad, o_con 57 (vI 1), o_goto 61, o_bad, o_bad, o_con 61 (vI 0), o_zret]]
/-- CallOpenerModel.isWorthier(II)Z -/
def k_101 : List (List zO) := [[o_aload 1 0, o_iload 2 1, o_inv zshp 5 96 2 12 2 3, o_bad, o_bad, o_lstore 6 3, o_aload 7 0, o_iload 8 2, o_inv zshp 11 96 2 12 2 3, o_bad, o_bad, o_lstore 13 5, o_bad, o_lload 14 3, o_lload 16 5, o_bad],
  [o_lcmp 17, o_ifeq 20 33, o_bad, o_bad, o_lload 21 3, o_lload 23 5, o_bad, o_lcmp 24, o_ifle 27 31, o_bad, o_bad, o_con 28 (vI 1), o_goto 32, o_bad, o_bad, o_con 32 (vI 0)],
  [o_zret, o_aload 34 0, o_getF zshp 37 12 78, o_bad, o_bad, o_iload 38 1, o_ald zshp 39 14, o_aload 40 0, o_getF zshp 43 12 78, o_bad, o_bad, o_iload 44 2, o_ald zshp 45 14, o_icmpeq 48 71, o_bad, o_bad],
  [o_aload 49 0, o_getF zshp 52 12 78, o_bad, o_bad, o_iload 53 1, o_ald zshp 54 14, o_aload 55 0, o_getF zshp 58 12 78, o_bad, o_bad, o_iload 59 2, o_ald zshp 60 14, o_icmpge 63 67, o_bad, o_bad, o_con 64 (vI 1)],
  [o_goto 77, o_bad, o_bad, o_con 68 (vI 0), o_goto 77, o_bad, o_bad, o_aload 72 0, o_iload 73 1, o_iload 74 2, o_inv zshp 77 100 3 12 1 5, o_bad, o_bad, o_zret]]
/-- CallOpenerModel.worthiest()I -/
def k_102 : List (List zO) := [[o_con 1 (vI (-1)), o_istore 2 1, o_con 3 (vI 1), o_istore 4 2, o_iload 5 2, o_aload 6 0, o_getI zshp 9 12 86, o_bad, o_bad, o_icmpge 12 89, o_bad, o_bad, o_aload 13 0, o_getF zshp 16 12 85, o_bad, o_bad],
  [o_iload 17 2, o_ald zshp 18 16, o_ifne 21 83, o_bad, o_bad, o_aload 22 0, o_getF zshp 25 12 83, o_bad, o_bad, o_iload 26 2, o_lald zshp 27, o_con 28 (vJ 1), o_lcmp 29, o_iflt 32 83, o_bad, o_bad],
  [o_aload 33 0, o_getI zshp 36 12 90, o_bad, o_bad, o_aload 37 0, o_aload 38 0, o_getF zshp 41 12 77, o_bad, o_bad, o_iload 42 2, o_ald zshp 43 14, o_inv zshp 46 76 2 12 1 2, o_bad, o_bad, o_iadd 47, o_aload 48 0],
  [o_getF zshp 51 12 52, o_bad, o_bad, o_con 52 (vI 0), o_ald zshp 53 14, o_icmpgt 56 83, o_bad, o_bad, o_aload 57 0, o_iload 58 2, o_inv zshp 61 99 2 12 1 4, o_bad, o_bad, o_ifeq 64 67, o_bad, o_bad],
  [o_goto 83, o_bad, o_bad, o_iload 68 1, o_con 69 (vI (-1)), o_icmpeq 72 81, o_bad, o_bad, o_aload 73 0, o_iload 74 2, o_iload 75 1, o_inv zshp 78 101 3 12 1 7, o_bad, o_bad, o_ifeq 81 83, o_bad],
  [o_bad, o_iload 82 2, o_istore 83 1, o_iinc 86 2 1, o_bad, o_bad, o_goto 4, o_bad, o_bad, o_iload 90 1, o_iret]]
/-- CallOpenerModel.grows(I)V -/
def k_103 : List (List zO) := [[o_aload 1 0, o_con 2 (vI 1), o_putI zshp 5 12 86, o_bad, o_bad, o_aload 6 0, o_con 7 (vI 0), o_putI zshp 10 12 87, o_bad, o_bad, o_aload 11 0, o_con 12 (vI 0), o_putI zshp 15 12 88, o_bad, o_bad, o_aload 16 0],
  [o_con 17 (vI 0), o_putI zshp 20 12 89, o_bad, o_bad, o_aload 21 0, o_getF zshp 24 12 75, o_bad, o_bad, o_con 25 (vI 0), o_con 26 (vI (-1)), o_iast zshp 27, o_aload 28 0, o_getF zshp 31 12 76, o_bad, o_bad, o_con 32 (vI 0)],
  [o_con 34 (vI (-2)), o_bad, o_iast zshp 35, o_aload 36 0, o_getF zshp 39 12 77, o_bad, o_bad, o_con 40 (vI 0), o_iload 41 1, o_iast zshp 42, o_aload 43 0, o_getF zshp 46 12 78, o_bad, o_bad, o_con 47 (vI 0), o_con 48 (vI 0)],
  [o_iast zshp 49, o_aload 50 0, o_getF zshp 53 12 79, o_bad, o_bad, o_con 54 (vI 0), o_con 55 (vI 0), o_iast zshp 56, o_aload 57 0, o_getF zshp 60 12 85, o_bad, o_bad, o_con 61 (vI 0), o_con 62 (vI 1), o_zast zshp 63, o_aload 64 0],
  [o_getF zshp 67 12 83, o_bad, o_bad, o_con 68 (vI 0), o_aload 69 0, o_getF zshp 72 12 53, o_bad, o_bad, o_iload 73 1, o_ald zshp 74 14, o_i2l 75, o_last zshp 76, o_aload 77 0, o_aload 78 0, o_iload 79 1, o_inv zshp 82 72 2 12 1 2],
  [o_bad, o_bad, o_putI zshp 85 12 90, o_bad, o_bad, o_aload 86 0, o_con 87 (vI 0), o_inv zshp 90 98 2 12 0 5, o_bad, o_bad, o_aload 91 0, o_inv zshp 94 102 1 12 1 3, o_bad, o_bad, o_istore 95 2, o_iload 96 2],
  [o_con 97 (vI (-1)), o_icmpeq 100 159, o_bad, o_bad, o_aload 101 0, o_aload 102 0, o_getI zshp 105 12 87, o_bad, o_bad, o_con 106 (vI 1), o_iadd 107, o_putI zshp 110 12 87, o_bad, o_bad, o_aload 111 0, o_getF zshp 114 12 79],
  [o_bad, o_bad, o_iload 115 2, o_aload 116 0, o_getI zshp 119 12 87, o_bad, o_bad, o_iast zshp 120, o_aload 121 0, o_getF zshp 124 12 85, o_bad, o_bad, o_iload 125 2, o_con 126 (vI 1), o_zast zshp 127, o_aload 128 0],
  [o_aload 129 0, o_getI zshp 132 12 90, o_bad, o_bad, o_aload 133 0, o_aload 134 0, o_getF zshp 137 12 77, o_bad, o_bad, o_iload 138 2, o_ald zshp 139 14, o_inv zshp 142 76 2 12 1 2, o_bad, o_bad, o_iadd 143, o_putI zshp 146 12 90],
  [o_bad, o_bad, o_aload 147 0, o_iload 148 2, o_inv zshp 151 98 2 12 0 5, o_bad, o_bad, o_aload 152 0, o_inv zshp 155 102 1 12 1 3, o_bad, o_bad, o_istore 156 2, o_goto 95, o_bad, o_bad, o_ret]]
/-- CallOpenerModel.undoes()V -/
def k_104 : List (List zO) := [[o_con 1 (vI 0), o_istore 2 1, o_iload 3 1, o_aload 4 0, o_getI zshp 7 12 86, o_bad, o_bad, o_icmpge 10 58, o_bad, o_bad, o_aload 11 0, o_getF zshp 14 12 84, o_bad, o_bad, o_iload 15 1, o_aload 16 0],
  [o_iload 17 1, o_inv zshp 20 95 2 12 2 2, o_bad, o_bad, o_last zshp 21, o_aload 22 0, o_getF zshp 25 12 81, o_bad, o_bad, o_iload 26 1, o_iload 27 1, o_ifne 30 34, o_bad, o_bad, o_con 31 (vI 0), o_goto 44],
  [o_bad, o_bad, o_aload 35 0, o_aload 36 0, o_getF zshp 39 12 77, o_bad, o_bad, o_iload 40 1, o_ald zshp 41 14, o_inv zshp 44 76 2 12 1 2, o_bad, o_bad, o_iast zshp 45, o_aload 46 0, o_getF zshp 49 12 82, o_bad],
  [o_bad, o_iload 50 1, o_con 51 (vI 1), o_iast zshp 52, o_iinc 55 1 1, o_bad, o_bad, o_goto 2, o_bad, o_bad, o_aload 59 0, o_getI zshp 62 12 86, o_bad, o_bad, o_con 63 (vI 1), o_isub 64],
  [o_istore 65 1, o_iload 66 1, o_ifle 69 230, o_bad, o_bad, o_aload 70 0, o_getF zshp 73 12 85, o_bad, o_bad, o_iload 74 1, o_ald zshp 75 16, o_ifne 78 81, o_bad, o_bad, o_goto 224, o_bad],
  [o_bad, o_aload 82 0, o_getF zshp 85 12 84, o_bad, o_bad, o_iload 86 1, o_lald zshp 87, o_con 90 (vJ 100), o_bad, o_bad, o_lmul 91, o_aload 92 0, o_getF zshp 95 12 52, o_bad, o_bad, o_con 96 (vI 3)],
  [o_ald zshp 97 14, o_i2l 98, o_aload 99 0, o_getF zshp 102 12 81, o_bad, o_bad, o_iload 103 1, o_ald zshp 104 14, o_i2l 105, o_lmul 106, o_lcmp 107, o_ifge 110 160, o_bad, o_bad, o_aload 111 0, o_getF zshp 114 12 85],
  [o_bad, o_bad, o_iload 115 1, o_con 116 (vI 0), o_zast zshp 117, o_aload 118 0, o_aload 119 0, o_getI zshp 122 12 89, o_bad, o_bad, o_con 123 (vI 1), o_iadd 124, o_putI zshp 127 12 89, o_bad, o_bad, o_aload 128 0],
  [o_aload 129 0, o_getI zshp 132 12 88, o_bad, o_bad, o_aload 133 0, o_getF zshp 136 12 82, o_bad, o_bad, o_iload 137 1, o_ald zshp 138 14, o_iadd 139, o_putI zshp 142 12 88, o_bad, o_bad, o_aload 143 0, o_aload 144 0],
  [o_getI zshp 147 12 90, o_bad, o_bad, o_aload 148 0, o_getF zshp 151 12 81, o_bad, o_bad, o_iload 152 1, o_ald zshp 153 14, o_isub 154, o_putI zshp 157 12 90, o_bad, o_bad, o_goto 224, o_bad, o_bad],
  [o_aload 161 0, o_getF zshp 164 12 75, o_bad, o_bad, o_iload 165 1, o_ald zshp 166 14, o_istore 167 2, o_aload 168 0, o_getF zshp 171 12 84, o_bad, o_bad, o_iload 172 2, o_aload 173 0, o_getF zshp 176 12 84, o_bad, o_bad],
  [o_iload 177 2, o_lald zshp 178, o_aload 179 0, o_getF zshp 182 12 84, o_bad, o_bad, o_iload 183 1, o_lald zshp 184, o_ladd 185, o_last zshp 186, o_aload 187 0, o_getF zshp 190 12 81, o_bad, o_bad, o_iload 191 2, o_aload 192 0],
  [o_getF zshp 195 12 81, o_bad, o_bad, o_iload 196 2, o_ald zshp 197 14, o_aload 198 0, o_getF zshp 201 12 81, o_bad, o_bad, o_iload 202 1, o_ald zshp 203 14, o_iadd 204, o_iast zshp 205, o_aload 206 0, o_getF zshp 209 12 82, o_bad],
  [o_bad, o_iload 210 2, o_aload 211 0, o_getF zshp 214 12 82, o_bad, o_bad, o_iload 215 2, o_ald zshp 216 14, o_aload 217 0, o_getF zshp 220 12 82, o_bad, o_bad, o_iload 221 1, o_ald zshp 222 14, o_iadd 223, o_iast zshp 224],
  [o_iinc 227 1 (-1), o_bad, o_bad, o_goto 65, o_bad, o_bad, o_con 231 (vI 1), o_istore 232 1, o_iload 233 1, o_aload 234 0, o_getI zshp 237 12 86, o_bad, o_bad, o_icmpge 240 280, o_bad, o_bad],
  [o_aload 241 0, o_getF zshp 244 12 85, o_bad, o_bad, o_iload 245 1, o_aload 246 0, o_getF zshp 249 12 85, o_bad, o_bad, o_iload 250 1, o_ald zshp 251 16, o_ifeq 254 272, o_bad, o_bad, o_aload 255 0, o_getF zshp 258 12 85],
  [o_bad, o_bad, o_aload 259 0, o_getF zshp 262 12 75, o_bad, o_bad, o_iload 263 1, o_ald zshp 264 14, o_ald zshp 265 16, o_ifeq 268 272, o_bad, o_bad, o_con 269 (vI 1), o_goto 273, o_bad, o_bad],
  [o_con 273 (vI 0), o_zast zshp 274, o_iinc 277 1 1, o_bad, o_bad, o_goto 232, o_bad, o_bad, o_ret]]
/-- CallOpenerModel.laysTree(I)V -/
def k_105 : List (List zO) := [[o_aload 1 0, o_iload 2 1, o_inv zshp 5 103 2 12 0 3, o_bad, o_bad, o_aload 6 0, o_inv zshp 9 104 1 12 0 3, o_bad, o_bad, o_aload 10 0, o_con 11 (vI 0), o_putI zshp 14 12 94, o_bad, o_bad, o_aload 15 0, o_getF zshp 18 12 93],
  [o_bad, o_bad, o_con 19 (vI 0), o_con 20 (vI 0), o_iast zshp 21, o_con 22 (vI 1), o_istore 23 2, o_iload 24 2, o_ifle 27 148, o_bad, o_bad, o_iload 28 2, o_con 29 (vI 1), o_isub 30, o_istore 31 2, o_aload 32 0],
  [o_getF zshp 35 12 93, o_bad, o_bad, o_iload 36 2, o_ald zshp 37 14, o_istore 38 3, o_aload 39 0, o_getF zshp 42 12 91, o_bad, o_bad, o_aload 43 0, o_getI zshp 46 12 94, o_bad, o_bad, o_iload 47 3, o_iast zshp 48],
  [o_aload 49 0, o_getF zshp 52 12 92, o_bad, o_bad, o_iload 53 3, o_aload 54 0, o_getI zshp 57 12 94, o_bad, o_bad, o_iast zshp 58, o_aload 59 0, o_aload 60 0, o_getI zshp 63 12 94, o_bad, o_bad, o_con 64 (vI 1)],
  [o_iadd 65, o_putI zshp 68 12 94, o_bad, o_bad, o_aload 69 0, o_getF zshp 72 12 22, o_bad, o_bad, o_con 74 (vI 8), o_bad, o_aload 75 0, o_getI zshp 78 12 11, o_bad, o_bad, o_imul 79, o_aload 80 0],
  [o_getF zshp 83 12 77, o_bad, o_bad, o_iload 84 3, o_ald zshp 85 14, o_iadd 86, o_ald zshp 87 14, o_istore 89 4, o_bad, o_iload 91 4, o_bad, o_con 92 (vI 1), o_isub 93, o_istore 95 5, o_bad, o_iload 97 5],
  [o_bad, o_iflt 100 145, o_bad, o_bad, o_aload 101 0, o_getF zshp 104 12 85, o_bad, o_bad, o_aload 105 0, o_getF zshp 108 12 80, o_bad, o_bad, o_iload 109 3, o_ald zshp 110 14, o_iload 112 5, o_bad],
  [o_iadd 113, o_ald zshp 114 16, o_ifne 117 120, o_bad, o_bad, o_goto 139, o_bad, o_bad, o_aload 121 0, o_getF zshp 124 12 93, o_bad, o_bad, o_iload 125 2, o_aload 126 0, o_getF zshp 129 12 80, o_bad],
  [o_bad, o_iload 130 3, o_ald zshp 131 14, o_iload 133 5, o_bad, o_iadd 134, o_iast zshp 135, o_iload 136 2, o_con 137 (vI 1), o_iadd 138, o_istore 139 2, o_iinc 142 5 (-1), o_bad, o_bad, o_goto 95, o_bad],
  [o_bad, o_goto 23, o_bad, o_bad, o_ret]]
/-- CallOpenerModel.deepest()I -/
def k_106 : List (List zO) := [[o_con 1 (vI 0), o_istore 2 1, o_con 3 (vI 0), o_istore 4 2, o_iload 5 2, o_aload 6 0, o_getI zshp 9 12 94, o_bad, o_bad, o_icmpge 12 34, o_bad, o_bad, o_iload 13 1, o_aload 14 0, o_getF zshp 17 12 78, o_bad],
  [o_bad, o_aload 18 0, o_getF zshp 21 12 91, o_bad, o_bad, o_iload 22 2, o_ald zshp 23 14, o_ald zshp 24 14, o_inv zshp 27 38 2 99 1 2, o_bad, o_bad, o_istore 28 1, o_iinc 31 2 1, o_bad, o_bad, o_goto 4],
  [o_bad, o_bad, o_iload 35 1, o_iret]]
/-- CallOpenerModel.callsLeft()I -/
def k_107 : List (List zO) := [[o_con 1 (vI 0), o_istore 2 1, o_con 3 (vI 1), o_istore 4 2, o_iload 5 2, o_aload 6 0, o_getI zshp 9 12 86, o_bad, o_bad, o_icmpge 12 49, o_bad, o_bad, o_iload 13 1, o_aload 14 0, o_getF zshp 17 12 85, o_bad],
  [o_bad, o_iload 18 2, o_ald zshp 19 16, o_ifne 22 40, o_bad, o_bad, o_aload 23 0, o_getF zshp 26 12 85, o_bad, o_bad, o_aload 27 0, o_getF zshp 30 12 75, o_bad, o_bad, o_iload 31 2, o_ald zshp 32 14],
  [o_ald zshp 33 16, o_ifeq 36 40, o_bad, o_bad, o_con 37 (vI 1), o_goto 41, o_bad, o_bad, o_con 41 (vI 0), o_iadd 42, o_istore 43 1, o_iinc 46 2 1, o_bad, o_bad, o_goto 4, o_bad],
  [o_bad, o_iload 50 1, o_iret]]
/-- CallOpenerModel.treeOf(II)I -/
def k_108 : List (List zO) := [[o_aload 1 0, o_iload 2 1, o_inv zshp 5 105 2 12 0 6, o_bad, o_bad, o_iload 6 2, o_sw [(0, 44), (1, 49), (2, 54), (3, 59), (4, 64), (5, 69)] 74, o_bad, o_bad, o_bad, o_bad, o_bad, o_bad, o_bad, o_bad, o_bad],
  [o_bad, o_bad, o_bad, o_bad, o_bad, o_bad, o_bad, o_bad, o_bad, o_bad, o_bad, o_bad, o_bad, o_bad, o_bad, o_bad],
  [o_bad, o_bad, o_bad, o_bad, o_bad, o_bad, o_bad, o_bad, o_bad, o_bad, o_bad, o_bad, o_aload 45 0, o_getI zshp 48 12 94, o_bad, o_bad],
  [o_iret, o_aload 50 0, o_getI zshp 53 12 87, o_bad, o_bad, o_iret, o_aload 55 0, o_getI zshp 58 12 88, o_bad, o_bad, o_iret, o_aload 60 0, o_getI zshp 63 12 89, o_bad, o_bad, o_iret],
  [o_aload 65 0, o_getI zshp 68 12 90, o_bad, o_bad, o_iret, o_aload 70 0, o_inv zshp 73 106 1 12 1 3, o_bad, o_bad, o_iret, o_aload 75 0, o_inv zshp 78 107 1 12 1 3, o_bad, o_bad, o_iret]]
/-- CallOpenerModel.tree(II)I -/
def k_109 : List (List zO) := [[o_aload 1 0, o_iload 2 1, o_inv zshp 5 68 2 12 1 2, o_bad, o_bad, o_ifeq 8 31, o_bad, o_bad, o_iload 9 2, o_con 10 (vI 0), o_con 12 (vI 6), o_bad, o_inv zshp 15 37 3 99 1 3, o_bad, o_bad, o_ifeq 18 31],
  [o_bad, o_bad, o_aload 19 0, o_aload 20 0, o_iload 21 1, o_inv zshp 24 69 2 12 1 2, o_bad, o_bad, o_iload 25 2, o_inv zshp 28 108 3 12 1 3, o_bad, o_bad, o_goto 32, o_bad, o_bad, o_con 32 (vI (-1))],
  [o_iret]]
/-- CallOpenerModel.would(IIII)I -/
def k_110 : List (List zO) := [[o_aload 1 0, o_iload 2 1, o_inv zshp 5 68 2 12 1 2, o_bad, o_bad, o_ifeq 8 27, o_bad, o_bad, o_iload 9 2, o_iload 10 3, o_inv zshp 13 93 2 99 1 2, o_bad, o_bad, o_ifeq 16 27, o_bad, o_bad],
  [o_iload 18 4, o_bad, o_con 19 (vI 0), o_con 21 (vI 6), o_bad, o_inv zshp 24 37 3 99 1 3, o_bad, o_bad, o_ifne 27 29, o_bad, o_bad, o_con 28 (vI (-1)), o_iret, o_aload 30 0, o_getF zshp 33 12 52, o_bad],
  [o_bad, o_iload 34 2, o_ald zshp 35 14, o_istore 37 5, o_bad, o_aload 38 0, o_getF zshp 41 12 52, o_bad, o_bad, o_iload 42 2, o_iload 43 3, o_iast zshp 44, o_aload 45 0, o_aload 46 0, o_iload 47 1, o_inv zshp 50 69 2 12 1 2],
  [o_bad, o_bad, o_iload 52 4, o_bad, o_inv zshp 55 108 3 12 1 3, o_bad, o_bad, o_istore 57 6, o_bad, o_aload 58 0, o_getF zshp 61 12 52, o_bad, o_bad, o_iload 62 2, o_iload 64 5, o_bad],
  [o_iast zshp 65, o_iload 67 6, o_bad, o_iret]]
/-- CallOpenerModel.gain(IZ)J -/
def k_111 : List (List zO) := [[o_aload 1 0, o_iload 2 1, o_inv zshp 5 68 2 12 1 2, o_bad, o_bad, o_ifne 8 12, o_bad, o_bad, o_con 11 (vJ (-9223372036854775808)), o_bad, o_bad, o_lret, o_aload 13 0, o_aload 14 0, o_iload 15 1, o_inv zshp 18 69 2 12 1 2],
  [o_bad, o_bad, o_inv zshp 21 105 2 12 0 6, o_bad, o_bad, o_con 22 (vJ 0), o_lstore 23 3, o_con 24 (vI 1), o_istore 26 5, o_bad, o_iload 28 5, o_bad, o_aload 29 0, o_getI zshp 32 12 86, o_bad, o_bad],
  [o_icmpge 35 78, o_bad, o_bad, o_lload 36 3, o_iload 37 2, o_ifeq 40 50, o_bad, o_bad, o_aload 41 0, o_getF zshp 44 12 79, o_bad, o_bad, o_iload 46 5, o_bad, o_ald zshp 47 14, o_ifgt 50 60],
  [o_bad, o_bad, o_aload 51 0, o_getF zshp 54 12 85, o_bad, o_bad, o_iload 56 5, o_bad, o_ald zshp 57 16, o_ifeq 60 69, o_bad, o_bad, o_aload 61 0, o_iload 63 5, o_bad, o_inv zshp 66 95 2 12 2 2],
  [o_bad, o_bad, o_goto 70, o_bad, o_bad, o_con 70 (vJ 0), o_ladd 71, o_lstore 72 3, o_iinc 75 5 1, o_bad, o_bad, o_goto 26, o_bad, o_bad, o_lload 79 3, o_lret]]
/-- CallOpenerModel.node(III)I -/
def k_112 : List (List zO) := [[o_aload 1 0, o_iload 2 1, o_inv zshp 5 68 2 12 1 2, o_bad, o_bad, o_ifeq 8 17, o_bad, o_bad, o_iload 9 3, o_con 10 (vI 0), o_con 11 (vI 5), o_inv zshp 14 37 3 99 1 3, o_bad, o_bad, o_ifne 17 19, o_bad],
  [o_bad, o_con 18 (vI (-1)), o_iret, o_aload 20 0, o_aload 21 0, o_iload 22 1, o_inv zshp 25 69 2 12 1 2, o_bad, o_bad, o_inv zshp 28 105 2 12 0 6, o_bad, o_bad, o_iload 29 2, o_con 30 (vI 0), o_aload 31 0, o_getI zshp 34 12 94],
  [o_bad, o_bad, o_con 35 (vI 1), o_isub 36, o_inv zshp 39 37 3 99 1 3, o_bad, o_bad, o_ifne 42 44, o_bad, o_bad, o_con 43 (vI (-1)), o_iret, o_aload 45 0, o_getF zshp 48 12 91, o_bad, o_bad],
  [o_iload 49 2, o_ald zshp 50 14, o_istore 52 4, o_bad, o_iload 53 3, o_sw [(0, 88), (1, 96), (2, 109), (3, 132), (4, 140)] 148, o_bad, o_bad, o_bad, o_bad, o_bad, o_bad, o_bad, o_bad, o_bad, o_bad],
  [o_bad, o_bad, o_bad, o_bad, o_bad, o_bad, o_bad, o_bad, o_bad, o_bad, o_bad, o_bad, o_bad, o_bad, o_bad, o_bad],
  [o_bad, o_bad, o_bad, o_bad, o_bad, o_bad, o_bad, o_bad, o_aload 89 0, o_getF zshp 92 12 76, o_bad, o_bad, o_iload 94 4, o_bad, o_ald zshp 95 14, o_iret],
  [o_aload 97 0, o_getF zshp 100 12 50, o_bad, o_bad, o_aload 101 0, o_getF zshp 104 12 77, o_bad, o_bad, o_iload 106 4, o_bad, o_ald zshp 107 14, o_ald zshp 108 14, o_iret, o_iload 111 4, o_bad, o_ifne 114 119],
  [o_bad, o_bad, o_con 116 (vI (-2)), o_bad, o_goto 131, o_bad, o_bad, o_aload 120 0, o_getF zshp 123 12 92, o_bad, o_bad, o_aload 124 0, o_getF zshp 127 12 75, o_bad, o_bad, o_iload 129 4],
  [o_bad, o_ald zshp 130 14, o_ald zshp 131 14, o_iret, o_aload 133 0, o_getF zshp 136 12 78, o_bad, o_bad, o_iload 138 4, o_bad, o_ald zshp 139 14, o_iret, o_aload 141 0, o_getF zshp 144 12 79, o_bad, o_bad],
  [o_iload 146 4, o_bad, o_ald zshp 147 14, o_iret, o_aload 149 0, o_getF zshp 152 12 82, o_bad, o_bad, o_iload 154 4, o_bad, o_ald zshp 155 14, o_iret]]
/-- CallOpenerModel.worth(III)J -/
def k_113 : List (List zO) := [[o_aload 1 0, o_iload 2 1, o_inv zshp 5 68 2 12 1 2, o_bad, o_bad, o_ifeq 8 17, o_bad, o_bad, o_iload 9 3, o_con 10 (vI 0), o_con 11 (vI 3), o_inv zshp 14 37 3 99 1 3, o_bad, o_bad, o_ifne 17 21, o_bad],
  [o_bad, o_con 20 (vJ (-9223372036854775808)), o_bad, o_bad, o_lret, o_aload 22 0, o_aload 23 0, o_iload 24 1, o_inv zshp 27 69 2 12 1 2, o_bad, o_bad, o_inv zshp 30 105 2 12 0 6, o_bad, o_bad, o_iload 31 2, o_con 32 (vI 0)],
  [o_aload 33 0, o_getI zshp 36 12 94, o_bad, o_bad, o_con 37 (vI 1), o_isub 38, o_inv zshp 41 37 3 99 1 3, o_bad, o_bad, o_ifne 44 48, o_bad, o_bad, o_con 47 (vJ (-9223372036854775808)), o_bad, o_bad, o_lret],
  [o_aload 49 0, o_getF zshp 52 12 91, o_bad, o_bad, o_iload 53 2, o_ald zshp 54 14, o_istore 56 4, o_bad, o_iload 57 3, o_ifne 60 70, o_bad, o_bad, o_aload 61 0, o_getF zshp 64 12 83, o_bad, o_bad],
  [o_iload 66 4, o_bad, o_lald zshp 67, o_goto 105, o_bad, o_bad, o_iload 71 3, o_con 72 (vI 1), o_icmpne 75 84, o_bad, o_bad, o_aload 76 0, o_iload 78 4, o_bad, o_inv zshp 81 96 2 12 2 3, o_bad],
  [o_bad, o_goto 105, o_bad, o_bad, o_iload 85 3, o_con 86 (vI 2), o_icmpne 89 98, o_bad, o_bad, o_aload 90 0, o_iload 92 4, o_bad, o_inv zshp 95 95 2 12 2 2, o_bad, o_bad, o_goto 105],
  [o_bad, o_bad, o_aload 99 0, o_getF zshp 102 12 84, o_bad, o_bad, o_iload 104 4, o_bad, o_lald zshp 105, o_lret]]
/-- CallOpenerModel.opened(II)I -/
def k_114 : List (List zO) := [[o_aload 1 0, o_iload 2 1, o_inv zshp 5 68 2 12 1 2, o_bad, o_bad, o_ifeq 8 27, o_bad, o_bad, o_iload 9 2, o_con 10 (vI 0), o_aload 11 0, o_getF zshp 14 12 15, o_bad, o_bad, o_aload 15 0, o_getI zshp 18 12 11],
  [o_bad, o_bad, o_ald zshp 19 14, o_con 20 (vI 1), o_isub 21, o_inv zshp 24 37 3 99 1 3, o_bad, o_bad, o_ifne 27 29, o_bad, o_bad, o_con 28 (vI (-1)), o_iret, o_aload 30 0, o_aload 31 0, o_iload 32 1],
  [o_inv zshp 35 69 2 12 1 2, o_bad, o_bad, o_inv zshp 38 105 2 12 0 6, o_bad, o_bad, o_con 39 (vI 0), o_istore 40 3, o_con 41 (vI 1), o_istore 43 4, o_bad, o_iload 45 4, o_bad, o_aload 46 0, o_getI zshp 49 12 94, o_bad],
  [o_bad, o_icmpge 52 82, o_bad, o_bad, o_iload 53 3, o_aload 54 0, o_getF zshp 57 12 76, o_bad, o_bad, o_aload 58 0, o_getF zshp 61 12 91, o_bad, o_bad, o_iload 63 4, o_bad, o_ald zshp 64 14],
  [o_ald zshp 65 14, o_iload 66 2, o_icmpne 69 73, o_bad, o_bad, o_con 70 (vI 1), o_goto 74, o_bad, o_bad, o_con 74 (vI 0), o_iadd 75, o_istore 76 3, o_iinc 79 4 1, o_bad, o_bad, o_goto 43],
  [o_bad, o_bad, o_iload 83 3, o_iret]]
/-- CallOpenerModel.laid(II)I -/
def k_115 : List (List zO) := [[o_iload 1 0, o_con 3 (vI (-9)), o_bad, o_icmpge 6 12, o_bad, o_bad, o_iload 7 0, o_iload 8 1, o_isub 9, o_goto 13, o_bad, o_bad, o_iload 13 0, o_iret]]
/-- CallOpenerModel.lays(II)I -/
def k_116 : List (List zO) := [[o_aload 1 0, o_getI zshp 4 12 109, o_bad, o_bad, o_istore 5 3, o_aload 6 0, o_aload 7 0, o_getI zshp 10 12 109, o_bad, o_bad, o_con 11 (vI 1), o_iadd 12, o_putI zshp 15 12 109, o_bad, o_bad, o_aload 16 0],
  [o_iload 17 3, o_iload 18 1, o_iload 19 2, o_inv zshp 22 57 4 12 0 4, o_bad, o_bad, o_iload 23 3, o_iret]]
/-- CallOpenerModel.moves(III)V -/
def k_117 : List (List zO) := [[o_aload 1 0, o_con 2 (vI 0), o_iload 3 3, o_inv zshp 6 116 3 12 1 4, o_bad, o_bad, o_istore 8 4, o_bad, o_aload 9 0, o_getF zshp 12 12 25, o_bad, o_bad, o_iload 14 4, o_bad, o_iload 15 1, o_iast zshp 16],
  [o_aload 17 0, o_getF zshp 20 12 26, o_bad, o_bad, o_iload 22 4, o_bad, o_iload 23 2, o_iast zshp 24, o_ret]]
/-- CallOpenerModel.goesIntoNode(III)V -/
def k_118 : List (List zO) := [[o_aload 1 0, o_getF zshp 4 12 77, o_bad, o_bad, o_iload 5 1, o_ald zshp 6 14, o_istore 8 4, o_bad, o_aload 9 0, o_getF zshp 12 12 95, o_bad, o_bad, o_aload 13 0, o_getI zshp 16 12 107, o_bad, o_bad],
  [o_iload 17 1, o_iast zshp 18, o_aload 19 0, o_getF zshp 22 12 96, o_bad, o_bad, o_aload 23 0, o_getI zshp 26 12 107, o_bad, o_bad, o_aload 27 0, o_iload 29 4, o_bad, o_inv zshp 32 71 2 12 1 2, o_bad, o_bad],
  [o_iast zshp 33, o_aload 34 0, o_getF zshp 37 12 97, o_bad, o_bad, o_aload 38 0, o_getI zshp 41 12 107, o_bad, o_bad, o_aload 42 0, o_iload 44 4, o_bad, o_inv zshp 47 71 2 12 1 2, o_bad, o_bad, o_aload 48 0],
  [o_iload 50 4, o_bad, o_inv zshp 53 72 2 12 1 2, o_bad, o_bad, o_iadd 54, o_iast zshp 55, o_aload 56 0, o_getF zshp 59 12 98, o_bad, o_bad, o_aload 60 0, o_getI zshp 63 12 107, o_bad, o_bad, o_aload 64 0],
  [o_getI zshp 67 12 110, o_bad, o_bad, o_iast zshp 68, o_aload 69 0, o_getF zshp 72 12 99, o_bad, o_bad, o_aload 73 0, o_getI zshp 76 12 107, o_bad, o_bad, o_iload 77 3, o_iast zshp 78, o_aload 79 0, o_getF zshp 82 12 100],
  [o_bad, o_bad, o_aload 83 0, o_getI zshp 86 12 107, o_bad, o_bad, o_iload 87 2, o_iast zshp 88, o_aload 89 0, o_getF zshp 92 12 101, o_bad, o_bad, o_aload 93 0, o_getI zshp 96 12 107, o_bad, o_bad],
  [o_aload 97 0, o_getI zshp 100 12 108, o_bad, o_bad, o_iast zshp 101, o_aload 102 0, o_aload 103 0, o_getI zshp 106 12 107, o_bad, o_bad, o_con 107 (vI 1), o_iadd 108, o_putI zshp 111 12 107, o_bad, o_bad, o_aload 112 0],
  [o_aload 113 0, o_getI zshp 116 12 110, o_bad, o_bad, o_aload 117 0, o_iload 119 4, o_bad, o_inv zshp 122 73 2 12 1 2, o_bad, o_bad, o_iadd 123, o_putI zshp 126 12 110, o_bad, o_bad, o_ret]]
/-- CallOpenerModel.endsNode(I)V -/
def k_119 : List (List zO) := [[o_aload 1 0, o_aload 2 0, o_getI zshp 5 12 107, o_bad, o_bad, o_con 6 (vI 1), o_isub 7, o_putI zshp 10 12 107, o_bad, o_bad, o_aload 11 0, o_getI zshp 14 12 107, o_bad, o_bad, o_ifle 17 57, o_bad],
  [o_bad, o_aload 18 0, o_aload 19 0, o_getF zshp 22 12 25, o_bad, o_bad, o_aload 23 0, o_getF zshp 26 12 100, o_bad, o_bad, o_aload 27 0, o_getI zshp 30 12 107, o_bad, o_bad, o_ald zshp 31 14, o_ald zshp 32 14],
  [o_aload 33 0, o_getF zshp 36 12 98, o_bad, o_bad, o_aload 37 0, o_getI zshp 40 12 107, o_bad, o_bad, o_con 41 (vI 1), o_isub 42, o_ald zshp 43 14, o_iadd 44, o_iload 45 1, o_aload 46 0, o_getF zshp 49 12 99, o_bad],
  [o_bad, o_aload 50 0, o_getI zshp 53 12 107, o_bad, o_bad, o_ald zshp 54 14, o_inv zshp 57 117 4 12 0 5, o_bad, o_bad, o_ret]]
/-- CallOpenerModel.copies(I)V -/
def k_120 : List (List zO) := [[o_aload 1 0, o_getI zshp 4 12 107, o_bad, o_bad, o_con 5 (vI 1), o_isub 6, o_istore 7 2, o_aload 8 0, o_getF zshp 11 12 98, o_bad, o_bad, o_iload 12 2, o_ald zshp 13 14, o_istore 14 3, o_aload 15 0, o_getF zshp 18 12 99],
  [o_bad, o_bad, o_iload 19 2, o_ald zshp 20 14, o_aload 21 0, o_getF zshp 24 12 31, o_bad, o_bad, o_iload 25 1, o_ald zshp 26 14, o_iadd 27, o_istore 29 4, o_bad, o_aload 30 0, o_getF zshp 33 12 24, o_bad],
  [o_bad, o_iload 34 1, o_ald zshp 35 14, o_istore 37 5, o_bad, o_aload 38 0, o_getF zshp 41 12 96, o_bad, o_bad, o_iload 42 2, o_iload 43 1, o_con 44 (vI 1), o_iadd 45, o_iast zshp 46, o_iload 48 5, o_bad],
  [o_con 50 (vI 9), o_bad, o_icmpne 53 72, o_bad, o_bad, o_iload 54 2, o_ifle 57 72, o_bad, o_bad, o_aload 58 0, o_aload 59 0, o_getF zshp 62 12 26, o_bad, o_bad, o_iload 63 1, o_ald zshp 64 14],
  [o_iload 65 3, o_inv zshp 68 115 2 99 1 2, o_bad, o_bad, o_inv zshp 71 119 2 12 0 2, o_bad, o_bad, o_ret, o_con 73 (vI (-1)), o_istore 75 6, o_bad, o_iload 77 5, o_bad, o_con 79 (vI 6), o_bad, o_icmpne 82 284],
  [o_bad, o_bad, o_aload 83 0, o_getF zshp 86 12 80, o_bad, o_bad, o_aload 87 0, o_getF zshp 90 12 95, o_bad, o_bad, o_iload 91 2, o_ald zshp 92 14, o_ald zshp 93 14, o_aload 94 0, o_getF zshp 97 12 30, o_bad],
  [o_bad, o_iload 98 1, o_ald zshp 99 14, o_iadd 100, o_aload 101 0, o_getF zshp 104 12 21, o_bad, o_bad, o_con 106 (vI 8), o_bad, o_aload 107 0, o_getI zshp 110 12 11, o_bad, o_bad, o_imul 111, o_aload 112 0],
  [o_getF zshp 115 12 77, o_bad, o_bad, o_aload 116 0, o_getF zshp 119 12 95, o_bad, o_bad, o_iload 120 2, o_ald zshp 121 14, o_ald zshp 122 14, o_iadd 123, o_ald zshp 124 14, o_isub 125, o_istore 127 6, o_bad, o_aload 128 0],
  [o_getF zshp 131 12 85, o_bad, o_bad, o_iload 133 6, o_bad, o_ald zshp 134 16, o_ifeq 137 263, o_bad, o_bad, o_aload 138 0, o_iload 140 6, o_bad, o_iload 141 1, o_iload 143 4, o_bad, o_inv zshp 146 118 4 12 0 5],
  [o_bad, o_bad, o_aload 147 0, o_getF zshp 150 12 98, o_bad, o_bad, o_aload 151 0, o_getI zshp 154 12 107, o_bad, o_bad, o_con 155 (vI 1), o_isub 156, o_ald zshp 157 14, o_istore 159 7, o_bad, o_aload 160 0],
  [o_aload 161 0, o_getF zshp 164 12 77, o_bad, o_bad, o_iload 166 6, o_bad, o_ald zshp 167 14, o_inv zshp 170 74 2 12 1 2, o_bad, o_bad, o_istore 172 8, o_bad, o_con 173 (vI 0), o_istore 175 9, o_bad, o_iload 177 9],
  [o_bad, o_aload 178 0, o_aload 179 0, o_getF zshp 182 12 77, o_bad, o_bad, o_iload 184 6, o_bad, o_ald zshp 185 14, o_inv zshp 188 73 2 12 1 2, o_bad, o_bad, o_icmpge 191 262, o_bad, o_bad, o_iload 193 9],
  [o_bad, o_iload 195 8, o_bad, o_icmplt 198 202, o_bad, o_bad, o_con 199 (vI 0), o_goto 241, o_bad, o_bad, o_iload 204 9, o_bad, o_ifne 207 216, o_bad, o_bad, o_aload 208 0],
  [o_getF zshp 211 12 26, o_bad, o_bad, o_iload 212 1, o_ald zshp 213 14, o_goto 237, o_bad, o_bad, o_iload 218 9, o_bad, o_con 219 (vI 1), o_icmpne 222 231, o_bad, o_bad, o_aload 223 0, o_getF zshp 226 12 27],
  [o_bad, o_bad, o_iload 227 1, o_ald zshp 228 14, o_goto 237, o_bad, o_bad, o_aload 232 0, o_getF zshp 235 12 28, o_bad, o_bad, o_iload 236 1, o_ald zshp 237 14, o_iload 238 3, o_inv zshp 241 115 2 99 1 2, o_bad],
  [o_bad, o_istore 243 10, o_bad, o_aload 244 0, o_iload 246 7, o_bad, o_iload 248 9, o_bad, o_iadd 249, o_iload 251 10, o_bad, o_iload 253 4, o_bad, o_inv zshp 256 117 4 12 0 5, o_bad, o_bad],
  [o_iinc 259 9 1, o_bad, o_bad, o_goto 175, o_bad, o_bad, o_ret, o_aload 264 0, o_getF zshp 267 12 105, o_bad, o_bad, o_aload 268 0, o_getI zshp 271 12 111, o_bad, o_bad, o_iload 273 6],
  [o_bad, o_iast zshp 274, o_aload 275 0, o_aload 276 0, o_getI zshp 279 12 111, o_bad, o_bad, o_con 280 (vI 1), o_iadd 281, o_putI zshp 284 12 111, o_bad, o_bad, o_aload 285 0, o_iload 287 5, o_bad, o_iload 289 4],
  [o_bad, o_inv zshp 292 116 3 12 1 4, o_bad, o_bad, o_istore 294 7, o_bad, o_aload 295 0, o_getF zshp 298 12 25, o_bad, o_bad, o_iload 300 7, o_bad, o_aload 301 0, o_getF zshp 304 12 25, o_bad, o_bad],
  [o_iload 305 1, o_ald zshp 306 14, o_ifge 309 314, o_bad, o_bad, o_con 311 (vI (-2)), o_bad, o_goto 322, o_bad, o_bad, o_aload 315 0, o_getF zshp 318 12 25, o_bad, o_bad, o_iload 319 1, o_ald zshp 320 14],
  [o_iload 321 3, o_iadd 322, o_iast zshp 323, o_aload 324 0, o_getF zshp 327 12 26, o_bad, o_bad, o_iload 329 7, o_bad, o_aload 330 0, o_getF zshp 333 12 26, o_bad, o_bad, o_iload 334 1, o_ald zshp 335 14, o_iload 336 3],
  [o_inv zshp 339 115 2 99 1 2, o_bad, o_bad, o_iast zshp 340, o_aload 341 0, o_getF zshp 344 12 27, o_bad, o_bad, o_iload 346 7, o_bad, o_aload 347 0, o_getF zshp 350 12 27, o_bad, o_bad, o_iload 351 1, o_ald zshp 352 14],
  [o_iload 353 3, o_inv zshp 356 115 2 99 1 2, o_bad, o_bad, o_iast zshp 357, o_aload 358 0, o_getF zshp 361 12 28, o_bad, o_bad, o_iload 363 7, o_bad, o_aload 364 0, o_getF zshp 367 12 28, o_bad, o_bad, o_iload 368 1],
  [o_ald zshp 369 14, o_iload 370 3, o_inv zshp 373 115 2 99 1 2, o_bad, o_bad, o_iast zshp 374, o_aload 375 0, o_getF zshp 378 12 29, o_bad, o_bad, o_iload 380 7, o_bad, o_aload 381 0, o_getF zshp 384 12 29, o_bad, o_bad],
  [o_iload 385 1, o_ald zshp 386 14, o_iast zshp 387, o_aload 388 0, o_getF zshp 391 12 30, o_bad, o_bad, o_iload 393 7, o_bad, o_aload 394 0, o_getF zshp 397 12 30, o_bad, o_bad, o_iload 398 1, o_ald zshp 399 14, o_iast zshp 400],
  [o_aload 401 0, o_getF zshp 404 12 35, o_bad, o_bad, o_iload 406 7, o_bad, o_aload 407 0, o_getF zshp 410 12 35, o_bad, o_bad, o_iload 411 1, o_ald zshp 412 16, o_zast zshp 413, o_aload 414 0, o_getF zshp 417 12 34, o_bad],
  [o_bad, o_iload 419 7, o_bad, o_iload 421 6, o_bad, o_iast zshp 422, o_iload 424 5, o_bad, o_con 426 (vI 7), o_bad, o_icmpeq 429 437, o_bad, o_bad, o_iload 431 5, o_bad, o_con 433 (vI 8)],
  [o_bad, o_icmpeq 436 437, o_bad, o_bad, o_ret, o_aload 438 0, o_getF zshp 441 12 102, o_bad, o_bad, o_aload 442 0, o_getI zshp 445 12 108, o_bad, o_bad, o_iload 447 7, o_bad, o_iast zshp 448],
  [o_aload 449 0, o_getF zshp 452 12 103, o_bad, o_bad, o_aload 453 0, o_getI zshp 456 12 108, o_bad, o_bad, o_iload 457 1, o_iast zshp 458, o_aload 459 0, o_getF zshp 462 12 106, o_bad, o_bad, o_aload 463 0, o_getI zshp 466 12 108],
  [o_bad, o_bad, o_con 467 (vI 0), o_zast zshp 468, o_aload 469 0, o_getF zshp 472 12 104, o_bad, o_bad, o_aload 473 0, o_getI zshp 476 12 108, o_bad, o_bad, o_iload 477 1, o_con 478 (vI 1), o_iadd 479, o_aload 480 0],
  [o_getF zshp 483 12 32, o_bad, o_bad, o_iload 484 1, o_ald zshp 485 14, o_iadd 486, o_iast zshp 487, o_aload 488 0, o_aload 489 0, o_getI zshp 492 12 108, o_bad, o_bad, o_con 493 (vI 1), o_iadd 494, o_putI zshp 497 12 108, o_bad],
  [o_bad, o_ret]]
/-- CallOpenerModel.endsBlock()V -/
def k_121 : List (List zO) := [[o_aload 1 0, o_getI zshp 4 12 108, o_bad, o_bad, o_con 5 (vI 1), o_isub 6, o_istore 7 1, o_aload 8 0, o_getF zshp 11 12 102, o_bad, o_bad, o_iload 12 1, o_ald zshp 13 14, o_istore 14 2, o_aload 15 0, o_getI zshp 18 12 109],
  [o_bad, o_bad, o_iload 19 2, o_isub 20, o_con 21 (vI 1), o_isub 22, o_istore 23 3, o_aload 24 0, o_getF zshp 27 12 106, o_bad, o_bad, o_iload 28 1, o_ald zshp 29 16, o_ifeq 32 52, o_bad, o_bad],
  [o_aload 33 0, o_getF zshp 36 12 33, o_bad, o_bad, o_iload 37 2, o_iload 38 3, o_aload 39 0, o_getF zshp 42 12 32, o_bad, o_bad, o_iload 43 2, o_ald zshp 44 14, o_isub 45, o_iast zshp 46, o_aload 47 0, o_iload 48 1],
  [o_putI zshp 51 12 108, o_bad, o_bad, o_ret, o_aload 53 0, o_getF zshp 56 12 32, o_bad, o_bad, o_iload 57 2, o_iload 58 3, o_iast zshp 59, o_aload 60 0, o_getF zshp 63 12 35, o_bad, o_bad, o_iload 64 2],
  [o_ald zshp 65 16, o_ifeq 68 102, o_bad, o_bad, o_aload 69 0, o_getF zshp 72 12 106, o_bad, o_bad, o_iload 73 1, o_con 74 (vI 1), o_zast zshp 75, o_aload 76 0, o_getF zshp 79 12 104, o_bad, o_bad, o_iload 80 1],
  [o_aload 81 0, o_getF zshp 84 12 104, o_bad, o_bad, o_iload 85 1, o_ald zshp 86 14, o_aload 87 0, o_getF zshp 90 12 33, o_bad, o_bad, o_aload 91 0, o_getF zshp 94 12 103, o_bad, o_bad, o_iload 95 1, o_ald zshp 96 14],
  [o_ald zshp 97 14, o_iadd 98, o_iast zshp 99, o_goto 107, o_bad, o_bad, o_aload 103 0, o_iload 104 1, o_putI zshp 107 12 108, o_bad, o_bad, o_ret]]
/-- CallOpenerModel.laysResult(I)V -/
def k_122 : List (List zO) := [[o_aload 1 0, o_iload 2 1, o_inv zshp 5 105 2 12 0 6, o_bad, o_bad, o_aload 6 0, o_con 8 (vI 120), o_bad, o_putI zshp 11 12 109, o_bad, o_bad, o_aload 12 0, o_con 13 (vI 0), o_putI zshp 16 12 110, o_bad, o_bad],
  [o_aload 17 0, o_con 18 (vI 0), o_putI zshp 21 12 107, o_bad, o_bad, o_aload 22 0, o_con 23 (vI 0), o_putI zshp 26 12 108, o_bad, o_bad, o_aload 27 0, o_con 28 (vI 0), o_putI zshp 31 12 111, o_bad, o_bad, o_aload 32 0],
  [o_con 33 (vI 0), o_con 34 (vI (-1)), o_con 35 (vI 0), o_inv zshp 38 118 4 12 0 5, o_bad, o_bad, o_aload 39 0, o_getI zshp 42 12 107, o_bad, o_bad, o_ifle 45 128, o_bad, o_bad, o_aload 46 0, o_getI zshp 49 12 107, o_bad],
  [o_bad, o_con 50 (vI 1), o_isub 51, o_istore 52 2, o_aload 53 0, o_getI zshp 56 12 108, o_bad, o_bad, o_aload 57 0, o_getF zshp 60 12 101, o_bad, o_bad, o_iload 61 2, o_ald zshp 62 14, o_icmple 65 92, o_bad],
  [o_bad, o_aload 66 0, o_getF zshp 69 12 96, o_bad, o_bad, o_iload 70 2, o_ald zshp 71 14, o_aload 72 0, o_getF zshp 75 12 104, o_bad, o_bad, o_aload 76 0, o_getI zshp 79 12 108, o_bad, o_bad, o_con 80 (vI 1)],
  [o_isub 81, o_ald zshp 82 14, o_icmpne 85 92, o_bad, o_bad, o_aload 86 0, o_inv zshp 89 121 1 12 0 4, o_bad, o_bad, o_goto 125, o_bad, o_bad, o_aload 93 0, o_getF zshp 96 12 96, o_bad, o_bad],
  [o_iload 97 2, o_ald zshp 98 14, o_aload 99 0, o_getF zshp 102 12 97, o_bad, o_bad, o_iload 103 2, o_ald zshp 104 14, o_icmpne 107 115, o_bad, o_bad, o_aload 108 0, o_con 109 (vI 0), o_inv zshp 112 119 2 12 0 2, o_bad, o_bad],
  [o_goto 125, o_bad, o_bad, o_aload 116 0, o_aload 117 0, o_getF zshp 120 12 96, o_bad, o_bad, o_iload 121 2, o_ald zshp 122 14, o_inv zshp 125 120 2 12 0 11, o_bad, o_bad, o_goto 38, o_bad, o_bad],
  [o_ret]]
/-- CallOpenerModel.resultLines()I -/
def k_123 : List (List zO) := [[o_aload 1 0, o_getI zshp 4 12 109, o_bad, o_bad, o_con 6 (vI 120), o_bad, o_isub 7, o_iret]]
/-- CallOpenerModel.result(II)I -/
def k_124 : List (List zO) := [[o_aload 1 0, o_iload 2 1, o_inv zshp 5 68 2 12 1 2, o_bad, o_bad, o_ifeq 8 17, o_bad, o_bad, o_iload 9 2, o_con 10 (vI 0), o_con 11 (vI 3), o_inv zshp 14 37 3 99 1 3, o_bad, o_bad, o_ifne 17 19, o_bad],
  [o_bad, o_con 18 (vI (-1)), o_iret, o_aload 20 0, o_aload 21 0, o_iload 22 1, o_inv zshp 25 69 2 12 1 2, o_bad, o_bad, o_inv zshp 28 122 2 12 0 3, o_bad, o_bad, o_iload 29 2, o_ifne 32 39, o_bad, o_bad],
  [o_aload 33 0, o_inv zshp 36 123 1 12 1 1, o_bad, o_bad, o_goto 72, o_bad, o_bad, o_iload 40 2, o_con 41 (vI 1), o_icmpne 44 51, o_bad, o_bad, o_aload 45 0, o_getI zshp 48 12 110, o_bad, o_bad],
  [o_goto 72, o_bad, o_bad, o_iload 52 2, o_con 53 (vI 2), o_icmpne 56 63, o_bad, o_bad, o_aload 57 0, o_getI zshp 60 12 111, o_bad, o_bad, o_goto 72, o_bad, o_bad, o_aload 64 0],
  [o_aload 65 0, o_iload 66 1, o_inv zshp 69 69 2 12 1 2, o_bad, o_bad, o_inv zshp 72 74 2 12 1 2, o_bad, o_bad, o_iret]]
/-- CallOpenerModel.line(III)I -/
def k_125 : List (List zO) := [[o_aload 1 0, o_iload 2 1, o_inv zshp 5 68 2 12 1 2, o_bad, o_bad, o_ifeq 8 18, o_bad, o_bad, o_iload 9 3, o_con 10 (vI 0), o_con 12 (vI 7), o_bad, o_inv zshp 15 37 3 99 1 3, o_bad, o_bad, o_ifne 18 20],
  [o_bad, o_bad, o_con 19 (vI (-1)), o_iret, o_aload 21 0, o_aload 22 0, o_iload 23 1, o_inv zshp 26 69 2 12 1 2, o_bad, o_bad, o_inv zshp 29 122 2 12 0 3, o_bad, o_bad, o_iload 30 2, o_con 31 (vI 0), o_aload 32 0],
  [o_inv zshp 35 123 1 12 1 1, o_bad, o_bad, o_con 36 (vI 1), o_isub 37, o_inv zshp 40 37 3 99 1 3, o_bad, o_bad, o_ifne 43 45, o_bad, o_bad, o_con 44 (vI (-1)), o_iret, o_con 47 (vI 120), o_bad, o_iload 48 2],
  [o_iadd 49, o_istore 51 4, o_bad, o_iload 52 3, o_sw [(0, 96), (1, 104), (2, 112), (3, 120), (4, 128), (5, 136), (6, 164)] 172, o_bad, o_bad, o_bad, o_bad, o_bad, o_bad, o_bad, o_bad, o_bad, o_bad, o_bad],
  [o_bad, o_bad, o_bad, o_bad, o_bad, o_bad, o_bad, o_bad, o_bad, o_bad, o_bad, o_bad, o_bad, o_bad, o_bad, o_bad],
  [o_bad, o_bad, o_bad, o_bad, o_bad, o_bad, o_bad, o_bad, o_bad, o_bad, o_bad, o_bad, o_bad, o_bad, o_bad, o_bad],
  [o_aload 97 0, o_getF zshp 100 12 24, o_bad, o_bad, o_iload 102 4, o_bad, o_ald zshp 103 14, o_iret, o_aload 105 0, o_getF zshp 108 12 25, o_bad, o_bad, o_iload 110 4, o_bad, o_ald zshp 111 14, o_iret],
  [o_aload 113 0, o_getF zshp 116 12 26, o_bad, o_bad, o_iload 118 4, o_bad, o_ald zshp 119 14, o_iret, o_aload 121 0, o_getF zshp 124 12 27, o_bad, o_bad, o_iload 126 4, o_bad, o_ald zshp 127 14, o_iret],
  [o_aload 129 0, o_getF zshp 132 12 28, o_bad, o_bad, o_iload 134 4, o_bad, o_ald zshp 135 14, o_iret, o_aload 137 0, o_getF zshp 140 12 29, o_bad, o_bad, o_iload 142 4, o_bad, o_ald zshp 143 14, o_ifge 146 151],
  [o_bad, o_bad, o_con 148 (vI (-2)), o_bad, o_goto 163, o_bad, o_bad, o_aload 152 0, o_getF zshp 155 12 50, o_bad, o_bad, o_aload 156 0, o_getF zshp 159 12 29, o_bad, o_bad, o_iload 161 4],
  [o_bad, o_ald zshp 162 14, o_ald zshp 163 14, o_iret, o_aload 165 0, o_getF zshp 168 12 31, o_bad, o_bad, o_iload 170 4, o_bad, o_ald zshp 171 14, o_iret, o_aload 173 0, o_getF zshp 176 12 35, o_bad, o_bad],
  [o_iload 178 4, o_bad, o_ald zshp 179 16, o_ifeq 182 186, o_bad, o_bad, o_con 183 (vI 1), o_goto 187, o_bad, o_bad, o_con 187 (vI 0), o_iret]]
/-- CallOpenerModel.runsResult(I)V -/
def k_126 : List (List zO) := [[o_aload 1 0, o_iload 2 1, o_inv zshp 5 122 2 12 0 3, o_bad, o_bad, o_aload 6 0, o_con 8 (vI 120), o_bad, o_aload 9 0, o_inv zshp 12 123 1 12 1 1, o_bad, o_bad, o_aload 13 0, o_getI zshp 16 12 110, o_bad, o_bad],
  [o_aload 17 0, o_iload 18 1, o_inv zshp 21 74 2 12 1 2, o_bad, o_bad, o_inv zshp 24 84 5 12 0 7, o_bad, o_bad, o_ret]]
/-- CallOpenerModel.after(II)I -/
def k_127 : List (List zO) := [[o_aload 1 0, o_iload 2 1, o_inv zshp 5 68 2 12 1 2, o_bad, o_bad, o_ifeq 8 17, o_bad, o_bad, o_iload 9 2, o_con 10 (vI 0), o_con 11 (vI 4), o_inv zshp 14 37 3 99 1 3, o_bad, o_bad, o_ifne 17 21, o_bad],
  [o_bad, o_con 20 (vI (-2147483648)), o_bad, o_bad, o_iret, o_aload 22 0, o_aload 23 0, o_iload 24 1, o_inv zshp 27 69 2 12 1 2, o_bad, o_bad, o_inv zshp 30 126 2 12 0 2, o_bad, o_bad, o_aload 31 0, o_iload 32 2],
  [o_inv zshp 35 85 2 12 1 2, o_bad, o_bad, o_iret]]
/-- CallOpenerModel.saved(I)I -/
def k_128 : List (List zO) := [[o_aload 1 0, o_iload 2 1, o_inv zshp 5 68 2 12 1 2, o_bad, o_bad, o_ifne 8 12, o_bad, o_bad, o_con 11 (vI (-2147483648)), o_bad, o_bad, o_iret, o_aload 13 0, o_aload 14 0, o_iload 15 1, o_inv zshp 18 69 2 12 1 2],
  [o_bad, o_bad, o_inv zshp 21 86 2 12 0 2, o_bad, o_bad, o_aload 22 0, o_getI zshp 25 12 70, o_bad, o_bad, o_istore 26 2, o_aload 27 0, o_getI zshp 30 12 73, o_bad, o_bad, o_ifle 33 37, o_bad],
  [o_bad, o_con 36 (vI (-2147483648)), o_bad, o_bad, o_iret, o_aload 38 0, o_aload 39 0, o_iload 40 1, o_inv zshp 43 69 2 12 1 2, o_bad, o_bad, o_inv zshp 46 126 2 12 0 2, o_bad, o_bad, o_aload 47 0, o_getI zshp 50 12 73],
  [o_bad, o_bad, o_ifle 53 59, o_bad, o_bad, o_con 56 (vI (-2147483648)), o_bad, o_bad, o_goto 65, o_bad, o_bad, o_iload 60 2, o_aload 61 0, o_getI zshp 64 12 70, o_bad, o_bad],
  [o_isub 65, o_iret]]
/-- CallOpenerModel.left(III)I -/
def k_129 : List (List zO) := [[o_aload 1 0, o_iload 2 1, o_inv zshp 5 68 2 12 1 2, o_bad, o_bad, o_ifeq 8 21, o_bad, o_bad, o_iload 9 2, o_iflt 12 21, o_bad, o_bad, o_iload 13 3, o_con 14 (vI 0), o_con 15 (vI 2), o_inv zshp 18 37 3 99 1 3],
  [o_bad, o_bad, o_ifne 21 23, o_bad, o_bad, o_con 22 (vI (-1)), o_iret, o_aload 24 0, o_aload 25 0, o_iload 26 1, o_inv zshp 29 69 2 12 1 2, o_bad, o_bad, o_inv zshp 32 122 2 12 0 3, o_bad, o_bad],
  [o_iload 33 2, o_aload 34 0, o_getI zshp 37 12 111, o_bad, o_bad, o_icmplt 40 42, o_bad, o_bad, o_con 41 (vI (-1)), o_iret, o_aload 43 0, o_getF zshp 46 12 105, o_bad, o_bad, o_iload 47 2, o_ald zshp 48 14],
  [o_istore 50 4, o_bad, o_iload 51 3, o_ifne 54 62, o_bad, o_bad, o_aload 55 0, o_getF zshp 58 12 76, o_bad, o_bad, o_iload 60 4, o_bad, o_ald zshp 61 14, o_iret, o_iload 63 3, o_con 64 (vI 2)],
  [o_icmpne 67 80, o_bad, o_bad, o_aload 68 0, o_getF zshp 71 12 92, o_bad, o_bad, o_aload 72 0, o_getF zshp 75 12 75, o_bad, o_bad, o_iload 77 4, o_bad, o_ald zshp 78 14, o_ald zshp 79 14, o_iret],
  [o_aload 81 0, o_getF zshp 84 12 83, o_bad, o_bad, o_iload 86 4, o_bad, o_lald zshp 87, o_con 88 (vJ 1), o_lcmp 89, o_ifge 92 96, o_bad, o_bad, o_con 93 (vI 1), o_goto 124, o_bad, o_bad],
  [o_aload 97 0, o_iload 99 4, o_bad, o_inv zshp 102 99 2 12 1 4, o_bad, o_bad, o_ifeq 105 109, o_bad, o_bad, o_con 106 (vI 2), o_goto 124, o_bad, o_bad, o_aload 110 0, o_getF zshp 113 12 79, o_bad],
  [o_bad, o_iload 115 4, o_bad, o_ald zshp 116 14, o_ifne 119 123, o_bad, o_bad, o_con 120 (vI 3), o_goto 124, o_bad, o_bad, o_con 124 (vI 4), o_iret]]
/-- CallOpenerModel.sets(IZI)V -/
def k_130 : List (List zO) := [[o_aload 1 0, o_getF zshp 4 12 112, o_bad, o_bad, o_iload 5 1, o_ald zshp 6 16, o_iload 7 2, o_icmpne 10 25, o_bad, o_bad, o_iload 11 2, o_ifeq 14 24, o_bad, o_bad, o_aload 15 0, o_getF zshp 18 12 113],
  [o_bad, o_bad, o_iload 19 1, o_ald zshp 20 14, o_iload 21 3, o_icmpne 24 25, o_bad, o_bad, o_ret, o_aload 26 0, o_getF zshp 29 12 114, o_bad, o_bad, o_aload 30 0, o_getI zshp 33 12 126, o_bad],
  [o_bad, o_iload 34 1, o_iast zshp 35, o_aload 36 0, o_getF zshp 39 12 123, o_bad, o_bad, o_aload 40 0, o_getI zshp 43 12 126, o_bad, o_bad, o_aload 44 0, o_getF zshp 47 12 112, o_bad, o_bad, o_iload 48 1],
  [o_ald zshp 49 16, o_zast zshp 50, o_aload 51 0, o_getF zshp 54 12 115, o_bad, o_bad, o_aload 55 0, o_getI zshp 58 12 126, o_bad, o_bad, o_aload 59 0, o_getF zshp 62 12 113, o_bad, o_bad, o_iload 63 1, o_ald zshp 64 14],
  [o_iast zshp 65, o_aload 66 0, o_aload 67 0, o_getI zshp 70 12 126, o_bad, o_bad, o_con 71 (vI 1), o_iadd 72, o_putI zshp 75 12 126, o_bad, o_bad, o_aload 76 0, o_getF zshp 79 12 112, o_bad, o_bad, o_iload 80 1],
  [o_iload 81 2, o_zast zshp 82, o_aload 83 0, o_getF zshp 86 12 113, o_bad, o_bad, o_iload 87 1, o_iload 88 2, o_ifeq 91 95, o_bad, o_bad, o_iload 92 3, o_goto 96, o_bad, o_bad, o_con 96 (vI 0)],
  [o_iast zshp 97, o_ret]]
/-- CallOpenerModel.isKnownOf(I)Z -/
def k_131 : List (List zO) := [[o_iload 1 1, o_ifge 4 22, o_bad, o_bad, o_iload 5 1, o_con 7 (vI (-9)), o_bad, o_icmpge 10 26, o_bad, o_bad, o_aload 11 0, o_getF zshp 14 12 112, o_bad, o_bad, o_con 16 (vI (-10)), o_bad],
  [o_iload 17 1, o_isub 18, o_ald zshp 19 16, o_ifeq 22 26, o_bad, o_bad, o_con 23 (vI 1), o_goto 27, o_bad, o_bad, o_con 27 (vI 0), o_zret]]
/-- CallOpenerModel.knownOf(I)I -/
def k_132 : List (List zO) := [[o_iload 1 1, o_iflt 4 8, o_bad, o_bad, o_iload 5 1, o_goto 17, o_bad, o_bad, o_aload 9 0, o_getF zshp 12 12 113, o_bad, o_bad, o_con 14 (vI (-10)), o_bad, o_iload 15 1, o_isub 16],
  [o_ald zshp 17 14, o_iret]]
/-- CallOpenerModel.opensKnown(III)V -/
def k_133 : List (List zO) := [[o_aload 1 0, o_getF zshp 4 12 118, o_bad, o_bad, o_aload 5 0, o_getI zshp 8 12 128, o_bad, o_bad, o_iload 9 1, o_iast zshp 10, o_aload 11 0, o_getF zshp 14 12 119, o_bad, o_bad, o_aload 15 0, o_getI zshp 18 12 128],
  [o_bad, o_bad, o_iload 19 2, o_iast zshp 20, o_aload 21 0, o_getF zshp 24 12 120, o_bad, o_bad, o_aload 25 0, o_getI zshp 28 12 128, o_bad, o_bad, o_iload 29 3, o_iast zshp 30, o_aload 31 0, o_getF zshp 34 12 121],
  [o_bad, o_bad, o_aload 35 0, o_getI zshp 38 12 128, o_bad, o_bad, o_aload 39 0, o_getI zshp 42 12 126, o_bad, o_bad, o_iast zshp 43, o_aload 44 0, o_getF zshp 47 12 122, o_bad, o_bad, o_aload 48 0],
  [o_getI zshp 51 12 128, o_bad, o_bad, o_aload 52 0, o_getI zshp 55 12 127, o_bad, o_bad, o_iast zshp 56, o_aload 57 0, o_aload 58 0, o_getI zshp 61 12 128, o_bad, o_bad, o_con 62 (vI 1), o_iadd 63, o_putI zshp 66 12 128],
  [o_bad, o_bad, o_ret]]
/-- CallOpenerModel.forgets(I)V -/
def k_134 : List (List zO) := [[o_iload 1 1, o_con 2 (vI 1), o_iadd 3, o_istore 4 2, o_iload 5 2, o_iload 6 1, o_aload 7 0, o_getF zshp 10 12 32, o_bad, o_bad, o_iload 11 1, o_ald zshp 12 14, o_iadd 13, o_icmpgt 16 43, o_bad, o_bad],
  [o_aload 17 0, o_getF zshp 20 12 25, o_bad, o_bad, o_iload 21 2, o_ald zshp 22 14, o_iflt 25 37, o_bad, o_bad, o_aload 26 0, o_aload 27 0, o_getF zshp 30 12 25, o_bad, o_bad, o_iload 31 2, o_ald zshp 32 14],
  [o_con 33 (vI 0), o_con 34 (vI 0), o_inv zshp 37 130 4 12 0 4, o_bad, o_bad, o_iinc 40 2 1, o_bad, o_bad, o_goto 4, o_bad, o_bad, o_ret]]
/-- CallOpenerModel.behind(I)I -/
def k_135 : List (List zO) := [[o_iload 1 1, o_con 2 (vI 1), o_iadd 3, o_aload 4 0, o_getF zshp 7 12 32, o_bad, o_bad, o_iload 8 1, o_ald zshp 9 14, o_iadd 10, o_aload 11 0, o_getF zshp 14 12 33, o_bad, o_bad, o_iload 15 1, o_ald zshp 16 14],
  [o_iadd 17, o_iret]]
/-- CallOpenerModel.looks(I)V -/
def k_136 : List (List zO) := [[o_aload 1 0, o_getF zshp 4 12 24, o_bad, o_bad, o_iload 5 1, o_ald zshp 6 14, o_istore 7 2, o_aload 8 0, o_aload 9 0, o_getF zshp 12 12 26, o_bad, o_bad, o_iload 13 1, o_ald zshp 14 14, o_inv zshp 17 131 2 12 1 2, o_bad],
  [o_bad, o_istore 18 3, o_iload 19 2, o_con 21 (vI 8), o_bad, o_icmpne 24 92, o_bad, o_bad, o_iload 25 3, o_ifeq 28 66, o_bad, o_bad, o_aload 29 0, o_aload 30 0, o_getF zshp 33 12 26, o_bad],
  [o_bad, o_iload 34 1, o_ald zshp 35 14, o_inv zshp 38 132 2 12 1 2, o_bad, o_bad, o_ifgt 41 66, o_bad, o_bad, o_aload 42 0, o_aload 43 0, o_getI zshp 46 12 131, o_bad, o_bad, o_aload 47 0, o_getF zshp 50 12 32],
  [o_bad, o_bad, o_iload 51 1, o_ald zshp 52 14, o_iadd 53, o_putI zshp 56 12 131, o_bad, o_bad, o_aload 57 0, o_aload 58 0, o_iload 59 1, o_inv zshp 62 135 2 12 1 2, o_bad, o_bad, o_putI zshp 65 12 132, o_bad],
  [o_bad, o_ret, o_aload 67 0, o_iload 68 1, o_inv zshp 71 134 2 12 0 3, o_bad, o_bad, o_aload 72 0, o_con 73 (vI 3), o_iload 74 1, o_aload 75 0, o_iload 76 1, o_inv zshp 79 135 2 12 1 2, o_bad, o_bad, o_inv zshp 82 133 4 12 0 4],
  [o_bad, o_bad, o_aload 83 0, o_iload 84 1, o_con 85 (vI 1), o_iadd 86, o_putI zshp 89 12 132, o_bad, o_bad, o_goto 370, o_bad, o_bad, o_iload 93 2, o_con 95 (vI 7), o_bad, o_icmpne 98 218],
  [o_bad, o_bad, o_iload 99 3, o_ifeq 102 218, o_bad, o_bad, o_aload 103 0, o_aload 104 0, o_getF zshp 107 12 26, o_bad, o_bad, o_iload 108 1, o_ald zshp 109 14, o_inv zshp 112 132 2 12 1 2, o_bad, o_bad],
  [o_ifeq 115 119, o_bad, o_bad, o_con 116 (vI 1), o_goto 120, o_bad, o_bad, o_con 120 (vI 0), o_istore 122 4, o_bad, o_aload 123 0, o_aload 124 0, o_getI zshp 127 12 130, o_bad, o_bad, o_con 128 (vI 1)],
  [o_iadd 129, o_putI zshp 132 12 130, o_bad, o_bad, o_aload 133 0, o_aload 134 0, o_getI zshp 137 12 131, o_bad, o_bad, o_iload 139 4, o_bad, o_ifeq 142 151, o_bad, o_bad, o_aload 143 0, o_getF zshp 146 12 33],
  [o_bad, o_bad, o_iload 147 1, o_ald zshp 148 14, o_goto 157, o_bad, o_bad, o_aload 152 0, o_getF zshp 155 12 32, o_bad, o_bad, o_iload 156 1, o_ald zshp 157 14, o_iadd 158, o_putI zshp 161 12 131, o_bad],
  [o_bad, o_aload 162 0, o_con 163 (vI 0), o_iload 164 1, o_iload 166 4, o_bad, o_ifeq 169 182, o_bad, o_bad, o_iload 170 1, o_con 171 (vI 1), o_iadd 172, o_aload 173 0, o_getF zshp 176 12 32, o_bad, o_bad],
  [o_iload 177 1, o_ald zshp 178 14, o_iadd 179, o_goto 187, o_bad, o_bad, o_aload 183 0, o_iload 184 1, o_inv zshp 187 135 2 12 1 2, o_bad, o_bad, o_inv zshp 190 133 4 12 0 4, o_bad, o_bad, o_aload 191 0, o_iload 193 4],
  [o_bad, o_ifeq 196 202, o_bad, o_bad, o_iload 197 1, o_con 198 (vI 1), o_iadd 199, o_goto 212, o_bad, o_bad, o_iload 203 1, o_con 204 (vI 1), o_iadd 205, o_aload 206 0, o_getF zshp 209 12 32, o_bad],
  [o_bad, o_iload 210 1, o_ald zshp 211 14, o_iadd 212, o_putI zshp 215 12 132, o_bad, o_bad, o_goto 370, o_bad, o_bad, o_iload 219 2, o_con 221 (vI 7), o_bad, o_icmpne 224 250, o_bad, o_bad],
  [o_aload 225 0, o_con 226 (vI 1), o_iload 227 1, o_iload 228 1, o_con 229 (vI 1), o_iadd 230, o_aload 231 0, o_getF zshp 234 12 32, o_bad, o_bad, o_iload 235 1, o_ald zshp 236 14, o_iadd 237, o_inv zshp 240 133 4 12 0 4, o_bad, o_bad],
  [o_aload 241 0, o_iload 242 1, o_con 243 (vI 1), o_iadd 244, o_putI zshp 247 12 132, o_bad, o_bad, o_goto 370, o_bad, o_bad, o_aload 251 0, o_iload 252 1, o_con 253 (vI 1), o_iadd 254, o_putI zshp 257 12 132, o_bad],
  [o_bad, o_iload 258 2, o_con 260 (vI 9), o_bad, o_icmpne 263 264, o_bad, o_bad, o_ret, o_iload 265 3, o_ifeq 268 295, o_bad, o_bad, o_iload 269 2, o_con 271 (vI 6), o_bad, o_icmpeq 274 295],
  [o_bad, o_bad, o_iload 275 2, o_ifeq 278 291, o_bad, o_bad, o_aload 279 0, o_aload 280 0, o_getF zshp 283 12 27, o_bad, o_bad, o_iload 284 1, o_ald zshp 285 14, o_inv zshp 288 131 2 12 1 2, o_bad, o_bad],
  [o_ifeq 291 295, o_bad, o_bad, o_con 292 (vI 1), o_goto 296, o_bad, o_bad, o_con 296 (vI 0), o_istore 298 4, o_bad, o_iload 300 4, o_bad, o_ifeq 303 317, o_bad, o_bad, o_iload 304 2],
  [o_ifeq 307 317, o_bad, o_bad, o_aload 308 0, o_aload 309 0, o_getI zshp 312 12 129, o_bad, o_bad, o_con 313 (vI 1), o_iadd 314, o_putI zshp 317 12 129, o_bad, o_bad, o_aload 318 0, o_aload 319 0, o_getF zshp 322 12 25],
  [o_bad, o_bad, o_iload 323 1, o_ald zshp 324 14, o_iload 326 4, o_bad, o_iload 328 4, o_bad, o_ifeq 331 366, o_bad, o_bad, o_iload 332 2, o_aload 333 0, o_aload 334 0, o_getF zshp 337 12 26, o_bad],
  [o_bad, o_iload 338 1, o_ald zshp 339 14, o_inv zshp 342 132 2 12 1 2, o_bad, o_bad, o_iload 343 2, o_ifne 346 350, o_bad, o_bad, o_con 347 (vI 0), o_goto 360, o_bad, o_bad, o_aload 351 0, o_aload 352 0],
  [o_getF zshp 355 12 27, o_bad, o_bad, o_iload 356 1, o_ald zshp 357 14, o_inv zshp 360 132 2 12 1 2, o_bad, o_bad, o_inv zshp 363 80 3 99 1 3, o_bad, o_bad, o_goto 367, o_bad, o_bad, o_con 367 (vI 0), o_inv zshp 370 130 4 12 0 4],
  [o_bad, o_bad, o_ret]]
/-- CallOpenerModel.endsFirst(I)V -/
def k_137 : List (List zO) := [[o_aload 1 0, o_getF zshp 4 12 121, o_bad, o_bad, o_iload 5 1, o_ald zshp 6 14, o_istore 7 2, o_iload 8 2, o_aload 9 0, o_getI zshp 12 12 126, o_bad, o_bad, o_icmpge 15 33, o_bad, o_bad, o_aload 16 0],
  [o_getF zshp 19 12 125, o_bad, o_bad, o_aload 20 0, o_getF zshp 23 12 114, o_bad, o_bad, o_iload 24 2, o_ald zshp 25 14, o_con 26 (vI 0), o_zast zshp 27, o_iinc 30 2 1, o_bad, o_bad, o_goto 7, o_bad],
  [o_bad, o_aload 34 0, o_getF zshp 37 12 121, o_bad, o_bad, o_iload 38 1, o_ald zshp 39 14, o_istore 40 2, o_iload 41 2, o_aload 42 0, o_getI zshp 45 12 126, o_bad, o_bad, o_icmpge 48 130, o_bad, o_bad],
  [o_aload 49 0, o_getF zshp 52 12 114, o_bad, o_bad, o_iload 53 2, o_ald zshp 54 14, o_istore 55 3, o_aload 56 0, o_getF zshp 59 12 125, o_bad, o_bad, o_iload 60 3, o_ald zshp 61 16, o_ifeq 64 67, o_bad, o_bad],
  [o_goto 124, o_bad, o_bad, o_aload 68 0, o_getF zshp 71 12 125, o_bad, o_bad, o_iload 72 3, o_con 73 (vI 1), o_zast zshp 74, o_aload 75 0, o_getF zshp 78 12 116, o_bad, o_bad, o_aload 79 0, o_getI zshp 82 12 127],
  [o_bad, o_bad, o_iload 83 3, o_iast zshp 84, o_aload 85 0, o_getF zshp 88 12 124, o_bad, o_bad, o_aload 89 0, o_getI zshp 92 12 127, o_bad, o_bad, o_aload 93 0, o_getF zshp 96 12 112, o_bad, o_bad],
  [o_iload 97 3, o_ald zshp 98 16, o_zast zshp 99, o_aload 100 0, o_getF zshp 103 12 117, o_bad, o_bad, o_aload 104 0, o_getI zshp 107 12 127, o_bad, o_bad, o_aload 108 0, o_getF zshp 111 12 113, o_bad, o_bad, o_iload 112 3],
  [o_ald zshp 113 14, o_iast zshp 114, o_aload 115 0, o_aload 116 0, o_getI zshp 119 12 127, o_bad, o_bad, o_con 120 (vI 1), o_iadd 121, o_putI zshp 124 12 127, o_bad, o_bad, o_iinc 127 2 1, o_bad, o_bad, o_goto 40],
  [o_bad, o_bad, o_aload 131 0, o_getI zshp 134 12 126, o_bad, o_bad, o_aload 135 0, o_getF zshp 138 12 121, o_bad, o_bad, o_iload 139 1, o_ald zshp 140 14, o_icmple 143 202, o_bad, o_bad, o_aload 144 0],
  [o_aload 145 0, o_getI zshp 148 12 126, o_bad, o_bad, o_con 149 (vI 1), o_isub 150, o_putI zshp 153 12 126, o_bad, o_bad, o_aload 154 0, o_getF zshp 157 12 112, o_bad, o_bad, o_aload 158 0, o_getF zshp 161 12 114, o_bad],
  [o_bad, o_aload 162 0, o_getI zshp 165 12 126, o_bad, o_bad, o_ald zshp 166 14, o_aload 167 0, o_getF zshp 170 12 123, o_bad, o_bad, o_aload 171 0, o_getI zshp 174 12 126, o_bad, o_bad, o_ald zshp 175 16, o_zast zshp 176],
  [o_aload 177 0, o_getF zshp 180 12 113, o_bad, o_bad, o_aload 181 0, o_getF zshp 184 12 114, o_bad, o_bad, o_aload 185 0, o_getI zshp 188 12 126, o_bad, o_bad, o_ald zshp 189 14, o_aload 190 0, o_getF zshp 193 12 115, o_bad],
  [o_bad, o_aload 194 0, o_getI zshp 197 12 126, o_bad, o_bad, o_ald zshp 198 14, o_iast zshp 199, o_goto 130, o_bad, o_bad, o_aload 203 0, o_getF zshp 206 12 118, o_bad, o_bad, o_iload 207 1, o_con 208 (vI 2)],
  [o_iast zshp 209, o_aload 210 0, o_getF zshp 213 12 120, o_bad, o_bad, o_iload 214 1, o_aload 215 0, o_aload 216 0, o_getF zshp 219 12 119, o_bad, o_bad, o_iload 220 1, o_ald zshp 221 14, o_inv zshp 224 135 2 12 1 2, o_bad, o_bad],
  [o_iast zshp 225, o_ret]]
/-- CallOpenerModel.endsSecond(I)V -/
def k_138 : List (List zO) := [[o_aload 1 0, o_getI zshp 4 12 126, o_bad, o_bad, o_istore 5 2, o_aload 6 0, o_getF zshp 9 12 121, o_bad, o_bad, o_iload 10 1, o_ald zshp 11 14, o_istore 12 3, o_iload 13 3, o_iload 14 2, o_icmpge 17 35, o_bad],
  [o_bad, o_aload 18 0, o_getF zshp 21 12 125, o_bad, o_bad, o_aload 22 0, o_getF zshp 25 12 114, o_bad, o_bad, o_iload 26 3, o_ald zshp 27 14, o_con 28 (vI 0), o_zast zshp 29, o_iinc 32 3 1, o_bad, o_bad],
  [o_goto 12, o_bad, o_bad, o_aload 36 0, o_getF zshp 39 12 122, o_bad, o_bad, o_iload 40 1, o_ald zshp 41 14, o_istore 42 3, o_iload 43 3, o_aload 44 0, o_getI zshp 47 12 127, o_bad, o_bad, o_icmpge 50 115],
  [o_bad, o_bad, o_aload 51 0, o_getF zshp 54 12 116, o_bad, o_bad, o_iload 55 3, o_ald zshp 56 14, o_istore 58 4, o_bad, o_aload 59 0, o_getF zshp 62 12 125, o_bad, o_bad, o_iload 64 4, o_bad],
  [o_con 65 (vI 1), o_zast zshp 66, o_aload 67 0, o_getF zshp 70 12 112, o_bad, o_bad, o_iload 72 4, o_bad, o_ald zshp 73 16, o_ifeq 76 109, o_bad, o_bad, o_aload 77 0, o_getF zshp 80 12 124, o_bad, o_bad],
  [o_iload 81 3, o_ald zshp 82 16, o_ifeq 85 101, o_bad, o_bad, o_aload 86 0, o_getF zshp 89 12 117, o_bad, o_bad, o_iload 90 3, o_ald zshp 91 14, o_aload 92 0, o_getF zshp 95 12 113, o_bad, o_bad, o_iload 97 4],
  [o_bad, o_ald zshp 98 14, o_icmpeq 101 109, o_bad, o_bad, o_aload 102 0, o_iload 104 4, o_bad, o_con 105 (vI 0), o_con 106 (vI 0), o_inv zshp 109 130 4 12 0 4, o_bad, o_bad, o_iinc 112 3 1, o_bad, o_bad],
  [o_goto 42, o_bad, o_bad, o_aload 116 0, o_getF zshp 119 12 121, o_bad, o_bad, o_iload 120 1, o_ald zshp 121 14, o_istore 122 3, o_iload 123 3, o_iload 124 2, o_icmpge 127 205, o_bad, o_bad, o_aload 128 0],
  [o_getF zshp 131 12 114, o_bad, o_bad, o_iload 132 3, o_ald zshp 133 14, o_istore 135 4, o_bad, o_aload 136 0, o_getF zshp 139 12 125, o_bad, o_bad, o_iload 141 4, o_bad, o_ald zshp 142 16, o_ifeq 145 148, o_bad],
  [o_bad, o_goto 199, o_bad, o_bad, o_aload 149 0, o_getF zshp 152 12 125, o_bad, o_bad, o_iload 154 4, o_bad, o_con 155 (vI 1), o_zast zshp 156, o_aload 157 0, o_getF zshp 160 12 112, o_bad, o_bad],
  [o_iload 162 4, o_bad, o_ald zshp 163 16, o_ifeq 166 199, o_bad, o_bad, o_aload 167 0, o_getF zshp 170 12 123, o_bad, o_bad, o_iload 171 3, o_ald zshp 172 16, o_ifeq 175 191, o_bad, o_bad, o_aload 176 0],
  [o_getF zshp 179 12 115, o_bad, o_bad, o_iload 180 3, o_ald zshp 181 14, o_aload 182 0, o_getF zshp 185 12 113, o_bad, o_bad, o_iload 187 4, o_bad, o_ald zshp 188 14, o_icmpeq 191 199, o_bad, o_bad, o_aload 192 0],
  [o_iload 194 4, o_bad, o_con 195 (vI 0), o_con 196 (vI 0), o_inv zshp 199 130 4 12 0 4, o_bad, o_bad, o_iinc 202 3 1, o_bad, o_bad, o_goto 122, o_bad, o_bad, o_aload 206 0, o_aload 207 0, o_getF zshp 210 12 122],
  [o_bad, o_bad, o_iload 211 1, o_ald zshp 212 14, o_putI zshp 215 12 127, o_bad, o_bad, o_aload 216 0, o_iload 217 1, o_putI zshp 220 12 128, o_bad, o_bad, o_ret]]
/-- CallOpenerModel.endsKnown()V -/
def k_139 : List (List zO) := [[o_aload 1 0, o_getI zshp 4 12 128, o_bad, o_bad, o_con 5 (vI 1), o_isub 6, o_istore 7 1, o_aload 8 0, o_getF zshp 11 12 119, o_bad, o_bad, o_iload 12 1, o_ald zshp 13 14, o_istore 14 2, o_aload 15 0, o_getF zshp 18 12 118],
  [o_bad, o_bad, o_iload 19 1, o_ald zshp 20 14, o_con 21 (vI 1), o_icmpne 24 30, o_bad, o_bad, o_aload 25 0, o_iload 26 1, o_inv zshp 29 137 2 12 0 4, o_bad, o_bad, o_ret, o_aload 31 0, o_getF zshp 34 12 118],
  [o_bad, o_bad, o_iload 35 1, o_ald zshp 36 14, o_con 37 (vI 2), o_icmpne 40 48, o_bad, o_bad, o_aload 41 0, o_iload 42 1, o_inv zshp 45 138 2 12 0 5, o_bad, o_bad, o_goto 68, o_bad, o_bad],
  [o_aload 49 0, o_iload 50 1, o_putI zshp 53 12 128, o_bad, o_bad, o_aload 54 0, o_getF zshp 57 12 118, o_bad, o_bad, o_iload 58 1, o_ald zshp 59 14, o_con 60 (vI 3), o_icmpne 63 68, o_bad, o_bad, o_aload 64 0],
  [o_iload 65 2, o_inv zshp 68 134 2 12 0 3, o_bad, o_bad, o_aload 69 0, o_aload 70 0, o_iload 71 2, o_inv zshp 74 135 2 12 1 2, o_bad, o_bad, o_putI zshp 77 12 132, o_bad, o_bad, o_ret]]
/-- CallOpenerModel.laysKnown(I)V -/
def k_140 : List (List zO) := [[o_aload 1 0, o_iload 2 1, o_inv zshp 5 122 2 12 0 3, o_bad, o_bad, o_con 6 (vI 0), o_istore 7 2, o_iload 8 2, o_aload 9 0, o_getI zshp 12 12 110, o_bad, o_bad, o_icmpge 15 48, o_bad, o_bad, o_aload 16 0],
  [o_getF zshp 19 12 112, o_bad, o_bad, o_iload 20 2, o_iload 21 2, o_aload 22 0, o_iload 23 1, o_inv zshp 26 74 2 12 1 2, o_bad, o_bad, o_icmplt 29 33, o_bad, o_bad, o_con 30 (vI 1), o_goto 34, o_bad],
  [o_bad, o_con 34 (vI 0), o_zast zshp 35, o_aload 36 0, o_getF zshp 39 12 113, o_bad, o_bad, o_iload 40 2, o_con 41 (vI 0), o_iast zshp 42, o_iinc 45 2 1, o_bad, o_bad, o_goto 7, o_bad, o_bad],
  [o_aload 49 0, o_con 50 (vI 0), o_putI zshp 53 12 126, o_bad, o_bad, o_aload 54 0, o_con 55 (vI 0), o_putI zshp 58 12 127, o_bad, o_bad, o_aload 59 0, o_con 60 (vI 0), o_putI zshp 63 12 128, o_bad, o_bad, o_aload 64 0],
  [o_con 65 (vI 0), o_putI zshp 68 12 129, o_bad, o_bad, o_aload 69 0, o_con 70 (vI 0), o_putI zshp 73 12 130, o_bad, o_bad, o_aload 74 0, o_con 75 (vI 0), o_putI zshp 78 12 131, o_bad, o_bad, o_aload 79 0, o_con 81 (vI 120)],
  [o_bad, o_putI zshp 84 12 132, o_bad, o_bad, o_aload 85 0, o_getI zshp 88 12 128, o_bad, o_bad, o_ifgt 91 102, o_bad, o_bad, o_aload 92 0, o_getI zshp 95 12 132, o_bad, o_bad, o_aload 96 0],
  [o_getI zshp 99 12 109, o_bad, o_bad, o_icmpge 102 145, o_bad, o_bad, o_aload 103 0, o_getI zshp 106 12 128, o_bad, o_bad, o_ifle 109 134, o_bad, o_bad, o_aload 110 0, o_getI zshp 113 12 132, o_bad],
  [o_bad, o_aload 114 0, o_getF zshp 117 12 120, o_bad, o_bad, o_aload 118 0, o_getI zshp 121 12 128, o_bad, o_bad, o_con 122 (vI 1), o_isub 123, o_ald zshp 124 14, o_icmpne 127 134, o_bad, o_bad, o_aload 128 0],
  [o_inv zshp 131 139 1 12 0 3, o_bad, o_bad, o_goto 84, o_bad, o_bad, o_aload 135 0, o_aload 136 0, o_getI zshp 139 12 132, o_bad, o_bad, o_inv zshp 142 136 2 12 0 5, o_bad, o_bad, o_goto 84, o_bad],
  [o_bad, o_ret]]
/-- CallOpenerModel.knownMany()I -/
def k_141 : List (List zO) := [[o_con 1 (vI 0), o_istore 2 1, o_con 3 (vI 0), o_istore 4 2, o_iload 5 2, o_aload 6 0, o_getI zshp 9 12 110, o_bad, o_bad, o_icmpge 12 35, o_bad, o_bad, o_iload 13 1, o_aload 14 0, o_getF zshp 17 12 112, o_bad],
  [o_bad, o_iload 18 2, o_ald zshp 19 16, o_ifeq 22 26, o_bad, o_bad, o_con 23 (vI 1), o_goto 27, o_bad, o_bad, o_con 27 (vI 0), o_iadd 28, o_istore 29 1, o_iinc 32 2 1, o_bad, o_bad],
  [o_goto 4, o_bad, o_bad, o_iload 36 1, o_iret]]
/-- CallOpenerModel.folded(II)I -/
def k_142 : List (List zO) := [[o_aload 1 0, o_iload 2 1, o_inv zshp 5 68 2 12 1 2, o_bad, o_bad, o_ifeq 8 17, o_bad, o_bad, o_iload 9 2, o_con 10 (vI 0), o_con 11 (vI 5), o_inv zshp 14 37 3 99 1 3, o_bad, o_bad, o_ifne 17 21, o_bad],
  [o_bad, o_con 20 (vI (-2147483648)), o_bad, o_bad, o_iret, o_aload 22 0, o_aload 23 0, o_iload 24 1, o_inv zshp 27 69 2 12 1 2, o_bad, o_bad, o_inv zshp 30 140 2 12 0 3, o_bad, o_bad, o_aload 31 0, o_aload 32 0],
  [o_iload 33 1, o_inv zshp 36 69 2 12 1 2, o_bad, o_bad, o_inv zshp 39 75 2 12 1 2, o_bad, o_bad, o_istore 40 3, o_iload 41 3, o_ifeq 44 58, o_bad, o_bad, o_aload 45 0, o_getF zshp 48 12 26, o_bad, o_bad],
  [o_aload 49 0, o_getI zshp 52 12 109, o_bad, o_bad, o_con 53 (vI 1), o_isub 54, o_ald zshp 55 14, o_goto 59, o_bad, o_bad, o_con 59 (vI 0), o_istore 61 4, o_bad, o_iload 62 2, o_sw [(0, 96), (1, 101), (2, 106), (3, 111), (4, 126)] 146, o_bad],
  [o_bad, o_bad, o_bad, o_bad, o_bad, o_bad, o_bad, o_bad, o_bad, o_bad, o_bad, o_bad, o_bad, o_bad, o_bad, o_bad],
  [o_bad, o_bad, o_bad, o_bad, o_bad, o_bad, o_bad, o_bad, o_bad, o_bad, o_bad, o_bad, o_bad, o_bad, o_bad, o_bad],
  [o_aload 97 0, o_getI zshp 100 12 129, o_bad, o_bad, o_iret, o_aload 102 0, o_getI zshp 105 12 130, o_bad, o_bad, o_iret, o_aload 107 0, o_getI zshp 110 12 131, o_bad, o_bad, o_iret, o_aload 112 0],
  [o_iload 114 4, o_bad, o_inv zshp 117 131 2 12 1 2, o_bad, o_bad, o_ifeq 120 124, o_bad, o_bad, o_con 121 (vI 1), o_goto 125, o_bad, o_bad, o_con 125 (vI 0), o_iret, o_aload 127 0, o_iload 129 4],
  [o_bad, o_inv zshp 132 131 2 12 1 2, o_bad, o_bad, o_ifeq 135 144, o_bad, o_bad, o_aload 136 0, o_iload 138 4, o_bad, o_inv zshp 141 132 2 12 1 2, o_bad, o_bad, o_goto 145, o_bad, o_bad],
  [o_con 145 (vI 0), o_iret, o_aload 147 0, o_inv zshp 150 141 1 12 1 3, o_bad, o_bad, o_iret]]
/-- CallOpenerModel.isTooOften(II)Z -/
def k_143 : List (List zO) := [[o_con 1 (vI 0), o_istore 2 3, o_iload 3 2, o_istore 5 4, o_bad, o_iload 7 4, o_bad, o_iflt 10 50, o_bad, o_bad, o_iload 11 3, o_aload 12 0, o_getF zshp 15 12 136, o_bad, o_bad, o_iload 17 4],
  [o_bad, o_ald zshp 18 14, o_iload 19 1, o_icmpne 22 26, o_bad, o_bad, o_con 23 (vI 1), o_goto 27, o_bad, o_bad, o_con 27 (vI 0), o_iadd 28, o_istore 29 3, o_iload 31 4, o_bad, o_ifne 34 38],
  [o_bad, o_bad, o_con 35 (vI (-1)), o_goto 45, o_bad, o_bad, o_aload 39 0, o_getF zshp 42 12 135, o_bad, o_bad, o_iload 44 4, o_bad, o_ald zshp 45 14, o_istore 47 4, o_bad, o_goto 5],
  [o_bad, o_bad, o_iload 51 3, o_aload 52 0, o_getF zshp 55 12 52, o_bad, o_bad, o_con 56 (vI 2), o_ald zshp 57 14, o_icmple 60 64, o_bad, o_bad, o_con 61 (vI 1), o_goto 65, o_bad, o_bad],
  [o_con 65 (vI 0), o_zret]]
/-- CallOpenerModel.laysFound(I)V -/
def k_144 : List (List zO) := [[o_aload 1 0, o_con 2 (vI 0), o_putI zshp 5 12 138, o_bad, o_bad, o_aload 6 0, o_getF zshp 9 12 136, o_bad, o_bad, o_con 10 (vI 0), o_iload 11 1, o_iast zshp 12, o_aload 13 0, o_getF zshp 16 12 137, o_bad, o_bad],
  [o_con 17 (vI 0), o_aload 18 0, o_getF zshp 21 12 53, o_bad, o_bad, o_iload 22 1, o_ald zshp 23 14, o_i2l 24, o_last zshp 25, o_con 26 (vI 0), o_istore 27 2, o_iload 28 2, o_aload 29 0, o_getI zshp 32 12 138, o_bad, o_bad],
  [o_icmpgt 35 221, o_bad, o_bad, o_aload 36 0, o_getI zshp 39 12 138, o_bad, o_bad, o_con 41 (vI 32), o_bad, o_icmpge 44 221, o_bad, o_bad, o_aload 45 0, o_getF zshp 48 12 136, o_bad, o_bad],
  [o_iload 49 2, o_ald zshp 50 14, o_istore 51 3, o_con 52 (vI 0), o_istore 54 4, o_bad, o_iload 56 4, o_bad, o_aload 57 0, o_getF zshp 60 12 22, o_bad, o_bad, o_con 62 (vI 8), o_bad, o_aload 63 0, o_getI zshp 66 12 11],
  [o_bad, o_bad, o_imul 67, o_iload 68 3, o_iadd 69, o_ald zshp 70 14, o_icmpge 73 215, o_bad, o_bad, o_aload 74 0, o_getI zshp 77 12 138, o_bad, o_bad, o_con 79 (vI 32), o_bad, o_icmpge 82 215],
  [o_bad, o_bad, o_aload 83 0, o_getF zshp 86 12 21, o_bad, o_bad, o_con 88 (vI 8), o_bad, o_aload 89 0, o_getI zshp 92 12 11, o_bad, o_bad, o_imul 93, o_iload 94 3, o_iadd 95, o_ald zshp 96 14],
  [o_iload 98 4, o_bad, o_iadd 99, o_istore 101 5, o_bad, o_aload 102 0, o_getF zshp 105 12 29, o_bad, o_bad, o_aload 106 0, o_getF zshp 109 12 36, o_bad, o_bad, o_con 111 (vI 16), o_bad, o_aload 112 0],
  [o_getI zshp 115 12 11, o_bad, o_bad, o_imul 116, o_iload 118 5, o_bad, o_iadd 119, o_ald zshp 120 14, o_ald zshp 121 14, o_istore 123 6, o_bad, o_aload 124 0, o_getF zshp 127 12 137, o_bad, o_bad, o_iload 128 2],
  [o_lald zshp 129, o_aload 130 0, o_getF zshp 133 12 54, o_bad, o_bad, o_iload 135 5, o_bad, o_ald zshp 136 14, o_aload 137 0, o_getF zshp 140 12 53, o_bad, o_bad, o_iload 141 3, o_ald zshp 142 14, o_inv zshp 145 97 3 99 2 4, o_bad],
  [o_bad, o_lstore 147 7, o_bad, o_lload 149 7, o_bad, o_con 150 (vJ 1), o_lcmp 151, o_iflt 154 209, o_bad, o_bad, o_aload 155 0, o_iload 157 6, o_bad, o_iload 158 2, o_inv zshp 161 143 3 12 1 5, o_bad],
  [o_bad, o_ifeq 164 167, o_bad, o_bad, o_goto 209, o_bad, o_bad, o_aload 168 0, o_aload 169 0, o_getI zshp 172 12 138, o_bad, o_bad, o_con 173 (vI 1), o_iadd 174, o_putI zshp 177 12 138, o_bad],
  [o_bad, o_aload 178 0, o_getF zshp 181 12 135, o_bad, o_bad, o_aload 182 0, o_getI zshp 185 12 138, o_bad, o_bad, o_iload 186 2, o_iast zshp 187, o_aload 188 0, o_getF zshp 191 12 136, o_bad, o_bad, o_aload 192 0],
  [o_getI zshp 195 12 138, o_bad, o_bad, o_iload 197 6, o_bad, o_iast zshp 198, o_aload 199 0, o_getF zshp 202 12 137, o_bad, o_bad, o_aload 203 0, o_getI zshp 206 12 138, o_bad, o_bad, o_lload 208 7, o_bad],
  [o_last zshp 209, o_iinc 212 4 1, o_bad, o_bad, o_goto 54, o_bad, o_bad, o_iinc 218 2 1, o_bad, o_bad, o_goto 27, o_bad, o_bad, o_ret]]
/-- CallOpenerModel.laysMost()V -/
def k_145 : List (List zO) := [[o_con 1 (vI 0), o_istore 2 1, o_iload 3 1, o_aload 4 0, o_getI zshp 7 12 138, o_bad, o_bad, o_icmpgt 10 110, o_bad, o_bad, o_iload 11 1, o_ifne 14 18, o_bad, o_bad, o_con 15 (vI 0), o_goto 28],
  [o_bad, o_bad, o_aload 19 0, o_aload 20 0, o_getF zshp 23 12 136, o_bad, o_bad, o_iload 24 1, o_ald zshp 25 14, o_inv zshp 28 76 2 12 1 2, o_bad, o_bad, o_istore 29 2, o_con 30 (vI 0), o_istore 31 3, o_iload 32 3],
  [o_con 35 (vI 300), o_bad, o_bad, o_icmpgt 38 59, o_bad, o_bad, o_aload 39 0, o_getF zshp 42 12 133, o_bad, o_bad, o_con 45 (vI 301), o_bad, o_bad, o_iload 46 1, o_imul 47, o_iload 48 3],
  [o_iadd 49, o_con 52 (vJ (-4611686018427387904)), o_bad, o_bad, o_last zshp 53, o_iinc 56 3 1, o_bad, o_bad, o_goto 31, o_bad, o_bad, o_aload 60 0, o_getF zshp 63 12 133, o_bad, o_bad, o_con 66 (vI 301)],
  [o_bad, o_bad, o_iload 67 1, o_imul 68, o_iload 69 2, o_iadd 70, o_iload 71 1, o_ifne 74 78, o_bad, o_bad, o_con 75 (vJ 0), o_goto 103, o_bad, o_bad, o_aload 79 0, o_getF zshp 82 12 137],
  [o_bad, o_bad, o_iload 83 1, o_lald zshp 84, o_aload 85 0, o_getF zshp 88 12 52, o_bad, o_bad, o_con 89 (vI 1), o_ald zshp 90 14, o_aload 91 0, o_aload 92 0, o_getF zshp 95 12 136, o_bad, o_bad, o_iload 96 1],
  [o_ald zshp 97 14, o_inv zshp 100 73 2 12 1 2, o_bad, o_bad, o_isub 101, o_i2l 102, o_lmul 103, o_last zshp 104, o_iinc 107 1 1, o_bad, o_bad, o_goto 2, o_bad, o_bad, o_aload 111 0, o_getI zshp 114 12 138],
  [o_bad, o_bad, o_istore 115 1, o_iload 116 1, o_ifle 119 144, o_bad, o_bad, o_aload 120 0, o_con 123 (vI 301), o_bad, o_bad, o_aload 124 0, o_getF zshp 127 12 135, o_bad, o_bad, o_iload 128 1],
  [o_ald zshp 129 14, o_imul 130, o_con 133 (vI 301), o_bad, o_bad, o_iload 134 1, o_imul 135, o_inv zshp 138 146 3 12 0 11, o_bad, o_bad, o_iinc 141 1 (-1), o_bad, o_bad, o_goto 115, o_bad, o_bad],
  [o_ret]]
/-- CallOpenerModel.joins(II)V -/
def k_146 : List (List zO) := [[o_con 1 (vI 0), o_istore 2 3, o_iload 3 3, o_con 6 (vI 300), o_bad, o_bad, o_icmpgt 9 108, o_bad, o_bad, o_aload 10 0, o_getF zshp 13 12 133, o_bad, o_bad, o_iload 14 1, o_iload 15 3, o_iadd 16],
  [o_lald zshp 17, o_lstore 19 4, o_bad, o_con 20 (vI 0), o_istore 22 6, o_bad, o_iload 24 6, o_bad, o_iload 25 3, o_icmpgt 28 94, o_bad, o_bad, o_aload 29 0, o_getF zshp 32 12 133, o_bad, o_bad],
  [o_iload 33 1, o_iload 34 3, o_iadd 35, o_iload 37 6, o_bad, o_isub 38, o_lald zshp 39, o_lstore 41 7, o_bad, o_aload 42 0, o_getF zshp 45 12 133, o_bad, o_bad, o_iload 46 2, o_iload 48 6, o_bad],
  [o_iadd 49, o_lald zshp 50, o_lstore 52 9, o_bad, o_lload 54 7, o_bad, o_con 57 (vJ (-4611686018427387904)), o_bad, o_bad, o_lcmp 58, o_ifle 61 88, o_bad, o_bad, o_lload 63 9, o_bad, o_con 66 (vJ (-4611686018427387904))],
  [o_bad, o_bad, o_lcmp 67, o_ifle 70 88, o_bad, o_bad, o_lload 72 7, o_bad, o_lload 74 9, o_bad, o_ladd 75, o_lload 77 4, o_bad, o_lcmp 78, o_ifle 81 88, o_bad],
  [o_bad, o_lload 83 7, o_bad, o_lload 85 9, o_bad, o_ladd 86, o_lstore 88 4, o_bad, o_iinc 91 6 1, o_bad, o_bad, o_goto 22, o_bad, o_bad, o_aload 95 0, o_getF zshp 98 12 134],
  [o_bad, o_bad, o_iload 99 3, o_lload 101 4, o_bad, o_last zshp 102, o_iinc 105 3 1, o_bad, o_bad, o_goto 2, o_bad, o_bad, o_con 109 (vI 0), o_istore 110 3, o_iload 111 3, o_con 114 (vI 300)],
  [o_bad, o_bad, o_icmpgt 117 137, o_bad, o_bad, o_aload 118 0, o_getF zshp 121 12 133, o_bad, o_bad, o_iload 122 1, o_iload 123 3, o_iadd 124, o_aload 125 0, o_getF zshp 128 12 134, o_bad, o_bad],
  [o_iload 129 3, o_lald zshp 130, o_last zshp 131, o_iinc 134 3 1, o_bad, o_bad, o_goto 110, o_bad, o_bad, o_ret]]
/-- CallOpenerModel.best(III)J -/
def k_147 : List (List zO) := [[o_aload 1 0, o_iload 2 1, o_inv zshp 5 68 2 12 1 2, o_bad, o_bad, o_ifeq 8 28, o_bad, o_bad, o_iload 9 2, o_con 10 (vI 0), o_con 13 (vI 300), o_bad, o_bad, o_inv zshp 16 37 3 99 1 3, o_bad, o_bad],
  [o_ifeq 19 28, o_bad, o_bad, o_iload 20 3, o_con 21 (vI 0), o_con 22 (vI 2), o_inv zshp 25 37 3 99 1 3, o_bad, o_bad, o_ifne 28 32, o_bad, o_bad, o_con 31 (vJ (-9223372036854775808)), o_bad, o_bad, o_lret],
  [o_aload 33 0, o_aload 34 0, o_iload 35 1, o_inv zshp 38 69 2 12 1 2, o_bad, o_bad, o_inv zshp 41 144 2 12 0 9, o_bad, o_bad, o_iload 42 3, o_con 43 (vI 2), o_icmpne 46 52, o_bad, o_bad, o_aload 47 0, o_getI zshp 50 12 138],
  [o_bad, o_bad, o_i2l 51, o_lret, o_aload 53 0, o_inv zshp 56 145 1 12 0 4, o_bad, o_bad, o_con 57 (vI 0), o_istore 59 4, o_bad, o_con 60 (vI 1), o_istore 62 5, o_bad, o_iload 64 5, o_bad],
  [o_iload 65 2, o_icmpgt 68 96, o_bad, o_bad, o_aload 69 0, o_getF zshp 72 12 133, o_bad, o_bad, o_iload 74 5, o_bad, o_lald zshp 75, o_aload 76 0, o_getF zshp 79 12 133, o_bad, o_bad, o_iload 81 4],
  [o_bad, o_lald zshp 82, o_lcmp 83, o_ifle 86 90, o_bad, o_bad, o_iload 88 5, o_bad, o_istore 90 4, o_bad, o_iinc 93 5 1, o_bad, o_bad, o_goto 62, o_bad, o_bad],
  [o_iload 97 3, o_ifne 100 110, o_bad, o_bad, o_aload 101 0, o_getF zshp 104 12 133, o_bad, o_bad, o_iload 106 4, o_bad, o_lald zshp 107, o_goto 113, o_bad, o_bad, o_iload 112 4, o_bad],
  [o_i2l 113, o_lret]]
/-- CallOpenerModel.count(I)I -/
def k_148 : List (List zO) := [[o_iload 1 1, o_sw [(0, 40), (1, 50), (2, 60), (3, 70), (4, 75), (5, 80)] 85, o_bad, o_bad, o_bad, o_bad, o_bad, o_bad, o_bad, o_bad, o_bad, o_bad, o_bad, o_bad, o_bad, o_bad],
  [o_bad, o_bad, o_bad, o_bad, o_bad, o_bad, o_bad, o_bad, o_bad, o_bad, o_bad, o_bad, o_bad, o_bad, o_bad, o_bad],
  [o_bad, o_bad, o_bad, o_bad, o_bad, o_bad, o_bad, o_bad, o_aload 41 0, o_getF zshp 44 12 13, o_bad, o_bad, o_aload 45 0, o_getI zshp 48 12 11, o_bad, o_bad],
  [o_ald zshp 49 14, o_iret, o_aload 51 0, o_getF zshp 54 12 14, o_bad, o_bad, o_aload 55 0, o_getI zshp 58 12 11, o_bad, o_bad, o_ald zshp 59 14, o_iret, o_aload 61 0, o_getF zshp 64 12 15, o_bad, o_bad],
  [o_aload 65 0, o_getI zshp 68 12 11, o_bad, o_bad, o_ald zshp 69 14, o_iret, o_aload 71 0, o_getI zshp 74 12 1, o_bad, o_bad, o_iret, o_aload 76 0, o_inv zshp 79 89 1 12 1 3, o_bad, o_bad, o_iret],
  [o_aload 81 0, o_inv zshp 84 90 1 12 1 3, o_bad, o_bad, o_iret, o_con 86 (vI (-1)), o_iret]]
/-- CallOpenerModel.comesTo(I)I -/
def k_149 : List (List zO) := [[o_con 1 (vI 0), o_istore 2 2, o_con 3 (vI (-1)), o_istore 4 3, o_iload 5 3, o_iload 6 2, o_icmpeq 9 92, o_bad, o_bad, o_iload 10 2, o_istore 11 3, o_con 12 (vI 0), o_istore 14 4, o_bad, o_iload 16 4, o_bad],
  [o_aload 17 0, o_getF zshp 20 12 15, o_bad, o_bad, o_aload 21 0, o_getI zshp 24 12 11, o_bad, o_bad, o_ald zshp 25 14, o_icmpge 28 89, o_bad, o_bad, o_con 30 (vI 16), o_bad, o_aload 31 0, o_getI zshp 34 12 11],
  [o_bad, o_bad, o_imul 35, o_iload 37 4, o_bad, o_iadd 38, o_istore 40 5, o_bad, o_aload 41 0, o_getF zshp 44 12 42, o_bad, o_bad, o_iload 46 5, o_bad, o_ald zshp 47 14, o_iload 48 1],
  [o_icmpeq 51 66, o_bad, o_bad, o_iload 52 2, o_aload 53 0, o_getF zshp 56 12 42, o_bad, o_bad, o_iload 58 5, o_bad, o_ald zshp 59 14, o_ishr 60, o_con 61 (vI 1), o_iand 62, o_con 63 (vI 1), o_icmpne 66 83],
  [o_bad, o_bad, o_iload 67 2, o_con 68 (vI 1), o_aload 69 0, o_getF zshp 72 12 29, o_bad, o_bad, o_aload 73 0, o_getF zshp 76 12 36, o_bad, o_bad, o_iload 78 5, o_bad, o_ald zshp 79 14, o_ald zshp 80 14],
  [o_ishl 81, o_ior 82, o_istore 83 2, o_iinc 86 4 1, o_bad, o_bad, o_goto 14, o_bad, o_bad, o_goto 4, o_bad, o_bad, o_iload 93 2, o_iload 94 1, o_ishr 95, o_con 96 (vI 1)],
  [o_iand 97, o_iret]]
/-- CallOpenerModel.lettersOf(J)I -/
def k_150 : List (List zO) := [[o_con 1 (vI 0), o_istore 2 2, o_lload 3 0, o_lstore 4 3, o_lload 5 3, o_con 6 (vJ 0), o_lcmp 7, o_ifle 10 21, o_bad, o_bad, o_iload 11 2, o_con 12 (vI 1), o_iadd 13, o_istore 14 2, o_lload 15 3, o_con 16 (vI 5)],
  [o_lshr 17, o_lstore 18 3, o_goto 4, o_bad, o_bad, o_iload 22 2, o_iret]]
/-- CallOpenerModel.function(II)I -/
def k_151 : List (List zO) := [[o_aload 1 0, o_iload 2 1, o_inv zshp 5 68 2 12 1 2, o_bad, o_bad, o_ifeq 8 12, o_bad, o_bad, o_iload 9 2, o_ifge 12 14, o_bad, o_bad, o_con 13 (vI (-1)), o_iret, o_aload 15 0, o_iload 16 1],
  [o_inv zshp 19 69 2 12 1 2, o_bad, o_bad, o_istore 20 3, o_aload 21 0, o_getF zshp 24 12 16, o_bad, o_bad, o_con 26 (vI 8), o_bad, o_aload 27 0, o_getI zshp 30 12 11, o_bad, o_bad, o_imul 31, o_iload 32 3],
  [o_iadd 33, o_lald zshp 34, o_lstore 36 4, o_bad, o_iload 37 2, o_sw [(0, 88), (1, 94), (2, 100), (3, 106), (4, 121), (5, 128), (6, 134), (7, 148), (8, 154)] 160, o_bad, o_bad, o_bad, o_bad, o_bad, o_bad, o_bad, o_bad, o_bad, o_bad],
  [o_bad, o_bad, o_bad, o_bad, o_bad, o_bad, o_bad, o_bad, o_bad, o_bad, o_bad, o_bad, o_bad, o_bad, o_bad, o_bad],
  [o_bad, o_bad, o_bad, o_bad, o_bad, o_bad, o_bad, o_bad, o_bad, o_bad, o_bad, o_bad, o_bad, o_bad, o_bad, o_bad],
  [o_bad, o_bad, o_bad, o_bad, o_bad, o_bad, o_bad, o_bad, o_aload 89 0, o_iload 90 3, o_inv zshp 93 74 2 12 1 2, o_bad, o_bad, o_iret, o_aload 95 0, o_iload 96 3],
  [o_inv zshp 99 73 2 12 1 2, o_bad, o_bad, o_iret, o_aload 101 0, o_iload 102 3, o_inv zshp 105 72 2 12 1 2, o_bad, o_bad, o_iret, o_aload 107 0, o_getF zshp 110 12 22, o_bad, o_bad, o_con 112 (vI 8), o_bad],
  [o_aload 113 0, o_getI zshp 116 12 11, o_bad, o_bad, o_imul 117, o_iload 118 3, o_iadd 119, o_ald zshp 120 14, o_iret, o_aload 122 0, o_getF zshp 125 12 53, o_bad, o_bad, o_iload 126 3, o_ald zshp 127 14, o_iret],
  [o_aload 129 0, o_iload 130 3, o_inv zshp 133 76 2 12 1 2, o_bad, o_bad, o_iret, o_aload 135 0, o_iload 136 3, o_inv zshp 139 75 2 12 1 2, o_bad, o_bad, o_ifeq 142 146, o_bad, o_bad, o_con 143 (vI 1), o_goto 147],
  [o_bad, o_bad, o_con 147 (vI 0), o_iret, o_aload 149 0, o_iload 150 3, o_inv zshp 153 149 2 12 1 6, o_bad, o_bad, o_iret, o_lload 156 4, o_bad, o_inv zshp 159 150 1 99 1 5, o_bad, o_bad, o_iret],
  [o_iload 161 2, o_con 163 (vI 9), o_bad, o_isub 164, o_lload 166 4, o_bad, o_inv zshp 169 150 1 99 1 5, o_bad, o_bad, o_icmpge 172 200, o_bad, o_bad, o_con 174 (vI 97), o_bad, o_lload 176 4, o_bad],
  [o_con 177 (vI 5), o_lload 179 4, o_bad, o_inv zshp 182 150 1 99 1 5, o_bad, o_bad, o_con 184 (vI 8), o_bad, o_iadd 185, o_iload 186 2, o_isub 187, o_imul 188, o_lshr 189, o_con 192 (vJ 31), o_bad, o_bad],
  [o_land 193, o_l2i 194, o_iadd 195, o_con 196 (vI 1), o_isub 197, o_goto 201, o_bad, o_bad, o_con 201 (vI (-1)), o_iret]]
/-- CallOpenerModel.site(II)I -/
def k_152 : List (List zO) := [[o_iload 1 1, o_con 2 (vI 0), o_aload 3 0, o_getF zshp 6 12 15, o_bad, o_bad, o_aload 7 0, o_getI zshp 10 12 11, o_bad, o_bad, o_ald zshp 11 14, o_con 12 (vI 1), o_isub 13, o_inv zshp 16 37 3 99 1 3, o_bad, o_bad],
  [o_ifne 19 21, o_bad, o_bad, o_con 20 (vI (-1)), o_iret, o_con 23 (vI 16), o_bad, o_aload 24 0, o_getI zshp 27 12 11, o_bad, o_bad, o_imul 28, o_iload 29 1, o_iadd 30, o_istore 31 3, o_iload 32 2],
  [o_sw [(0, 76), (1, 88), (2, 105), (3, 112), (4, 119), (5, 126), (6, 141)] 153, o_bad, o_bad, o_bad, o_bad, o_bad, o_bad, o_bad, o_bad, o_bad, o_bad, o_bad, o_bad, o_bad, o_bad, o_bad],
  [o_bad, o_bad, o_bad, o_bad, o_bad, o_bad, o_bad, o_bad, o_bad, o_bad, o_bad, o_bad, o_bad, o_bad, o_bad, o_bad],
  [o_bad, o_bad, o_bad, o_bad, o_bad, o_bad, o_bad, o_bad, o_bad, o_bad, o_bad, o_bad, o_aload 77 0, o_getF zshp 80 12 50, o_bad, o_bad],
  [o_aload 81 0, o_getF zshp 84 12 42, o_bad, o_bad, o_iload 85 3, o_ald zshp 86 14, o_ald zshp 87 14, o_iret, o_aload 89 0, o_getF zshp 92 12 50, o_bad, o_bad, o_aload 93 0, o_getF zshp 96 12 29, o_bad, o_bad],
  [o_aload 97 0, o_getF zshp 100 12 36, o_bad, o_bad, o_iload 101 3, o_ald zshp 102 14, o_ald zshp 103 14, o_ald zshp 104 14, o_iret, o_aload 106 0, o_getF zshp 109 12 54, o_bad, o_bad, o_iload 110 1, o_ald zshp 111 14, o_iret],
  [o_aload 113 0, o_getF zshp 116 12 37, o_bad, o_bad, o_iload 117 3, o_ald zshp 118 14, o_iret, o_aload 120 0, o_getF zshp 123 12 38, o_bad, o_bad, o_iload 124 3, o_ald zshp 125 14, o_iret, o_aload 127 0, o_getF zshp 130 12 36],
  [o_bad, o_bad, o_iload 131 3, o_ald zshp 132 14, o_con 134 (vI 60), o_bad, o_aload 135 0, o_getI zshp 138 12 11, o_bad, o_bad, o_imul 139, o_isub 140, o_iret, o_aload 142 0, o_getF zshp 145 12 25, o_bad],
  [o_bad, o_aload 146 0, o_getF zshp 149 12 36, o_bad, o_bad, o_iload 150 3, o_ald zshp 151 14, o_ald zshp 152 14, o_iret, o_con 154 (vI (-1)), o_iret]]
/-- CallOpener$Best.<init>(LCallOpener$Program;)V -/
def k_153 : List (List zO) := [[o_aload 1 0, o_obj 4, o_bad, o_bad, o_aload 5 0, o_con 7 (vI 32), o_bad, o_newa zshp 9 14 10 10193, o_bad, o_putF zshp 12 0 1, o_bad, o_bad, o_aload 13 0, o_con 15 (vI 32), o_bad, o_newa zshp 17 14 10 10193],
  [o_bad, o_putF zshp 20 0 2, o_bad, o_bad, o_aload 21 0, o_con 23 (vI 32), o_bad, o_newa zshp 25 14 10 10193, o_bad, o_putF zshp 28 0 3, o_bad, o_bad, o_aload 29 0, o_con 31 (vI 32), o_bad, o_newa zshp 33 15 10 10193],
  [o_bad, o_putF zshp 36 0 4, o_bad, o_bad, o_aload 37 0, o_con 39 (vI 32), o_bad, o_newa zshp 41 15 10 10193, o_bad, o_putF zshp 44 0 5, o_bad, o_bad, o_aload 45 0, o_con 47 (vI 32), o_bad, o_newa zshp 49 14 10 10193],
  [o_bad, o_putF zshp 52 0 6, o_bad, o_bad, o_aload 53 0, o_con 55 (vI 32), o_bad, o_newa zshp 57 14 10 10193, o_bad, o_putF zshp 60 0 7, o_bad, o_bad, o_aload 61 0, o_con 63 (vI 32), o_bad, o_newa zshp 65 14 10 10193],
  [o_bad, o_putF zshp 68 0 8, o_bad, o_bad, o_aload 69 0, o_con 72 (vI 9933), o_bad, o_bad, o_newa zshp 74 15 10 10193, o_bad, o_putF zshp 77 0 9, o_bad, o_bad, o_aload 78 0, o_con 81 (vR 4), o_bad],
  [o_bad, o_alen zshp 82 14, o_newa zshp 84 14 10 10193, o_bad, o_putF zshp 87 0 10, o_bad, o_bad, o_aload 88 0, o_aload 89 1, o_putP zshp 92 0 11, o_bad, o_bad, o_retm 10]]
/-- CallOpener$Best.collect(LCallOpener$Program;LCallOpener$Profile;[II)V -/
def k_154 : List (List zO) := [[o_aload 1 0, o_aload 2 1, o_putP zshp 5 0 11, o_bad, o_bad, o_aload 6 3, o_con 7 (vI 0), o_aload 8 0, o_getF zshp 11 0 10, o_bad, o_bad, o_con 12 (vI 0), o_aload 13 0, o_getF zshp 16 0 10, o_bad, o_bad],
  [o_alen zshp 17 14, o_acpw zshp 20 14, o_bad, o_bad, o_aload 21 0, o_iload 23 4, o_bad, o_putI zshp 26 0 12, o_bad, o_bad, o_aload 27 0, o_con 28 (vI 0), o_putI zshp 31 0 0, o_bad, o_bad, o_aload 32 0],
  [o_con 33 (vI (-1)), o_iload 35 4, o_bad, o_aload 36 2, o_getF zshp 39 6 0, o_bad, o_bad, o_iload 41 4, o_bad, o_ald zshp 42 14, o_i2l 43, o_aload 44 2, o_inv zshp 47 155 5 0 0 10, o_bad, o_bad, o_con 48 (vI 0)],
  [o_istore 50 5, o_bad, o_iload 52 5, o_bad, o_aload 53 0, o_getI zshp 56 0 0, o_bad, o_bad, o_icmpge 59 93, o_bad, o_bad, o_iload 61 5, o_bad, o_con 63 (vI 32), o_bad, o_icmpge 66 93],
  [o_bad, o_bad, o_aload 67 0, o_iload 69 5, o_bad, o_aload 70 0, o_getF zshp 73 0 1, o_bad, o_bad, o_iload 75 5, o_bad, o_ald zshp 76 14, o_aload 77 0, o_getF zshp 80 0 4, o_bad, o_bad],
  [o_iload 82 5, o_bad, o_lald zshp 83, o_aload 84 2, o_inv zshp 87 155 5 0 0 10, o_bad, o_bad, o_iinc 90 5 1, o_bad, o_bad, o_goto 50, o_bad, o_bad, o_ret]]
/-- CallOpener$Best.addCallsOf(IIJLCallOpener$Profile;)V -/
def k_155 : List (List zO) := [[o_aload 1 0, o_getP zshp 4 0 11, o_bad, o_bad, o_getF zshp 7 7 8, o_bad, o_bad, o_iload 8 2, o_ald zshp 9 14, o_istore 11 6, o_bad, o_iload 13 6, o_bad, o_aload 14 0, o_getP zshp 17 0 11, o_bad],
  [o_bad, o_getF zshp 20 7 8, o_bad, o_bad, o_iload 21 2, o_ald zshp 22 14, o_aload 23 0, o_getP zshp 26 0 11, o_bad, o_bad, o_getF zshp 29 7 9, o_bad, o_bad, o_iload 30 2, o_ald zshp 31 14, o_iadd 32],
  [o_icmpge 35 187, o_bad, o_bad, o_aload 37 5, o_bad, o_lload 38 3, o_iload 39 2, o_iload 41 6, o_bad, o_inv zshp 44 209 4 6 2 5, o_bad, o_bad, o_lstore 46 7, o_bad, o_aload 47 0, o_getP zshp 50 0 11],
  [o_bad, o_bad, o_getF zshp 53 7 13, o_bad, o_bad, o_iload 55 6, o_bad, o_ald zshp 56 14, o_istore 58 9, o_bad, o_aload 59 0, o_getI zshp 62 0 0, o_bad, o_bad, o_con 64 (vI 32), o_bad],
  [o_icmpge 67 181, o_bad, o_bad, o_lload 69 7, o_bad, o_con 70 (vJ 1), o_lcmp 71, o_iflt 74 181, o_bad, o_bad, o_aload 75 0, o_iload 76 1, o_iload 78 9, o_bad, o_inv zshp 81 156 3 0 1 6, o_bad],
  [o_bad, o_aload 82 0, o_getF zshp 85 0 10, o_bad, o_bad, o_con 86 (vI 2), o_ald zshp 87 14, o_icmpgt 90 181, o_bad, o_bad, o_aload 91 0, o_getF zshp 94 0 1, o_bad, o_bad, o_aload 95 0, o_getI zshp 98 0 0],
  [o_bad, o_bad, o_iload 100 9, o_bad, o_iast zshp 101, o_aload 102 0, o_getF zshp 105 0 2, o_bad, o_bad, o_aload 106 0, o_getI zshp 109 0 0, o_bad, o_bad, o_iload 110 1, o_iast zshp 111, o_aload 112 0],
  [o_getF zshp 115 0 4, o_bad, o_bad, o_aload 116 0, o_getI zshp 119 0 0, o_bad, o_bad, o_lload 121 7, o_bad, o_last zshp 122, o_aload 123 0, o_getF zshp 126 0 3, o_bad, o_bad, o_aload 127 0, o_getI zshp 130 0 0],
  [o_bad, o_bad, o_aload 131 0, o_getP zshp 134 0 11, o_bad, o_bad, o_getF zshp 137 7 11, o_bad, o_bad, o_iload 139 9, o_bad, o_ald zshp 140 14, o_iast zshp 141, o_aload 142 0, o_getF zshp 145 0 5, o_bad],
  [o_bad, o_aload 146 0, o_getI zshp 149 0 0, o_bad, o_bad, o_lload 151 7, o_bad, o_aload 152 0, o_getF zshp 155 0 10, o_bad, o_bad, o_con 156 (vI 1), o_ald zshp 157 14, o_aload 158 0, o_getP zshp 161 0 11, o_bad],
  [o_bad, o_getF zshp 164 7 5, o_bad, o_bad, o_iload 166 9, o_bad, o_ald zshp 167 14, o_isub 168, o_i2l 169, o_lmul 170, o_last zshp 171, o_aload 172 0, o_dup 173, o_getI zshp 176 0 0, o_bad, o_bad],
  [o_con 177 (vI 1), o_iadd 178, o_putI zshp 181 0 0, o_bad, o_bad, o_iinc 184 6 1, o_bad, o_bad, o_goto 11, o_bad, o_bad, o_ret]]
/-- CallOpener$Best.standsFrom(II)I -/
def k_156 : List (List zO) := [[o_aload 1 0, o_getI zshp 4 0 12, o_bad, o_bad, o_iload 5 2, o_icmpne 8 12, o_bad, o_bad, o_con 9 (vI 1), o_goto 13, o_bad, o_bad, o_con 13 (vI 0), o_istore 14 3, o_iload 15 1, o_istore 17 4],
  [o_bad, o_con 18 (vI 0), o_istore 20 5, o_bad, o_iload 22 5, o_bad, o_con 24 (vI 32), o_bad, o_icmpge 27 61, o_bad, o_bad, o_iload 29 4, o_bad, o_iflt 32 61, o_bad, o_bad],
  [o_aload 33 0, o_getF zshp 36 0 1, o_bad, o_bad, o_iload 38 4, o_bad, o_ald zshp 39 14, o_iload 40 2, o_icmpne 43 46, o_bad, o_bad, o_iinc 46 3 1, o_bad, o_bad, o_aload 47 0, o_getF zshp 50 0 2],
  [o_bad, o_bad, o_iload 52 4, o_bad, o_ald zshp 53 14, o_istore 55 4, o_bad, o_iinc 58 5 1, o_bad, o_bad, o_goto 20, o_bad, o_bad, o_iload 62 3, o_iret]]
/-- CallOpener$Best.greatestGain(I)J -/
def k_157 : List (List zO) := [[o_aload 1 0, o_inv zshp 4 159 1 0 0 2, o_bad, o_bad, o_aload 5 0, o_getF zshp 8 0 9, o_bad, o_bad, o_iload 9 1, o_lald zshp 10, o_lret]]
/-- CallOpener$Best.leastAdds(I)I -/
def k_158 : List (List zO) := [[o_aload 1 0, o_inv zshp 4 159 1 0 0 2, o_bad, o_bad, o_iload 5 1, o_istore 6 2, o_iload 7 2, o_ifle 10 34, o_bad, o_bad, o_aload 11 0, o_getF zshp 14 0 9, o_bad, o_bad, o_iload 15 2, o_con 16 (vI 1)],
  [o_isub 17, o_lald zshp 18, o_aload 19 0, o_getF zshp 22 0 9, o_bad, o_bad, o_iload 23 1, o_lald zshp 24, o_lcmp 25, o_ifne 28 34, o_bad, o_bad, o_iinc 31 2 (-1), o_bad, o_bad, o_goto 6],
  [o_bad, o_bad, o_iload 35 2, o_iret]]
/-- CallOpener$Best.fillTable()V -/
def k_159 : List (List zO) := [[o_aload 1 0, o_inv zshp 4 161 1 0 0 4, o_bad, o_bad, o_con 5 (vI 0), o_istore 6 1, o_iload 7 1, o_con 10 (vI 301), o_bad, o_bad, o_icmpge 13 35, o_bad, o_bad, o_aload 14 0, o_getF zshp 17 0 9, o_bad],
  [o_bad, o_aload 18 0, o_getI zshp 21 0 0, o_bad, o_bad, o_con 24 (vI 301), o_bad, o_bad, o_imul 25, o_iload 26 1, o_iadd 27, o_con 28 (vJ 0), o_last zshp 29, o_iinc 32 1 1, o_bad, o_bad],
  [o_goto 6, o_bad, o_bad, o_aload 36 0, o_getI zshp 39 0 0, o_bad, o_bad, o_con 40 (vI 1), o_isub 41, o_istore 42 1, o_iload 43 1, o_iflt 46 63, o_bad, o_bad, o_aload 47 0, o_iload 48 1],
  [o_aload 49 0, o_getF zshp 52 0 8, o_bad, o_bad, o_iload 53 1, o_ald zshp 54 14, o_inv zshp 57 160 3 0 0 8, o_bad, o_bad, o_iinc 60 1 (-1), o_bad, o_bad, o_goto 42, o_bad, o_bad, o_ret]]
/-- CallOpener$Best.fillRow(II)V -/
def k_160 : List (List zO) := [[o_iload 1 1, o_aload 2 0, o_getF zshp 5 0 6, o_bad, o_bad, o_iload 6 2, o_ald zshp 7 14, o_iadd 8, o_con 11 (vI 301), o_bad, o_bad, o_imul 12, o_istore 13 3, o_iload 14 1, o_con 15 (vI 1), o_iadd 16],
  [o_con 19 (vI 301), o_bad, o_bad, o_imul 20, o_istore 22 4, o_bad, o_con 23 (vI 0), o_istore 25 5, o_bad, o_iload 27 5, o_bad, o_con 30 (vI 301), o_bad, o_bad, o_icmpge 33 107, o_bad],
  [o_bad, o_aload 34 0, o_getF zshp 37 0 9, o_bad, o_bad, o_iload 38 3, o_iload 40 5, o_bad, o_iadd 41, o_lald zshp 42, o_lstore 44 6, o_bad, o_iload 46 5, o_bad, o_aload 47 0, o_getF zshp 50 0 3],
  [o_bad, o_bad, o_iload 51 2, o_ald zshp 52 14, o_icmplt 55 86, o_bad, o_bad, o_lload 57 6, o_bad, o_aload 58 0, o_getF zshp 61 0 5, o_bad, o_bad, o_iload 62 2, o_lald zshp 63, o_aload 64 0],
  [o_getF zshp 67 0 9, o_bad, o_bad, o_iload 69 4, o_bad, o_iload 71 5, o_bad, o_iadd 72, o_aload 73 0, o_getF zshp 76 0 3, o_bad, o_bad, o_iload 77 2, o_ald zshp 78 14, o_isub 79, o_lald zshp 80],
  [o_ladd 81, o_inv zshp 84 279 2 99 2 4, o_bad, o_bad, o_lstore 86 6, o_bad, o_aload 87 0, o_getF zshp 90 0 9, o_bad, o_bad, o_iload 91 1, o_con 94 (vI 301), o_bad, o_bad, o_imul 95, o_iload 97 5],
  [o_bad, o_iadd 98, o_lload 100 6, o_bad, o_last zshp 101, o_iinc 104 5 1, o_bad, o_bad, o_goto 25, o_bad, o_bad, o_ret]]
/-- CallOpener$Best.putInOrder()V -/
def k_161 : List (List zO) := [[o_con 1 (vI 0), o_istore 2 1, o_iload 3 1, o_aload 4 0, o_getI zshp 7 0 0, o_bad, o_bad, o_icmpge 10 23, o_bad, o_bad, o_aload 11 0, o_getF zshp 14 0 6, o_bad, o_bad, o_iload 15 1, o_con 16 (vI 1)],
  [o_iast zshp 17, o_iinc 20 1 1, o_bad, o_bad, o_goto 2, o_bad, o_bad, o_aload 24 0, o_getI zshp 27 0 0, o_bad, o_bad, o_con 28 (vI 1), o_isub 29, o_istore 30 1, o_iload 31 1, o_iflt 34 69],
  [o_bad, o_bad, o_aload 35 0, o_getF zshp 38 0 2, o_bad, o_bad, o_iload 39 1, o_ald zshp 40 14, o_iflt 43 63, o_bad, o_bad, o_aload 44 0, o_getF zshp 47 0 6, o_bad, o_bad, o_aload 48 0],
  [o_getF zshp 51 0 2, o_bad, o_bad, o_iload 52 1, o_ald zshp 53 14, o_dup2 54, o_ald zshp 55 14, o_aload 56 0, o_getF zshp 59 0 6, o_bad, o_bad, o_iload 60 1, o_ald zshp 61 14, o_iadd 62, o_iast zshp 63, o_iinc 66 1 (-1)],
  [o_bad, o_bad, o_goto 30, o_bad, o_bad, o_con 70 (vI 0), o_istore 71 1, o_con 72 (vI 0), o_istore 73 2, o_iload 74 2, o_aload 75 0, o_getI zshp 78 0 0, o_bad, o_bad, o_icmpge 81 169, o_bad],
  [o_bad, o_aload 82 0, o_getF zshp 85 0 2, o_bad, o_bad, o_iload 86 2, o_ald zshp 87 14, o_iflt 90 104, o_bad, o_bad, o_aload 91 0, o_getF zshp 94 0 7, o_bad, o_bad, o_aload 95 0, o_getF zshp 98 0 2],
  [o_bad, o_bad, o_iload 99 2, o_ald zshp 100 14, o_ald zshp 101 14, o_goto 105, o_bad, o_bad, o_iload 105 1, o_istore 106 3, o_aload 107 0, o_getF zshp 110 0 2, o_bad, o_bad, o_iload 111 2, o_ald zshp 112 14],
  [o_iflt 115 138, o_bad, o_bad, o_aload 116 0, o_getF zshp 119 0 7, o_bad, o_bad, o_aload 120 0, o_getF zshp 123 0 2, o_bad, o_bad, o_iload 124 2, o_ald zshp 125 14, o_dup2 126, o_ald zshp 127 14, o_aload 128 0],
  [o_getF zshp 131 0 6, o_bad, o_bad, o_iload 132 2, o_ald zshp 133 14, o_iadd 134, o_iast zshp 135, o_goto 147, o_bad, o_bad, o_iload 139 1, o_aload 140 0, o_getF zshp 143 0 6, o_bad, o_bad, o_iload 144 2],
  [o_ald zshp 145 14, o_iadd 146, o_istore 147 1, o_aload 148 0, o_getF zshp 151 0 7, o_bad, o_bad, o_iload 152 2, o_iload 153 3, o_con 154 (vI 1), o_iadd 155, o_iast zshp 156, o_aload 157 0, o_getF zshp 160 0 8, o_bad, o_bad],
  [o_iload 161 3, o_iload 162 2, o_iast zshp 163, o_iinc 166 2 1, o_bad, o_bad, o_goto 73, o_bad, o_bad, o_ret]]
/-- CallOpener$Call.<init>()V -/
def k_162 : List (List zO) := [[o_aload 1 0, o_obj 4, o_bad, o_bad, o_retm 0]]
/-- CallOpener$Call.whyLeft()I -/
def k_163 : List (List zO) := [[o_aload 1 0, o_getJ zshp 4 1 8, o_bad, o_bad, o_con 5 (vJ 1), o_lcmp 6, o_ifge 9 11, o_bad, o_bad, o_con 10 (vI 1), o_iret, o_aload 12 0, o_getI zshp 15 1 7, o_bad, o_bad, o_ifeq 18 20],
  [o_bad, o_bad, o_con 19 (vI 2), o_iret, o_aload 21 0, o_getI zshp 24 1 4, o_bad, o_bad, o_ifne 27 31, o_bad, o_bad, o_con 28 (vI 3), o_goto 32, o_bad, o_bad, o_con 32 (vI 4)],
  [o_iret]]
/-- CallOpener$Known.<init>()V -/
def k_164 : List (List zO) := [[o_aload 1 0, o_obj 4, o_bad, o_bad, o_aload 5 0, o_con 7 (vI 6), o_bad, o_newa zshp 9 14 8 25707, o_bad, o_putF zshp 12 2 0, o_bad, o_bad, o_aload 13 0, o_con 16 (vI 320), o_bad, o_bad],
  [o_newa zshp 18 15 8 25707, o_bad, o_putF zshp 21 2 1, o_bad, o_bad, o_aload 22 0, o_con 25 (vI 20000), o_bad, o_bad, o_newa zshp 27 15 8 25707, o_bad, o_putF zshp 30 2 2, o_bad, o_bad, o_aload 31 0, o_new zshp 34 5 5 8 25707],
  [o_bad, o_bad, o_dup 35, o_con 38 (vI 320), o_bad, o_bad, o_inw zshp 41 200 2 5 0 2 4 2048 8 25707, o_bad, o_bad, o_putF zshp 44 2 4, o_bad, o_bad, o_retm 8]]
/-- CallOpener$Known.goThrough(LCallOpener$Lines;II)V -/
def k_165 : List (List zO) := [[o_aload 1 0, o_iload 2 2, o_con 5 (vI 320), o_bad, o_bad, o_inv zshp 8 280 2 99 1 2, o_bad, o_bad, o_putI zshp 11 2 5, o_bad, o_bad, o_aload 12 0, o_getF zshp 15 2 0, o_bad, o_bad, o_con 16 (vI 0)],
  [o_inv zshp 19 287 2 99 0 4, o_bad, o_bad, o_con 20 (vI 0), o_istore 22 4, o_bad, o_iload 24 4, o_bad, o_aload 25 0, o_getI zshp 28 2 5, o_bad, o_bad, o_icmpge 31 57, o_bad, o_bad, o_aload 32 0],
  [o_getF zshp 35 2 1, o_bad, o_bad, o_iload 37 4, o_bad, o_iload 39 4, o_bad, o_iload 40 3, o_icmpge 43 49, o_bad, o_bad, o_con 46 (vJ (-9223372036854775808)), o_bad, o_bad, o_goto 50, o_bad],
  [o_bad, o_con 50 (vJ 0), o_last zshp 51, o_iinc 54 4 1, o_bad, o_bad, o_goto 22, o_bad, o_bad, o_aload 58 0, o_getF zshp 61 2 0, o_bad, o_bad, o_con 62 (vI 3), o_con 63 (vI 1), o_iast zshp 64],
  [o_aload 65 0, o_con 66 (vI 0), o_putI zshp 69 2 3, o_bad, o_bad, o_aload 70 0, o_getF zshp 73 2 4, o_bad, o_bad, o_con 74 (vI 0), o_putI zshp 77 5 4, o_bad, o_bad, o_aload 78 0, o_con 79 (vI 0), o_putI zshp 82 2 6],
  [o_bad, o_bad, o_con 83 (vI 0), o_istore 85 4, o_bad, o_iload 87 4, o_bad, o_con 90 (vI 10000), o_bad, o_bad, o_icmpge 93 154, o_bad, o_bad, o_aload 94 0, o_aload 95 1, o_inv zshp 98 166 2 2 1 2],
  [o_bad, o_bad, o_ifne 101 154, o_bad, o_bad, o_aload 102 0, o_getF zshp 105 2 4, o_bad, o_bad, o_getI zshp 108 5 4, o_bad, o_bad, o_ifle 111 143, o_bad, o_bad, o_aload 112 0],
  [o_getI zshp 115 2 6, o_bad, o_bad, o_aload 116 0, o_getF zshp 119 2 4, o_bad, o_bad, o_getF zshp 122 5 2, o_bad, o_bad, o_aload 123 0, o_getF zshp 126 2 4, o_bad, o_bad, o_getI zshp 129 5 4, o_bad],
  [o_bad, o_con 130 (vI 1), o_isub 131, o_ald zshp 132 14, o_icmplt 135 143, o_bad, o_bad, o_aload 136 0, o_aload 137 1, o_inv zshp 140 174 2 2 0 4, o_bad, o_bad, o_goto 148, o_bad, o_bad, o_aload 144 0],
  [o_aload 145 1, o_inv zshp 148 167 2 2 0 2, o_bad, o_bad, o_iinc 151 4 1, o_bad, o_bad, o_goto 85, o_bad, o_bad, o_con 155 (vI 0), o_istore 157 4, o_bad, o_iload 159 4, o_bad, o_aload 160 0],
  [o_getI zshp 163 2 5, o_bad, o_bad, o_icmpge 166 200, o_bad, o_bad, o_aload 167 0, o_getF zshp 170 2 0, o_bad, o_bad, o_con 171 (vI 5), o_dup2 172, o_ald zshp 173 14, o_aload 174 0, o_getF zshp 177 2 1, o_bad],
  [o_bad, o_iload 179 4, o_bad, o_lald zshp 180, o_con 183 (vJ (-9223372036854775808)), o_bad, o_bad, o_lcmp 184, o_ifne 187 191, o_bad, o_bad, o_con 188 (vI 0), o_goto 192, o_bad, o_bad, o_con 192 (vI 1)],
  [o_iadd 193, o_iast zshp 194, o_iinc 197 4 1, o_bad, o_bad, o_goto 157, o_bad, o_bad, o_ret]]
/-- CallOpener$Known.isOver(LCallOpener$Lines;)Z -/
def k_166 : List (List zO) := [[o_aload 1 0, o_getI zshp 4 2 6, o_bad, o_bad, o_aload 5 1, o_getI zshp 8 3 13, o_bad, o_bad, o_icmplt 11 25, o_bad, o_bad, o_aload 12 0, o_getF zshp 15 2 4, o_bad, o_bad, o_getI zshp 18 5 4],
  [o_bad, o_bad, o_ifne 21 25, o_bad, o_bad, o_con 22 (vI 1), o_goto 26, o_bad, o_bad, o_con 26 (vI 0), o_zret]]
/-- CallOpener$Known.goThroughLine(LCallOpener$Lines;)V -/
def k_167 : List (List zO) := [[o_aload 1 1, o_getF zshp 4 3 0, o_bad, o_bad, o_aload 5 0, o_getI zshp 8 2 6, o_bad, o_bad, o_ald zshp 9 14, o_sw [(6, 40), (7, 70), (8, 78), (9, 86)] 116, o_bad, o_bad, o_bad, o_bad, o_bad, o_bad],
  [o_bad, o_bad, o_bad, o_bad, o_bad, o_bad, o_bad, o_bad, o_bad, o_bad, o_bad, o_bad, o_bad, o_bad, o_bad, o_bad],
  [o_bad, o_bad, o_bad, o_bad, o_bad, o_bad, o_bad, o_bad, o_aload 41 0, o_getF zshp 44 2 1, o_bad, o_bad, o_aload 45 1, o_getF zshp 48 3 1, o_bad, o_bad],
  [o_aload 49 0, o_getI zshp 52 2 6, o_bad, o_bad, o_ald zshp 53 14, o_con 56 (vJ (-9223372036854775808)), o_bad, o_bad, o_last zshp 57, o_aload 58 0, o_dup 59, o_getI zshp 62 2 6, o_bad, o_bad, o_con 63 (vI 1), o_iadd 64],
  [o_putI zshp 67 2 6, o_bad, o_bad, o_goto 121, o_bad, o_bad, o_aload 71 0, o_aload 72 1, o_inv zshp 75 171 2 2 0 4, o_bad, o_bad, o_goto 121, o_bad, o_bad, o_aload 79 0, o_aload 80 1],
  [o_inv zshp 83 172 2 2 0 4, o_bad, o_bad, o_goto 121, o_bad, o_bad, o_aload 87 0, o_aload 88 0, o_aload 89 1, o_getF zshp 92 3 2, o_bad, o_bad, o_aload 93 0, o_getI zshp 96 2 6, o_bad, o_bad],
  [o_ald zshp 97 14, o_inv zshp 100 168 2 2 2 2, o_bad, o_bad, o_inv zshp 103 169 2 2 0 4, o_bad, o_bad, o_aload 104 0, o_dup 105, o_getI zshp 108 2 6, o_bad, o_bad, o_con 109 (vI 1), o_iadd 110, o_putI zshp 113 2 6, o_bad],
  [o_bad, o_goto 121, o_bad, o_bad, o_aload 117 0, o_aload 118 1, o_inv zshp 121 170 2 2 0 7, o_bad, o_bad, o_ret]]
/-- CallOpener$Known.numberOf(I)J -/
def k_168 : List (List zO) := [[o_iload 1 1, o_inv zshp 4 34 1 99 1 1, o_bad, o_bad, o_ifeq 7 19, o_bad, o_bad, o_aload 8 0, o_getF zshp 11 2 1, o_bad, o_bad, o_con 13 (vI (-10)), o_bad, o_iload 14 1, o_isub 15, o_lald zshp 16],
  [o_goto 21, o_bad, o_bad, o_iload 20 1, o_i2l 21, o_lret]]
/-- CallOpener$Known.noteGiven(J)V -/
def k_169 : List (List zO) := [[o_lload 1 1, o_con 4 (vJ (-9223372036854775808)), o_bad, o_bad, o_lcmp 5, o_ifeq 8 12, o_bad, o_bad, o_con 9 (vI 1), o_goto 13, o_bad, o_bad, o_con 13 (vI 0), o_istore 14 3, o_aload 15 0, o_getF zshp 18 2 0],
  [o_bad, o_bad, o_con 19 (vI 3), o_iload 20 3, o_ifeq 23 27, o_bad, o_bad, o_con 24 (vI 1), o_goto 28, o_bad, o_bad, o_con 28 (vI 0), o_iast zshp 29, o_aload 30 0, o_getF zshp 33 2 0, o_bad],
  [o_bad, o_con 34 (vI 4), o_iload 35 3, o_ifeq 38 43, o_bad, o_bad, o_lload 39 1, o_l2i 40, o_goto 44, o_bad, o_bad, o_con 44 (vI 0), o_iast zshp 45, o_ret]]
/-- CallOpener$Known.goThroughPut(LCallOpener$Lines;)V -/
def k_170 : List (List zO) := [[o_aload 1 1, o_getF zshp 4 3 0, o_bad, o_bad, o_aload 5 0, o_getI zshp 8 2 6, o_bad, o_bad, o_ald zshp 9 14, o_istore 10 2, o_aload 11 0, o_aload 12 1, o_getF zshp 15 3 2, o_bad, o_bad, o_aload 16 0],
  [o_getI zshp 19 2 6, o_bad, o_bad, o_ald zshp 20 14, o_inv zshp 23 168 2 2 2 2, o_bad, o_bad, o_lstore 24 3, o_iload 25 2, o_ifne 28 32, o_bad, o_bad, o_con 29 (vJ 0), o_goto 45, o_bad, o_bad],
  [o_aload 33 0, o_aload 34 1, o_getF zshp 37 3 3, o_bad, o_bad, o_aload 38 0, o_getI zshp 41 2 6, o_bad, o_bad, o_ald zshp 42 14, o_inv zshp 45 168 2 2 2 2, o_bad, o_bad, o_lstore 47 5, o_bad, o_lload 48 3],
  [o_con 51 (vJ (-9223372036854775808)), o_bad, o_bad, o_lcmp 52, o_ifeq 55 64, o_bad, o_bad, o_lload 57 5, o_bad, o_con 60 (vJ (-9223372036854775808)), o_bad, o_bad, o_lcmp 61, o_ifne 64 84, o_bad, o_bad],
  [o_aload 65 0, o_getF zshp 68 2 1, o_bad, o_bad, o_aload 69 1, o_getF zshp 72 3 1, o_bad, o_bad, o_aload 73 0, o_getI zshp 76 2 6, o_bad, o_bad, o_ald zshp 77 14, o_con 80 (vJ (-9223372036854775808)), o_bad, o_bad],
  [o_last zshp 81, o_goto 126, o_bad, o_bad, o_aload 85 0, o_getF zshp 88 2 1, o_bad, o_bad, o_aload 89 1, o_getF zshp 92 3 1, o_bad, o_bad, o_aload 93 0, o_getI zshp 96 2 6, o_bad, o_bad],
  [o_ald zshp 97 14, o_iload 98 2, o_lload 99 3, o_l2i 100, o_lload 102 5, o_bad, o_l2i 103, o_inv zshp 106 35 3 99 1 3, o_bad, o_bad, o_i2l 107, o_last zshp 108, o_aload 109 0, o_getF zshp 112 2 0, o_bad, o_bad],
  [o_con 113 (vI 0), o_dup2 114, o_ald zshp 115 14, o_iload 116 2, o_ifne 119 123, o_bad, o_bad, o_con 120 (vI 0), o_goto 124, o_bad, o_bad, o_con 124 (vI 1), o_iadd 125, o_iast zshp 126, o_aload 127 0, o_dup 128],
  [o_getI zshp 131 2 6, o_bad, o_bad, o_con 132 (vI 1), o_iadd 133, o_putI zshp 136 2 6, o_bad, o_bad, o_ret]]
/-- CallOpener$Known.goThroughIf(LCallOpener$Lines;)V -/
def k_171 : List (List zO) := [[o_aload 1 0, o_aload 2 1, o_getF zshp 5 3 2, o_bad, o_bad, o_aload 6 0, o_getI zshp 9 2 6, o_bad, o_bad, o_ald zshp 10 14, o_inv zshp 13 168 2 2 2 2, o_bad, o_bad, o_lstore 14 2, o_lload 15 2, o_con 18 (vJ (-9223372036854775808))],
  [o_bad, o_bad, o_lcmp 19, o_ifne 22 41, o_bad, o_bad, o_aload 23 0, o_inv zshp 26 176 1 2 0 1, o_bad, o_bad, o_aload 27 0, o_con 28 (vI 0), o_aload 29 1, o_getF zshp 32 3 9, o_bad, o_bad],
  [o_aload 33 0, o_getI zshp 36 2 6, o_bad, o_bad, o_ald zshp 37 14, o_inv zshp 40 173 3 2 0 3, o_bad, o_bad, o_ret, o_aload 42 0, o_getF zshp 45 2 0, o_bad, o_bad, o_con 46 (vI 1), o_dup2 47, o_ald zshp 48 14],
  [o_con 49 (vI 1), o_iadd 50, o_iast zshp 51, o_lload 52 2, o_con 53 (vJ 0), o_lcmp 54, o_ifeq 57 102, o_bad, o_bad, o_aload 58 0, o_getF zshp 61 2 0, o_bad, o_bad, o_con 62 (vI 2), o_dup2 63, o_ald zshp 64 14],
  [o_aload 65 1, o_getF zshp 68 3 10, o_bad, o_bad, o_aload 69 0, o_getI zshp 72 2 6, o_bad, o_bad, o_ald zshp 73 14, o_aload 74 1, o_getF zshp 77 3 9, o_bad, o_bad, o_aload 78 0, o_getI zshp 81 2 6, o_bad],
  [o_bad, o_ald zshp 82 14, o_isub 83, o_iadd 84, o_iast zshp 85, o_aload 86 0, o_con 87 (vI 2), o_aload 88 1, o_getF zshp 91 3 9, o_bad, o_bad, o_aload 92 0, o_getI zshp 95 2 6, o_bad, o_bad, o_ald zshp 96 14],
  [o_inv zshp 99 173 3 2 0 3, o_bad, o_bad, o_goto 140, o_bad, o_bad, o_aload 103 0, o_getF zshp 106 2 0, o_bad, o_bad, o_con 107 (vI 2), o_dup2 108, o_ald zshp 109 14, o_aload 110 1, o_getF zshp 113 3 9, o_bad],
  [o_bad, o_aload 114 0, o_getI zshp 117 2 6, o_bad, o_bad, o_ald zshp 118 14, o_aload 119 0, o_getI zshp 122 2 6, o_bad, o_bad, o_con 123 (vI 1), o_iadd 124, o_isub 125, o_iadd 126, o_iast zshp 127, o_aload 128 0],
  [o_aload 129 1, o_getF zshp 132 3 9, o_bad, o_bad, o_aload 133 0, o_getI zshp 136 2 6, o_bad, o_bad, o_ald zshp 137 14, o_putI zshp 140 2 6, o_bad, o_bad, o_ret]]
/-- CallOpener$Known.goThroughLoop(LCallOpener$Lines;)V -/
def k_172 : List (List zO) := [[o_aload 1 0, o_aload 2 1, o_getF zshp 5 3 2, o_bad, o_bad, o_aload 6 0, o_getI zshp 9 2 6, o_bad, o_bad, o_ald zshp 10 14, o_inv zshp 13 168 2 2 2 2, o_bad, o_bad, o_lstore 14 2, o_lload 15 2, o_con 18 (vJ (-9223372036854775808))],
  [o_bad, o_bad, o_lcmp 19, o_ifeq 22 67, o_bad, o_bad, o_lload 23 2, o_con 24 (vJ 0), o_lcmp 25, o_ifgt 28 67, o_bad, o_bad, o_aload 29 0, o_getF zshp 32 2 0, o_bad, o_bad],
  [o_con 33 (vI 2), o_dup2 34, o_ald zshp 35 14, o_aload 36 1, o_getF zshp 39 3 10, o_bad, o_bad, o_aload 40 0, o_getI zshp 43 2 6, o_bad, o_bad, o_ald zshp 44 14, o_aload 45 0, o_getI zshp 48 2 6, o_bad, o_bad],
  [o_con 49 (vI 1), o_iadd 50, o_isub 51, o_iadd 52, o_iast zshp 53, o_aload 54 0, o_aload 55 1, o_getF zshp 58 3 10, o_bad, o_bad, o_aload 59 0, o_getI zshp 62 2 6, o_bad, o_bad, o_ald zshp 63 14, o_putI zshp 66 2 6],
  [o_bad, o_bad, o_ret, o_aload 68 0, o_aload 69 1, o_aload 70 0, o_getI zshp 73 2 6, o_bad, o_bad, o_inv zshp 76 175 3 2 0 4, o_bad, o_bad, o_aload 77 0, o_con 78 (vI 3), o_aload 79 1, o_getF zshp 82 3 10],
  [o_bad, o_bad, o_aload 83 0, o_getI zshp 86 2 6, o_bad, o_bad, o_ald zshp 87 14, o_inv zshp 90 173 3 2 0 3, o_bad, o_bad, o_ret]]
/-- CallOpener$Known.openBlock(II)V -/
def k_173 : List (List zO) := [[o_aload 1 0, o_getF zshp 4 2 4, o_bad, o_bad, o_aload 5 0, o_getI zshp 8 2 6, o_bad, o_bad, o_iload 9 1, o_iload 10 2, o_con 11 (vI 0), o_inv zshp 14 202 5 5 0 5, o_bad, o_bad, o_aload 15 0, o_dup 16],
  [o_getI zshp 19 2 6, o_bad, o_bad, o_con 20 (vI 1), o_iadd 21, o_putI zshp 24 2 6, o_bad, o_bad, o_ret]]
/-- CallOpener$Known.leaveBlock(LCallOpener$Lines;)V -/
def k_174 : List (List zO) := [[o_aload 1 0, o_getF zshp 4 2 4, o_bad, o_bad, o_getI zshp 7 5 4, o_bad, o_bad, o_con 8 (vI 1), o_isub 9, o_istore 10 2, o_aload 11 0, o_getF zshp 14 2 4, o_bad, o_bad, o_getF zshp 17 5 0, o_bad],
  [o_bad, o_iload 18 2, o_ald zshp 19 14, o_istore 20 3, o_aload 21 0, o_getF zshp 24 2 4, o_bad, o_bad, o_getF zshp 27 5 1, o_bad, o_bad, o_iload 28 2, o_ald zshp 29 14, o_ifne 32 62, o_bad, o_bad],
  [o_aload 33 0, o_inv zshp 36 177 1 2 0 5, o_bad, o_bad, o_aload 37 0, o_getF zshp 40 2 4, o_bad, o_bad, o_getF zshp 43 5 1, o_bad, o_bad, o_iload 44 2, o_con 45 (vI 1), o_iast zshp 46, o_aload 47 0, o_getF zshp 50 2 4],
  [o_bad, o_bad, o_getF zshp 53 5 2, o_bad, o_bad, o_iload 54 2, o_aload 55 1, o_getF zshp 58 3 10, o_bad, o_bad, o_iload 59 3, o_ald zshp 60 14, o_iast zshp 61, o_ret, o_aload 63 0, o_getF zshp 66 2 4],
  [o_bad, o_bad, o_getF zshp 69 5 1, o_bad, o_bad, o_iload 70 2, o_ald zshp 71 14, o_con 72 (vI 1), o_icmpne 75 82, o_bad, o_bad, o_aload 76 0, o_inv zshp 79 178 1 2 0 2, o_bad, o_bad, o_goto 101],
  [o_bad, o_bad, o_aload 83 0, o_getF zshp 86 2 4, o_bad, o_bad, o_getF zshp 89 5 1, o_bad, o_bad, o_iload 90 2, o_ald zshp 91 14, o_con 92 (vI 3), o_icmpne 95 101, o_bad, o_bad, o_aload 96 0],
  [o_aload 97 1, o_iload 98 3, o_inv zshp 101 175 3 2 0 4, o_bad, o_bad, o_aload 102 0, o_aload 103 1, o_getF zshp 106 3 10, o_bad, o_bad, o_iload 107 3, o_ald zshp 108 14, o_putI zshp 111 2 6, o_bad, o_bad, o_aload 112 0],
  [o_getF zshp 115 2 4, o_bad, o_bad, o_iload 116 2, o_putI zshp 119 5 4, o_bad, o_bad, o_ret]]
/-- CallOpener$Known.forgetTargets(LCallOpener$Lines;I)V -/
def k_175 : List (List zO) := [[o_iload 1 2, o_con 2 (vI 1), o_iadd 3, o_istore 4 3, o_iload 5 3, o_aload 6 1, o_getF zshp 9 3 10, o_bad, o_bad, o_iload 10 2, o_ald zshp 11 14, o_icmpge 14 43, o_bad, o_bad, o_aload 15 1, o_getF zshp 18 3 1],
  [o_bad, o_bad, o_iload 19 3, o_ald zshp 20 14, o_iflt 23 37, o_bad, o_bad, o_aload 24 0, o_getF zshp 27 2 1, o_bad, o_bad, o_aload 28 1, o_getF zshp 31 3 1, o_bad, o_bad, o_iload 32 3],
  [o_ald zshp 33 14, o_con 36 (vJ (-9223372036854775808)), o_bad, o_bad, o_last zshp 37, o_iinc 40 3 1, o_bad, o_bad, o_goto 4, o_bad, o_bad, o_ret]]
/-- CallOpener$Known.keep()V -/
def k_176 : List (List zO) := [[o_aload 1 0, o_getI zshp 4 2 3, o_bad, o_bad, o_aload 5 0, o_getI zshp 8 2 5, o_bad, o_bad, o_iadd 9, o_con 12 (vI 20000), o_bad, o_bad, o_icmpgt 15 48, o_bad, o_bad, o_aload 16 0],
  [o_getF zshp 19 2 1, o_bad, o_bad, o_con 20 (vI 0), o_aload 21 0, o_getF zshp 24 2 2, o_bad, o_bad, o_aload 25 0, o_getI zshp 28 2 3, o_bad, o_bad, o_aload 29 0, o_getI zshp 32 2 5, o_bad, o_bad],
  [o_acpw zshp 35 15, o_bad, o_bad, o_aload 36 0, o_dup 37, o_getI zshp 40 2 3, o_bad, o_bad, o_aload 41 0, o_getI zshp 44 2 5, o_bad, o_bad, o_iadd 45, o_putI zshp 48 2 3, o_bad, o_bad],
  [o_ret]]
/-- CallOpener$Known.exchangeWithKept()V -/
def k_177 : List (List zO) := [[o_con 1 (vI 0), o_aload 2 0, o_getI zshp 5 2 3, o_bad, o_bad, o_aload 6 0, o_getI zshp 9 2 5, o_bad, o_bad, o_isub 10, o_inv zshp 13 278 2 99 1 2, o_bad, o_bad, o_istore 14 1, o_con 15 (vI 0), o_istore 16 2],
  [o_iload 17 2, o_aload 18 0, o_getI zshp 21 2 5, o_bad, o_bad, o_icmpge 24 60, o_bad, o_bad, o_aload 25 0, o_getF zshp 28 2 2, o_bad, o_bad, o_iload 29 1, o_iload 30 2, o_iadd 31, o_lald zshp 32],
  [o_lstore 33 3, o_aload 34 0, o_getF zshp 37 2 2, o_bad, o_bad, o_iload 38 1, o_iload 39 2, o_iadd 40, o_aload 41 0, o_getF zshp 44 2 1, o_bad, o_bad, o_iload 45 2, o_lald zshp 46, o_last zshp 47, o_aload 48 0],
  [o_getF zshp 51 2 1, o_bad, o_bad, o_iload 52 2, o_lload 53 3, o_last zshp 54, o_iinc 57 2 1, o_bad, o_bad, o_goto 16, o_bad, o_bad, o_ret]]
/-- CallOpener$Known.mergeWithKept()V -/
def k_178 : List (List zO) := [[o_aload 1 0, o_con 2 (vI 0), o_aload 3 0, o_getI zshp 6 2 3, o_bad, o_bad, o_aload 7 0, o_getI zshp 10 2 5, o_bad, o_bad, o_isub 11, o_inv zshp 14 278 2 99 1 2, o_bad, o_bad, o_putI zshp 17 2 3, o_bad],
  [o_bad, o_con 18 (vI 0), o_istore 19 1, o_iload 20 1, o_aload 21 0, o_getI zshp 24 2 5, o_bad, o_bad, o_icmpge 27 63, o_bad, o_bad, o_aload 28 0, o_getF zshp 31 2 1, o_bad, o_bad, o_iload 32 1],
  [o_lald zshp 33, o_aload 34 0, o_getF zshp 37 2 2, o_bad, o_bad, o_aload 38 0, o_getI zshp 41 2 3, o_bad, o_bad, o_iload 42 1, o_iadd 43, o_lald zshp 44, o_lcmp 45, o_ifeq 48 57, o_bad, o_bad],
  [o_aload 49 0, o_getF zshp 52 2 1, o_bad, o_bad, o_iload 53 1, o_con 56 (vJ (-9223372036854775808)), o_bad, o_bad, o_last zshp 57, o_iinc 60 1 1, o_bad, o_bad, o_goto 19, o_bad, o_bad, o_ret]]
/-- CallOpener$Lines.<init>(I)V -/
def k_179 : List (List zO) := [[o_aload 1 0, o_obj 4, o_bad, o_bad, o_aload 5 0, o_iload 6 1, o_newa zshp 8 14 13 4160, o_bad, o_putF zshp 11 3 0, o_bad, o_bad, o_aload 12 0, o_iload 13 1, o_newa zshp 15 14 13 4160, o_bad, o_putF zshp 18 3 1],
  [o_bad, o_bad, o_aload 19 0, o_iload 20 1, o_newa zshp 22 14 13 4160, o_bad, o_putF zshp 25 3 2, o_bad, o_bad, o_aload 26 0, o_iload 27 1, o_newa zshp 29 14 13 4160, o_bad, o_putF zshp 32 3 3, o_bad, o_bad],
  [o_aload 33 0, o_iload 34 1, o_newa zshp 36 14 13 4160, o_bad, o_putF zshp 39 3 4, o_bad, o_bad, o_aload 40 0, o_iload 41 1, o_newa zshp 43 14 13 4160, o_bad, o_putF zshp 46 3 5, o_bad, o_bad, o_aload 47 0, o_iload 48 1],
  [o_newa zshp 50 14 13 4160, o_bad, o_putF zshp 53 3 6, o_bad, o_bad, o_aload 54 0, o_iload 55 1, o_newa zshp 57 14 13 4160, o_bad, o_putF zshp 60 3 7, o_bad, o_bad, o_aload 61 0, o_iload 62 1, o_newa zshp 64 14 13 4160, o_bad],
  [o_putF zshp 67 3 8, o_bad, o_bad, o_aload 68 0, o_iload 69 1, o_newa zshp 71 14 13 4160, o_bad, o_putF zshp 74 3 9, o_bad, o_bad, o_aload 75 0, o_iload 76 1, o_newa zshp 78 14 13 4160, o_bad, o_putF zshp 81 3 10, o_bad],
  [o_bad, o_aload 82 0, o_iload 83 1, o_newa zshp 85 14 13 4160, o_bad, o_putF zshp 88 3 11, o_bad, o_bad, o_aload 89 0, o_iload 90 1, o_newa zshp 92 14 13 4160, o_bad, o_putF zshp 95 3 12, o_bad, o_bad, o_retm 13]]
/-- CallOpener$Lines.add(III)I -/
def k_180 : List (List zO) := [[o_aload 1 0, o_getI zshp 4 3 13, o_bad, o_bad, o_aload 5 0, o_getF zshp 8 3 0, o_bad, o_bad, o_alen zshp 9 14, o_icmpge 12 24, o_bad, o_bad, o_iload 13 2, o_iflt 16 24, o_bad, o_bad],
  [o_iload 17 2, o_aload 18 0, o_getI zshp 21 3 13, o_bad, o_bad, o_icmple 24 26, o_bad, o_bad, o_con 25 (vI (-1)), o_iret, o_aload 27 0, o_getI zshp 30 3 13, o_bad, o_bad, o_istore 32 4, o_bad],
  [o_aload 33 0, o_dup 34, o_getI zshp 37 3 13, o_bad, o_bad, o_con 38 (vI 1), o_iadd 39, o_putI zshp 42 3 13, o_bad, o_bad, o_aload 43 0, o_getF zshp 46 3 0, o_bad, o_bad, o_iload 48 4, o_bad],
  [o_iload 49 1, o_iast zshp 50, o_aload 51 0, o_getF zshp 54 3 1, o_bad, o_bad, o_iload 56 4, o_bad, o_con 58 (vI (-2)), o_bad, o_iast zshp 59, o_aload 60 0, o_getF zshp 63 3 2, o_bad, o_bad, o_iload 65 4],
  [o_bad, o_con 67 (vI (-2)), o_bad, o_iast zshp 68, o_aload 69 0, o_getF zshp 72 3 3, o_bad, o_bad, o_iload 74 4, o_bad, o_con 76 (vI (-2)), o_bad, o_iast zshp 77, o_aload 78 0, o_getF zshp 81 3 4, o_bad],
  [o_bad, o_iload 83 4, o_bad, o_con 85 (vI (-2)), o_bad, o_iast zshp 86, o_aload 87 0, o_getF zshp 90 3 5, o_bad, o_bad, o_iload 92 4, o_bad, o_con 94 (vI (-2)), o_bad, o_iast zshp 95, o_aload 96 0],
  [o_getF zshp 99 3 6, o_bad, o_bad, o_iload 101 4, o_bad, o_iload 102 2, o_iast zshp 103, o_aload 104 0, o_getF zshp 107 3 7, o_bad, o_bad, o_iload 109 4, o_bad, o_iload 110 3, o_iast zshp 111, o_aload 112 0],
  [o_getF zshp 115 3 8, o_bad, o_bad, o_iload 117 4, o_bad, o_con 118 (vI 0), o_iast zshp 119, o_aload 120 0, o_getF zshp 123 3 9, o_bad, o_bad, o_iload 125 4, o_bad, o_iload 127 4, o_bad, o_con 128 (vI 1)],
  [o_iadd 129, o_iast zshp 130, o_aload 131 0, o_getF zshp 134 3 10, o_bad, o_bad, o_iload 136 4, o_bad, o_iload 138 4, o_bad, o_con 139 (vI 1), o_iadd 140, o_iast zshp 141, o_aload 142 0, o_getF zshp 145 3 11, o_bad],
  [o_bad, o_iload 147 4, o_bad, o_iload 148 2, o_ifne 151 155, o_bad, o_bad, o_con 152 (vI (-1)), o_goto 163, o_bad, o_bad, o_aload 156 0, o_getF zshp 159 3 12, o_bad, o_bad, o_iload 160 2],
  [o_con 161 (vI 1), o_isub 162, o_ald zshp 163 14, o_iast zshp 164, o_aload 165 0, o_getF zshp 168 3 12, o_bad, o_bad, o_iload 169 2, o_iload 171 4, o_bad, o_iast zshp 172, o_aload 173 0, o_iload 175 4, o_bad, o_inv zshp 178 181 2 3 0 5],
  [o_bad, o_bad, o_iload 180 4, o_bad, o_iret]]
/-- CallOpener$Lines.stretchAround(I)V -/
def k_181 : List (List zO) := [[o_iload 1 1, o_istore 2 2, o_aload 3 0, o_getF zshp 6 3 6, o_bad, o_bad, o_iload 7 1, o_ald zshp 8 14, o_istore 9 3, o_iload 10 3, o_ifle 13 59, o_bad, o_bad, o_aload 14 0, o_getF zshp 17 3 11, o_bad],
  [o_bad, o_iload 18 2, o_ald zshp 19 14, o_istore 21 4, o_bad, o_aload 22 0, o_getF zshp 25 3 7, o_bad, o_bad, o_iload 26 2, o_ald zshp 27 14, o_ifne 30 40, o_bad, o_bad, o_aload 31 0, o_getF zshp 34 3 9],
  [o_bad, o_bad, o_iload 36 4, o_bad, o_iload 37 1, o_con 38 (vI 1), o_iadd 39, o_iast zshp 40, o_aload 41 0, o_getF zshp 44 3 10, o_bad, o_bad, o_iload 46 4, o_bad, o_iload 47 1, o_con 48 (vI 1)],
  [o_iadd 49, o_iast zshp 50, o_iload 52 4, o_bad, o_istore 53 2, o_iinc 56 3 (-1), o_bad, o_bad, o_goto 9, o_bad, o_bad, o_ret]]
/-- CallOpener$Lines.operand(II)I -/
def k_182 : List (List zO) := [[o_iload 1 2, o_ifne 4 13, o_bad, o_bad, o_aload 5 0, o_getF zshp 8 3 2, o_bad, o_bad, o_iload 9 1, o_ald zshp 10 14, o_goto 33, o_bad, o_bad, o_iload 14 2, o_con 15 (vI 1), o_icmpne 18 27],
  [o_bad, o_bad, o_aload 19 0, o_getF zshp 22 3 3, o_bad, o_bad, o_iload 23 1, o_ald zshp 24 14, o_goto 33, o_bad, o_bad, o_aload 28 0, o_getF zshp 31 3 4, o_bad, o_bad, o_iload 32 1],
  [o_ald zshp 33 14, o_iret]]
/-- CallOpener$Lines.putOperand(III)V -/
def k_183 : List (List zO) := [[o_iload 1 2, o_ifne 4 14, o_bad, o_bad, o_aload 5 0, o_getF zshp 8 3 2, o_bad, o_bad, o_iload 9 1, o_iload 10 3, o_iast zshp 11, o_goto 41, o_bad, o_bad, o_iload 15 2, o_con 16 (vI 1)],
  [o_icmpne 19 29, o_bad, o_bad, o_aload 20 0, o_getF zshp 23 3 3, o_bad, o_bad, o_iload 24 1, o_iload 25 3, o_iast zshp 26, o_goto 41, o_bad, o_bad, o_iload 30 2, o_con 31 (vI 2), o_icmpne 34 41],
  [o_bad, o_bad, o_aload 35 0, o_getF zshp 38 3 4, o_bad, o_bad, o_iload 39 1, o_iload 40 3, o_iast zshp 41, o_ret]]
/-- CallOpener$Lines.howManyAround(II)I -/
def k_184 : List (List zO) := [[o_con 1 (vI 0), o_istore 2 3, o_iload 3 1, o_istore 5 4, o_bad, o_aload 6 0, o_getF zshp 9 3 6, o_bad, o_bad, o_iload 10 1, o_ald zshp 11 14, o_istore 13 5, o_bad, o_iload 15 5, o_bad, o_ifle 18 47],
  [o_bad, o_bad, o_aload 19 0, o_getF zshp 22 3 11, o_bad, o_bad, o_iload 24 4, o_bad, o_ald zshp 25 14, o_istore 27 4, o_bad, o_aload 28 0, o_getF zshp 31 3 0, o_bad, o_bad, o_iload 33 4],
  [o_bad, o_ald zshp 34 14, o_iload 35 2, o_icmpne 38 41, o_bad, o_bad, o_iinc 41 3 1, o_bad, o_bad, o_iinc 44 5 (-1), o_bad, o_bad, o_goto 13, o_bad, o_bad, o_iload 48 3],
  [o_iret]]
/-- CallOpener$Machine.<init>(LCallOpener$Program;)V -/
def k_185 : List (List zO) := [[o_aload 1 0, o_obj 4, o_bad, o_bad, o_aload 5 0, o_con 6 (vI 5), o_newa zshp 8 14 14 6791, o_bad, o_putF zshp 11 4 0, o_bad, o_bad, o_aload 12 0, o_con 14 (vI 8), o_bad, o_newa zshp 16 14 14 6791, o_bad],
  [o_putF zshp 19 4 1, o_bad, o_bad, o_aload 20 0, o_con 22 (vI 16), o_bad, o_newa zshp 24 14 14 6791, o_bad, o_putF zshp 27 4 2, o_bad, o_bad, o_aload 28 0, o_con 31 (vI 512), o_bad, o_bad, o_newa zshp 33 14 14 6791],
  [o_bad, o_putF zshp 36 4 3, o_bad, o_bad, o_aload 37 0, o_new zshp 40 5 5 14 6791, o_bad, o_bad, o_dup 41, o_con 44 (vI 512), o_bad, o_bad, o_inw zshp 47 200 2 5 0 2 4 2048 14 6791, o_bad, o_bad, o_putF zshp 50 4 4],
  [o_bad, o_bad, o_aload 51 0, o_new zshp 54 5 5 14 6791, o_bad, o_bad, o_dup 55, o_con 57 (vI 24), o_bad, o_inw zshp 60 200 2 5 0 2 4 2048 14 6791, o_bad, o_bad, o_putF zshp 63 4 5, o_bad, o_bad, o_aload 64 0],
  [o_aload 65 1, o_putP zshp 68 4 6, o_bad, o_bad, o_aload 69 0, o_aload 70 1, o_getF zshp 73 7 16, o_bad, o_bad, o_putP zshp 76 4 7, o_bad, o_bad, o_aload 77 0, o_aload 78 1, o_getF zshp 81 7 16, o_bad],
  [o_bad, o_putP zshp 84 4 8, o_bad, o_bad, o_retm 14]]
/-- CallOpener$Machine.runFunction(LCallOpener$Program;I[II)V -/
def k_186 : List (List zO) := [[o_aload 1 0, o_aload 2 1, o_aload 3 1, o_getF zshp 6 7 16, o_bad, o_bad, o_aload 7 3, o_aload 8 1, o_getF zshp 11 7 4, o_bad, o_bad, o_iload 12 2, o_ald zshp 13 14, o_iload 15 4, o_bad, o_inv zshp 18 188 6 4 0 7],
  [o_bad, o_bad, o_aload 19 0, o_getF zshp 22 4 1, o_bad, o_bad, o_iload 23 2, o_dup2 24, o_ald zshp 25 14, o_con 26 (vI 1), o_iadd 27, o_iast zshp 28, o_aload 29 0, o_aload 30 1, o_getF zshp 33 7 5, o_bad],
  [o_bad, o_iload 34 2, o_ald zshp 35 14, o_putI zshp 38 4 11, o_bad, o_bad, o_aload 39 0, o_aload 40 1, o_getF zshp 43 7 6, o_bad, o_bad, o_iload 44 2, o_ald zshp 45 14, o_putI zshp 48 4 12, o_bad, o_bad],
  [o_aload 49 0, o_aload 50 0, o_getI zshp 53 4 12, o_bad, o_bad, o_aload 54 1, o_getF zshp 57 7 7, o_bad, o_bad, o_iload 58 2, o_ald zshp 59 14, o_iadd 60, o_putI zshp 63 4 13, o_bad, o_bad, o_aload 64 0],
  [o_inv zshp 67 189 1 4 0 2, o_bad, o_bad, o_ret]]
/-- CallOpener$Machine.runResult(LCallOpener$Program;LCallOpener$Result;[II)V -/
def k_187 : List (List zO) := [[o_aload 1 0, o_aload 2 1, o_aload 3 2, o_getF zshp 6 9 0, o_bad, o_bad, o_aload 7 3, o_aload 8 2, o_getI zshp 11 9 2, o_bad, o_bad, o_iload 13 4, o_bad, o_inv zshp 16 188 6 4 0 7, o_bad, o_bad],
  [o_aload 17 0, o_aload 18 2, o_getI zshp 21 9 1, o_bad, o_bad, o_con 24 (vI 512), o_bad, o_bad, o_inv zshp 27 280 2 99 1 2, o_bad, o_bad, o_putI zshp 30 4 11, o_bad, o_bad, o_aload 31 0, o_con 32 (vI 0)],
  [o_putI zshp 35 4 12, o_bad, o_bad, o_aload 36 0, o_aload 37 2, o_getF zshp 40 9 0, o_bad, o_bad, o_getI zshp 43 3 13, o_bad, o_bad, o_putI zshp 46 4 13, o_bad, o_bad, o_aload 47 0, o_inv zshp 50 189 1 4 0 2],
  [o_bad, o_bad, o_ret]]
/-- CallOpener$Machine.begin(LCallOpener$Program;LCallOpener$Lines;[III)V -/
def k_188 : List (List zO) := [[o_aload 1 0, o_aload 2 1, o_putP zshp 5 4 6, o_bad, o_bad, o_aload 6 0, o_aload 7 2, o_putP zshp 10 4 7, o_bad, o_bad, o_aload 11 0, o_aload 12 2, o_putP zshp 15 4 8, o_bad, o_bad, o_aload 16 0],
  [o_iload 18 5, o_bad, o_putI zshp 21 4 9, o_bad, o_bad, o_aload 22 0, o_getF zshp 25 4 0, o_bad, o_bad, o_con 26 (vI 0), o_inv zshp 29 287 2 99 0 4, o_bad, o_bad, o_aload 30 0, o_getF zshp 33 4 1, o_bad],
  [o_bad, o_con 34 (vI 0), o_inv zshp 37 287 2 99 0 4, o_bad, o_bad, o_aload 38 0, o_getF zshp 41 4 2, o_bad, o_bad, o_con 42 (vI 0), o_inv zshp 45 287 2 99 0 4, o_bad, o_bad, o_aload 46 0, o_getF zshp 49 4 3, o_bad],
  [o_bad, o_con 50 (vI 0), o_inv zshp 53 287 2 99 0 4, o_bad, o_bad, o_con 54 (vI 0), o_istore 56 6, o_bad, o_iload 58 6, o_bad, o_iload 60 4, o_bad, o_icmpge 63 87, o_bad, o_bad, o_iload 65 6],
  [o_bad, o_aload 66 3, o_alen zshp 67 14, o_icmpge 70 87, o_bad, o_bad, o_aload 71 0, o_getF zshp 74 4 3, o_bad, o_bad, o_iload 76 6, o_bad, o_aload 77 3, o_iload 79 6, o_bad, o_ald zshp 80 14],
  [o_iast zshp 81, o_iinc 84 6 1, o_bad, o_bad, o_goto 56, o_bad, o_bad, o_aload 88 0, o_getF zshp 91 4 0, o_bad, o_bad, o_con 92 (vI 4), o_con 93 (vI 1), o_iast zshp 94, o_aload 95 0, o_getF zshp 98 4 4],
  [o_bad, o_bad, o_con 99 (vI 0), o_putI zshp 102 5 4, o_bad, o_bad, o_aload 103 0, o_getF zshp 106 4 5, o_bad, o_bad, o_con 107 (vI 0), o_putI zshp 110 5 4, o_bad, o_bad, o_aload 111 0, o_con 112 (vI 0)],
  [o_putI zshp 115 4 10, o_bad, o_bad, o_aload 116 0, o_con 117 (vI 0), o_putI zshp 120 4 14, o_bad, o_bad, o_aload 121 0, o_con 122 (vI 0), o_putZ zshp 125 4 15, o_bad, o_bad, o_ret]]
/-- CallOpener$Machine.goOn()V -/
def k_189 : List (List zO) := [[o_con 1 (vI 0), o_istore 2 1, o_iload 3 1, o_con 5 (vI 100000), o_bad, o_icmpge 8 65, o_bad, o_bad, o_aload 9 0, o_getI zshp 12 4 15, o_bad, o_bad, o_ifne 15 65, o_bad, o_bad, o_aload 16 0],
  [o_getI zshp 19 4 12, o_bad, o_bad, o_aload 20 0, o_getI zshp 23 4 13, o_bad, o_bad, o_icmpge 26 33, o_bad, o_bad, o_aload 27 0, o_inv zshp 30 190 1 4 0 1, o_bad, o_bad, o_goto 59, o_bad],
  [o_bad, o_aload 34 0, o_getF zshp 37 4 4, o_bad, o_bad, o_getI zshp 40 5 4, o_bad, o_bad, o_aload 41 0, o_getI zshp 44 4 14, o_bad, o_bad, o_icmple 47 54, o_bad, o_bad, o_aload 48 0],
  [o_inv zshp 51 196 1 4 0 2, o_bad, o_bad, o_goto 59, o_bad, o_bad, o_aload 55 0, o_con 56 (vI 0), o_inv zshp 59 199 2 4 0 3, o_bad, o_bad, o_iinc 62 1 1, o_bad, o_bad, o_goto 2, o_bad],
  [o_bad, o_ret]]
/-- CallOpener$Machine.doLine()V -/
def k_190 : List (List zO) := [[o_aload 1 0, o_getF zshp 4 4 0, o_bad, o_bad, o_con 5 (vI 2), o_ald zshp 6 14, o_con 9 (vI 3000), o_bad, o_bad, o_icmplt 12 18, o_bad, o_bad, o_aload 13 0, o_con 14 (vI 1), o_inv zshp 17 191 2 4 0 2, o_bad],
  [o_bad, o_ret, o_aload 19 0, o_getF zshp 22 4 0, o_bad, o_bad, o_con 23 (vI 2), o_dup2 24, o_ald zshp 25 14, o_con 26 (vI 1), o_iadd 27, o_iast zshp 28, o_aload 29 0, o_getP zshp 32 4 7, o_bad, o_bad],
  [o_getF zshp 35 3 0, o_bad, o_bad, o_aload 36 0, o_getI zshp 39 4 12, o_bad, o_bad, o_ald zshp 40 14, o_sw [(6, 72), (7, 79), (8, 86), (9, 127)] 150, o_bad, o_bad, o_bad, o_bad, o_bad, o_bad, o_bad],
  [o_bad, o_bad, o_bad, o_bad, o_bad, o_bad, o_bad, o_bad, o_bad, o_bad, o_bad, o_bad, o_bad, o_bad, o_bad, o_bad],
  [o_bad, o_bad, o_bad, o_bad, o_bad, o_bad, o_bad, o_bad, o_aload 73 0, o_inv zshp 76 197 1 4 0 2, o_bad, o_bad, o_goto 201, o_bad, o_bad, o_aload 80 0],
  [o_inv zshp 83 194 1 4 0 1, o_bad, o_bad, o_goto 201, o_bad, o_bad, o_aload 87 0, o_aload 88 0, o_getI zshp 91 4 12, o_bad, o_bad, o_con 92 (vI 1), o_iadd 93, o_aload 94 0, o_getP zshp 97 4 7, o_bad],
  [o_bad, o_getF zshp 100 3 10, o_bad, o_bad, o_aload 101 0, o_getI zshp 104 4 12, o_bad, o_bad, o_ald zshp 105 14, o_aload 106 0, o_aload 107 0, o_getP zshp 110 4 7, o_bad, o_bad, o_getF zshp 113 3 2, o_bad],
  [o_bad, o_aload 114 0, o_getI zshp 117 4 12, o_bad, o_bad, o_ald zshp 118 14, o_inv zshp 121 192 2 4 1 2, o_bad, o_bad, o_inv zshp 124 195 4 4 0 5, o_bad, o_bad, o_goto 201, o_bad, o_bad, o_aload 128 0],
  [o_aload 129 0, o_aload 130 0, o_getP zshp 133 4 7, o_bad, o_bad, o_getF zshp 136 3 2, o_bad, o_bad, o_aload 137 0, o_getI zshp 140 4 12, o_bad, o_bad, o_ald zshp 141 14, o_inv zshp 144 192 2 4 1 2, o_bad, o_bad],
  [o_inv zshp 147 199 2 4 0 3, o_bad, o_bad, o_goto 201, o_bad, o_bad, o_aload 151 0, o_aload 152 0, o_getP zshp 155 4 7, o_bad, o_bad, o_getF zshp 158 3 0, o_bad, o_bad, o_aload 159 0, o_getI zshp 162 4 12],
  [o_bad, o_bad, o_ald zshp 163 14, o_aload 164 0, o_aload 165 0, o_getP zshp 168 4 7, o_bad, o_bad, o_getF zshp 171 3 2, o_bad, o_bad, o_aload 172 0, o_getI zshp 175 4 12, o_bad, o_bad, o_ald zshp 176 14],
  [o_inv zshp 179 192 2 4 1 2, o_bad, o_bad, o_aload 180 0, o_aload 181 0, o_getP zshp 184 4 7, o_bad, o_bad, o_getF zshp 187 3 3, o_bad, o_bad, o_aload 188 0, o_getI zshp 191 4 12, o_bad, o_bad, o_ald zshp 192 14],
  [o_inv zshp 195 192 2 4 1 2, o_bad, o_bad, o_inv zshp 198 35 3 99 1 3, o_bad, o_bad, o_inv zshp 201 193 2 4 0 2, o_bad, o_bad, o_ret]]
/-- CallOpener$Machine.halt(I)V -/
def k_191 : List (List zO) := [[o_aload 1 0, o_getF zshp 4 4 0, o_bad, o_bad, o_con 5 (vI 0), o_iload 6 1, o_iast zshp 7, o_aload 8 0, o_con 9 (vI 1), o_putZ zshp 12 4 15, o_bad, o_bad, o_ret]]
/-- CallOpener$Machine.valueOf(I)I -/
def k_192 : List (List zO) := [[o_iload 1 1, o_inv zshp 4 34 1 99 1 1, o_bad, o_bad, o_ifeq 7 24, o_bad, o_bad, o_aload 8 0, o_getF zshp 11 4 3, o_bad, o_bad, o_aload 12 0, o_getI zshp 15 4 10, o_bad, o_bad, o_con 17 (vI (-10))],
  [o_bad, o_iadd 18, o_iload 19 1, o_isub 20, o_ald zshp 21 14, o_goto 25, o_bad, o_bad, o_iload 25 1, o_iret]]
/-- CallOpener$Machine.putValue(I)V -/
def k_193 : List (List zO) := [[o_aload 1 0, o_getF zshp 4 4 3, o_bad, o_bad, o_aload 5 0, o_getI zshp 8 4 10, o_bad, o_bad, o_aload 9 0, o_getP zshp 12 4 7, o_bad, o_bad, o_getF zshp 15 3 1, o_bad, o_bad, o_aload 16 0],
  [o_getI zshp 19 4 12, o_bad, o_bad, o_ald zshp 20 14, o_iadd 21, o_iload 22 1, o_iast zshp 23, o_aload 24 0, o_dup 25, o_getI zshp 28 4 12, o_bad, o_bad, o_con 29 (vI 1), o_iadd 30, o_putI zshp 33 4 12, o_bad],
  [o_bad, o_ret]]
/-- CallOpener$Machine.doIf()V -/
def k_194 : List (List zO) := [[o_aload 1 0, o_aload 2 0, o_getP zshp 5 4 7, o_bad, o_bad, o_getF zshp 8 3 2, o_bad, o_bad, o_aload 9 0, o_getI zshp 12 4 12, o_bad, o_bad, o_ald zshp 13 14, o_inv zshp 16 192 2 4 1 2, o_bad, o_bad],
  [o_ifeq 19 45, o_bad, o_bad, o_aload 20 0, o_aload 21 0, o_getI zshp 24 4 12, o_bad, o_bad, o_con 25 (vI 1), o_iadd 26, o_aload 27 0, o_getP zshp 30 4 7, o_bad, o_bad, o_getF zshp 33 3 9, o_bad],
  [o_bad, o_aload 34 0, o_getI zshp 37 4 12, o_bad, o_bad, o_ald zshp 38 14, o_con 39 (vI 1), o_inv zshp 42 195 4 4 0 5, o_bad, o_bad, o_goto 74, o_bad, o_bad, o_aload 46 0, o_aload 47 0, o_getP zshp 50 4 7],
  [o_bad, o_bad, o_getF zshp 53 3 9, o_bad, o_bad, o_aload 54 0, o_getI zshp 57 4 12, o_bad, o_bad, o_ald zshp 58 14, o_aload 59 0, o_getP zshp 62 4 7, o_bad, o_bad, o_getF zshp 65 3 10, o_bad],
  [o_bad, o_aload 66 0, o_getI zshp 69 4 12, o_bad, o_bad, o_ald zshp 70 14, o_con 71 (vI 1), o_inv zshp 74 195 4 4 0 5, o_bad, o_bad, o_ret]]
/-- CallOpener$Machine.enterBlock(III)V -/
def k_195 : List (List zO) := [[o_aload 1 0, o_getP zshp 4 4 7, o_bad, o_bad, o_getF zshp 7 3 10, o_bad, o_bad, o_aload 8 0, o_getI zshp 11 4 12, o_bad, o_bad, o_ald zshp 12 14, o_istore 14 4, o_bad, o_iload 15 3, o_ifle 18 33],
  [o_bad, o_bad, o_iload 19 1, o_iload 20 2, o_icmpge 23 33, o_bad, o_bad, o_aload 24 0, o_getF zshp 27 4 4, o_bad, o_bad, o_inv zshp 30 201 1 5 1 1, o_bad, o_bad, o_ifeq 33 40, o_bad],
  [o_bad, o_aload 34 0, o_iload 36 4, o_bad, o_putI zshp 39 4 12, o_bad, o_bad, o_ret, o_aload 41 0, o_getF zshp 44 4 4, o_bad, o_bad, o_iload 45 1, o_iload 46 3, o_con 47 (vI 1), o_isub 48],
  [o_iload 50 4, o_bad, o_aload 51 0, o_getI zshp 54 4 13, o_bad, o_bad, o_inv zshp 57 202 5 5 0 5, o_bad, o_bad, o_aload 58 0, o_iload 59 1, o_putI zshp 62 4 12, o_bad, o_bad, o_aload 63 0, o_iload 64 2],
  [o_putI zshp 67 4 13, o_bad, o_bad, o_ret]]
/-- CallOpener$Machine.leaveBlock()V -/
def k_196 : List (List zO) := [[o_aload 1 0, o_getF zshp 4 4 4, o_bad, o_bad, o_getI zshp 7 5 4, o_bad, o_bad, o_con 8 (vI 1), o_isub 9, o_istore 10 1, o_aload 11 0, o_getF zshp 14 4 4, o_bad, o_bad, o_getF zshp 17 5 1, o_bad],
  [o_bad, o_iload 18 1, o_ald zshp 19 14, o_ifle 22 49, o_bad, o_bad, o_aload 23 0, o_getF zshp 26 4 4, o_bad, o_bad, o_getF zshp 29 5 1, o_bad, o_bad, o_iload 30 1, o_dup2 31, o_ald zshp 32 14],
  [o_con 33 (vI 1), o_isub 34, o_iast zshp 35, o_aload 36 0, o_aload 37 0, o_getF zshp 40 4 4, o_bad, o_bad, o_getF zshp 43 5 0, o_bad, o_bad, o_iload 44 1, o_ald zshp 45 14, o_putI zshp 48 4 12, o_bad, o_bad],
  [o_ret, o_aload 50 0, o_aload 51 0, o_getF zshp 54 4 4, o_bad, o_bad, o_getF zshp 57 5 2, o_bad, o_bad, o_iload 58 1, o_ald zshp 59 14, o_putI zshp 62 4 12, o_bad, o_bad, o_aload 63 0, o_aload 64 0],
  [o_getF zshp 67 4 4, o_bad, o_bad, o_getF zshp 70 5 3, o_bad, o_bad, o_iload 71 1, o_ald zshp 72 14, o_putI zshp 75 4 13, o_bad, o_bad, o_aload 76 0, o_getF zshp 79 4 4, o_bad, o_bad, o_iload 80 1],
  [o_putI zshp 83 5 4, o_bad, o_bad, o_ret]]
/-- CallOpener$Machine.doCall()V -/
def k_197 : List (List zO) := [[o_aload 1 0, o_getF zshp 4 4 0, o_bad, o_bad, o_con 5 (vI 2), o_ald zshp 6 14, o_aload 7 0, o_getI zshp 10 4 9, o_bad, o_bad, o_iadd 11, o_con 14 (vI 3000), o_bad, o_bad, o_icmple 17 23, o_bad],
  [o_bad, o_aload 18 0, o_con 19 (vI 1), o_inv zshp 22 191 2 4 0 2, o_bad, o_bad, o_ret, o_aload 24 0, o_getF zshp 27 4 0, o_bad, o_bad, o_con 28 (vI 2), o_dup2 29, o_ald zshp 30 14, o_aload 31 0, o_getI zshp 34 4 9],
  [o_bad, o_bad, o_iadd 35, o_iast zshp 36, o_aload 37 0, o_getP zshp 40 4 6, o_bad, o_bad, o_getF zshp 43 7 13, o_bad, o_bad, o_aload 44 0, o_getP zshp 47 4 7, o_bad, o_bad, o_getF zshp 50 3 5],
  [o_bad, o_bad, o_aload 51 0, o_getI zshp 54 4 12, o_bad, o_bad, o_ald zshp 55 14, o_ald zshp 56 14, o_istore 57 1, o_aload 58 0, o_getF zshp 61 4 5, o_bad, o_bad, o_getI zshp 64 5 4, o_bad, o_bad],
  [o_con 65 (vI 1), o_iadd 66, o_con 68 (vI 24), o_bad, o_icmpge 71 91, o_bad, o_bad, o_aload 72 0, o_getI zshp 75 4 11, o_bad, o_bad, o_aload 76 0, o_getP zshp 79 4 6, o_bad, o_bad, o_getF zshp 82 7 5],
  [o_bad, o_bad, o_iload 83 1, o_ald zshp 84 14, o_iadd 85, o_con 88 (vI 512), o_bad, o_bad, o_icmple 91 97, o_bad, o_bad, o_aload 92 0, o_con 93 (vI 2), o_inv zshp 96 191 2 4 0 2, o_bad, o_bad],
  [o_ret, o_aload 98 0, o_getF zshp 101 4 0, o_bad, o_bad, o_con 102 (vI 3), o_dup2 103, o_ald zshp 104 14, o_con 105 (vI 1), o_iadd 106, o_iast zshp 107, o_aload 108 0, o_getF zshp 111 4 2, o_bad, o_bad, o_aload 112 0],
  [o_getP zshp 115 4 7, o_bad, o_bad, o_getF zshp 118 3 5, o_bad, o_bad, o_aload 119 0, o_getI zshp 122 4 12, o_bad, o_bad, o_ald zshp 123 14, o_dup2 124, o_ald zshp 125 14, o_con 126 (vI 1), o_iadd 127, o_iast zshp 128],
  [o_aload 129 0, o_getF zshp 132 4 1, o_bad, o_bad, o_iload 133 1, o_dup2 134, o_ald zshp 135 14, o_con 136 (vI 1), o_iadd 137, o_iast zshp 138, o_aload 139 0, o_iload 140 1, o_inv zshp 143 198 2 4 0 3, o_bad, o_bad, o_ret]]
/-- CallOpener$Machine.enterFunction(I)V -/
def k_198 : List (List zO) := [[o_con 1 (vI 0), o_istore 2 2, o_iload 3 2, o_aload 4 0, o_getP zshp 7 4 6, o_bad, o_bad, o_getF zshp 10 7 5, o_bad, o_bad, o_iload 11 1, o_ald zshp 12 14, o_icmpge 15 65, o_bad, o_bad, o_aload 16 0],
  [o_getF zshp 19 4 3, o_bad, o_bad, o_aload 20 0, o_getI zshp 23 4 11, o_bad, o_bad, o_iload 24 2, o_iadd 25, o_iload 26 2, o_aload 27 0, o_getP zshp 30 4 6, o_bad, o_bad, o_getF zshp 33 7 4, o_bad],
  [o_bad, o_iload 34 1, o_ald zshp 35 14, o_icmpge 38 57, o_bad, o_bad, o_aload 39 0, o_aload 40 0, o_getP zshp 43 4 7, o_bad, o_bad, o_aload 44 0, o_getI zshp 47 4 12, o_bad, o_bad, o_iload 48 2],
  [o_inv zshp 51 182 3 3 1 3, o_bad, o_bad, o_inv zshp 54 192 2 4 1 2, o_bad, o_bad, o_goto 58, o_bad, o_bad, o_con 58 (vI 0), o_iast zshp 59, o_iinc 62 2 1, o_bad, o_bad, o_goto 2, o_bad],
  [o_bad, o_aload 66 0, o_getF zshp 69 4 5, o_bad, o_bad, o_aload 70 0, o_getI zshp 73 4 12, o_bad, o_bad, o_aload 74 0, o_getI zshp 77 4 10, o_bad, o_bad, o_aload 78 0, o_getI zshp 81 4 13, o_bad],
  [o_bad, o_aload 82 0, o_getI zshp 85 4 14, o_bad, o_bad, o_inv zshp 88 202 5 5 0 5, o_bad, o_bad, o_aload 89 0, o_getF zshp 92 4 0, o_bad, o_bad, o_con 93 (vI 4), o_aload 94 0, o_getF zshp 97 4 0, o_bad],
  [o_bad, o_con 98 (vI 4), o_ald zshp 99 14, o_aload 100 0, o_getF zshp 103 4 5, o_bad, o_bad, o_getI zshp 106 5 4, o_bad, o_bad, o_con 107 (vI 1), o_iadd 108, o_inv zshp 111 278 2 99 1 2, o_bad, o_bad, o_iast zshp 112],
  [o_aload 113 0, o_aload 114 0, o_getI zshp 117 4 11, o_bad, o_bad, o_putI zshp 120 4 10, o_bad, o_bad, o_aload 121 0, o_dup 122, o_getI zshp 125 4 11, o_bad, o_bad, o_aload 126 0, o_getP zshp 129 4 6, o_bad],
  [o_bad, o_getF zshp 132 7 5, o_bad, o_bad, o_iload 133 1, o_ald zshp 134 14, o_iadd 135, o_putI zshp 138 4 11, o_bad, o_bad, o_aload 139 0, o_aload 140 0, o_getF zshp 143 4 4, o_bad, o_bad, o_getI zshp 146 5 4],
  [o_bad, o_bad, o_putI zshp 149 4 14, o_bad, o_bad, o_aload 150 0, o_aload 151 0, o_getP zshp 154 4 6, o_bad, o_bad, o_getF zshp 157 7 16, o_bad, o_bad, o_putP zshp 160 4 7, o_bad, o_bad],
  [o_aload 161 0, o_aload 162 0, o_getP zshp 165 4 6, o_bad, o_bad, o_getF zshp 168 7 6, o_bad, o_bad, o_iload 169 1, o_ald zshp 170 14, o_putI zshp 173 4 12, o_bad, o_bad, o_aload 174 0, o_aload 175 0, o_getI zshp 178 4 12],
  [o_bad, o_bad, o_aload 179 0, o_getP zshp 182 4 6, o_bad, o_bad, o_getF zshp 185 7 7, o_bad, o_bad, o_iload 186 1, o_ald zshp 187 14, o_iadd 188, o_putI zshp 191 4 13, o_bad, o_bad, o_ret]]
/-- CallOpener$Machine.leaveFunction(I)V -/
def k_199 : List (List zO) := [[o_aload 1 0, o_getF zshp 4 4 5, o_bad, o_bad, o_getI zshp 7 5 4, o_bad, o_bad, o_ifne 10 23, o_bad, o_bad, o_aload 11 0, o_getF zshp 14 4 0, o_bad, o_bad, o_con 15 (vI 1), o_iload 16 1],
  [o_iast zshp 17, o_aload 18 0, o_con 19 (vI 1), o_putZ zshp 22 4 15, o_bad, o_bad, o_ret, o_aload 24 0, o_getF zshp 27 4 5, o_bad, o_bad, o_getI zshp 30 5 4, o_bad, o_bad, o_con 31 (vI 1), o_isub 32],
  [o_istore 33 2, o_aload 34 0, o_getF zshp 37 4 5, o_bad, o_bad, o_iload 38 2, o_putI zshp 41 5 4, o_bad, o_bad, o_aload 42 0, o_getF zshp 45 4 4, o_bad, o_bad, o_aload 46 0, o_getI zshp 49 4 14, o_bad],
  [o_bad, o_putI zshp 52 5 4, o_bad, o_bad, o_aload 53 0, o_aload 54 0, o_getI zshp 57 4 10, o_bad, o_bad, o_putI zshp 60 4 11, o_bad, o_bad, o_aload 61 0, o_aload 62 0, o_getF zshp 65 4 5, o_bad],
  [o_bad, o_getF zshp 68 5 0, o_bad, o_bad, o_iload 69 2, o_ald zshp 70 14, o_putI zshp 73 4 12, o_bad, o_bad, o_aload 74 0, o_aload 75 0, o_getF zshp 78 4 5, o_bad, o_bad, o_getF zshp 81 5 1, o_bad],
  [o_bad, o_iload 82 2, o_ald zshp 83 14, o_putI zshp 86 4 10, o_bad, o_bad, o_aload 87 0, o_aload 88 0, o_getF zshp 91 4 5, o_bad, o_bad, o_getF zshp 94 5 2, o_bad, o_bad, o_iload 95 2, o_ald zshp 96 14],
  [o_putI zshp 99 4 13, o_bad, o_bad, o_aload 100 0, o_aload 101 0, o_getF zshp 104 4 5, o_bad, o_bad, o_getF zshp 107 5 3, o_bad, o_bad, o_iload 108 2, o_ald zshp 109 14, o_putI zshp 112 4 14, o_bad, o_bad],
  [o_aload 113 0, o_iload 114 2, o_ifne 117 124, o_bad, o_bad, o_aload 118 0, o_getP zshp 121 4 8, o_bad, o_bad, o_goto 131, o_bad, o_bad, o_aload 125 0, o_getP zshp 128 4 6, o_bad, o_bad],
  [o_getF zshp 131 7 16, o_bad, o_bad, o_putP zshp 134 4 7, o_bad, o_bad, o_aload 135 0, o_iload 136 1, o_inv zshp 139 193 2 4 0 2, o_bad, o_bad, o_ret]]
/-- CallOpener$Pile.<init>(I)V -/
def k_200 : List (List zO) := [[o_aload 1 0, o_obj 4, o_bad, o_bad, o_aload 5 0, o_iload 6 1, o_newa zshp 8 14 4 2048, o_bad, o_putF zshp 11 5 0, o_bad, o_bad, o_aload 12 0, o_iload 13 1, o_newa zshp 15 14 4 2048, o_bad, o_putF zshp 18 5 1],
  [o_bad, o_bad, o_aload 19 0, o_iload 20 1, o_newa zshp 22 14 4 2048, o_bad, o_putF zshp 25 5 2, o_bad, o_bad, o_aload 26 0, o_iload 27 1, o_newa zshp 29 14 4 2048, o_bad, o_putF zshp 32 5 3, o_bad, o_bad],
  [o_retm 4]]
/-- CallOpener$Pile.isFull()Z -/
def k_201 : List (List zO) := [[o_aload 1 0, o_getI zshp 4 5 4, o_bad, o_bad, o_aload 5 0, o_getF zshp 8 5 0, o_bad, o_bad, o_alen zshp 9 14, o_icmplt 12 16, o_bad, o_bad, o_con 13 (vI 1), o_goto 17, o_bad, o_bad],
  [o_con 17 (vI 0), o_zret]]
/-- CallOpener$Pile.push(IIII)V -/
def k_202 : List (List zO) := [[o_aload 1 0, o_inv zshp 4 201 1 5 1 1, o_bad, o_bad, o_ifeq 7 8, o_bad, o_bad, o_ret, o_aload 9 0, o_getF zshp 12 5 0, o_bad, o_bad, o_aload 13 0, o_getI zshp 16 5 4, o_bad, o_bad],
  [o_iload 17 1, o_iast zshp 18, o_aload 19 0, o_getF zshp 22 5 1, o_bad, o_bad, o_aload 23 0, o_getI zshp 26 5 4, o_bad, o_bad, o_iload 27 2, o_iast zshp 28, o_aload 29 0, o_getF zshp 32 5 2, o_bad, o_bad],
  [o_aload 33 0, o_getI zshp 36 5 4, o_bad, o_bad, o_iload 37 3, o_iast zshp 38, o_aload 39 0, o_getF zshp 42 5 3, o_bad, o_bad, o_aload 43 0, o_getI zshp 46 5 4, o_bad, o_bad, o_iload 48 4, o_bad],
  [o_iast zshp 49, o_aload 50 0, o_dup 51, o_getI zshp 54 5 4, o_bad, o_bad, o_con 55 (vI 1), o_iadd 56, o_putI zshp 59 5 4, o_bad, o_bad, o_ret]]
/-- CallOpener$Profile.<init>()V -/
def k_203 : List (List zO) := [[o_aload 1 0, o_obj 4, o_bad, o_bad, o_aload 5 0, o_con 7 (vI 8), o_bad, o_newa zshp 9 14 2 24, o_bad, o_putF zshp 12 6 0, o_bad, o_bad, o_aload 13 0, o_con 15 (vI 16), o_bad, o_newa zshp 17 14 2 24],
  [o_bad, o_putF zshp 20 6 1, o_bad, o_bad, o_retm 2]]
/-- CallOpener$Profile.clear()V -/
def k_204 : List (List zO) := [[o_aload 1 0, o_getF zshp 4 6 0, o_bad, o_bad, o_con 5 (vI 0), o_inv zshp 8 287 2 99 0 4, o_bad, o_bad, o_aload 9 0, o_getF zshp 12 6 1, o_bad, o_bad, o_con 13 (vI 0), o_inv zshp 16 287 2 99 0 4, o_bad, o_bad],
  [o_ret]]
/-- CallOpener$Profile.add([I[I)V -/
def k_205 : List (List zO) := [[o_con 1 (vI 0), o_istore 2 3, o_iload 3 3, o_aload 4 0, o_getF zshp 7 6 0, o_bad, o_bad, o_alen zshp 8 14, o_icmpge 11 29, o_bad, o_bad, o_aload 12 0, o_getF zshp 15 6 0, o_bad, o_bad, o_iload 16 3],
  [o_dup2 17, o_ald zshp 18 14, o_aload 19 1, o_iload 20 3, o_ald zshp 21 14, o_iadd 22, o_iast zshp 23, o_iinc 26 3 1, o_bad, o_bad, o_goto 2, o_bad, o_bad, o_con 30 (vI 0), o_istore 31 3, o_iload 32 3],
  [o_aload 33 0, o_getF zshp 36 6 1, o_bad, o_bad, o_alen zshp 37 14, o_icmpge 40 58, o_bad, o_bad, o_aload 41 0, o_getF zshp 44 6 1, o_bad, o_bad, o_iload 45 3, o_dup2 46, o_ald zshp 47 14, o_aload 48 2],
  [o_iload 49 3, o_ald zshp 50 14, o_iadd 51, o_iast zshp 52, o_iinc 55 3 1, o_bad, o_bad, o_goto 31, o_bad, o_bad, o_ret]]
/-- CallOpener$Profile.allEntries()I -/
def k_206 : List (List zO) := [[o_aload 1 0, o_getF zshp 4 6 0, o_bad, o_bad, o_inv zshp 7 208 1 99 1 3, o_bad, o_bad, o_iret]]
/-- CallOpener$Profile.allCounts()I -/
def k_207 : List (List zO) := [[o_aload 1 0, o_getF zshp 4 6 1, o_bad, o_bad, o_inv zshp 7 208 1 99 1 3, o_bad, o_bad, o_iret]]
/-- CallOpener$Profile.sum([I)I -/
def k_208 : List (List zO) := [[o_con 1 (vI 0), o_istore 2 1, o_con 3 (vI 0), o_istore 4 2, o_iload 5 2, o_aload 6 0, o_alen zshp 7 14, o_icmpge 10 22, o_bad, o_bad, o_iload 11 1, o_aload 12 0, o_iload 13 2, o_ald zshp 14 14, o_iadd 15, o_istore 16 1],
  [o_iinc 19 2 1, o_bad, o_bad, o_goto 4, o_bad, o_bad, o_iload 23 1, o_iret]]
/-- CallOpener$Profile.heatOf(JII)J -/
def k_209 : List (List zO) := [[o_aload 1 0, o_getF zshp 4 6 0, o_bad, o_bad, o_iload 5 3, o_ald zshp 6 14, o_ifne 9 13, o_bad, o_bad, o_con 10 (vJ 0), o_goto 31, o_bad, o_bad, o_lload 14 1, o_aload 15 0, o_getF zshp 18 6 1],
  [o_bad, o_bad, o_iload 20 4, o_bad, o_ald zshp 21 14, o_i2l 22, o_lmul 23, o_aload 24 0, o_getF zshp 27 6 0, o_bad, o_bad, o_iload 28 3, o_ald zshp 29 14, o_i2l 30, o_ldiv 31, o_lret]]
/-- CallOpener$Program.<init>()V -/
def k_210 : List (List zO) := [[o_aload 1 0, o_obj 4, o_bad, o_bad, o_aload 5 0, o_con 7 (vI 8), o_bad, o_newa zshp 9 14 28 5938, o_bad, o_putF zshp 12 7 2, o_bad, o_bad, o_aload 13 0, o_con 15 (vI 8), o_bad, o_newa zshp 17 14 28 5938],
  [o_bad, o_putF zshp 20 7 3, o_bad, o_bad, o_aload 21 0, o_con 23 (vI 8), o_bad, o_newa zshp 25 14 28 5938, o_bad, o_putF zshp 28 7 4, o_bad, o_bad, o_aload 29 0, o_con 31 (vI 8), o_bad, o_newa zshp 33 14 28 5938],
  [o_bad, o_putF zshp 36 7 5, o_bad, o_bad, o_aload 37 0, o_con 39 (vI 8), o_bad, o_newa zshp 41 14 28 5938, o_bad, o_putF zshp 44 7 6, o_bad, o_bad, o_aload 45 0, o_con 47 (vI 8), o_bad, o_newa zshp 49 14 28 5938],
  [o_bad, o_putF zshp 52 7 7, o_bad, o_bad, o_aload 53 0, o_con 55 (vI 8), o_bad, o_newa zshp 57 14 28 5938, o_bad, o_putF zshp 60 7 8, o_bad, o_bad, o_aload 61 0, o_con 63 (vI 8), o_bad, o_newa zshp 65 14 28 5938],
  [o_bad, o_putF zshp 68 7 9, o_bad, o_bad, o_aload 69 0, o_con 71 (vI 8), o_bad, o_newa zshp 73 14 28 5938, o_bad, o_putF zshp 76 7 10, o_bad, o_bad, o_aload 77 0, o_con 79 (vI 8), o_bad, o_newa zshp 81 14 28 5938],
  [o_bad, o_putF zshp 84 7 11, o_bad, o_bad, o_aload 85 0, o_con 87 (vI 16), o_bad, o_newa zshp 89 14 28 5938, o_bad, o_putF zshp 92 7 12, o_bad, o_bad, o_aload 93 0, o_con 95 (vI 16), o_bad, o_newa zshp 97 14 28 5938],
  [o_bad, o_putF zshp 100 7 13, o_bad, o_bad, o_aload 101 0, o_con 103 (vI 16), o_bad, o_newa zshp 105 14 28 5938, o_bad, o_putF zshp 108 7 14, o_bad, o_bad, o_aload 109 0, o_con 111 (vI 16), o_bad, o_newa zshp 113 14 28 5938],
  [o_bad, o_putF zshp 116 7 15, o_bad, o_bad, o_aload 117 0, o_new zshp 120 3 14 28 5938, o_bad, o_bad, o_dup 121, o_con 123 (vI 60), o_bad, o_inw zshp 126 179 2 3 0 2 13 4160 28 5938, o_bad, o_bad, o_putF zshp 129 7 16, o_bad],
  [o_bad, o_retm 28]]
/-- CallOpener$Program.clear()V -/
def k_211 : List (List zO) := [[o_aload 1 0, o_con 2 (vI 0), o_putI zshp 5 7 0, o_bad, o_bad, o_aload 6 0, o_con 7 (vI 0), o_putI zshp 10 7 1, o_bad, o_bad, o_aload 11 0, o_getF zshp 14 7 16, o_bad, o_bad, o_con 15 (vI 0), o_putI zshp 18 3 13],
  [o_bad, o_bad, o_ret]]
/-- CallOpener$Program.nameWith(II)I -/
def k_212 : List (List zO) := [[o_iload 1 0, o_con 2 (vI 5), o_ishl 3, o_iload 4 1, o_con 6 (vI 97), o_bad, o_isub 7, o_con 8 (vI 1), o_iadd 9, o_ior 10, o_iret]]
/-- CallOpener$Program.letter(II)I -/
def k_213 : List (List zO) := [[o_aload 1 0, o_getF zshp 4 7 3, o_bad, o_bad, o_iload 5 1, o_ald zshp 6 14, o_con 7 (vI 1), o_isub 8, o_iload 9 2, o_con 11 (vI 9), o_bad, o_isub 12, o_isub 13, o_istore 14 3, o_iload 15 2, o_con 17 (vI 9)],
  [o_bad, o_icmplt 20 24, o_bad, o_bad, o_iload 21 3, o_ifge 24 26, o_bad, o_bad, o_con 25 (vI (-1)), o_iret, o_aload 27 0, o_getF zshp 30 7 2, o_bad, o_bad, o_iload 31 1, o_ald zshp 32 14],
  [o_iload 33 3, o_con 34 (vI 5), o_imul 35, o_ishr 36, o_con 38 (vI 31), o_bad, o_iand 39, o_con 41 (vI 97), o_bad, o_iadd 42, o_con 43 (vI 1), o_isub 44, o_iret]]
/-- CallOpener$Program.gives(I)Z -/
def k_214 : List (List zO) := [[o_aload 1 0, o_getF zshp 4 7 10, o_bad, o_bad, o_iload 5 1, o_ald zshp 6 14, o_con 8 (vI (-2)), o_bad, o_icmpeq 11 15, o_bad, o_bad, o_con 12 (vI 1), o_goto 16, o_bad, o_bad, o_con 16 (vI 0)],
  [o_zret]]
/-- CallOpener$Program.functionNamed(I)I -/
def k_215 : List (List zO) := [[o_con 1 (vI 0), o_istore 2 2, o_iload 3 2, o_aload 4 0, o_getI zshp 7 7 0, o_bad, o_bad, o_icmpge 10 28, o_bad, o_bad, o_aload 11 0, o_getF zshp 14 7 2, o_bad, o_bad, o_iload 15 2, o_ald zshp 16 14],
  [o_iload 17 1, o_icmpne 20 22, o_bad, o_bad, o_iload 21 2, o_iret, o_iinc 25 2 1, o_bad, o_bad, o_goto 2, o_bad, o_bad, o_con 29 (vI (-1)), o_iret]]
/-- CallOpener$Program.comesToItself(I)Z -/
def k_216 : List (List zO) := [[o_aload 1 0, o_iload 2 1, o_inv zshp 5 217 2 7 1 4, o_bad, o_bad, o_istore 6 2, o_con 7 (vI 0), o_istore 8 3, o_iload 9 3, o_con 11 (vI 8), o_bad, o_icmpge 14 56, o_bad, o_bad, o_con 15 (vI 0), o_istore 17 4],
  [o_bad, o_iload 19 4, o_bad, o_aload 20 0, o_getI zshp 23 7 0, o_bad, o_bad, o_icmpge 26 50, o_bad, o_bad, o_iload 27 2, o_iload 29 4, o_bad, o_ishr 30, o_con 31 (vI 1), o_iand 32],
  [o_ifeq 35 44, o_bad, o_bad, o_iload 36 2, o_aload 37 0, o_iload 39 4, o_bad, o_inv zshp 42 217 2 7 1 4, o_bad, o_bad, o_ior 43, o_istore 44 2, o_iinc 47 4 1, o_bad, o_bad, o_goto 17],
  [o_bad, o_bad, o_iinc 53 3 1, o_bad, o_bad, o_goto 8, o_bad, o_bad, o_iload 57 2, o_iload 58 1, o_ishr 59, o_con 60 (vI 1), o_iand 61, o_ifeq 64 68, o_bad, o_bad],
  [o_con 65 (vI 1), o_goto 69, o_bad, o_bad, o_con 69 (vI 0), o_zret]]
/-- CallOpener$Program.calledBy(I)I -/
def k_217 : List (List zO) := [[o_con 1 (vI 0), o_istore 2 2, o_aload 3 0, o_getF zshp 6 7 8, o_bad, o_bad, o_iload 7 1, o_ald zshp 8 14, o_istore 9 3, o_iload 10 3, o_aload 11 0, o_getF zshp 14 7 8, o_bad, o_bad, o_iload 15 1, o_ald zshp 16 14],
  [o_aload 17 0, o_getF zshp 20 7 9, o_bad, o_bad, o_iload 21 1, o_ald zshp 22 14, o_iadd 23, o_icmpge 26 43, o_bad, o_bad, o_iload 27 2, o_con 28 (vI 1), o_aload 29 0, o_getF zshp 32 7 13, o_bad, o_bad],
  [o_iload 33 3, o_ald zshp 34 14, o_ishl 35, o_ior 36, o_istore 37 2, o_iinc 40 3 1, o_bad, o_bad, o_goto 9, o_bad, o_bad, o_iload 44 2, o_iret]]
/-- CallOpener$Program.changePlaces(II)V -/
def k_218 : List (List zO) := [[o_aload 1 0, o_getF zshp 4 7 2, o_bad, o_bad, o_iload 5 1, o_iload 6 2, o_inv zshp 9 33 3 99 0 4, o_bad, o_bad, o_aload 10 0, o_getF zshp 13 7 3, o_bad, o_bad, o_iload 14 1, o_iload 15 2, o_inv zshp 18 33 3 99 0 4],
  [o_bad, o_bad, o_aload 19 0, o_getF zshp 22 7 4, o_bad, o_bad, o_iload 23 1, o_iload 24 2, o_inv zshp 27 33 3 99 0 4, o_bad, o_bad, o_aload 28 0, o_getF zshp 31 7 5, o_bad, o_bad, o_iload 32 1],
  [o_iload 33 2, o_inv zshp 36 33 3 99 0 4, o_bad, o_bad, o_aload 37 0, o_getF zshp 40 7 6, o_bad, o_bad, o_iload 41 1, o_iload 42 2, o_inv zshp 45 33 3 99 0 4, o_bad, o_bad, o_aload 46 0, o_getF zshp 49 7 7, o_bad],
  [o_bad, o_iload 50 1, o_iload 51 2, o_inv zshp 54 33 3 99 0 4, o_bad, o_bad, o_aload 55 0, o_getF zshp 58 7 8, o_bad, o_bad, o_iload 59 1, o_iload 60 2, o_inv zshp 63 33 3 99 0 4, o_bad, o_bad, o_aload 64 0],
  [o_getF zshp 67 7 9, o_bad, o_bad, o_iload 68 1, o_iload 69 2, o_inv zshp 72 33 3 99 0 4, o_bad, o_bad, o_aload 73 0, o_getF zshp 76 7 10, o_bad, o_bad, o_iload 77 1, o_iload 78 2, o_inv zshp 81 33 3 99 0 4, o_bad],
  [o_bad, o_aload 82 0, o_getF zshp 85 7 11, o_bad, o_bad, o_iload 86 1, o_iload 87 2, o_inv zshp 90 33 3 99 0 4, o_bad, o_bad, o_con 91 (vI 0), o_istore 92 3, o_iload 93 3, o_aload 94 0, o_getI zshp 97 7 1, o_bad],
  [o_bad, o_icmpge 100 140, o_bad, o_bad, o_aload 101 0, o_getF zshp 104 7 12, o_bad, o_bad, o_iload 105 3, o_aload 106 0, o_getF zshp 109 7 12, o_bad, o_bad, o_iload 110 3, o_ald zshp 111 14, o_iload 112 1],
  [o_iload 113 2, o_inv zshp 116 219 3 99 1 3, o_bad, o_bad, o_iast zshp 117, o_aload 118 0, o_getF zshp 121 7 13, o_bad, o_bad, o_iload 122 3, o_aload 123 0, o_getF zshp 126 7 13, o_bad, o_bad, o_iload 127 3, o_ald zshp 128 14],
  [o_iload 129 1, o_iload 130 2, o_inv zshp 133 219 3 99 1 3, o_bad, o_bad, o_iast zshp 134, o_iinc 137 3 1, o_bad, o_bad, o_goto 92, o_bad, o_bad, o_ret]]
/-- CallOpener$Program.exchanged(III)I -/
def k_219 : List (List zO) := [[o_iload 1 0, o_iload 2 1, o_icmpne 5 9, o_bad, o_bad, o_iload 6 2, o_goto 19, o_bad, o_bad, o_iload 10 0, o_iload 11 2, o_icmpne 14 18, o_bad, o_bad, o_iload 15 1, o_goto 19],
  [o_bad, o_bad, o_iload 19 0, o_iret]]
/-- CallOpener$Reader.<init>(LCallOpener$Program;)V -/
def k_220 : List (List zO) := [[o_aload 1 0, o_obj 4, o_bad, o_bad, o_aload 5 0, o_con 8 (vI 401), o_bad, o_bad, o_newa zshp 10 14 9 1269, o_bad, o_putF zshp 13 8 0, o_bad, o_bad, o_aload 14 0, o_con 17 (vI 401), o_bad],
  [o_bad, o_newa zshp 19 14 9 1269, o_bad, o_putF zshp 22 8 1, o_bad, o_bad, o_aload 23 0, o_con 26 (vI 401), o_bad, o_bad, o_newa zshp 28 14 9 1269, o_bad, o_putF zshp 31 8 2, o_bad, o_bad, o_aload 32 0],
  [o_con 34 (vI 8), o_bad, o_newa zshp 36 14 9 1269, o_bad, o_putF zshp 39 8 10, o_bad, o_bad, o_aload 40 0, o_con 42 (vI 16), o_bad, o_newa zshp 44 14 9 1269, o_bad, o_putF zshp 47 8 11, o_bad, o_bad, o_aload 48 0],
  [o_con 50 (vI 16), o_bad, o_newa zshp 52 14 9 1269, o_bad, o_putF zshp 55 8 12, o_bad, o_bad, o_aload 56 0, o_con 58 (vI 16), o_bad, o_newa zshp 60 14 9 1269, o_bad, o_putF zshp 63 8 13, o_bad, o_bad, o_aload 64 0],
  [o_con 65 (vI 5), o_newa zshp 67 14 9 1269, o_bad, o_putF zshp 70 8 15, o_bad, o_bad, o_aload 71 0, o_con 72 (vI 5), o_newa zshp 74 14 9 1269, o_bad, o_putF zshp 77 8 16, o_bad, o_bad, o_aload 78 0, o_aload 79 1, o_putP zshp 82 8 8],
  [o_bad, o_bad, o_retm 9]]
/-- CallOpener$Reader.readProgram([IILCallOpener$Program;)I -/
def k_221 : List (List zO) := [[o_aload 1 0, o_aload 2 3, o_putP zshp 5 8 8, o_bad, o_bad, o_aload 6 0, o_getP zshp 9 8 8, o_bad, o_bad, o_inv zshp 12 211 1 7 0 1, o_bad, o_bad, o_aload 13 0, o_con 14 (vI 0), o_putI zshp 17 8 6, o_bad],
  [o_bad, o_aload 18 0, o_con 19 (vI 0), o_putI zshp 22 8 7, o_bad, o_bad, o_aload 23 0, o_con 24 (vI 0), o_putI zshp 27 8 4, o_bad, o_bad, o_aload 28 0, o_aload 29 1, o_iload 30 2, o_con 33 (vI 400), o_bad],
  [o_bad, o_inv zshp 36 280 2 99 1 2, o_bad, o_bad, o_inv zshp 39 222 3 8 0 6, o_bad, o_bad, o_con 40 (vI 1), o_istore 42 4, o_bad, o_con 43 (vI 0), o_istore 45 5, o_bad, o_iload 47 5, o_bad, o_con 49 (vI 8)],
  [o_bad, o_icmpgt 52 97, o_bad, o_bad, o_iload 54 4, o_bad, o_ifeq 57 97, o_bad, o_bad, o_aload 58 0, o_getF zshp 61 8 0, o_bad, o_bad, o_aload 62 0, o_getI zshp 65 8 4, o_bad],
  [o_bad, o_ald zshp 66 14, o_con 67 (vI (-1)), o_icmpeq 70 97, o_bad, o_bad, o_aload 71 0, o_inv zshp 74 229 1 8 1 2, o_bad, o_bad, o_ifeq 77 88, o_bad, o_bad, o_aload 78 0, o_inv zshp 81 235 1 8 1 3, o_bad],
  [o_bad, o_ifeq 84 88, o_bad, o_bad, o_con 85 (vI 1), o_goto 89, o_bad, o_bad, o_con 89 (vI 0), o_istore 91 4, o_bad, o_iinc 94 5 1, o_bad, o_bad, o_goto 45, o_bad],
  [o_bad, o_iload 99 4, o_bad, o_ifeq 102 106, o_bad, o_bad, o_aload 103 0, o_inv zshp 106 250 1 8 0 3, o_bad, o_bad, o_aload 107 0, o_getI zshp 110 8 6, o_bad, o_bad, o_ifne 113 117, o_bad],
  [o_bad, o_con 114 (vI 0), o_goto 130, o_bad, o_bad, o_con 120 (vI (-1000)), o_bad, o_bad, o_aload 121 0, o_getI zshp 124 8 6, o_bad, o_bad, o_imul 125, o_aload 126 0, o_getI zshp 129 8 7, o_bad],
  [o_bad, o_isub 130, o_iret]]
/-- CallOpener$Reader.takeTokens([II)V -/
def k_222 : List (List zO) := [[o_aload 1 0, o_con 2 (vI 0), o_putI zshp 5 8 3, o_bad, o_bad, o_con 6 (vI 0), o_istore 7 3, o_con 8 (vI 0), o_istore 10 4, o_bad, o_iload 12 4, o_bad, o_iload 13 2, o_icmpge 16 122, o_bad, o_bad],
  [o_iload 17 3, o_iload 18 2, o_icmpge 21 122, o_bad, o_bad, o_aload 22 1, o_iload 23 3, o_ald zshp 24 14, o_istore 26 5, o_bad, o_aload 27 0, o_getF zshp 30 8 1, o_bad, o_bad, o_aload 31 0, o_getI zshp 34 8 3],
  [o_bad, o_bad, o_iload 35 3, o_iast zshp 36, o_iload 38 5, o_bad, o_inv zshp 41 227 1 99 1 1, o_bad, o_bad, o_ifeq 44 55, o_bad, o_bad, o_aload 45 0, o_aload 46 1, o_iload 47 3, o_iload 48 2],
  [o_inv zshp 51 223 4 8 1 6, o_bad, o_bad, o_istore 52 3, o_goto 116, o_bad, o_bad, o_iload 57 5, o_bad, o_inv zshp 60 228 1 99 1 1, o_bad, o_bad, o_ifeq 63 74, o_bad, o_bad, o_aload 64 0],
  [o_aload 65 1, o_iload 66 3, o_iload 67 2, o_inv zshp 70 226 4 8 1 6, o_bad, o_bad, o_istore 71 3, o_goto 116, o_bad, o_bad, o_aload 75 0, o_getF zshp 78 8 0, o_bad, o_bad, o_aload 79 0, o_getI zshp 82 8 3],
  [o_bad, o_bad, o_iload 84 5, o_bad, o_iast zshp 85, o_aload 86 0, o_dup 87, o_getI zshp 90 8 3, o_bad, o_bad, o_iload 92 5, o_bad, o_con 94 (vI 32), o_bad, o_icmpeq 97 104, o_bad],
  [o_bad, o_iload 99 5, o_bad, o_con 101 (vI 10), o_bad, o_icmpne 104 108, o_bad, o_bad, o_con 105 (vI 0), o_goto 109, o_bad, o_bad, o_con 109 (vI 1), o_iadd 110, o_putI zshp 113 8 3, o_bad],
  [o_bad, o_iinc 116 3 1, o_bad, o_bad, o_iinc 119 4 1, o_bad, o_bad, o_goto 10, o_bad, o_bad, o_aload 123 0, o_getF zshp 126 8 1, o_bad, o_bad, o_aload 127 0, o_getI zshp 130 8 3],
  [o_bad, o_bad, o_iload 131 2, o_iast zshp 132, o_aload 133 0, o_getF zshp 136 8 0, o_bad, o_bad, o_aload 137 0, o_getI zshp 140 8 3, o_bad, o_bad, o_con 141 (vI (-1)), o_iast zshp 142, o_ret]]
/-- CallOpener$Reader.takeWord([III)I -/
def k_223 : List (List zO) := [[o_con 1 (vI 0), o_istore 3 4, o_bad, o_iload 4 2, o_istore 6 5, o_bad, o_iload 8 5, o_bad, o_iload 9 3, o_icmpge 12 39, o_bad, o_bad, o_aload 13 1, o_iload 15 5, o_bad, o_ald zshp 16 14],
  [o_inv zshp 19 227 1 99 1 1, o_bad, o_bad, o_ifeq 22 39, o_bad, o_bad, o_iload 24 4, o_bad, o_aload 25 1, o_iload 27 5, o_bad, o_ald zshp 28 14, o_inv zshp 31 212 2 99 1 2, o_bad, o_bad, o_istore 33 4],
  [o_bad, o_iinc 36 5 1, o_bad, o_bad, o_goto 6, o_bad, o_bad, o_aload 40 0, o_getF zshp 43 8 2, o_bad, o_bad, o_aload 44 0, o_getI zshp 47 8 3, o_bad, o_bad, o_iload 49 4],
  [o_bad, o_iast zshp 50, o_aload 51 0, o_getF zshp 54 8 0, o_bad, o_bad, o_aload 55 0, o_getI zshp 58 8 3, o_bad, o_bad, o_iload 60 5, o_bad, o_iload 61 2, o_isub 62, o_con 64 (vI 6), o_bad],
  [o_icmple 67 72, o_bad, o_bad, o_con 69 (vI (-3)), o_bad, o_goto 79, o_bad, o_bad, o_aload 73 1, o_iload 74 2, o_iload 76 5, o_bad, o_inv zshp 79 224 3 99 1 3, o_bad, o_bad, o_iast zshp 80],
  [o_aload 81 0, o_dup 82, o_getI zshp 85 8 3, o_bad, o_bad, o_con 86 (vI 1), o_iadd 87, o_putI zshp 90 8 3, o_bad, o_bad, o_iload 92 5, o_bad, o_iret]]
/-- CallOpener$Reader.sortOfWord([III)I -/
def k_224 : List (List zO) := [[o_con 2 (vR 5), o_bad, o_aload 3 0, o_iload 4 1, o_iload 5 2, o_inv zshp 8 225 4 99 1 5, o_bad, o_bad, o_ifeq 11 14, o_bad, o_bad, o_con 13 (vI (-5)), o_bad, o_iret, o_con 16 (vR 6), o_bad],
  [o_aload 17 0, o_iload 18 1, o_iload 19 2, o_inv zshp 22 225 4 99 1 5, o_bad, o_bad, o_ifeq 25 28, o_bad, o_bad, o_con 27 (vI (-6)), o_bad, o_iret, o_con 30 (vR 7), o_bad, o_aload 31 0, o_iload 32 1],
  [o_iload 33 2, o_inv zshp 36 225 4 99 1 5, o_bad, o_bad, o_ifeq 39 42, o_bad, o_bad, o_con 41 (vI (-7)), o_bad, o_iret, o_con 44 (vR 8), o_bad, o_aload 45 0, o_iload 46 1, o_iload 47 2, o_inv zshp 50 225 4 99 1 5],
  [o_bad, o_bad, o_ifeq 53 56, o_bad, o_bad, o_con 55 (vI (-8)), o_bad, o_iret, o_con 58 (vR 9), o_bad, o_aload 59 0, o_iload 60 1, o_iload 61 2, o_inv zshp 64 225 4 99 1 5, o_bad, o_bad],
  [o_ifeq 67 72, o_bad, o_bad, o_con 69 (vI (-9)), o_bad, o_goto 74, o_bad, o_bad, o_con 74 (vI (-2)), o_bad, o_iret]]
/-- CallOpener$Reader.isWord(Ljava/lang/String;[III)Z -/
def k_225 : List (List zO) := [[o_iload 1 3, o_iload 2 2, o_isub 3, o_aload 4 0, o_inv zshp 7 285 1 18 1 1, o_bad, o_bad, o_icmpeq 10 12, o_bad, o_bad, o_con 11 (vI 0), o_zret, o_con 13 (vI 0), o_istore 15 4, o_bad, o_iload 17 4],
  [o_bad, o_aload 18 0, o_inv zshp 21 285 1 18 1 1, o_bad, o_bad, o_icmpge 24 47, o_bad, o_bad, o_aload 25 1, o_iload 26 2, o_iload 28 4, o_bad, o_iadd 29, o_ald zshp 30 14, o_aload 31 0, o_iload 33 4],
  [o_bad, o_inv zshp 36 281 2 18 1 2, o_bad, o_bad, o_icmpeq 39 41, o_bad, o_bad, o_con 40 (vI 0), o_zret, o_iinc 44 4 1, o_bad, o_bad, o_goto 15, o_bad, o_bad, o_con 48 (vI 1)],
  [o_zret]]
/-- CallOpener$Reader.takeNumber([III)I -/
def k_226 : List (List zO) := [[o_con 1 (vI 0), o_istore 3 4, o_bad, o_iload 4 2, o_istore 6 5, o_bad, o_iload 8 5, o_bad, o_iload 9 3, o_icmpge 12 49, o_bad, o_bad, o_aload 13 1, o_iload 15 5, o_bad, o_ald zshp 16 14],
  [o_inv zshp 19 228 1 99 1 1, o_bad, o_bad, o_ifeq 22 49, o_bad, o_bad, o_iload 24 4, o_bad, o_con 26 (vI 10), o_bad, o_imul 27, o_aload 28 1, o_iload 30 5, o_bad, o_ald zshp 31 14, o_iadd 32],
  [o_con 34 (vI 48), o_bad, o_isub 35, o_con 38 (vI 1000), o_bad, o_bad, o_inv zshp 41 280 2 99 1 2, o_bad, o_bad, o_istore 43 4, o_bad, o_iinc 46 5 1, o_bad, o_bad, o_goto 6, o_bad],
  [o_bad, o_aload 50 0, o_getF zshp 53 8 2, o_bad, o_bad, o_aload 54 0, o_getI zshp 57 8 3, o_bad, o_bad, o_iload 59 4, o_bad, o_iast zshp 60, o_aload 61 0, o_getF zshp 64 8 0, o_bad, o_bad],
  [o_aload 65 0, o_getI zshp 68 8 3, o_bad, o_bad, o_con 70 (vI (-4)), o_bad, o_iast zshp 71, o_aload 72 0, o_dup 73, o_getI zshp 76 8 3, o_bad, o_bad, o_con 77 (vI 1), o_iadd 78, o_putI zshp 81 8 3, o_bad],
  [o_bad, o_iload 83 5, o_bad, o_iret]]
/-- CallOpener$Reader.isLetter(I)Z -/
def k_227 : List (List zO) := [[o_iload 1 0, o_con 3 (vI 97), o_bad, o_icmplt 6 16, o_bad, o_bad, o_iload 7 0, o_con 9 (vI 122), o_bad, o_icmpgt 12 16, o_bad, o_bad, o_con 13 (vI 1), o_goto 17, o_bad, o_bad],
  [o_con 17 (vI 0), o_zret]]
/-- CallOpener$Reader.isDigit(I)Z -/
def k_228 : List (List zO) := [[o_iload 1 0, o_con 3 (vI 48), o_bad, o_icmplt 6 16, o_bad, o_bad, o_iload 7 0, o_con 9 (vI 57), o_bad, o_icmpgt 12 16, o_bad, o_bad, o_con 13 (vI 1), o_goto 17, o_bad, o_bad],
  [o_con 17 (vI 0), o_zret]]
/-- CallOpener$Reader.readFunctionHead()Z -/
def k_229 : List (List zO) := [[o_aload 1 0, o_getF zshp 4 8 0, o_bad, o_bad, o_aload 5 0, o_getI zshp 8 8 4, o_bad, o_bad, o_ald zshp 9 14, o_con 11 (vI (-5)), o_bad, o_icmpeq 14 20, o_bad, o_bad, o_aload 15 0, o_con 16 (vI 1)],
  [o_inv zshp 19 251 2 8 1 2, o_bad, o_bad, o_zret, o_aload 21 0, o_getP zshp 24 8 8, o_bad, o_bad, o_getI zshp 27 7 0, o_bad, o_bad, o_con 29 (vI 8), o_bad, o_icmplt 32 38, o_bad, o_bad],
  [o_aload 33 0, o_con 34 (vI 4), o_inv zshp 37 251 2 8 1 2, o_bad, o_bad, o_zret, o_aload 39 0, o_dup 40, o_getI zshp 43 8 4, o_bad, o_bad, o_con 44 (vI 1), o_iadd 45, o_putI zshp 48 8 4, o_bad, o_bad],
  [o_aload 49 0, o_getF zshp 52 8 0, o_bad, o_bad, o_aload 53 0, o_getI zshp 56 8 4, o_bad, o_bad, o_ald zshp 57 14, o_con 59 (vI (-2)), o_bad, o_icmpeq 62 71, o_bad, o_bad, o_aload 63 0, o_aload 64 0],
  [o_inv zshp 67 252 1 8 1 1, o_bad, o_bad, o_inv zshp 70 251 2 8 1 2, o_bad, o_bad, o_zret, o_aload 72 0, o_getP zshp 75 8 8, o_bad, o_bad, o_aload 76 0, o_getF zshp 79 8 2, o_bad, o_bad, o_aload 80 0],
  [o_getI zshp 83 8 4, o_bad, o_bad, o_ald zshp 84 14, o_inv zshp 87 215 2 7 1 3, o_bad, o_bad, o_con 88 (vI (-1)), o_icmpeq 91 97, o_bad, o_bad, o_aload 92 0, o_con 93 (vI 5), o_inv zshp 96 251 2 8 1 2, o_bad, o_bad],
  [o_zret, o_aload 98 0, o_inv zshp 101 230 1 8 1 2, o_bad, o_bad, o_istore 102 1, o_aload 103 0, o_con 105 (vI 40), o_bad, o_inv zshp 108 253 2 8 1 2, o_bad, o_bad, o_ifeq 111 118, o_bad, o_bad, o_aload 112 0],
  [o_inv zshp 115 233 1 8 1 2, o_bad, o_bad, o_ifne 118 120, o_bad, o_bad, o_con 119 (vI 0), o_zret, o_aload 121 0, o_getP zshp 124 8 8, o_bad, o_bad, o_getF zshp 127 7 4, o_bad, o_bad, o_iload 128 1],
  [o_aload 129 0, o_getI zshp 132 8 9, o_bad, o_bad, o_iast zshp 133, o_aload 134 0, o_con 136 (vI 123), o_bad, o_inv zshp 139 253 2 8 1 2, o_bad, o_bad, o_zret]]
/-- CallOpener$Reader.beginFunction()I -/
def k_230 : List (List zO) := [[o_aload 1 0, o_getP zshp 4 8 8, o_bad, o_bad, o_getI zshp 7 7 0, o_bad, o_bad, o_istore 8 1, o_aload 9 0, o_getP zshp 12 8 8, o_bad, o_bad, o_dup 13, o_getI zshp 16 7 0, o_bad, o_bad],
  [o_con 17 (vI 1), o_iadd 18, o_putI zshp 21 7 0, o_bad, o_bad, o_aload 22 0, o_getP zshp 25 8 8, o_bad, o_bad, o_getF zshp 28 7 2, o_bad, o_bad, o_iload 29 1, o_aload 30 0, o_getF zshp 33 8 2, o_bad],
  [o_bad, o_aload 34 0, o_getI zshp 37 8 4, o_bad, o_bad, o_ald zshp 38 14, o_iast zshp 39, o_aload 40 0, o_getP zshp 43 8 8, o_bad, o_bad, o_getF zshp 46 7 3, o_bad, o_bad, o_iload 47 1, o_aload 48 0],
  [o_getF zshp 51 8 2, o_bad, o_bad, o_aload 52 0, o_getI zshp 55 8 4, o_bad, o_bad, o_ald zshp 56 14, o_inv zshp 59 231 1 99 1 3, o_bad, o_bad, o_iast zshp 60, o_aload 61 0, o_getP zshp 64 8 8, o_bad, o_bad],
  [o_getF zshp 67 7 6, o_bad, o_bad, o_iload 68 1, o_aload 69 0, o_getP zshp 72 8 8, o_bad, o_bad, o_getF zshp 75 7 16, o_bad, o_bad, o_getI zshp 78 3 13, o_bad, o_bad, o_iast zshp 79, o_aload 80 0],
  [o_getP zshp 83 8 8, o_bad, o_bad, o_getF zshp 86 7 8, o_bad, o_bad, o_iload 87 1, o_aload 88 0, o_getP zshp 91 8 8, o_bad, o_bad, o_getI zshp 94 7 1, o_bad, o_bad, o_iast zshp 95, o_aload 96 0],
  [o_getP zshp 99 8 8, o_bad, o_bad, o_getF zshp 102 7 10, o_bad, o_bad, o_iload 103 1, o_con 105 (vI (-2)), o_bad, o_iast zshp 106, o_aload 107 0, o_con 108 (vI 0), o_putI zshp 111 8 9, o_bad, o_bad, o_aload 112 0],
  [o_con 113 (vI 0), o_putI zshp 116 8 14, o_bad, o_bad, o_aload 117 0, o_dup 118, o_getI zshp 121 8 4, o_bad, o_bad, o_con 122 (vI 1), o_iadd 123, o_putI zshp 126 8 4, o_bad, o_bad, o_iload 127 1, o_iret]]
/-- CallOpener$Reader.lengthOfName(I)I -/
def k_231 : List (List zO) := [[o_con 1 (vI 0), o_istore 2 1, o_iload 3 0, o_istore 4 2, o_iload 5 2, o_ifle 8 18, o_bad, o_bad, o_iinc 11 1 1, o_bad, o_bad, o_iload 12 2, o_con 13 (vI 5), o_ishr 14, o_istore 15 2, o_goto 4],
  [o_bad, o_bad, o_iload 19 1, o_iret]]
/-- CallOpener$Reader.endFunction()V -/
def k_232 : List (List zO) := [[o_aload 1 0, o_getP zshp 4 8 8, o_bad, o_bad, o_getI zshp 7 7 0, o_bad, o_bad, o_con 8 (vI 1), o_isub 9, o_istore 10 1, o_aload 11 0, o_getP zshp 14 8 8, o_bad, o_bad, o_getF zshp 17 7 5, o_bad],
  [o_bad, o_iload 18 1, o_aload 19 0, o_getI zshp 22 8 9, o_bad, o_bad, o_iast zshp 23, o_aload 24 0, o_getP zshp 27 8 8, o_bad, o_bad, o_getF zshp 30 7 7, o_bad, o_bad, o_iload 31 1, o_aload 32 0],
  [o_getP zshp 35 8 8, o_bad, o_bad, o_getF zshp 38 7 16, o_bad, o_bad, o_getI zshp 41 3 13, o_bad, o_bad, o_aload 42 0, o_getP zshp 45 8 8, o_bad, o_bad, o_getF zshp 48 7 6, o_bad, o_bad],
  [o_iload 49 1, o_ald zshp 50 14, o_isub 51, o_iast zshp 52, o_aload 53 0, o_getP zshp 56 8 8, o_bad, o_bad, o_getF zshp 59 7 9, o_bad, o_bad, o_iload 60 1, o_aload 61 0, o_getP zshp 64 8 8, o_bad, o_bad],
  [o_getI zshp 67 7 1, o_bad, o_bad, o_aload 68 0, o_getP zshp 71 8 8, o_bad, o_bad, o_getF zshp 74 7 8, o_bad, o_bad, o_iload 75 1, o_ald zshp 76 14, o_isub 77, o_iast zshp 78, o_aload 79 0, o_getP zshp 82 8 8],
  [o_bad, o_bad, o_getF zshp 85 7 11, o_bad, o_bad, o_iload 86 1, o_aload 87 0, o_getP zshp 90 8 8, o_bad, o_bad, o_getF zshp 93 7 7, o_bad, o_bad, o_iload 94 1, o_ald zshp 95 14, o_aload 96 0],
  [o_getP zshp 99 8 8, o_bad, o_bad, o_iload 100 1, o_inv zshp 103 214 2 7 1 2, o_bad, o_bad, o_ifeq 106 110, o_bad, o_bad, o_con 107 (vI 1), o_goto 111, o_bad, o_bad, o_con 111 (vI 0), o_isub 112],
  [o_aload 113 0, o_getI zshp 116 8 9, o_bad, o_bad, o_iadd 117, o_iast zshp 118, o_aload 119 0, o_dup 120, o_getI zshp 123 8 4, o_bad, o_bad, o_con 124 (vI 1), o_iadd 125, o_putI zshp 128 8 4, o_bad, o_bad],
  [o_ret]]
/-- CallOpener$Reader.readParameters()Z -/
def k_233 : List (List zO) := [[o_con 1 (vI 0), o_istore 2 1, o_iload 3 1, o_con 4 (vI 3), o_icmpgt 7 49, o_bad, o_bad, o_aload 8 0, o_getF zshp 11 8 0, o_bad, o_bad, o_aload 12 0, o_getI zshp 15 8 4, o_bad, o_bad, o_ald zshp 16 14],
  [o_con 18 (vI 41), o_bad, o_icmpeq 21 49, o_bad, o_bad, o_iload 22 1, o_ifle 25 34, o_bad, o_bad, o_aload 26 0, o_con 28 (vI 44), o_bad, o_inv zshp 31 253 2 8 1 2, o_bad, o_bad, o_ifeq 34 41],
  [o_bad, o_bad, o_aload 35 0, o_inv zshp 38 234 1 8 1 2, o_bad, o_bad, o_ifne 41 43, o_bad, o_bad, o_con 42 (vI 0), o_zret, o_iinc 46 1 1, o_bad, o_bad, o_goto 2, o_bad],
  [o_bad, o_aload 50 0, o_con 52 (vI 41), o_bad, o_inv zshp 55 253 2 8 1 2, o_bad, o_bad, o_zret]]
/-- CallOpener$Reader.readParameter()Z -/
def k_234 : List (List zO) := [[o_aload 1 0, o_getF zshp 4 8 0, o_bad, o_bad, o_aload 5 0, o_getI zshp 8 8 4, o_bad, o_bad, o_ald zshp 9 14, o_con 11 (vI (-2)), o_bad, o_icmpeq 14 23, o_bad, o_bad, o_aload 15 0, o_aload 16 0],
  [o_inv zshp 19 252 1 8 1 1, o_bad, o_bad, o_inv zshp 22 251 2 8 1 2, o_bad, o_bad, o_zret, o_aload 24 0, o_getI zshp 27 8 9, o_bad, o_bad, o_con 28 (vI 3), o_icmplt 31 37, o_bad, o_bad, o_aload 32 0],
  [o_con 33 (vI 4), o_inv zshp 36 251 2 8 1 2, o_bad, o_bad, o_zret, o_aload 38 0, o_getI zshp 41 8 9, o_bad, o_bad, o_istore 42 1, o_aload 43 0, o_inv zshp 46 249 1 8 1 2, o_bad, o_bad, o_iload 47 1, o_icmpeq 50 56],
  [o_bad, o_bad, o_aload 51 0, o_con 52 (vI 5), o_inv zshp 55 251 2 8 1 2, o_bad, o_bad, o_zret, o_aload 57 0, o_dup 58, o_getI zshp 61 8 4, o_bad, o_bad, o_con 62 (vI 1), o_iadd 63, o_putI zshp 66 8 4],
  [o_bad, o_bad, o_con 67 (vI 1), o_zret]]
/-- CallOpener$Reader.readLines()Z -/
def k_235 : List (List zO) := [[o_con 1 (vI 0), o_istore 2 1, o_iload 3 1, o_con 6 (vI 400), o_bad, o_bad, o_icmpgt 9 75, o_bad, o_bad, o_aload 10 0, o_getF zshp 13 8 0, o_bad, o_bad, o_aload 14 0, o_getI zshp 17 8 4, o_bad],
  [o_bad, o_ald zshp 18 14, o_con 20 (vI 125), o_bad, o_icmpne 23 27, o_bad, o_bad, o_con 24 (vI 1), o_goto 28, o_bad, o_bad, o_con 28 (vI 0), o_istore 29 2, o_iload 30 2, o_ifeq 33 46, o_bad],
  [o_bad, o_aload 34 0, o_getI zshp 37 8 14, o_bad, o_bad, o_ifne 40 46, o_bad, o_bad, o_aload 41 0, o_inv zshp 44 232 1 8 0 2, o_bad, o_bad, o_con 45 (vI 1), o_zret, o_iload 47 2, o_ifeq 50 60],
  [o_bad, o_bad, o_aload 51 0, o_inv zshp 54 236 1 8 1 3, o_bad, o_bad, o_ifne 57 69, o_bad, o_bad, o_goto 67, o_bad, o_bad, o_aload 61 0, o_inv zshp 64 238 1 8 1 1, o_bad, o_bad],
  [o_ifne 67 69, o_bad, o_bad, o_con 68 (vI 0), o_zret, o_iinc 72 1 1, o_bad, o_bad, o_goto 2, o_bad, o_bad, o_aload 76 0, o_con 77 (vI 1), o_inv zshp 80 251 2 8 1 2, o_bad, o_bad],
  [o_zret]]
/-- CallOpener$Reader.closeBlock()Z -/
def k_236 : List (List zO) := [[o_aload 1 0, o_getF zshp 4 8 15, o_bad, o_bad, o_aload 5 0, o_getI zshp 8 8 14, o_bad, o_bad, o_ald zshp 9 14, o_istore 10 1, o_aload 11 0, o_getP zshp 14 8 8, o_bad, o_bad, o_getF zshp 17 7 16, o_bad],
  [o_bad, o_getF zshp 20 3 0, o_bad, o_bad, o_iload 21 1, o_ald zshp 22 14, o_con 24 (vI 7), o_bad, o_icmpne 27 43, o_bad, o_bad, o_aload 28 0, o_getF zshp 31 8 16, o_bad, o_bad, o_aload 32 0],
  [o_getI zshp 35 8 14, o_bad, o_bad, o_ald zshp 36 14, o_ifne 39 43, o_bad, o_bad, o_con 40 (vI 1), o_goto 44, o_bad, o_bad, o_con 44 (vI 0), o_istore 45 2, o_aload 46 0, o_dup 47, o_getI zshp 50 8 14],
  [o_bad, o_bad, o_con 51 (vI 1), o_isub 52, o_putI zshp 55 8 14, o_bad, o_bad, o_aload 56 0, o_dup 57, o_getI zshp 60 8 4, o_bad, o_bad, o_con 61 (vI 1), o_iadd 62, o_putI zshp 65 8 4, o_bad],
  [o_bad, o_iload 66 2, o_ifeq 69 83, o_bad, o_bad, o_aload 70 0, o_getF zshp 73 8 0, o_bad, o_bad, o_aload 74 0, o_getI zshp 77 8 4, o_bad, o_bad, o_ald zshp 78 14, o_con 80 (vI (-7)), o_bad],
  [o_icmpeq 83 85, o_bad, o_bad, o_con 84 (vI 1), o_zret, o_aload 86 0, o_getP zshp 89 8 8, o_bad, o_bad, o_getF zshp 92 7 16, o_bad, o_bad, o_getF zshp 95 3 8, o_bad, o_bad, o_iload 96 1],
  [o_con 97 (vI 1), o_iast zshp 98, o_aload 99 0, o_dup 100, o_getI zshp 103 8 4, o_bad, o_bad, o_con 104 (vI 1), o_iadd 105, o_putI zshp 108 8 4, o_bad, o_bad, o_aload 109 0, o_iload 110 1, o_con 111 (vI 1), o_inv zshp 114 237 3 8 1 3],
  [o_bad, o_bad, o_zret]]
/-- CallOpener$Reader.openBlock(II)Z -/
def k_237 : List (List zO) := [[o_aload 1 0, o_getF zshp 4 8 0, o_bad, o_bad, o_aload 5 0, o_getI zshp 8 8 4, o_bad, o_bad, o_ald zshp 9 14, o_con 11 (vI 123), o_bad, o_icmpeq 14 20, o_bad, o_bad, o_aload 15 0, o_con 16 (vI 1)],
  [o_inv zshp 19 251 2 8 1 2, o_bad, o_bad, o_zret, o_aload 21 0, o_getI zshp 24 8 14, o_bad, o_bad, o_con 25 (vI 1), o_iadd 26, o_con 27 (vI 5), o_icmplt 30 36, o_bad, o_bad, o_aload 31 0, o_con 32 (vI 4)],
  [o_inv zshp 35 251 2 8 1 2, o_bad, o_bad, o_zret, o_aload 37 0, o_dup 38, o_getI zshp 41 8 4, o_bad, o_bad, o_con 42 (vI 1), o_iadd 43, o_putI zshp 46 8 4, o_bad, o_bad, o_aload 47 0, o_dup 48],
  [o_getI zshp 51 8 14, o_bad, o_bad, o_con 52 (vI 1), o_iadd 53, o_putI zshp 56 8 14, o_bad, o_bad, o_aload 57 0, o_getF zshp 60 8 15, o_bad, o_bad, o_aload 61 0, o_getI zshp 64 8 14, o_bad, o_bad],
  [o_iload 65 1, o_iast zshp 66, o_aload 67 0, o_getF zshp 70 8 16, o_bad, o_bad, o_aload 71 0, o_getI zshp 74 8 14, o_bad, o_bad, o_iload 75 2, o_iast zshp 76, o_con 77 (vI 1), o_zret]]
/-- CallOpener$Reader.readLine()Z -/
def k_238 : List (List zO) := [[o_aload 1 0, o_getF zshp 4 8 0, o_bad, o_bad, o_aload 5 0, o_getI zshp 8 8 4, o_bad, o_bad, o_ald zshp 9 14, o_sw [((-9), 70), ((-8), 63), ((-7), 80), ((-6), 56), ((-5), 80), ((-4), 80), ((-3), 80), ((-2), 75)] 80, o_bad, o_bad, o_bad, o_bad, o_bad, o_bad],
  [o_bad, o_bad, o_bad, o_bad, o_bad, o_bad, o_bad, o_bad, o_bad, o_bad, o_bad, o_bad, o_bad, o_bad, o_bad, o_bad],
  [o_bad, o_bad, o_bad, o_bad, o_bad, o_bad, o_bad, o_bad, o_bad, o_bad, o_bad, o_bad, o_bad, o_bad, o_bad, o_bad],
  [o_bad, o_bad, o_bad, o_bad, o_bad, o_bad, o_bad, o_bad, o_aload 57 0, o_con 59 (vI 7), o_bad, o_inv zshp 62 240 2 8 1 3, o_bad, o_bad, o_zret, o_aload 64 0],
  [o_con 66 (vI 8), o_bad, o_inv zshp 69 240 2 8 1 3, o_bad, o_bad, o_zret, o_aload 71 0, o_inv zshp 74 241 1 8 1 2, o_bad, o_bad, o_zret, o_aload 76 0, o_inv zshp 79 242 1 8 1 3, o_bad, o_bad, o_zret],
  [o_aload 81 0, o_aload 82 0, o_inv zshp 85 252 1 8 1 1, o_bad, o_bad, o_inv zshp 88 251 2 8 1 2, o_bad, o_bad, o_zret]]
/-- CallOpener$Reader.addLine(I)I -/
def k_239 : List (List zO) := [[o_aload 1 0, o_getP zshp 4 8 8, o_bad, o_bad, o_getF zshp 7 7 16, o_bad, o_bad, o_iload 8 1, o_aload 9 0, o_getI zshp 12 8 14, o_bad, o_bad, o_aload 13 0, o_getI zshp 16 8 14, o_bad, o_bad],
  [o_ifne 19 23, o_bad, o_bad, o_con 20 (vI 0), o_goto 32, o_bad, o_bad, o_aload 24 0, o_getF zshp 27 8 16, o_bad, o_bad, o_aload 28 0, o_getI zshp 31 8 14, o_bad, o_bad, o_ald zshp 32 14],
  [o_inv zshp 35 180 4 3 1 5, o_bad, o_bad, o_iret]]
/-- CallOpener$Reader.readHead(I)Z -/
def k_240 : List (List zO) := [[o_aload 1 0, o_iload 2 1, o_inv zshp 5 239 2 8 1 2, o_bad, o_bad, o_istore 6 2, o_iload 7 2, o_con 8 (vI (-1)), o_icmpne 11 17, o_bad, o_bad, o_aload 12 0, o_con 13 (vI 4), o_inv zshp 16 251 2 8 1 2, o_bad, o_bad],
  [o_zret, o_aload 18 0, o_dup 19, o_getI zshp 22 8 4, o_bad, o_bad, o_con 23 (vI 1), o_iadd 24, o_putI zshp 27 8 4, o_bad, o_bad, o_aload 28 0, o_inv zshp 31 248 1 8 1 2, o_bad, o_bad, o_ifne 34 36],
  [o_bad, o_bad, o_con 35 (vI 0), o_zret, o_aload 37 0, o_getP zshp 40 8 8, o_bad, o_bad, o_getF zshp 43 7 16, o_bad, o_bad, o_getF zshp 46 3 2, o_bad, o_bad, o_iload 47 2, o_aload 48 0],
  [o_getI zshp 51 8 5, o_bad, o_bad, o_iast zshp 52, o_aload 53 0, o_iload 54 2, o_con 55 (vI 0), o_inv zshp 58 237 3 8 1 3, o_bad, o_bad, o_zret]]
/-- CallOpener$Reader.readGive()Z -/
def k_241 : List (List zO) := [[o_aload 1 0, o_getI zshp 4 8 14, o_bad, o_bad, o_ifeq 7 13, o_bad, o_bad, o_aload 8 0, o_con 9 (vI 1), o_inv zshp 12 251 2 8 1 2, o_bad, o_bad, o_zret, o_aload 14 0, o_con 16 (vI 9), o_bad],
  [o_inv zshp 19 239 2 8 1 2, o_bad, o_bad, o_istore 20 1, o_iload 21 1, o_con 22 (vI (-1)), o_icmpne 25 31, o_bad, o_bad, o_aload 26 0, o_con 27 (vI 4), o_inv zshp 30 251 2 8 1 2, o_bad, o_bad, o_zret, o_aload 32 0],
  [o_dup 33, o_getI zshp 36 8 4, o_bad, o_bad, o_con 37 (vI 1), o_iadd 38, o_putI zshp 41 8 4, o_bad, o_bad, o_aload 42 0, o_inv zshp 45 248 1 8 1 2, o_bad, o_bad, o_ifne 48 50, o_bad, o_bad],
  [o_con 49 (vI 0), o_zret, o_aload 51 0, o_getP zshp 54 8 8, o_bad, o_bad, o_getF zshp 57 7 16, o_bad, o_bad, o_getF zshp 60 3 2, o_bad, o_bad, o_iload 61 1, o_aload 62 0, o_getI zshp 65 8 5, o_bad],
  [o_bad, o_iast zshp 66, o_aload 67 0, o_getP zshp 70 8 8, o_bad, o_bad, o_getF zshp 73 7 10, o_bad, o_bad, o_aload 74 0, o_getP zshp 77 8 8, o_bad, o_bad, o_getI zshp 80 7 0, o_bad, o_bad],
  [o_con 81 (vI 1), o_isub 82, o_aload 83 0, o_getI zshp 86 8 5, o_bad, o_bad, o_iast zshp 87, o_aload 88 0, o_con 90 (vI 59), o_bad, o_inv zshp 93 253 2 8 1 2, o_bad, o_bad, o_ifeq 96 122, o_bad, o_bad],
  [o_aload 97 0, o_getF zshp 100 8 0, o_bad, o_bad, o_aload 101 0, o_getI zshp 104 8 4, o_bad, o_bad, o_ald zshp 105 14, o_con 107 (vI 125), o_bad, o_icmpeq 110 118, o_bad, o_bad, o_aload 111 0, o_con 112 (vI 1)],
  [o_inv zshp 115 251 2 8 1 2, o_bad, o_bad, o_ifeq 118 122, o_bad, o_bad, o_con 119 (vI 1), o_goto 123, o_bad, o_bad, o_con 123 (vI 0), o_zret]]
/-- CallOpener$Reader.readPut()Z -/
def k_242 : List (List zO) := [[o_aload 1 0, o_con 2 (vI 0), o_inv zshp 5 239 2 8 1 2, o_bad, o_bad, o_istore 6 1, o_aload 7 0, o_inv zshp 10 249 1 8 1 2, o_bad, o_bad, o_istore 11 2, o_iload 12 1, o_con 13 (vI (-1)), o_icmpeq 16 21, o_bad, o_bad],
  [o_iload 17 2, o_con 18 (vI (-1)), o_icmpne 21 27, o_bad, o_bad, o_aload 22 0, o_con 23 (vI 4), o_inv zshp 26 251 2 8 1 2, o_bad, o_bad, o_zret, o_aload 28 0, o_getP zshp 31 8 8, o_bad, o_bad, o_getF zshp 34 7 16],
  [o_bad, o_bad, o_getF zshp 37 3 1, o_bad, o_bad, o_iload 38 1, o_iload 39 2, o_iast zshp 40, o_aload 41 0, o_dup 42, o_getI zshp 45 8 4, o_bad, o_bad, o_con 46 (vI 1), o_iadd 47, o_putI zshp 50 8 4],
  [o_bad, o_bad, o_aload 51 0, o_con 53 (vI 61), o_bad, o_inv zshp 56 253 2 8 1 2, o_bad, o_bad, o_ifne 59 61, o_bad, o_bad, o_con 60 (vI 0), o_zret, o_aload 62 0, o_inv zshp 65 243 1 8 1 1, o_bad],
  [o_bad, o_ifeq 68 76, o_bad, o_bad, o_aload 69 0, o_iload 70 1, o_inv zshp 73 246 2 8 1 4, o_bad, o_bad, o_goto 81, o_bad, o_bad, o_aload 77 0, o_iload 78 1, o_inv zshp 81 244 2 8 1 3, o_bad],
  [o_bad, o_zret]]
/-- CallOpener$Reader.opensBehind()Z -/
def k_243 : List (List zO) := [[o_aload 1 0, o_getF zshp 4 8 0, o_bad, o_bad, o_aload 5 0, o_getI zshp 8 8 4, o_bad, o_bad, o_ald zshp 9 14, o_con 11 (vI (-2)), o_bad, o_icmpne 14 34, o_bad, o_bad, o_aload 15 0, o_getF zshp 18 8 0],
  [o_bad, o_bad, o_aload 19 0, o_getI zshp 22 8 4, o_bad, o_bad, o_con 23 (vI 1), o_iadd 24, o_ald zshp 25 14, o_con 27 (vI 40), o_bad, o_icmpne 30 34, o_bad, o_bad, o_con 31 (vI 1), o_goto 35],
  [o_bad, o_bad, o_con 35 (vI 0), o_zret]]
/-- CallOpener$Reader.readWork(I)Z -/
def k_244 : List (List zO) := [[o_aload 1 0, o_inv zshp 4 248 1 8 1 2, o_bad, o_bad, o_ifne 7 9, o_bad, o_bad, o_con 8 (vI 0), o_zret, o_aload 10 0, o_getP zshp 13 8 8, o_bad, o_bad, o_getF zshp 16 7 16, o_bad, o_bad],
  [o_getF zshp 19 3 2, o_bad, o_bad, o_iload 20 1, o_aload 21 0, o_getI zshp 24 8 5, o_bad, o_bad, o_iast zshp 25, o_aload 26 0, o_getF zshp 29 8 0, o_bad, o_bad, o_aload 30 0, o_getI zshp 33 8 4, o_bad],
  [o_bad, o_ald zshp 34 14, o_inv zshp 37 245 1 99 1 1, o_bad, o_bad, o_istore 38 2, o_iload 39 2, o_ifeq 42 90, o_bad, o_bad, o_aload 43 0, o_getP zshp 46 8 8, o_bad, o_bad, o_getF zshp 49 7 16, o_bad],
  [o_bad, o_getF zshp 52 3 0, o_bad, o_bad, o_iload 53 1, o_iload 54 2, o_iast zshp 55, o_aload 56 0, o_dup 57, o_getI zshp 60 8 4, o_bad, o_bad, o_con 61 (vI 1), o_iadd 62, o_putI zshp 65 8 4, o_bad],
  [o_bad, o_aload 66 0, o_inv zshp 69 248 1 8 1 2, o_bad, o_bad, o_ifne 72 74, o_bad, o_bad, o_con 73 (vI 0), o_zret, o_aload 75 0, o_getP zshp 78 8 8, o_bad, o_bad, o_getF zshp 81 7 16, o_bad],
  [o_bad, o_getF zshp 84 3 3, o_bad, o_bad, o_iload 85 1, o_aload 86 0, o_getI zshp 89 8 5, o_bad, o_bad, o_iast zshp 90, o_aload 91 0, o_con 93 (vI 59), o_bad, o_inv zshp 96 253 2 8 1 2, o_bad, o_bad],
  [o_zret]]
/-- CallOpener$Reader.kindOfSign(I)I -/
def k_245 : List (List zO) := [[o_iload 1 0, o_sw [(42, 56), (43, 52), (45, 54), (60, 58), (61, 60)] 62, o_bad, o_bad, o_bad, o_bad, o_bad, o_bad, o_bad, o_bad, o_bad, o_bad, o_bad, o_bad, o_bad, o_bad],
  [o_bad, o_bad, o_bad, o_bad, o_bad, o_bad, o_bad, o_bad, o_bad, o_bad, o_bad, o_bad, o_bad, o_bad, o_bad, o_bad],
  [o_bad, o_bad, o_bad, o_bad, o_bad, o_bad, o_bad, o_bad, o_bad, o_bad, o_bad, o_bad, o_bad, o_bad, o_bad, o_bad],
  [o_bad, o_bad, o_bad, o_bad, o_con 53 (vI 1), o_iret, o_con 55 (vI 2), o_iret, o_con 57 (vI 3), o_iret, o_con 59 (vI 4), o_iret, o_con 61 (vI 5), o_iret, o_con 63 (vI 0), o_iret]]
/-- CallOpener$Reader.readCall(I)Z -/
def k_246 : List (List zO) := [[o_aload 1 0, o_getP zshp 4 8 8, o_bad, o_bad, o_getI zshp 7 7 1, o_bad, o_bad, o_istore 8 2, o_iload 9 2, o_con 11 (vI 16), o_bad, o_icmplt 14 20, o_bad, o_bad, o_aload 15 0, o_con 16 (vI 4)],
  [o_inv zshp 19 251 2 8 1 2, o_bad, o_bad, o_zret, o_aload 21 0, o_iload 22 2, o_iload 23 1, o_inv zshp 26 247 3 8 0 3, o_bad, o_bad, o_aload 27 0, o_con 29 (vI 40), o_bad, o_inv zshp 32 253 2 8 1 2, o_bad, o_bad],
  [o_ifne 35 37, o_bad, o_bad, o_con 36 (vI 0), o_zret, o_con 38 (vI 0), o_istore 39 3, o_iload 40 3, o_con 43 (vI 400), o_bad, o_bad, o_icmpgt 46 137, o_bad, o_bad, o_aload 47 0, o_getF zshp 50 8 0],
  [o_bad, o_bad, o_aload 51 0, o_getI zshp 54 8 4, o_bad, o_bad, o_ald zshp 55 14, o_con 57 (vI 41), o_bad, o_icmpeq 60 137, o_bad, o_bad, o_iload 61 3, o_ifle 64 73, o_bad, o_bad],
  [o_aload 65 0, o_con 67 (vI 44), o_bad, o_inv zshp 70 253 2 8 1 2, o_bad, o_bad, o_ifeq 73 80, o_bad, o_bad, o_aload 74 0, o_inv zshp 77 248 1 8 1 2, o_bad, o_bad, o_ifne 80 82, o_bad, o_bad],
  [o_con 81 (vI 0), o_zret, o_aload 83 0, o_getP zshp 86 8 8, o_bad, o_bad, o_getF zshp 89 7 16, o_bad, o_bad, o_iload 90 1, o_iload 91 3, o_aload 92 0, o_getI zshp 95 8 5, o_bad, o_bad, o_inv zshp 98 183 4 3 0 4],
  [o_bad, o_bad, o_aload 99 0, o_getP zshp 102 8 8, o_bad, o_bad, o_getF zshp 105 7 15, o_bad, o_bad, o_iload 106 2, o_dup2 107, o_ald zshp 108 14, o_aload 109 0, o_getI zshp 112 8 5, o_bad, o_bad],
  [o_iflt 115 119, o_bad, o_bad, o_con 116 (vI 1), o_goto 120, o_bad, o_bad, o_con 120 (vI 0), o_iadd 121, o_iast zshp 122, o_aload 123 0, o_getF zshp 126 8 13, o_bad, o_bad, o_iload 127 2, o_iload 128 3],
  [o_con 129 (vI 1), o_iadd 130, o_iast zshp 131, o_iinc 134 3 1, o_bad, o_bad, o_goto 39, o_bad, o_bad, o_aload 138 0, o_con 140 (vI 41), o_bad, o_inv zshp 143 253 2 8 1 2, o_bad, o_bad, o_ifeq 146 159],
  [o_bad, o_bad, o_aload 147 0, o_con 149 (vI 59), o_bad, o_inv zshp 152 253 2 8 1 2, o_bad, o_bad, o_ifeq 155 159, o_bad, o_bad, o_con 156 (vI 1), o_goto 160, o_bad, o_bad, o_con 160 (vI 0)],
  [o_zret]]
/-- CallOpener$Reader.beginSite(II)V -/
def k_247 : List (List zO) := [[o_aload 1 0, o_getP zshp 4 8 8, o_bad, o_bad, o_dup 5, o_getI zshp 8 7 1, o_bad, o_bad, o_con 9 (vI 1), o_iadd 10, o_putI zshp 13 7 1, o_bad, o_bad, o_aload 14 0, o_getP zshp 17 8 8, o_bad],
  [o_bad, o_getF zshp 20 7 12, o_bad, o_bad, o_iload 21 1, o_aload 22 0, o_getP zshp 25 8 8, o_bad, o_bad, o_getI zshp 28 7 0, o_bad, o_bad, o_con 29 (vI 1), o_isub 30, o_iast zshp 31, o_aload 32 0],
  [o_getP zshp 35 8 8, o_bad, o_bad, o_getF zshp 38 7 14, o_bad, o_bad, o_iload 39 1, o_iload 40 2, o_iast zshp 41, o_aload 42 0, o_getP zshp 45 8 8, o_bad, o_bad, o_getF zshp 48 7 15, o_bad, o_bad],
  [o_iload 49 1, o_con 50 (vI 0), o_iast zshp 51, o_aload 52 0, o_getP zshp 55 8 8, o_bad, o_bad, o_getF zshp 58 7 16, o_bad, o_bad, o_getF zshp 61 3 0, o_bad, o_bad, o_iload 62 2, o_con 64 (vI 6), o_bad],
  [o_iast zshp 65, o_aload 66 0, o_getP zshp 69 8 8, o_bad, o_bad, o_getF zshp 72 7 16, o_bad, o_bad, o_getF zshp 75 3 5, o_bad, o_bad, o_iload 76 2, o_iload 77 1, o_iast zshp 78, o_aload 79 0, o_getF zshp 82 8 11],
  [o_bad, o_bad, o_iload 83 1, o_aload 84 0, o_getF zshp 87 8 2, o_bad, o_bad, o_aload 88 0, o_getI zshp 91 8 4, o_bad, o_bad, o_ald zshp 92 14, o_iast zshp 93, o_aload 94 0, o_getF zshp 97 8 12, o_bad],
  [o_bad, o_iload 98 1, o_aload 99 0, o_getF zshp 102 8 1, o_bad, o_bad, o_aload 103 0, o_getI zshp 106 8 4, o_bad, o_bad, o_ald zshp 107 14, o_iast zshp 108, o_aload 109 0, o_getF zshp 112 8 13, o_bad, o_bad],
  [o_iload 113 1, o_con 114 (vI 0), o_iast zshp 115, o_aload 116 0, o_dup 117, o_getI zshp 120 8 4, o_bad, o_bad, o_con 121 (vI 1), o_iadd 122, o_putI zshp 125 8 4, o_bad, o_bad, o_ret]]
/-- CallOpener$Reader.readOperand()Z -/
def k_248 : List (List zO) := [[o_aload 1 0, o_getF zshp 4 8 0, o_bad, o_bad, o_aload 5 0, o_getI zshp 8 8 4, o_bad, o_bad, o_ald zshp 9 14, o_con 11 (vI (-4)), o_bad, o_icmpne 14 51, o_bad, o_bad, o_aload 15 0, o_getF zshp 18 8 2],
  [o_bad, o_bad, o_aload 19 0, o_getI zshp 22 8 4, o_bad, o_bad, o_ald zshp 23 14, o_con 26 (vI 999), o_bad, o_bad, o_icmple 29 35, o_bad, o_bad, o_aload 30 0, o_con 31 (vI 3), o_inv zshp 34 251 2 8 1 2],
  [o_bad, o_bad, o_zret, o_aload 36 0, o_aload 37 0, o_getF zshp 40 8 2, o_bad, o_bad, o_aload 41 0, o_getI zshp 44 8 4, o_bad, o_bad, o_ald zshp 45 14, o_putI zshp 48 8 5, o_bad, o_bad],
  [o_goto 101, o_bad, o_bad, o_aload 52 0, o_getF zshp 55 8 0, o_bad, o_bad, o_aload 56 0, o_getI zshp 59 8 4, o_bad, o_bad, o_ald zshp 60 14, o_con 62 (vI (-2)), o_bad, o_icmpne 65 92, o_bad],
  [o_bad, o_aload 66 0, o_inv zshp 69 249 1 8 1 2, o_bad, o_bad, o_istore 70 1, o_iload 71 1, o_con 72 (vI (-1)), o_icmpne 75 81, o_bad, o_bad, o_aload 76 0, o_con 77 (vI 4), o_inv zshp 80 251 2 8 1 2, o_bad, o_bad],
  [o_zret, o_aload 82 0, o_con 84 (vI (-10)), o_bad, o_iload 85 1, o_isub 86, o_putI zshp 89 8 5, o_bad, o_bad, o_goto 101, o_bad, o_bad, o_aload 93 0, o_aload 94 0, o_inv zshp 97 252 1 8 1 1, o_bad],
  [o_bad, o_inv zshp 100 251 2 8 1 2, o_bad, o_bad, o_zret, o_aload 102 0, o_dup 103, o_getI zshp 106 8 4, o_bad, o_bad, o_con 107 (vI 1), o_iadd 108, o_putI zshp 111 8 4, o_bad, o_bad, o_con 112 (vI 1)],
  [o_zret]]
/-- CallOpener$Reader.variableHere()I -/
def k_249 : List (List zO) := [[o_con 1 (vI 0), o_istore 2 1, o_iload 3 1, o_aload 4 0, o_getI zshp 7 8 9, o_bad, o_bad, o_icmpge 10 36, o_bad, o_bad, o_aload 11 0, o_getF zshp 14 8 10, o_bad, o_bad, o_iload 15 1, o_ald zshp 16 14],
  [o_aload 17 0, o_getF zshp 20 8 2, o_bad, o_bad, o_aload 21 0, o_getI zshp 24 8 4, o_bad, o_bad, o_ald zshp 25 14, o_icmpne 28 30, o_bad, o_bad, o_iload 29 1, o_iret, o_iinc 33 1 1, o_bad],
  [o_bad, o_goto 2, o_bad, o_bad, o_aload 37 0, o_getI zshp 40 8 9, o_bad, o_bad, o_con 42 (vI 8), o_bad, o_icmplt 45 47, o_bad, o_bad, o_con 46 (vI (-1)), o_iret, o_aload 48 0],
  [o_getF zshp 51 8 10, o_bad, o_bad, o_aload 52 0, o_getI zshp 55 8 9, o_bad, o_bad, o_aload 56 0, o_getF zshp 59 8 2, o_bad, o_bad, o_aload 60 0, o_getI zshp 63 8 4, o_bad, o_bad, o_ald zshp 64 14],
  [o_iast zshp 65, o_aload 66 0, o_dup 67, o_getI zshp 70 8 9, o_bad, o_bad, o_con 71 (vI 1), o_iadd 72, o_putI zshp 75 8 9, o_bad, o_bad, o_aload 76 0, o_getI zshp 79 8 9, o_bad, o_bad, o_con 80 (vI 1)],
  [o_isub 81, o_iret]]
/-- CallOpener$Reader.findCalled()V -/
def k_250 : List (List zO) := [[o_con 1 (vI 0), o_istore 2 1, o_iload 3 1, o_aload 4 0, o_getP zshp 7 8 8, o_bad, o_bad, o_getI zshp 10 7 1, o_bad, o_bad, o_icmpge 13 83, o_bad, o_bad, o_aload 14 0, o_getP zshp 17 8 8, o_bad],
  [o_bad, o_aload 18 0, o_getF zshp 21 8 11, o_bad, o_bad, o_iload 22 1, o_ald zshp 23 14, o_inv zshp 26 215 2 7 1 3, o_bad, o_bad, o_istore 27 2, o_iload 28 2, o_con 29 (vI (-1)), o_icmpeq 32 50, o_bad, o_bad],
  [o_aload 33 0, o_getP zshp 36 8 8, o_bad, o_bad, o_getF zshp 39 7 4, o_bad, o_bad, o_iload 40 2, o_ald zshp 41 14, o_aload 42 0, o_getF zshp 45 8 13, o_bad, o_bad, o_iload 46 1, o_ald zshp 47 14, o_icmpeq 50 67],
  [o_bad, o_bad, o_aload 51 0, o_con 53 (vI 6), o_bad, o_putI zshp 56 8 6, o_bad, o_bad, o_aload 57 0, o_aload 58 0, o_getF zshp 61 8 12, o_bad, o_bad, o_iload 62 1, o_ald zshp 63 14, o_putI zshp 66 8 7],
  [o_bad, o_bad, o_ret, o_aload 68 0, o_getP zshp 71 8 8, o_bad, o_bad, o_getF zshp 74 7 13, o_bad, o_bad, o_iload 75 1, o_iload 76 2, o_iast zshp 77, o_iinc 80 1 1, o_bad, o_bad],
  [o_goto 2, o_bad, o_bad, o_ret]]
/-- CallOpener$Reader.wrong(I)Z -/
def k_251 : List (List zO) := [[o_aload 1 0, o_iload 2 1, o_putI zshp 5 8 6, o_bad, o_bad, o_aload 6 0, o_aload 7 0, o_getF zshp 10 8 1, o_bad, o_bad, o_aload 11 0, o_getI zshp 14 8 4, o_bad, o_bad, o_ald zshp 15 14, o_putI zshp 18 8 7],
  [o_bad, o_bad, o_con 19 (vI 0), o_zret]]
/-- CallOpener$Reader.faultOfNoName()I -/
def k_252 : List (List zO) := [[o_aload 1 0, o_getF zshp 4 8 0, o_bad, o_bad, o_aload 5 0, o_getI zshp 8 8 4, o_bad, o_bad, o_ald zshp 9 14, o_con 11 (vI (-3)), o_bad, o_icmpne 14 18, o_bad, o_bad, o_con 15 (vI 2), o_goto 19],
  [o_bad, o_bad, o_con 19 (vI 1), o_iret]]
/-- CallOpener$Reader.takeSign(C)Z -/
def k_253 : List (List zO) := [[o_aload 1 0, o_getF zshp 4 8 0, o_bad, o_bad, o_aload 5 0, o_getI zshp 8 8 4, o_bad, o_bad, o_ald zshp 9 14, o_iload 10 1, o_icmpeq 13 19, o_bad, o_bad, o_aload 14 0, o_con 15 (vI 1), o_inv zshp 18 251 2 8 1 2],
  [o_bad, o_bad, o_zret, o_aload 20 0, o_dup 21, o_getI zshp 24 8 4, o_bad, o_bad, o_con 25 (vI 1), o_iadd 26, o_putI zshp 29 8 4, o_bad, o_bad, o_con 30 (vI 1), o_zret]]
/-- CallOpener$Result.<init>(LCallOpener$Program;)V -/
def k_254 : List (List zO) := [[o_aload 1 0, o_obj 4, o_bad, o_bad, o_aload 5 0, o_new zshp 8 3 14 14 4274, o_bad, o_bad, o_dup 9, o_con 12 (vI 320), o_bad, o_bad, o_inw zshp 15 179 2 3 0 2 13 4160 14 4274, o_bad, o_bad, o_putF zshp 18 9 0],
  [o_bad, o_bad, o_aload 19 0, o_aload 20 1, o_putP zshp 23 9 3, o_bad, o_bad, o_retm 14]]
/-- CallOpener$Result.write(LCallOpener$Program;LCallOpener$Tree;)V -/
def k_255 : List (List zO) := [[o_aload 1 0, o_aload 2 1, o_putP zshp 5 9 3, o_bad, o_bad, o_aload 6 0, o_getF zshp 9 9 0, o_bad, o_bad, o_con 10 (vI 0), o_putI zshp 13 3 13, o_bad, o_bad, o_aload 14 2, o_getF zshp 17 10 0, o_bad],
  [o_bad, o_con 18 (vI 0), o_aald zshp 19, o_getI zshp 22 1 1, o_bad, o_bad, o_istore 23 3, o_aload 24 0, o_aload 25 0, o_getP zshp 28 9 3, o_bad, o_bad, o_getF zshp 31 7 4, o_bad, o_bad, o_iload 32 3],
  [o_ald zshp 33 14, o_putI zshp 36 9 2, o_bad, o_bad, o_aload 37 0, o_aload 38 0, o_getP zshp 41 9 3, o_bad, o_bad, o_getF zshp 44 7 5, o_bad, o_bad, o_iload 45 3, o_ald zshp 46 14, o_putI zshp 49 9 1, o_bad],
  [o_bad, o_aload 50 0, o_aload 51 2, o_aload 52 2, o_getF zshp 55 10 0, o_bad, o_bad, o_con 56 (vI 0), o_aald zshp 57, o_con 58 (vI 0), o_con 59 (vI 0), o_con 60 (vI 0), o_inv zshp 63 256 6 9 0 12, o_bad, o_bad, o_ret]]
/-- CallOpener$Result.writeNode(LCallOpener$Tree;LCallOpener$Call;III)V -/
def k_256 : List (List zO) := [[o_aload 1 2, o_getI zshp 4 1 3, o_bad, o_bad, o_con 6 (vI 40), o_bad, o_icmple 9 10, o_bad, o_bad, o_ret, o_aload 11 0, o_getP zshp 14 9 3, o_bad, o_bad, o_getF zshp 17 7 16, o_bad],
  [o_bad, o_astore 19 6, o_bad, o_aload 20 2, o_getI zshp 23 1 1, o_bad, o_bad, o_istore 25 7, o_bad, o_aload 26 0, o_getP zshp 29 9 3, o_bad, o_bad, o_getF zshp 32 7 6, o_bad, o_bad],
  [o_iload 34 7, o_bad, o_ald zshp 35 14, o_istore 37 8, o_bad, o_iload 39 8, o_bad, o_aload 40 0, o_getP zshp 43 9 3, o_bad, o_bad, o_getF zshp 46 7 6, o_bad, o_bad, o_iload 48 7, o_bad],
  [o_ald zshp 49 14, o_aload 50 0, o_getP zshp 53 9 3, o_bad, o_bad, o_getF zshp 56 7 7, o_bad, o_bad, o_iload 58 7, o_bad, o_ald zshp 59 14, o_iadd 60, o_icmpge 63 223, o_bad, o_bad, o_iload 65 4],
  [o_bad, o_aload 67 6, o_bad, o_getF zshp 70 3 6, o_bad, o_bad, o_iload 72 8, o_bad, o_ald zshp 73 14, o_iadd 74, o_istore 76 9, o_bad, o_aload 78 6, o_bad, o_getF zshp 81 3 6, o_bad],
  [o_bad, o_iload 83 8, o_bad, o_ald zshp 84 14, o_ifne 87 92, o_bad, o_bad, o_iload 89 5, o_bad, o_goto 100, o_bad, o_bad, o_aload 94 6, o_bad, o_getF zshp 97 3 7, o_bad],
  [o_bad, o_iload 99 8, o_bad, o_ald zshp 100 14, o_istore 102 10, o_bad, o_aload 103 2, o_getI zshp 106 1 5, o_bad, o_bad, o_aload 108 6, o_bad, o_getF zshp 111 3 5, o_bad, o_bad, o_iload 113 8],
  [o_bad, o_ald zshp 114 14, o_iadd 115, o_aload 116 0, o_getP zshp 119 9 3, o_bad, o_bad, o_getF zshp 122 7 8, o_bad, o_bad, o_iload 124 7, o_bad, o_ald zshp 125 14, o_isub 126, o_istore 128 11, o_bad],
  [o_aload 130 6, o_bad, o_getF zshp 133 3 0, o_bad, o_bad, o_iload 135 8, o_bad, o_ald zshp 136 14, o_con 138 (vI 6), o_bad, o_icmpne 141 186, o_bad, o_bad, o_iload 143 11, o_bad, o_aload 144 1],
  [o_getF zshp 147 10 0, o_bad, o_bad, o_alen zshp 148 17, o_icmpge 151 186, o_bad, o_bad, o_aload 152 1, o_getF zshp 155 10 0, o_bad, o_bad, o_iload 157 11, o_bad, o_aald zshp 158, o_getI zshp 161 1 6, o_bad],
  [o_bad, o_ifeq 164 186, o_bad, o_bad, o_aload 165 0, o_aload 166 1, o_aload 167 1, o_getF zshp 170 10 0, o_bad, o_bad, o_iload 172 11, o_bad, o_aald zshp 173, o_iload 175 8, o_bad, o_iload 176 3],
  [o_iload 178 9, o_bad, o_iload 180 10, o_bad, o_inv zshp 183 257 7 9 0 11, o_bad, o_bad, o_goto 217, o_bad, o_bad, o_aload 188 6, o_bad, o_getF zshp 191 3 0, o_bad, o_bad, o_iload 193 8],
  [o_bad, o_ald zshp 194 14, o_con 196 (vI 9), o_bad, o_icmpne 199 206, o_bad, o_bad, o_aload 200 2, o_getI zshp 203 1 3, o_bad, o_bad, o_ifne 206 217, o_bad, o_bad, o_aload 207 0, o_iload 209 8],
  [o_bad, o_iload 210 3, o_iload 212 9, o_bad, o_iload 214 10, o_bad, o_inv zshp 217 259 5 9 0 7, o_bad, o_bad, o_iinc 220 8 1, o_bad, o_bad, o_goto 37, o_bad, o_bad, o_ret]]
/-- CallOpener$Result.writeOpened(LCallOpener$Tree;LCallOpener$Call;IIII)V -/
def k_257 : List (List zO) := [[o_aload 1 2, o_getI zshp 4 1 1, o_bad, o_bad, o_istore 6 7, o_bad, o_aload 7 0, o_getI zshp 10 9 1, o_bad, o_bad, o_istore 12 8, o_bad, o_aload 13 0, o_dup 14, o_getI zshp 17 9 1, o_bad],
  [o_bad, o_aload 18 0, o_getP zshp 21 9 3, o_bad, o_bad, o_getF zshp 24 7 5, o_bad, o_bad, o_iload 26 7, o_bad, o_ald zshp 27 14, o_iadd 28, o_putI zshp 31 9 1, o_bad, o_bad, o_con 32 (vI 0)],
  [o_istore 34 9, o_bad, o_iload 36 9, o_bad, o_aload 37 0, o_getP zshp 40 9 3, o_bad, o_bad, o_getF zshp 43 7 5, o_bad, o_bad, o_iload 45 7, o_bad, o_ald zshp 46 14, o_icmpge 49 109, o_bad],
  [o_bad, o_iload 51 9, o_bad, o_aload 52 0, o_getP zshp 55 9 3, o_bad, o_bad, o_getF zshp 58 7 4, o_bad, o_bad, o_iload 60 7, o_bad, o_ald zshp 61 14, o_icmpge 64 85, o_bad, o_bad],
  [o_aload 65 0, o_getP zshp 68 9 3, o_bad, o_bad, o_getF zshp 71 7 16, o_bad, o_bad, o_iload 72 3, o_iload 74 9, o_bad, o_inv zshp 77 182 3 3 1 3, o_bad, o_bad, o_iload 79 4, o_bad, o_inv zshp 82 260 2 99 1 2],
  [o_bad, o_bad, o_goto 86, o_bad, o_bad, o_con 86 (vI 0), o_istore 88 10, o_bad, o_aload 89 0, o_iload 91 8, o_bad, o_iload 93 9, o_bad, o_iadd 94, o_iload 96 10, o_bad],
  [o_iload 98 5, o_bad, o_iload 100 6, o_bad, o_inv zshp 103 258 5 9 0 6, o_bad, o_bad, o_iinc 106 9 1, o_bad, o_bad, o_goto 34, o_bad, o_bad, o_aload 110 0, o_aload 111 1, o_aload 112 2],
  [o_iload 114 8, o_bad, o_iload 116 5, o_bad, o_iload 118 6, o_bad, o_inv zshp 121 256 6 9 0 12, o_bad, o_bad, o_aload 122 0, o_getP zshp 125 9 3, o_bad, o_bad, o_iload 127 7, o_bad, o_inv zshp 130 214 2 7 1 2],
  [o_bad, o_bad, o_ifeq 133 151, o_bad, o_bad, o_aload 134 0, o_getP zshp 137 9 3, o_bad, o_bad, o_getF zshp 140 7 10, o_bad, o_bad, o_iload 142 7, o_bad, o_ald zshp 143 14, o_iload 145 8],
  [o_bad, o_inv zshp 148 260 2 99 1 2, o_bad, o_bad, o_goto 152, o_bad, o_bad, o_con 152 (vI 0), o_istore 154 9, o_bad, o_aload 155 0, o_aload 156 0, o_getP zshp 159 9 3, o_bad, o_bad, o_getF zshp 162 7 16],
  [o_bad, o_bad, o_getF zshp 165 3 1, o_bad, o_bad, o_iload 166 3, o_ald zshp 167 14, o_iload 169 4, o_bad, o_iadd 170, o_iload 172 9, o_bad, o_iload 174 5, o_bad, o_iload 176 6, o_bad],
  [o_inv zshp 179 258 5 9 0 6, o_bad, o_bad, o_ret]]
/-- CallOpener$Result.writeCopy(IIII)V -/
def k_258 : List (List zO) := [[o_aload 1 0, o_getF zshp 4 9 0, o_bad, o_bad, o_con 5 (vI 0), o_iload 6 3, o_iload 8 4, o_bad, o_inv zshp 11 180 4 3 1 5, o_bad, o_bad, o_istore 13 5, o_bad, o_iload 15 5, o_bad, o_con 16 (vI (-1))],
  [o_icmpeq 19 41, o_bad, o_bad, o_aload 20 0, o_getF zshp 23 9 0, o_bad, o_bad, o_getF zshp 26 3 1, o_bad, o_bad, o_iload 28 5, o_bad, o_iload 29 1, o_iast zshp 30, o_aload 31 0, o_getF zshp 34 9 0],
  [o_bad, o_bad, o_getF zshp 37 3 2, o_bad, o_bad, o_iload 39 5, o_bad, o_iload 40 2, o_iast zshp 41, o_ret]]
/-- CallOpener$Result.copyLine(IIII)V -/
def k_259 : List (List zO) := [[o_aload 1 0, o_getP zshp 4 9 3, o_bad, o_bad, o_getF zshp 7 7 16, o_bad, o_bad, o_astore 9 5, o_bad, o_aload 10 0, o_getF zshp 13 9 0, o_bad, o_bad, o_aload 15 5, o_bad, o_getF zshp 18 3 0],
  [o_bad, o_bad, o_iload 19 1, o_ald zshp 20 14, o_iload 21 3, o_iload 23 4, o_bad, o_inv zshp 26 180 4 3 1 5, o_bad, o_bad, o_istore 28 6, o_bad, o_iload 30 6, o_bad, o_con 31 (vI (-1)), o_icmpne 34 35],
  [o_bad, o_bad, o_ret, o_aload 36 0, o_getF zshp 39 9 0, o_bad, o_bad, o_getF zshp 42 3 1, o_bad, o_bad, o_iload 44 6, o_bad, o_aload 46 5, o_bad, o_getF zshp 49 3 1, o_bad],
  [o_bad, o_iload 50 1, o_ald zshp 51 14, o_ifge 54 59, o_bad, o_bad, o_con 56 (vI (-2)), o_bad, o_goto 68, o_bad, o_bad, o_aload 61 5, o_bad, o_getF zshp 64 3 1, o_bad, o_bad],
  [o_iload 65 1, o_ald zshp 66 14, o_iload 67 2, o_iadd 68, o_iast zshp 69, o_aload 70 0, o_getF zshp 73 9 0, o_bad, o_bad, o_getF zshp 76 3 2, o_bad, o_bad, o_iload 78 6, o_bad, o_aload 80 5, o_bad],
  [o_getF zshp 83 3 2, o_bad, o_bad, o_iload 84 1, o_ald zshp 85 14, o_iload 86 2, o_inv zshp 89 260 2 99 1 2, o_bad, o_bad, o_iast zshp 90, o_aload 91 0, o_getF zshp 94 9 0, o_bad, o_bad, o_getF zshp 97 3 3, o_bad],
  [o_bad, o_iload 99 6, o_bad, o_aload 101 5, o_bad, o_getF zshp 104 3 3, o_bad, o_bad, o_iload 105 1, o_ald zshp 106 14, o_iload 107 2, o_inv zshp 110 260 2 99 1 2, o_bad, o_bad, o_iast zshp 111, o_aload 112 0],
  [o_getF zshp 115 9 0, o_bad, o_bad, o_getF zshp 118 3 4, o_bad, o_bad, o_iload 120 6, o_bad, o_aload 122 5, o_bad, o_getF zshp 125 3 4, o_bad, o_bad, o_iload 126 1, o_ald zshp 127 14, o_iload 128 2],
  [o_inv zshp 131 260 2 99 1 2, o_bad, o_bad, o_iast zshp 132, o_aload 133 0, o_getF zshp 136 9 0, o_bad, o_bad, o_getF zshp 139 3 5, o_bad, o_bad, o_iload 141 6, o_bad, o_aload 143 5, o_bad, o_getF zshp 146 3 5],
  [o_bad, o_bad, o_iload 147 1, o_ald zshp 148 14, o_iast zshp 149, o_aload 150 0, o_getF zshp 153 9 0, o_bad, o_bad, o_getF zshp 156 3 8, o_bad, o_bad, o_iload 158 6, o_bad, o_aload 160 5, o_bad],
  [o_getF zshp 163 3 8, o_bad, o_bad, o_iload 164 1, o_ald zshp 165 14, o_iast zshp 166, o_ret]]
/-- CallOpener$Result.shifted(II)I -/
def k_260 : List (List zO) := [[o_iload 1 0, o_inv zshp 4 34 1 99 1 1, o_bad, o_bad, o_ifeq 7 13, o_bad, o_bad, o_iload 8 0, o_iload 9 1, o_isub 10, o_goto 14, o_bad, o_bad, o_iload 14 0, o_iret]]
/-- CallOpener$Tree.<init>(LCallOpener$Program;)V -/
def k_261 : List (List zO) := [[o_aload 1 0, o_obj 4, o_bad, o_bad, o_aload 5 0, o_con 8 (vI 320), o_bad, o_bad, o_newa zshp 11 17 324 5764, o_bad, o_bad, o_putF zshp 14 10 0, o_bad, o_bad, o_aload 15 0, o_con 18 (vI 320)],
  [o_bad, o_bad, o_newa zshp 20 14 324 5764, o_bad, o_putF zshp 23 10 1, o_bad, o_bad, o_aload 24 0, o_con 27 (vI 320), o_bad, o_bad, o_newa zshp 29 14 324 5764, o_bad, o_putF zshp 32 10 2, o_bad, o_bad],
  [o_aload 33 0, o_con 36 (vR 4), o_bad, o_bad, o_alen zshp 37 14, o_newa zshp 39 14 324 5764, o_bad, o_putF zshp 42 10 6, o_bad, o_bad, o_aload 43 0, o_aload 44 1, o_putP zshp 47 10 7, o_bad, o_bad, o_con 48 (vI 0)],
  [o_istore 49 2, o_iload 50 2, o_con 53 (vI 320), o_bad, o_bad, o_icmpge 56 75, o_bad, o_bad, o_aload 57 0, o_getF zshp 60 10 0, o_bad, o_bad, o_iload 61 2, o_new zshp 64 1 15 324 5764, o_bad, o_bad],
  [o_dup 65, o_inw zshp 68 162 1 1 0 1 0 0 324 5764, o_bad, o_bad, o_aast zshp 69, o_iinc 72 2 1, o_bad, o_bad, o_goto 49, o_bad, o_bad, o_retm 324]]
/-- CallOpener$Tree.grow(LCallOpener$Program;LCallOpener$Profile;[II)V -/
def k_262 : List (List zO) := [[o_aload 1 0, o_aload 2 1, o_putP zshp 5 10 7, o_bad, o_bad, o_aload 6 3, o_con 7 (vI 0), o_aload 8 0, o_getF zshp 11 10 6, o_bad, o_bad, o_con 12 (vI 0), o_aload 13 0, o_getF zshp 16 10 6, o_bad, o_bad],
  [o_alen zshp 17 14, o_acpw zshp 20 14, o_bad, o_bad, o_aload 21 0, o_con 22 (vI 0), o_putI zshp 25 10 10, o_bad, o_bad, o_aload 26 0, o_con 27 (vJ 0), o_putJ zshp 30 10 5, o_bad, o_bad, o_aload 31 0, o_con 32 (vI 0)],
  [o_putI zshp 35 10 11, o_bad, o_bad, o_aload 36 0, o_con 37 (vI 0), o_putI zshp 40 10 12, o_bad, o_bad, o_aload 41 0, o_iload 43 4, o_bad, o_aload 44 2, o_getF zshp 47 6 0, o_bad, o_bad, o_iload 49 4],
  [o_bad, o_ald zshp 50 14, o_inv zshp 53 264 3 10 0 4, o_bad, o_bad, o_aload 54 0, o_con 55 (vI 0), o_aload 56 2, o_inv zshp 59 266 3 10 0 6, o_bad, o_bad, o_aload 60 0, o_aload 61 2, o_inv zshp 64 265 2 10 0 5, o_bad, o_bad],
  [o_aload 65 0, o_con 66 (vI 0), o_con 67 (vI 0), o_inv zshp 70 275 3 10 0 5, o_bad, o_bad, o_aload 71 0, o_con 72 (vI 0), o_putI zshp 75 10 3, o_bad, o_bad, o_aload 76 0, o_con 77 (vI 0), o_putI zshp 80 10 4, o_bad, o_bad],
  [o_aload 81 0, o_con 82 (vI 0), o_putI zshp 85 10 13, o_bad, o_bad, o_aload 86 0, o_con 87 (vI 0), o_con 88 (vI 0), o_inv zshp 91 277 3 10 0 5, o_bad, o_bad, o_ret]]
/-- CallOpener$Tree.answer(I)I -/
def k_263 : List (List zO) := [[o_iload 1 1, o_sw [(0, 44), (1, 49), (2, 54), (3, 59), (4, 64), (5, 69), (6, 74)] 79, o_bad, o_bad, o_bad, o_bad, o_bad, o_bad, o_bad, o_bad, o_bad, o_bad, o_bad, o_bad, o_bad, o_bad],
  [o_bad, o_bad, o_bad, o_bad, o_bad, o_bad, o_bad, o_bad, o_bad, o_bad, o_bad, o_bad, o_bad, o_bad, o_bad, o_bad],
  [o_bad, o_bad, o_bad, o_bad, o_bad, o_bad, o_bad, o_bad, o_bad, o_bad, o_bad, o_bad, o_aload 45 0, o_getI zshp 48 10 3, o_bad, o_bad],
  [o_iret, o_aload 50 0, o_getI zshp 53 10 10, o_bad, o_bad, o_iret, o_aload 55 0, o_getI zshp 58 10 11, o_bad, o_bad, o_iret, o_aload 60 0, o_getI zshp 63 10 12, o_bad, o_bad, o_iret],
  [o_aload 65 0, o_getI zshp 68 10 9, o_bad, o_bad, o_iret, o_aload 70 0, o_getI zshp 73 10 13, o_bad, o_bad, o_iret, o_aload 75 0, o_getI zshp 78 10 4, o_bad, o_bad, o_iret, o_con 80 (vI (-1))],
  [o_iret]]
/-- CallOpener$Tree.plantRoot(II)V -/
def k_264 : List (List zO) := [[o_aload 1 0, o_getF zshp 4 10 0, o_bad, o_bad, o_con 5 (vI 0), o_aald zshp 6, o_astore 7 3, o_aload 8 0, o_con 9 (vI 1), o_putI zshp 12 10 8, o_bad, o_bad, o_aload 13 3, o_con 15 (vI (-2)), o_bad, o_putI zshp 18 1 0],
  [o_bad, o_bad, o_aload 19 3, o_iload 20 1, o_putI zshp 23 1 1, o_bad, o_bad, o_aload 24 3, o_con 25 (vI (-1)), o_putI zshp 28 1 2, o_bad, o_bad, o_aload 29 3, o_con 30 (vI 0), o_putI zshp 33 1 3, o_bad],
  [o_bad, o_aload 34 3, o_con 35 (vI 0), o_putI zshp 38 1 4, o_bad, o_bad, o_aload 39 3, o_con 40 (vI 1), o_putZ zshp 43 1 6, o_bad, o_bad, o_aload 44 3, o_con 45 (vI 0), o_putZ zshp 48 1 7, o_bad, o_bad],
  [o_aload 49 3, o_iload 50 2, o_i2l 51, o_putJ zshp 54 1 8, o_bad, o_bad, o_aload 55 3, o_con 56 (vJ 0), o_putJ zshp 59 1 9, o_bad, o_bad, o_aload 60 3, o_con 61 (vJ 0), o_putJ zshp 64 1 10, o_bad, o_bad],
  [o_aload 65 0, o_aload 66 0, o_getP zshp 69 10 7, o_bad, o_bad, o_getF zshp 72 7 7, o_bad, o_bad, o_iload 73 1, o_ald zshp 74 14, o_putI zshp 77 10 9, o_bad, o_bad, o_ret]]
/-- CallOpener$Tree.openAll(LCallOpener$Profile;)V -/
def k_265 : List (List zO) := [[o_con 1 (vI 1), o_istore 2 2, o_iload 3 2, o_con 6 (vI 320), o_bad, o_bad, o_icmpge 9 93, o_bad, o_bad, o_aload 10 0, o_inv zshp 13 270 1 10 1 3, o_bad, o_bad, o_istore 14 3, o_iload 15 3, o_con 16 (vI (-1))],
  [o_icmpne 19 20, o_bad, o_bad, o_ret, o_aload 21 0, o_getF zshp 24 10 0, o_bad, o_bad, o_iload 25 3, o_aald zshp 26, o_astore 28 4, o_bad, o_aload 30 4, o_bad, o_con 31 (vI 1), o_putZ zshp 34 1 6],
  [o_bad, o_bad, o_aload 36 4, o_bad, o_iload 37 2, o_putI zshp 40 1 4, o_bad, o_bad, o_aload 41 0, o_iload 42 2, o_putI zshp 45 10 10, o_bad, o_bad, o_aload 46 0, o_dup 47, o_getJ zshp 50 10 5],
  [o_bad, o_bad, o_aload 52 4, o_bad, o_getJ zshp 55 1 10, o_bad, o_bad, o_ladd 56, o_putJ zshp 59 10 5, o_bad, o_bad, o_aload 60 0, o_dup 61, o_getI zshp 64 10 9, o_bad, o_bad],
  [o_aload 65 0, o_getP zshp 68 10 7, o_bad, o_bad, o_getF zshp 71 7 11, o_bad, o_bad, o_aload 73 4, o_bad, o_getI zshp 76 1 1, o_bad, o_bad, o_ald zshp 77 14, o_iadd 78, o_putI zshp 81 10 9, o_bad],
  [o_bad, o_aload 82 0, o_iload 83 3, o_aload 84 1, o_inv zshp 87 266 3 10 0 6, o_bad, o_bad, o_iinc 90 2 1, o_bad, o_bad, o_goto 2, o_bad, o_bad, o_ret]]
/-- CallOpener$Tree.makeCallsOf(ILCallOpener$Profile;)V -/
def k_266 : List (List zO) := [[o_aload 1 0, o_getF zshp 4 10 0, o_bad, o_bad, o_iload 5 1, o_aald zshp 6, o_astore 7 3, o_aload 8 3, o_getI zshp 11 1 1, o_bad, o_bad, o_istore 13 4, o_bad, o_aload 14 3, o_aload 15 0, o_getI zshp 18 10 8],
  [o_bad, o_bad, o_putI zshp 21 1 5, o_bad, o_bad, o_aload 22 0, o_getP zshp 25 10 7, o_bad, o_bad, o_getF zshp 28 7 8, o_bad, o_bad, o_iload 30 4, o_bad, o_ald zshp 31 14, o_istore 33 5],
  [o_bad, o_iload 35 5, o_bad, o_aload 36 0, o_getP zshp 39 10 7, o_bad, o_bad, o_getF zshp 42 7 8, o_bad, o_bad, o_iload 44 4, o_bad, o_ald zshp 45 14, o_aload 46 0, o_getP zshp 49 10 7, o_bad],
  [o_bad, o_getF zshp 52 7 9, o_bad, o_bad, o_iload 54 4, o_bad, o_ald zshp 55 14, o_iadd 56, o_icmpge 59 84, o_bad, o_bad, o_aload 60 0, o_iload 61 1, o_iload 63 5, o_bad, o_aload 64 2],
  [o_aload 65 3, o_getJ zshp 68 1 8, o_bad, o_bad, o_iload 70 4, o_bad, o_iload 72 5, o_bad, o_inv zshp 75 209 4 6 2 5, o_bad, o_bad, o_inv zshp 78 267 4 10 0 6, o_bad, o_bad, o_iinc 81 5 1, o_bad],
  [o_bad, o_goto 33, o_bad, o_bad, o_ret]]
/-- CallOpener$Tree.makeCall(IIJ)V -/
def k_267 : List (List zO) := [[o_aload 1 0, o_getI zshp 4 10 8, o_bad, o_bad, o_con 7 (vI 320), o_bad, o_bad, o_icmplt 10 11, o_bad, o_bad, o_ret, o_aload 12 0, o_getF zshp 15 10 0, o_bad, o_bad, o_aload 16 0],
  [o_getI zshp 19 10 8, o_bad, o_bad, o_aald zshp 20, o_astore 22 5, o_bad, o_aload 23 0, o_dup 24, o_getI zshp 27 10 8, o_bad, o_bad, o_con 28 (vI 1), o_iadd 29, o_putI zshp 32 10 8, o_bad, o_bad],
  [o_aload 34 5, o_bad, o_iload 35 2, o_putI zshp 38 1 0, o_bad, o_bad, o_aload 40 5, o_bad, o_aload 41 0, o_getP zshp 44 10 7, o_bad, o_bad, o_getF zshp 47 7 13, o_bad, o_bad, o_iload 48 2],
  [o_ald zshp 49 14, o_putI zshp 52 1 1, o_bad, o_bad, o_aload 54 5, o_bad, o_iload 55 1, o_putI zshp 58 1 2, o_bad, o_bad, o_aload 60 5, o_bad, o_aload 61 0, o_getF zshp 64 10 0, o_bad, o_bad],
  [o_iload 65 1, o_aald zshp 66, o_getI zshp 69 1 3, o_bad, o_bad, o_con 70 (vI 1), o_iadd 71, o_putI zshp 74 1 3, o_bad, o_bad, o_aload 76 5, o_bad, o_con 77 (vI 0), o_putI zshp 80 1 4, o_bad, o_bad],
  [o_aload 82 5, o_bad, o_con 83 (vI 0), o_putZ zshp 86 1 6, o_bad, o_bad, o_aload 88 5, o_bad, o_lload 89 3, o_putJ zshp 92 1 8, o_bad, o_bad, o_aload 94 5, o_bad, o_aload 95 0, o_lload 96 3],
  [o_iload 97 2, o_inv zshp 100 268 3 10 2 6, o_bad, o_bad, o_putJ zshp 103 1 9, o_bad, o_bad, o_aload 105 5, o_bad, o_lload 106 3, o_aload 107 0, o_getF zshp 110 10 6, o_bad, o_bad, o_con 111 (vI 1), o_ald zshp 112 14],
  [o_aload 113 0, o_getP zshp 116 10 7, o_bad, o_bad, o_getF zshp 119 7 5, o_bad, o_bad, o_aload 121 5, o_bad, o_getI zshp 124 1 1, o_bad, o_bad, o_ald zshp 125 14, o_isub 126, o_i2l 127, o_lmul 128],
  [o_putJ zshp 131 1 10, o_bad, o_bad, o_aload 133 5, o_bad, o_aload 135 5, o_bad, o_getI zshp 138 1 3, o_bad, o_bad, o_con 140 (vI 40), o_bad, o_icmpgt 143 162, o_bad, o_bad, o_aload 144 0],
  [o_iload 145 1, o_aload 147 5, o_bad, o_getI zshp 150 1 1, o_bad, o_bad, o_inv zshp 153 269 3 10 1 6, o_bad, o_bad, o_aload 154 0, o_getF zshp 157 10 6, o_bad, o_bad, o_con 158 (vI 2), o_ald zshp 159 14, o_icmple 162 166],
  [o_bad, o_bad, o_con 163 (vI 1), o_goto 167, o_bad, o_bad, o_con 167 (vI 0), o_putZ zshp 170 1 7, o_bad, o_bad, o_ret]]
/-- CallOpener$Tree.worthOf(JI)J -/
def k_268 : List (List zO) := [[o_aload 1 0, o_getF zshp 4 10 6, o_bad, o_bad, o_con 5 (vI 1), o_ald zshp 6 14, o_con 7 (vI 2), o_aload 8 0, o_getP zshp 11 10 7, o_bad, o_bad, o_getF zshp 14 7 15, o_bad, o_bad, o_iload 15 3, o_ald zshp 16 14],
  [o_imul 17, o_iadd 18, o_istore 20 4, o_bad, o_aload 21 0, o_getP zshp 24 10 7, o_bad, o_bad, o_getF zshp 27 7 11, o_bad, o_bad, o_aload 28 0, o_getP zshp 31 10 7, o_bad, o_bad, o_getF zshp 34 7 13],
  [o_bad, o_bad, o_iload 35 3, o_ald zshp 36 14, o_ald zshp 37 14, o_istore 39 5, o_bad, o_lload 40 1, o_iload 42 4, o_bad, o_i2l 43, o_lmul 44, o_con 47 (vJ 64), o_bad, o_bad, o_lmul 48],
  [o_iload 50 5, o_bad, o_con 51 (vI 1), o_icmpge 54 58, o_bad, o_bad, o_con 55 (vI 1), o_goto 60, o_bad, o_bad, o_iload 60 5, o_bad, o_i2l 61, o_ldiv 62, o_lret]]
/-- CallOpener$Tree.standsAbove(II)I -/
def k_269 : List (List zO) := [[o_con 1 (vI 0), o_istore 2 3, o_iload 3 1, o_istore 5 4, o_bad, o_aload 6 0, o_getF zshp 9 10 0, o_bad, o_bad, o_iload 10 1, o_aald zshp 11, o_getI zshp 14 1 3, o_bad, o_bad, o_istore 16 5, o_bad],
  [o_iload 18 5, o_bad, o_iflt 21 61, o_bad, o_bad, o_iload 23 4, o_bad, o_iflt 26 61, o_bad, o_bad, o_aload 27 0, o_getF zshp 30 10 0, o_bad, o_bad, o_iload 32 4, o_bad],
  [o_aald zshp 33, o_getI zshp 36 1 1, o_bad, o_bad, o_iload 37 2, o_icmpne 40 43, o_bad, o_bad, o_iinc 43 3 1, o_bad, o_bad, o_aload 44 0, o_getF zshp 47 10 0, o_bad, o_bad, o_iload 49 4],
  [o_bad, o_aald zshp 50, o_getI zshp 53 1 2, o_bad, o_bad, o_istore 55 4, o_bad, o_iinc 58 5 (-1), o_bad, o_bad, o_goto 16, o_bad, o_bad, o_iload 62 3, o_iret]]
/-- CallOpener$Tree.worthiest()I -/
def k_270 : List (List zO) := [[o_con 1 (vI (-1)), o_istore 2 1, o_con 3 (vI 1), o_istore 4 2, o_iload 5 2, o_aload 6 0, o_getI zshp 9 10 8, o_bad, o_bad, o_icmpge 12 47, o_bad, o_bad, o_aload 13 0, o_aload 14 0, o_getF zshp 17 10 0, o_bad],
  [o_bad, o_iload 18 2, o_aald zshp 19, o_inv zshp 22 271 2 10 1 2, o_bad, o_bad, o_ifeq 25 41, o_bad, o_bad, o_iload 26 1, o_con 27 (vI (-1)), o_icmpeq 30 39, o_bad, o_bad, o_aload 31 0, o_iload 32 2],
  [o_iload 33 1, o_inv zshp 36 272 3 10 1 5, o_bad, o_bad, o_ifeq 39 41, o_bad, o_bad, o_iload 40 2, o_istore 41 1, o_iinc 44 2 1, o_bad, o_bad, o_goto 4, o_bad, o_bad, o_iload 48 1],
  [o_iret]]
/-- CallOpener$Tree.mayOpen(LCallOpener$Call;)Z -/
def k_271 : List (List zO) := [[o_aload 1 1, o_getI zshp 4 1 6, o_bad, o_bad, o_ifne 7 53, o_bad, o_bad, o_aload 8 1, o_getJ zshp 11 1 8, o_bad, o_bad, o_con 12 (vJ 1), o_lcmp 13, o_iflt 16 53, o_bad, o_bad],
  [o_aload 17 1, o_getI zshp 20 1 7, o_bad, o_bad, o_ifne 23 53, o_bad, o_bad, o_aload 24 0, o_getI zshp 27 10 9, o_bad, o_bad, o_aload 28 0, o_getP zshp 31 10 7, o_bad, o_bad, o_getF zshp 34 7 11],
  [o_bad, o_bad, o_aload 35 1, o_getI zshp 38 1 1, o_bad, o_bad, o_ald zshp 39 14, o_iadd 40, o_aload 41 0, o_getF zshp 44 10 6, o_bad, o_bad, o_con 45 (vI 0), o_ald zshp 46 14, o_icmpgt 49 53, o_bad],
  [o_bad, o_con 50 (vI 1), o_goto 54, o_bad, o_bad, o_con 54 (vI 0), o_zret]]
/-- CallOpener$Tree.comesAhead(II)Z -/
def k_272 : List (List zO) := [[o_aload 1 0, o_getF zshp 4 10 0, o_bad, o_bad, o_iload 5 1, o_aald zshp 6, o_astore 7 3, o_aload 8 0, o_getF zshp 11 10 0, o_bad, o_bad, o_iload 12 2, o_aald zshp 13, o_astore 15 4, o_bad, o_aload 16 3],
  [o_getJ zshp 19 1 9, o_bad, o_bad, o_aload 21 4, o_bad, o_getJ zshp 24 1 9, o_bad, o_bad, o_lcmp 25, o_ifeq 28 47, o_bad, o_bad, o_aload 29 3, o_getJ zshp 32 1 9, o_bad, o_bad],
  [o_aload 34 4, o_bad, o_getJ zshp 37 1 9, o_bad, o_bad, o_lcmp 38, o_ifle 41 45, o_bad, o_bad, o_con 42 (vI 1), o_goto 46, o_bad, o_bad, o_con 46 (vI 0), o_zret, o_aload 48 3],
  [o_getI zshp 51 1 3, o_bad, o_bad, o_aload 53 4, o_bad, o_getI zshp 56 1 3, o_bad, o_bad, o_icmpeq 59 77, o_bad, o_bad, o_aload 60 3, o_getI zshp 63 1 3, o_bad, o_bad, o_aload 65 4],
  [o_bad, o_getI zshp 68 1 3, o_bad, o_bad, o_icmpge 71 75, o_bad, o_bad, o_con 72 (vI 1), o_goto 76, o_bad, o_bad, o_con 76 (vI 0), o_zret, o_aload 78 0, o_iload 79 1, o_iload 80 2],
  [o_inv zshp 83 273 3 10 1 6, o_bad, o_bad, o_zret]]
/-- CallOpener$Tree.isLefter(II)Z -/
def k_273 : List (List zO) := [[o_iload 1 1, o_istore 2 3, o_iload 3 2, o_istore 5 4, o_bad, o_aload 6 0, o_getF zshp 9 10 0, o_bad, o_bad, o_iload 10 1, o_aald zshp 11, o_getI zshp 14 1 3, o_bad, o_bad, o_istore 16 5, o_bad],
  [o_iload 18 5, o_bad, o_con 19 (vI 1), o_icmple 22 72, o_bad, o_bad, o_aload 23 0, o_getF zshp 26 10 0, o_bad, o_bad, o_iload 27 3, o_aald zshp 28, o_getI zshp 31 1 2, o_bad, o_bad, o_aload 32 0],
  [o_getF zshp 35 10 0, o_bad, o_bad, o_iload 37 4, o_bad, o_aald zshp 38, o_getI zshp 41 1 2, o_bad, o_bad, o_icmpeq 44 72, o_bad, o_bad, o_aload 45 0, o_getF zshp 48 10 0, o_bad, o_bad],
  [o_iload 49 3, o_aald zshp 50, o_getI zshp 53 1 2, o_bad, o_bad, o_istore 54 3, o_aload 55 0, o_getF zshp 58 10 0, o_bad, o_bad, o_iload 60 4, o_bad, o_aald zshp 61, o_getI zshp 64 1 2, o_bad, o_bad],
  [o_istore 66 4, o_bad, o_iinc 69 5 (-1), o_bad, o_bad, o_goto 16, o_bad, o_bad, o_iload 73 3, o_iload 75 4, o_bad, o_icmpge 78 82, o_bad, o_bad, o_con 79 (vI 1), o_goto 83],
  [o_bad, o_bad, o_con 83 (vI 0), o_zret]]
/-- CallOpener$Tree.behindCalls(LCallOpener$Call;)I -/
def k_274 : List (List zO) := [[o_aload 1 0, o_getI zshp 4 10 8, o_bad, o_bad, o_aload 5 1, o_getI zshp 8 1 5, o_bad, o_bad, o_aload 9 0, o_getP zshp 12 10 7, o_bad, o_bad, o_getF zshp 15 7 9, o_bad, o_bad, o_aload 16 1],
  [o_getI zshp 19 1 1, o_bad, o_bad, o_ald zshp 20 14, o_iadd 21, o_inv zshp 24 280 2 99 1 2, o_bad, o_bad, o_iret]]
/-- CallOpener$Tree.undoFrom(II)V -/
def k_275 : List (List zO) := [[o_iload 1 2, o_con 3 (vI 40), o_bad, o_icmple 6 7, o_bad, o_bad, o_ret, o_aload 8 0, o_getF zshp 11 10 0, o_bad, o_bad, o_iload 12 1, o_aald zshp 13, o_astore 14 3, o_aload 15 3, o_con 16 (vI 1)],
  [o_putI zshp 19 1 12, o_bad, o_bad, o_aload 20 3, o_iload 21 1, o_ifne 24 28, o_bad, o_bad, o_con 25 (vI 0), o_goto 40, o_bad, o_bad, o_aload 29 0, o_getP zshp 32 10 7, o_bad, o_bad],
  [o_getF zshp 35 7 11, o_bad, o_bad, o_aload 36 3, o_getI zshp 39 1 1, o_bad, o_bad, o_ald zshp 40 14, o_putI zshp 43 1 13, o_bad, o_bad, o_aload 44 3, o_aload 45 3, o_getJ zshp 48 1 10, o_bad, o_bad],
  [o_putJ zshp 51 1 14, o_bad, o_bad, o_aload 52 3, o_getI zshp 55 1 5, o_bad, o_bad, o_istore 57 4, o_bad, o_iload 59 4, o_bad, o_aload 60 0, o_aload 61 3, o_inv zshp 64 274 2 10 1 2, o_bad, o_bad],
  [o_icmpge 67 106, o_bad, o_bad, o_aload 68 0, o_getF zshp 71 10 0, o_bad, o_bad, o_iload 73 4, o_bad, o_aald zshp 74, o_getI zshp 77 1 6, o_bad, o_bad, o_ifeq 80 100, o_bad, o_bad],
  [o_aload 81 0, o_iload 83 4, o_bad, o_iload 84 2, o_con 85 (vI 1), o_iadd 86, o_inv zshp 89 275 3 10 0 5, o_bad, o_bad, o_aload 90 3, o_aload 91 0, o_getF zshp 94 10 0, o_bad, o_bad, o_iload 96 4, o_bad],
  [o_aald zshp 97, o_inv zshp 100 276 2 99 0 2, o_bad, o_bad, o_iinc 103 4 1, o_bad, o_bad, o_goto 57, o_bad, o_bad, o_iload 107 1, o_ifeq 110 176, o_bad, o_bad, o_aload 111 3, o_getJ zshp 114 1 14],
  [o_bad, o_bad, o_con 117 (vJ 100), o_bad, o_bad, o_lmul 118, o_aload 119 0, o_getF zshp 122 10 6, o_bad, o_bad, o_con 123 (vI 3), o_ald zshp 124 14, o_i2l 125, o_aload 126 3, o_getI zshp 129 1 13, o_bad],
  [o_bad, o_i2l 130, o_lmul 131, o_lcmp 132, o_ifge 135 176, o_bad, o_bad, o_aload 136 3, o_con 137 (vI 0), o_putZ zshp 140 1 6, o_bad, o_bad, o_aload 141 0, o_dup 142, o_getI zshp 145 10 12, o_bad],
  [o_bad, o_con 146 (vI 1), o_iadd 147, o_putI zshp 150 10 12, o_bad, o_bad, o_aload 151 0, o_dup 152, o_getI zshp 155 10 11, o_bad, o_bad, o_aload 156 3, o_getI zshp 159 1 12, o_bad, o_bad, o_iadd 160],
  [o_putI zshp 163 10 11, o_bad, o_bad, o_aload 164 0, o_dup 165, o_getI zshp 168 10 9, o_bad, o_bad, o_aload 169 3, o_getI zshp 172 1 13, o_bad, o_bad, o_isub 173, o_putI zshp 176 10 9, o_bad, o_bad],
  [o_ret]]
/-- CallOpener$Tree.addToChain(LCallOpener$Call;LCallOpener$Call;)V -/
def k_276 : List (List zO) := [[o_aload 1 1, o_getI zshp 4 1 6, o_bad, o_bad, o_ifeq 7 46, o_bad, o_bad, o_aload 8 0, o_dup 9, o_getI zshp 12 1 12, o_bad, o_bad, o_aload 13 1, o_getI zshp 16 1 12, o_bad, o_bad],
  [o_iadd 17, o_putI zshp 20 1 12, o_bad, o_bad, o_aload 21 0, o_dup 22, o_getI zshp 25 1 13, o_bad, o_bad, o_aload 26 1, o_getI zshp 29 1 13, o_bad, o_bad, o_iadd 30, o_putI zshp 33 1 13, o_bad],
  [o_bad, o_aload 34 0, o_dup 35, o_getJ zshp 38 1 14, o_bad, o_bad, o_aload 39 1, o_getJ zshp 42 1 14, o_bad, o_bad, o_ladd 43, o_putJ zshp 46 1 14, o_bad, o_bad, o_ret]]
/-- CallOpener$Tree.listFrom(II)V -/
def k_277 : List (List zO) := [[o_iload 1 2, o_con 3 (vI 40), o_bad, o_icmple 6 7, o_bad, o_bad, o_ret, o_aload 8 0, o_getF zshp 11 10 0, o_bad, o_bad, o_iload 12 1, o_aald zshp 13, o_astore 14 3, o_aload 15 3, o_aload 16 0],
  [o_getI zshp 19 10 3, o_bad, o_bad, o_putI zshp 22 1 11, o_bad, o_bad, o_aload 23 0, o_getF zshp 26 10 1, o_bad, o_bad, o_aload 27 0, o_getI zshp 30 10 3, o_bad, o_bad, o_iload 31 1, o_iast zshp 32],
  [o_aload 33 0, o_dup 34, o_getI zshp 37 10 3, o_bad, o_bad, o_con 38 (vI 1), o_iadd 39, o_putI zshp 42 10 3, o_bad, o_bad, o_aload 43 0, o_aload 44 0, o_getI zshp 47 10 13, o_bad, o_bad, o_aload 48 3],
  [o_getI zshp 51 1 3, o_bad, o_bad, o_inv zshp 54 278 2 99 1 2, o_bad, o_bad, o_putI zshp 57 10 13, o_bad, o_bad, o_aload 58 3, o_getI zshp 61 1 5, o_bad, o_bad, o_istore 63 4, o_bad, o_iload 65 4],
  [o_bad, o_aload 66 0, o_aload 67 3, o_inv zshp 70 274 2 10 1 2, o_bad, o_bad, o_icmpge 73 125, o_bad, o_bad, o_aload 74 0, o_getF zshp 77 10 0, o_bad, o_bad, o_iload 79 4, o_bad, o_aald zshp 80],
  [o_getI zshp 83 1 6, o_bad, o_bad, o_ifeq 86 98, o_bad, o_bad, o_aload 87 0, o_iload 89 4, o_bad, o_iload 90 2, o_con 91 (vI 1), o_iadd 92, o_inv zshp 95 277 3 10 0 5, o_bad, o_bad, o_goto 119],
  [o_bad, o_bad, o_aload 99 0, o_getF zshp 102 10 2, o_bad, o_bad, o_aload 103 0, o_getI zshp 106 10 4, o_bad, o_bad, o_iload 108 4, o_bad, o_iast zshp 109, o_aload 110 0, o_dup 111, o_getI zshp 114 10 4],
  [o_bad, o_bad, o_con 115 (vI 1), o_iadd 116, o_putI zshp 119 10 4, o_bad, o_bad, o_iinc 122 4 1, o_bad, o_bad, o_goto 63, o_bad, o_bad, o_ret]]
/-- java/lang/Math.max(II)I -/
def k_278 : List (List zO) := [[o_iload 1 0, o_iload 2 1, o_icmplt 5 9, o_bad, o_bad, o_iload 6 0, o_goto 10, o_bad, o_bad, o_iload 10 1, o_iret]]
/-- java/lang/Math.max(JJ)J -/
def k_279 : List (List zO) := [[o_lload 1 0, o_lload 2 2, o_lcmp 3, o_iflt 6 10, o_bad, o_bad, o_lload 7 0, o_goto 11, o_bad, o_bad, o_lload 11 2, o_lret]]
/-- java/lang/Math.min(II)I -/
def k_280 : List (List zO) := [[o_iload 1 0, o_iload 2 1, o_icmpgt 5 9, o_bad, o_bad, o_iload 6 0, o_goto 10, o_bad, o_bad, o_iload 10 1, o_iret]]
/-- java/lang/String.charAt(I)C -/
def k_281 : List (List zO) := [[o_aload 1 0, o_inv zshp 4 284 1 18 1 1, o_bad, o_bad, o_ifeq 7 16, o_bad, o_bad, o_aload 8 0, o_strv 11, o_bad, o_bad, o_iload 12 1, o_inv zshp 15 286 2 99 1 2, o_bad, o_bad, o_cret],
  [o_aload 17 0, o_strv 20, o_bad, o_bad, o_iload 21 1, o_bad, o_bad, o_bad, o_cret]]
/-- java/lang/String.checkIndex(II)V -/
def k_282 : List (List zO) := [[o_iload 1 0, o_iload 2 1, o_con 5 (vR 15), o_bad, o_bad, o_inv zshp 8 288 3 99 1 3, o_bad, o_bad, o_pop 9, o_ret]]
/-- java/lang/String.coder()B -/
def k_283 : List (List zO) := [[o_con 3 (vI 1), o_bad, o_bad, o_ifeq 6 13, o_bad, o_bad, o_aload 7 0, o_strc 10, o_bad, o_bad, o_goto 14, o_bad, o_bad, o_con 14 (vI 1), o_bret]]
/-- java/lang/String.isLatin1()Z -/
def k_284 : List (List zO) := [[o_con 3 (vI 1), o_bad, o_bad, o_ifeq 6 17, o_bad, o_bad, o_aload 7 0, o_strc 10, o_bad, o_bad, o_ifne 13 17, o_bad, o_bad, o_con 14 (vI 1), o_goto 18, o_bad],
  [o_bad, o_con 18 (vI 0), o_zret]]
/-- java/lang/String.length()I -/
def k_285 : List (List zO) := [[o_aload 1 0, o_strv 4, o_bad, o_bad, o_alen zshp 5 13, o_aload 6 0, o_inv zshp 9 283 1 18 1 1, o_bad, o_bad, o_ishr 10, o_iret]]
/-- java/lang/StringLatin1.charAt([BI)C -/
def k_286 : List (List zO) := [[o_iload 1 1, o_aload 2 0, o_alen zshp 3 13, o_inv zshp 6 282 2 99 0 2, o_bad, o_bad, o_aload 7 0, o_iload 8 1, o_ald zshp 9 13, o_con 12 (vI 255), o_bad, o_bad, o_iand 13, o_i2c 14, o_cret]]
/-- java/util/Arrays.fill([II)V -/
def k_287 : List (List zO) := [[o_con 1 (vI 0), o_istore 2 2, o_aload 3 0, o_alen zshp 4 14, o_istore 5 3, o_iload 6 2, o_iload 7 3, o_icmpge 10 20, o_bad, o_bad, o_aload 11 0, o_iload 12 2, o_iload 13 1, o_iast zshp 14, o_iinc 17 2 1, o_bad],
  [o_bad, o_goto 5, o_bad, o_bad, o_ret]]
/-- jdk/internal/util/Preconditions.checkIndex(IILjava/util/function/BiFunction;)I -/
def k_288 : List (List zO) := [[o_iload 1 0, o_iflt 4 9, o_bad, o_bad, o_iload 5 0, o_iload 6 1, o_icmplt 9 16, o_bad, o_bad, o_aload 10 2, o_iload 11 0, o_iload 12 1, o_bad, o_bad, o_bad, o_bad],
  [o_iload 17 0, o_iret]]
def zmtL : List (List (List (List zO))) := [[k_0, k_1, k_2, k_3, k_4, k_5, k_6, k_7, k_8, k_9, k_10, k_11, k_12, k_13, k_14, k_15],
  [k_16, k_17, k_18, k_19, k_20, k_21, k_22, k_23, k_24, k_25, k_26, k_27, k_28, k_29, k_30, k_31],
  [k_32, k_33, k_34, k_35, k_36, k_37, k_38, k_39, k_40, k_41, k_42, k_43, k_44, k_45, k_46, k_47],
  [k_48, k_49, k_50, k_51, k_52, k_53, k_54, k_55, k_56, k_57, k_58, k_59, k_60, k_61, k_62, k_63],
  [k_64, k_65, k_66, k_67, k_68, k_69, k_70, k_71, k_72, k_73, k_74, k_75, k_76, k_77, k_78, k_79],
  [k_80, k_81, k_82, k_83, k_84, k_85, k_86, k_87, k_88, k_89, k_90, k_91, k_92, k_93, k_94, k_95],
  [k_96, k_97, k_98, k_99, k_100, k_101, k_102, k_103, k_104, k_105, k_106, k_107, k_108, k_109, k_110, k_111],
  [k_112, k_113, k_114, k_115, k_116, k_117, k_118, k_119, k_120, k_121, k_122, k_123, k_124, k_125, k_126, k_127],
  [k_128, k_129, k_130, k_131, k_132, k_133, k_134, k_135, k_136, k_137, k_138, k_139, k_140, k_141, k_142, k_143],
  [k_144, k_145, k_146, k_147, k_148, k_149, k_150, k_151, k_152, k_153, k_154, k_155, k_156, k_157, k_158, k_159],
  [k_160, k_161, k_162, k_163, k_164, k_165, k_166, k_167, k_168, k_169, k_170, k_171, k_172, k_173, k_174, k_175],
  [k_176, k_177, k_178, k_179, k_180, k_181, k_182, k_183, k_184, k_185, k_186, k_187, k_188, k_189, k_190, k_191],
  [k_192, k_193, k_194, k_195, k_196, k_197, k_198, k_199, k_200, k_201, k_202, k_203, k_204, k_205, k_206, k_207],
  [k_208, k_209, k_210, k_211, k_212, k_213, k_214, k_215, k_216, k_217, k_218, k_219, k_220, k_221, k_222, k_223],
  [k_224, k_225, k_226, k_227, k_228, k_229, k_230, k_231, k_232, k_233, k_234, k_235, k_236, k_237, k_238, k_239],
  [k_240, k_241, k_242, k_243, k_244, k_245, k_246, k_247, k_248, k_249, k_250, k_251, k_252, k_253, k_254, k_255],
  [k_256, k_257, k_258, k_259, k_260, k_261, k_262, k_263, k_264, k_265, k_266, k_267, k_268, k_269, k_270, k_271],
  [k_272, k_273, k_274, k_275, k_276, k_277, k_278, k_279, k_280, k_281, k_282, k_283, k_284, k_285, k_286, k_287],
  [k_288]]
def zmt (mi : Nat) : List (List zO) := (zmtL.getD (mi / 16) []).getD (mi % 16) []
def zmxL : List (List Nat) := [[4, 2, 6, 4, 2, 3, 4, 4, 3, 3, 2, 4, 3, 3, 5, 5],
  [5, 3, 5, 3, 4, 3, 4, 5, 5, 3, 3, 2, 2, 2, 1, 2],
  [1, 4, 1, 3, 1, 3, 2, 3, 6, 1, 1, 2, 3, 2, 3, 2],
  [1, 2, 1, 1, 5, 2, 3, 2, 3, 4, 3, 7, 1, 6, 5, 4],
  [1, 5, 2, 2, 2, 2, 4, 2, 2, 2, 2, 2, 2, 6, 2, 3],
  [3, 5, 3, 9, 7, 2, 2, 3, 3, 3, 3, 3, 4, 2, 4, 2],
  [3, 4, 5, 4, 5, 7, 3, 3, 3, 6, 3, 3, 3, 3, 7, 6],
  [5, 5, 5, 2, 4, 5, 5, 2, 11, 4, 3, 1, 3, 5, 2, 3],
  [3, 5, 4, 2, 2, 4, 3, 2, 5, 4, 5, 3, 3, 3, 5, 5],
  [9, 4, 11, 6, 2, 6, 5, 6, 4, 2, 6, 10, 6, 2, 3, 2],
  [8, 4, 1, 1, 1, 5, 2, 2, 2, 4, 7, 4, 4, 3, 4, 4],
  [1, 5, 2, 2, 5, 5, 3, 4, 6, 2, 5, 5, 7, 2, 1, 2],
  [2, 2, 1, 5, 2, 2, 3, 3, 2, 1, 5, 1, 1, 4, 1, 1],
  [3, 5, 1, 1, 2, 4, 2, 3, 5, 4, 4, 3, 2, 6, 6, 6],
  [3, 5, 6, 1, 1, 2, 2, 3, 2, 2, 2, 3, 3, 3, 1, 2],
  [3, 2, 3, 1, 3, 1, 4, 3, 2, 2, 3, 2, 1, 2, 2, 4],
  [12, 11, 6, 7, 2, 3, 5, 2, 4, 5, 6, 6, 6, 6, 3, 2],
  [5, 6, 2, 5, 2, 5, 2, 4, 2, 2, 2, 1, 1, 1, 2, 4],
  [3]]
def zmx (mi : Nat) : Nat := (zmxL.getD (mi / 16) []).getD (mi % 16) 0
def zmcL : List (List (Nat × Nat)) := [[(550, 400000), (450, 108204), (0, 0), (0, 0), (0, 0), (0, 0), (0, 0), (0, 0), (0, 0), (0, 0), (0, 0), (0, 0), (0, 0), (0, 0), (0, 0), (0, 0)],
  [(0, 0), (0, 0), (0, 0), (0, 0), (0, 0), (0, 0), (0, 0), (0, 0), (0, 0), (0, 0), (0, 0), (0, 0), (0, 0), (0, 0), (0, 0), (0, 0)],
  [(0, 0), (0, 0), (0, 0), (0, 0), (98, 84994), (0, 0), (0, 0), (0, 0), (0, 0), (0, 0), (0, 0), (0, 0), (0, 0), (0, 0), (0, 0), (0, 0)],
  [(0, 0), (0, 0), (0, 0), (0, 0), (0, 0), (0, 0), (0, 0), (0, 0), (0, 0), (0, 0), (0, 0), (0, 0), (0, 0), (0, 0), (0, 0), (0, 0)],
  [(0, 0), (0, 0), (0, 0), (0, 0), (0, 0), (0, 0), (0, 0), (0, 0), (0, 0), (0, 0), (0, 0), (0, 0), (0, 0), (0, 0), (0, 0), (0, 0)],
  [(0, 0), (0, 0), (0, 0), (0, 0), (0, 0), (0, 0), (0, 0), (0, 0), (0, 0), (0, 0), (0, 0), (0, 0), (0, 0), (0, 0), (0, 0), (0, 0)],
  [(0, 0), (0, 0), (0, 0), (0, 0), (0, 0), (0, 0), (0, 0), (0, 0), (0, 0), (0, 0), (0, 0), (0, 0), (0, 0), (0, 0), (0, 0), (0, 0)],
  [(0, 0), (0, 0), (0, 0), (0, 0), (0, 0), (0, 0), (0, 0), (0, 0), (0, 0), (0, 0), (0, 0), (0, 0), (0, 0), (0, 0), (0, 0), (0, 0)],
  [(0, 0), (0, 0), (0, 0), (0, 0), (0, 0), (0, 0), (0, 0), (0, 0), (0, 0), (0, 0), (0, 0), (0, 0), (0, 0), (0, 0), (0, 0), (0, 0)],
  [(0, 0), (0, 0), (0, 0), (0, 0), (0, 0), (0, 0), (0, 0), (0, 0), (0, 0), (10, 10193), (0, 0), (0, 0), (0, 0), (0, 0), (0, 0), (0, 0)],
  [(0, 0), (0, 0), (0, 0), (0, 0), (8, 25707), (0, 0), (0, 0), (0, 0), (0, 0), (0, 0), (0, 0), (0, 0), (0, 0), (0, 0), (0, 0), (0, 0)],
  [(0, 0), (0, 0), (0, 0), (13, 4160), (0, 0), (0, 0), (0, 0), (0, 0), (0, 0), (14, 6791), (0, 0), (0, 0), (0, 0), (0, 0), (0, 0), (0, 0)],
  [(0, 0), (0, 0), (0, 0), (0, 0), (0, 0), (0, 0), (0, 0), (0, 0), (4, 2048), (0, 0), (0, 0), (2, 24), (0, 0), (0, 0), (0, 0), (0, 0)],
  [(0, 0), (0, 0), (28, 5938), (0, 0), (0, 0), (0, 0), (0, 0), (0, 0), (0, 0), (0, 0), (0, 0), (0, 0), (9, 1269), (0, 0), (0, 0), (0, 0)],
  [(0, 0), (0, 0), (0, 0), (0, 0), (0, 0), (0, 0), (0, 0), (0, 0), (0, 0), (0, 0), (0, 0), (0, 0), (0, 0), (0, 0), (0, 0), (0, 0)],
  [(0, 0), (0, 0), (0, 0), (0, 0), (0, 0), (0, 0), (0, 0), (0, 0), (0, 0), (0, 0), (0, 0), (0, 0), (0, 0), (0, 0), (14, 4274), (0, 0)],
  [(0, 0), (0, 0), (0, 0), (0, 0), (0, 0), (324, 5764), (0, 0), (0, 0), (0, 0), (0, 0), (0, 0), (0, 0), (0, 0), (0, 0), (0, 0), (0, 0)],
  [(0, 0), (0, 0), (0, 0), (0, 0), (0, 0), (0, 0), (0, 0), (0, 0), (0, 0), (0, 0), (0, 0), (0, 0), (0, 0), (0, 0), (0, 0), (0, 0)],
  [(0, 0)]]
def zmc (mi : Nat) : Nat × Nat := (zmcL.getD (mi / 16) []).getD (mi % 16) (0, 0)
abbrev zen (mj : Nat) (a : List zV) : zL := zent (zmx mj) a
/-- from that place method mi comes to its end with Q; a call of mj does -/
abbrev WP : zX := zW zmt zen
abbrev WC (d mj : Nat) (a : List zV) (σ : zM) (Q : zQ) : Prop := zWc zmt zen d mj a σ Q
theorem e_0 : zmt 0 = k_0 := rfl
theorem e_1 : zmt 1 = k_1 := rfl
theorem e_2 : zmt 2 = k_2 := rfl
theorem e_3 : zmt 3 = k_3 := rfl
theorem e_4 : zmt 4 = k_4 := rfl
theorem e_5 : zmt 5 = k_5 := rfl
theorem e_6 : zmt 6 = k_6 := rfl
theorem e_7 : zmt 7 = k_7 := rfl
theorem e_8 : zmt 8 = k_8 := rfl
theorem e_9 : zmt 9 = k_9 := rfl
theorem e_10 : zmt 10 = k_10 := rfl
theorem e_11 : zmt 11 = k_11 := rfl
theorem e_12 : zmt 12 = k_12 := rfl
theorem e_13 : zmt 13 = k_13 := rfl
theorem e_14 : zmt 14 = k_14 := rfl
theorem e_15 : zmt 15 = k_15 := rfl
theorem e_16 : zmt 16 = k_16 := rfl
theorem e_17 : zmt 17 = k_17 := rfl
theorem e_18 : zmt 18 = k_18 := rfl
theorem e_19 : zmt 19 = k_19 := rfl
theorem e_20 : zmt 20 = k_20 := rfl
theorem e_21 : zmt 21 = k_21 := rfl
theorem e_22 : zmt 22 = k_22 := rfl
theorem e_23 : zmt 23 = k_23 := rfl
theorem e_24 : zmt 24 = k_24 := rfl
theorem e_25 : zmt 25 = k_25 := rfl
theorem e_26 : zmt 26 = k_26 := rfl
theorem e_27 : zmt 27 = k_27 := rfl
theorem e_28 : zmt 28 = k_28 := rfl
theorem e_29 : zmt 29 = k_29 := rfl
theorem e_30 : zmt 30 = k_30 := rfl
theorem e_31 : zmt 31 = k_31 := rfl
theorem e_32 : zmt 32 = k_32 := rfl
theorem e_33 : zmt 33 = k_33 := rfl
theorem e_34 : zmt 34 = k_34 := rfl
theorem e_35 : zmt 35 = k_35 := rfl
theorem e_36 : zmt 36 = k_36 := rfl
theorem e_37 : zmt 37 = k_37 := rfl
theorem e_38 : zmt 38 = k_38 := rfl
theorem e_39 : zmt 39 = k_39 := rfl
theorem e_40 : zmt 40 = k_40 := rfl
theorem e_41 : zmt 41 = k_41 := rfl
theorem e_42 : zmt 42 = k_42 := rfl
theorem e_43 : zmt 43 = k_43 := rfl
theorem e_44 : zmt 44 = k_44 := rfl
theorem e_45 : zmt 45 = k_45 := rfl
theorem e_46 : zmt 46 = k_46 := rfl
theorem e_47 : zmt 47 = k_47 := rfl
theorem e_48 : zmt 48 = k_48 := rfl
theorem e_49 : zmt 49 = k_49 := rfl
theorem e_50 : zmt 50 = k_50 := rfl
theorem e_51 : zmt 51 = k_51 := rfl
theorem e_52 : zmt 52 = k_52 := rfl
theorem e_53 : zmt 53 = k_53 := rfl
theorem e_54 : zmt 54 = k_54 := rfl
theorem e_55 : zmt 55 = k_55 := rfl
theorem e_56 : zmt 56 = k_56 := rfl
theorem e_57 : zmt 57 = k_57 := rfl
theorem e_58 : zmt 58 = k_58 := rfl
theorem e_59 : zmt 59 = k_59 := rfl
theorem e_60 : zmt 60 = k_60 := rfl
theorem e_61 : zmt 61 = k_61 := rfl
theorem e_62 : zmt 62 = k_62 := rfl
theorem e_63 : zmt 63 = k_63 := rfl
theorem e_64 : zmt 64 = k_64 := rfl
theorem e_65 : zmt 65 = k_65 := rfl
theorem e_66 : zmt 66 = k_66 := rfl
theorem e_67 : zmt 67 = k_67 := rfl
theorem e_68 : zmt 68 = k_68 := rfl
theorem e_69 : zmt 69 = k_69 := rfl
theorem e_70 : zmt 70 = k_70 := rfl
theorem e_71 : zmt 71 = k_71 := rfl
theorem e_72 : zmt 72 = k_72 := rfl
theorem e_73 : zmt 73 = k_73 := rfl
theorem e_74 : zmt 74 = k_74 := rfl
theorem e_75 : zmt 75 = k_75 := rfl
theorem e_76 : zmt 76 = k_76 := rfl
theorem e_77 : zmt 77 = k_77 := rfl
theorem e_78 : zmt 78 = k_78 := rfl
theorem e_79 : zmt 79 = k_79 := rfl
theorem e_80 : zmt 80 = k_80 := rfl
theorem e_81 : zmt 81 = k_81 := rfl
theorem e_82 : zmt 82 = k_82 := rfl
theorem e_83 : zmt 83 = k_83 := rfl
theorem e_84 : zmt 84 = k_84 := rfl
theorem e_85 : zmt 85 = k_85 := rfl
theorem e_86 : zmt 86 = k_86 := rfl
theorem e_87 : zmt 87 = k_87 := rfl
theorem e_88 : zmt 88 = k_88 := rfl
theorem e_89 : zmt 89 = k_89 := rfl
theorem e_90 : zmt 90 = k_90 := rfl
theorem e_91 : zmt 91 = k_91 := rfl
theorem e_92 : zmt 92 = k_92 := rfl
theorem e_93 : zmt 93 = k_93 := rfl
theorem e_94 : zmt 94 = k_94 := rfl
theorem e_95 : zmt 95 = k_95 := rfl
theorem e_96 : zmt 96 = k_96 := rfl
theorem e_97 : zmt 97 = k_97 := rfl
theorem e_98 : zmt 98 = k_98 := rfl
theorem e_99 : zmt 99 = k_99 := rfl
theorem e_100 : zmt 100 = k_100 := rfl
theorem e_101 : zmt 101 = k_101 := rfl
theorem e_102 : zmt 102 = k_102 := rfl
theorem e_103 : zmt 103 = k_103 := rfl
theorem e_104 : zmt 104 = k_104 := rfl
theorem e_105 : zmt 105 = k_105 := rfl
theorem e_106 : zmt 106 = k_106 := rfl
theorem e_107 : zmt 107 = k_107 := rfl
theorem e_108 : zmt 108 = k_108 := rfl
theorem e_109 : zmt 109 = k_109 := rfl
theorem e_110 : zmt 110 = k_110 := rfl
theorem e_111 : zmt 111 = k_111 := rfl
theorem e_112 : zmt 112 = k_112 := rfl
theorem e_113 : zmt 113 = k_113 := rfl
theorem e_114 : zmt 114 = k_114 := rfl
theorem e_115 : zmt 115 = k_115 := rfl
theorem e_116 : zmt 116 = k_116 := rfl
theorem e_117 : zmt 117 = k_117 := rfl
theorem e_118 : zmt 118 = k_118 := rfl
theorem e_119 : zmt 119 = k_119 := rfl
theorem e_120 : zmt 120 = k_120 := rfl
theorem e_121 : zmt 121 = k_121 := rfl
theorem e_122 : zmt 122 = k_122 := rfl
theorem e_123 : zmt 123 = k_123 := rfl
theorem e_124 : zmt 124 = k_124 := rfl
theorem e_125 : zmt 125 = k_125 := rfl
theorem e_126 : zmt 126 = k_126 := rfl
theorem e_127 : zmt 127 = k_127 := rfl
theorem e_128 : zmt 128 = k_128 := rfl
theorem e_129 : zmt 129 = k_129 := rfl
theorem e_130 : zmt 130 = k_130 := rfl
theorem e_131 : zmt 131 = k_131 := rfl
theorem e_132 : zmt 132 = k_132 := rfl
theorem e_133 : zmt 133 = k_133 := rfl
theorem e_134 : zmt 134 = k_134 := rfl
theorem e_135 : zmt 135 = k_135 := rfl
theorem e_136 : zmt 136 = k_136 := rfl
theorem e_137 : zmt 137 = k_137 := rfl
theorem e_138 : zmt 138 = k_138 := rfl
theorem e_139 : zmt 139 = k_139 := rfl
theorem e_140 : zmt 140 = k_140 := rfl
theorem e_141 : zmt 141 = k_141 := rfl
theorem e_142 : zmt 142 = k_142 := rfl
theorem e_143 : zmt 143 = k_143 := rfl
theorem e_144 : zmt 144 = k_144 := rfl
theorem e_145 : zmt 145 = k_145 := rfl
theorem e_146 : zmt 146 = k_146 := rfl
theorem e_147 : zmt 147 = k_147 := rfl
theorem e_148 : zmt 148 = k_148 := rfl
theorem e_149 : zmt 149 = k_149 := rfl
theorem e_150 : zmt 150 = k_150 := rfl
theorem e_151 : zmt 151 = k_151 := rfl
theorem e_152 : zmt 152 = k_152 := rfl
theorem e_153 : zmt 153 = k_153 := rfl
theorem e_154 : zmt 154 = k_154 := rfl
theorem e_155 : zmt 155 = k_155 := rfl
theorem e_156 : zmt 156 = k_156 := rfl
theorem e_157 : zmt 157 = k_157 := rfl
theorem e_158 : zmt 158 = k_158 := rfl
theorem e_159 : zmt 159 = k_159 := rfl
theorem e_160 : zmt 160 = k_160 := rfl
theorem e_161 : zmt 161 = k_161 := rfl
theorem e_162 : zmt 162 = k_162 := rfl
theorem e_163 : zmt 163 = k_163 := rfl
theorem e_164 : zmt 164 = k_164 := rfl
theorem e_165 : zmt 165 = k_165 := rfl
theorem e_166 : zmt 166 = k_166 := rfl
theorem e_167 : zmt 167 = k_167 := rfl
theorem e_168 : zmt 168 = k_168 := rfl
theorem e_169 : zmt 169 = k_169 := rfl
theorem e_170 : zmt 170 = k_170 := rfl
theorem e_171 : zmt 171 = k_171 := rfl
theorem e_172 : zmt 172 = k_172 := rfl
theorem e_173 : zmt 173 = k_173 := rfl
theorem e_174 : zmt 174 = k_174 := rfl
theorem e_175 : zmt 175 = k_175 := rfl
theorem e_176 : zmt 176 = k_176 := rfl
theorem e_177 : zmt 177 = k_177 := rfl
theorem e_178 : zmt 178 = k_178 := rfl
theorem e_179 : zmt 179 = k_179 := rfl
theorem e_180 : zmt 180 = k_180 := rfl
theorem e_181 : zmt 181 = k_181 := rfl
theorem e_182 : zmt 182 = k_182 := rfl
theorem e_183 : zmt 183 = k_183 := rfl
theorem e_184 : zmt 184 = k_184 := rfl
theorem e_185 : zmt 185 = k_185 := rfl
theorem e_186 : zmt 186 = k_186 := rfl
theorem e_187 : zmt 187 = k_187 := rfl
theorem e_188 : zmt 188 = k_188 := rfl
theorem e_189 : zmt 189 = k_189 := rfl
theorem e_190 : zmt 190 = k_190 := rfl
theorem e_191 : zmt 191 = k_191 := rfl
theorem e_192 : zmt 192 = k_192 := rfl
theorem e_193 : zmt 193 = k_193 := rfl
theorem e_194 : zmt 194 = k_194 := rfl
theorem e_195 : zmt 195 = k_195 := rfl
theorem e_196 : zmt 196 = k_196 := rfl
theorem e_197 : zmt 197 = k_197 := rfl
theorem e_198 : zmt 198 = k_198 := rfl
theorem e_199 : zmt 199 = k_199 := rfl
theorem e_200 : zmt 200 = k_200 := rfl
theorem e_201 : zmt 201 = k_201 := rfl
theorem e_202 : zmt 202 = k_202 := rfl
theorem e_203 : zmt 203 = k_203 := rfl
theorem e_204 : zmt 204 = k_204 := rfl
theorem e_205 : zmt 205 = k_205 := rfl
theorem e_206 : zmt 206 = k_206 := rfl
theorem e_207 : zmt 207 = k_207 := rfl
theorem e_208 : zmt 208 = k_208 := rfl
theorem e_209 : zmt 209 = k_209 := rfl
theorem e_210 : zmt 210 = k_210 := rfl
theorem e_211 : zmt 211 = k_211 := rfl
theorem e_212 : zmt 212 = k_212 := rfl
theorem e_213 : zmt 213 = k_213 := rfl
theorem e_214 : zmt 214 = k_214 := rfl
theorem e_215 : zmt 215 = k_215 := rfl
theorem e_216 : zmt 216 = k_216 := rfl
theorem e_217 : zmt 217 = k_217 := rfl
theorem e_218 : zmt 218 = k_218 := rfl
theorem e_219 : zmt 219 = k_219 := rfl
theorem e_220 : zmt 220 = k_220 := rfl
theorem e_221 : zmt 221 = k_221 := rfl
theorem e_222 : zmt 222 = k_222 := rfl
theorem e_223 : zmt 223 = k_223 := rfl
theorem e_224 : zmt 224 = k_224 := rfl
theorem e_225 : zmt 225 = k_225 := rfl
theorem e_226 : zmt 226 = k_226 := rfl
theorem e_227 : zmt 227 = k_227 := rfl
theorem e_228 : zmt 228 = k_228 := rfl
theorem e_229 : zmt 229 = k_229 := rfl
theorem e_230 : zmt 230 = k_230 := rfl
theorem e_231 : zmt 231 = k_231 := rfl
theorem e_232 : zmt 232 = k_232 := rfl
theorem e_233 : zmt 233 = k_233 := rfl
theorem e_234 : zmt 234 = k_234 := rfl
theorem e_235 : zmt 235 = k_235 := rfl
theorem e_236 : zmt 236 = k_236 := rfl
theorem e_237 : zmt 237 = k_237 := rfl
theorem e_238 : zmt 238 = k_238 := rfl
theorem e_239 : zmt 239 = k_239 := rfl
theorem e_240 : zmt 240 = k_240 := rfl
theorem e_241 : zmt 241 = k_241 := rfl
theorem e_242 : zmt 242 = k_242 := rfl
theorem e_243 : zmt 243 = k_243 := rfl
theorem e_244 : zmt 244 = k_244 := rfl
theorem e_245 : zmt 245 = k_245 := rfl
theorem e_246 : zmt 246 = k_246 := rfl
theorem e_247 : zmt 247 = k_247 := rfl
theorem e_248 : zmt 248 = k_248 := rfl
theorem e_249 : zmt 249 = k_249 := rfl
theorem e_250 : zmt 250 = k_250 := rfl
theorem e_251 : zmt 251 = k_251 := rfl
theorem e_252 : zmt 252 = k_252 := rfl
theorem e_253 : zmt 253 = k_253 := rfl
theorem e_254 : zmt 254 = k_254 := rfl
theorem e_255 : zmt 255 = k_255 := rfl
theorem e_256 : zmt 256 = k_256 := rfl
theorem e_257 : zmt 257 = k_257 := rfl
theorem e_258 : zmt 258 = k_258 := rfl
theorem e_259 : zmt 259 = k_259 := rfl
theorem e_260 : zmt 260 = k_260 := rfl
theorem e_261 : zmt 261 = k_261 := rfl
theorem e_262 : zmt 262 = k_262 := rfl
theorem e_263 : zmt 263 = k_263 := rfl
theorem e_264 : zmt 264 = k_264 := rfl
theorem e_265 : zmt 265 = k_265 := rfl
theorem e_266 : zmt 266 = k_266 := rfl
theorem e_267 : zmt 267 = k_267 := rfl
theorem e_268 : zmt 268 = k_268 := rfl
theorem e_269 : zmt 269 = k_269 := rfl
theorem e_270 : zmt 270 = k_270 := rfl
theorem e_271 : zmt 271 = k_271 := rfl
theorem e_272 : zmt 272 = k_272 := rfl
theorem e_273 : zmt 273 = k_273 := rfl
theorem e_274 : zmt 274 = k_274 := rfl
theorem e_275 : zmt 275 = k_275 := rfl
theorem e_276 : zmt 276 = k_276 := rfl
theorem e_277 : zmt 277 = k_277 := rfl
theorem e_278 : zmt 278 = k_278 := rfl
theorem e_279 : zmt 279 = k_279 := rfl
theorem e_280 : zmt 280 = k_280 := rfl
theorem e_281 : zmt 281 = k_281 := rfl
theorem e_282 : zmt 282 = k_282 := rfl
theorem e_283 : zmt 283 = k_283 := rfl
theorem e_284 : zmt 284 = k_284 := rfl
theorem e_285 : zmt 285 = k_285 := rfl
theorem e_286 : zmt 286 = k_286 := rfl
theorem e_287 : zmt 287 = k_287 := rfl
theorem e_288 : zmt 288 = k_288 := rfl
