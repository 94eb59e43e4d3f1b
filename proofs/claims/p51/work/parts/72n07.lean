/-! needs: n06. The law: its instructions, its arrays, its calls, by program (wip/p51/gen_n07.py) -/
theorem n_i0 : a_ins 96 0 = some (.new 10, 3) := by decide +kernel
theorem n_i3 : a_ins 96 3 = some (.dup, 1) := by decide +kernel
theorem n_i4 : a_ins 96 4 = some (.invokespecial 70, 3) := by decide +kernel
theorem n_i7 : a_ins 96 7 = some (.astore_n 1, 1) := by decide +kernel
theorem n_i8 : a_ins 96 8 = some (.aload_n 1, 1) := by decide +kernel
theorem n_i9 : a_ins 96 9 = some (.bipush 120, 2) := by decide +kernel
theorem n_i11 : a_ins 96 11 = some (.iconst 1, 1) := by decide +kernel
theorem n_i12 : a_ins 96 12 = some (.iconst 0, 1) := by decide +kernel
theorem n_i13 : a_ins 96 13 = some (.invokestatic 71, 3) := by decide +kernel
theorem n_i16 : a_ins 96 16 = some (.ldc 17, 2) := by decide +kernel
theorem n_i18 : a_ins 96 18 = some (.if_icmp .ne 54, 3) := by decide +kernel
theorem n_i21 : a_ins 96 21 = some (.aload_n 1, 1) := by decide +kernel
theorem n_i22 : a_ins 96 22 = some (.bipush 102, 2) := by decide +kernel
theorem n_i24 : a_ins 96 24 = some (.sipush 301, 3) := by decide +kernel
theorem n_i27 : a_ins 96 27 = some (.iconst 0, 1) := by decide +kernel
theorem n_i28 : a_ins 96 28 = some (.invokestatic 71, 3) := by decide +kernel
theorem n_i31 : a_ins 96 31 = some (.ldc 17, 2) := by decide +kernel
theorem n_i33 : a_ins 96 33 = some (.if_icmp .ne 39, 3) := by decide +kernel
theorem n_i36 : a_ins 96 36 = some (.aload_n 1, 1) := by decide +kernel
theorem n_i37 : a_ins 96 37 = some (.bipush 10, 2) := by decide +kernel
theorem n_i39 : a_ins 96 39 = some (.invokestatic 74, 3) := by decide +kernel
theorem n_i42 : a_ins 96 42 = some (.ldc 17, 2) := by decide +kernel
theorem n_i44 : a_ins 96 44 = some (.if_icmp .ne 28, 3) := by decide +kernel
theorem n_i47 : a_ins 96 47 = some (.aload_n 1, 1) := by decide +kernel
theorem n_i48 : a_ins 96 48 = some (.iconst 0, 1) := by decide +kernel
theorem n_i49 : a_ins 96 49 = some (.iconst 1, 1) := by decide +kernel
theorem n_i50 : a_ins 96 50 = some (.invokestatic 77, 3) := by decide +kernel
theorem n_i53 : a_ins 96 53 = some (.ldc 17, 2) := by decide +kernel
theorem n_i55 : a_ins 96 55 = some (.if_icmp .ne 17, 3) := by decide +kernel
theorem n_i58 : a_ins 96 58 = some (.aload_n 1, 1) := by decide +kernel
theorem n_i59 : a_ins 96 59 = some (.iconst 0, 1) := by decide +kernel
theorem n_i60 : a_ins 96 60 = some (.invokestatic 80, 3) := by decide +kernel
theorem n_i63 : a_ins 96 63 = some (.ldc 17, 2) := by decide +kernel
theorem n_i65 : a_ins 96 65 = some (.if_icmp .ne 7, 3) := by decide +kernel
theorem n_i68 : a_ins 96 68 = some (.iconst 1, 1) := by decide +kernel
theorem n_i69 : a_ins 96 69 = some (.goto 4, 3) := by decide +kernel
theorem n_i72 : a_ins 96 72 = some (.iconst 0, 1) := by decide +kernel
theorem n_i73 : a_ins 96 73 = some (.istore_n 2, 1) := by decide +kernel
theorem n_i74 : a_ins 96 74 = some (.iconst 2, 1) := by decide +kernel
theorem n_i75 : a_ins 96 75 = some (.aload_n 0, 1) := by decide +kernel
theorem n_i76 : a_ins 96 76 = some (.iconst 0, 1) := by decide +kernel
theorem n_i77 : a_ins 96 77 = some (.iconst 4, 1) := by decide +kernel
theorem n_i78 : a_ins 96 78 = some (.invokestatic 82, 3) := by decide +kernel
theorem n_i81 : a_ins 96 81 = some (.iadd, 1) := by decide +kernel
theorem n_i82 : a_ins 96 82 = some (.istore_n 3, 1) := by decide +kernel
theorem n_i83 : a_ins 96 83 = some (.iconst 2, 1) := by decide +kernel
theorem n_i84 : a_ins 96 84 = some (.aload_n 0, 1) := by decide +kernel
theorem n_i85 : a_ins 96 85 = some (.iconst 1, 1) := by decide +kernel
theorem n_i86 : a_ins 96 86 = some (.bipush 6, 2) := by decide +kernel
theorem n_i88 : a_ins 96 88 = some (.invokestatic 82, 3) := by decide +kernel
theorem n_i91 : a_ins 96 91 = some (.iadd, 1) := by decide +kernel
theorem n_i92 : a_ins 96 92 = some (.istore 4, 2) := by decide +kernel
theorem n_i94 : a_ins 96 94 = some (.iload_n 3, 1) := by decide +kernel
theorem n_i95 : a_ins 96 95 = some (.newarray .int, 2) := by decide +kernel
theorem n_i97 : a_ins 96 97 = some (.astore 5, 2) := by decide +kernel
theorem n_i99 : a_ins 96 99 = some (.iload_n 3, 1) := by decide +kernel
theorem n_i100 : a_ins 96 100 = some (.newarray .int, 2) := by decide +kernel
theorem n_i102 : a_ins 96 102 = some (.astore 6, 2) := by decide +kernel
theorem n_i104 : a_ins 96 104 = some (.iconst 0, 1) := by decide +kernel
theorem n_i105 : a_ins 96 105 = some (.istore 7, 2) := by decide +kernel
theorem n_i107 : a_ins 96 107 = some (.iload 7, 2) := by decide +kernel
theorem n_i109 : a_ins 96 109 = some (.iload_n 3, 1) := by decide +kernel
theorem n_i110 : a_ins 96 110 = some (.if_icmp .ge 46, 3) := by decide +kernel
theorem n_i113 : a_ins 96 113 = some (.aload 5, 2) := by decide +kernel
theorem n_i115 : a_ins 96 115 = some (.iload 7, 2) := by decide +kernel
theorem n_i117 : a_ins 96 117 = some (.aload_n 0, 1) := by decide +kernel
theorem n_i118 : a_ins 96 118 = some (.bipush 10, 2) := by decide +kernel
theorem n_i120 : a_ins 96 120 = some (.iload 7, 2) := by decide +kernel
theorem n_i122 : a_ins 96 122 = some (.iadd, 1) := by decide +kernel
theorem n_i123 : a_ins 96 123 = some (.iconst 3, 1) := by decide +kernel
theorem n_i124 : a_ins 96 124 = some (.invokestatic 82, 3) := by decide +kernel
theorem n_i127 : a_ins 96 127 = some (.iastore, 1) := by decide +kernel
theorem n_i128 : a_ins 96 128 = some (.iload_n 2, 1) := by decide +kernel
theorem n_i129 : a_ins 96 129 = some (.aload_n 1, 1) := by decide +kernel
theorem n_i130 : a_ins 96 130 = some (.aload 5, 2) := by decide +kernel
theorem n_i132 : a_ins 96 132 = some (.iload 7, 2) := by decide +kernel
theorem n_i134 : a_ins 96 134 = some (.iaload, 1) := by decide +kernel
theorem n_i135 : a_ins 96 135 = some (.invokestatic 74, 3) := by decide +kernel
theorem n_i138 : a_ins 96 138 = some (.iload 7, 2) := by decide +kernel
theorem n_i140 : a_ins 96 140 = some (.if_icmp .ne 7, 3) := by decide +kernel
theorem n_i143 : a_ins 96 143 = some (.iconst 1, 1) := by decide +kernel
theorem n_i144 : a_ins 96 144 = some (.goto 4, 3) := by decide +kernel
theorem n_i147 : a_ins 96 147 = some (.iconst 0, 1) := by decide +kernel
theorem n_i148 : a_ins 96 148 = some (.iand, 1) := by decide +kernel
theorem n_i149 : a_ins 96 149 = some (.istore_n 2, 1) := by decide +kernel
theorem n_i150 : a_ins 96 150 = some (.iinc 7 1, 3) := by decide +kernel
theorem n_i153 : a_ins 96 153 = some (.goto (-46), 3) := by decide +kernel
theorem n_i156 : a_ins 96 156 = some (.iload 4, 2) := by decide +kernel
theorem n_i158 : a_ins 96 158 = some (.newarray .int, 2) := by decide +kernel
theorem n_i160 : a_ins 96 160 = some (.astore 7, 2) := by decide +kernel
theorem n_i162 : a_ins 96 162 = some (.iload 4, 2) := by decide +kernel
theorem n_i164 : a_ins 96 164 = some (.newarray .char, 2) := by decide +kernel
theorem n_i166 : a_ins 96 166 = some (.astore 8, 2) := by decide +kernel
theorem n_i168 : a_ins 96 168 = some (.iload 4, 2) := by decide +kernel
theorem n_i170 : a_ins 96 170 = some (.newarray .int, 2) := by decide +kernel
theorem n_i172 : a_ins 96 172 = some (.astore 9, 2) := by decide +kernel
theorem n_i174 : a_ins 96 174 = some (.iload 4, 2) := by decide +kernel
theorem n_i176 : a_ins 96 176 = some (.iload_n 3, 1) := by decide +kernel
theorem n_i177 : a_ins 96 177 = some (.multianewarray 86 2, 4) := by decide +kernel
theorem n_i181 : a_ins 96 181 = some (.astore 10, 2) := by decide +kernel
theorem n_i183 : a_ins 96 183 = some (.iload 4, 2) := by decide +kernel
theorem n_i185 : a_ins 96 185 = some (.iload_n 3, 1) := by decide +kernel
theorem n_i186 : a_ins 96 186 = some (.multianewarray 88 2, 4) := by decide +kernel
theorem n_i190 : a_ins 96 190 = some (.astore 11, 2) := by decide +kernel
theorem n_i192 : a_ins 96 192 = some (.iconst 0, 1) := by decide +kernel
theorem n_i193 : a_ins 96 193 = some (.istore 12, 2) := by decide +kernel
theorem n_i195 : a_ins 96 195 = some (.iload 12, 2) := by decide +kernel
theorem n_i197 : a_ins 96 197 = some (.iload 4, 2) := by decide +kernel
theorem n_i199 : a_ins 96 199 = some (.if_icmp .ge 490, 3) := by decide +kernel
theorem n_i202 : a_ins 96 202 = some (.aload_n 0, 1) := by decide +kernel
theorem n_i203 : a_ins 96 203 = some (.bipush 20, 2) := by decide +kernel
theorem n_i205 : a_ins 96 205 = some (.iload 12, 2) := by decide +kernel
theorem n_i207 : a_ins 96 207 = some (.iadd, 1) := by decide +kernel
theorem n_i208 : a_ins 96 208 = some (.iconst 3, 1) := by decide +kernel
theorem n_i209 : a_ins 96 209 = some (.invokestatic 82, 3) := by decide +kernel
theorem n_i212 : a_ins 96 212 = some (.istore 13, 2) := by decide +kernel
theorem n_i214 : a_ins 96 214 = some (.aload 7, 2) := by decide +kernel
theorem n_i216 : a_ins 96 216 = some (.iload 12, 2) := by decide +kernel
theorem n_i218 : a_ins 96 218 = some (.iconst 1, 1) := by decide +kernel
theorem n_i219 : a_ins 96 219 = some (.aload_n 0, 1) := by decide +kernel
theorem n_i220 : a_ins 96 220 = some (.bipush 30, 2) := by decide +kernel
theorem n_i222 : a_ins 96 222 = some (.iload 12, 2) := by decide +kernel
theorem n_i224 : a_ins 96 224 = some (.iadd, 1) := by decide +kernel
theorem n_i225 : a_ins 96 225 = some (.sipush 300, 3) := by decide +kernel
theorem n_i228 : a_ins 96 228 = some (.invokestatic 82, 3) := by decide +kernel
theorem n_i231 : a_ins 96 231 = some (.iadd, 1) := by decide +kernel
theorem n_i232 : a_ins 96 232 = some (.iastore, 1) := by decide +kernel
theorem n_i233 : a_ins 96 233 = some (.aload 8, 2) := by decide +kernel
theorem n_i235 : a_ins 96 235 = some (.iload 12, 2) := by decide +kernel
theorem n_i237 : a_ins 96 237 = some (.aload_n 0, 1) := by decide +kernel
theorem n_i238 : a_ins 96 238 = some (.bipush 40, 2) := by decide +kernel
theorem n_i240 : a_ins 96 240 = some (.iload 12, 2) := by decide +kernel
theorem n_i242 : a_ins 96 242 = some (.iadd, 1) := by decide +kernel
theorem n_i243 : a_ins 96 243 = some (.iconst 2, 1) := by decide +kernel
theorem n_i244 : a_ins 96 244 = some (.invokestatic 82, 3) := by decide +kernel
theorem n_i247 : a_ins 96 247 = some (.ifCond .ne 8, 3) := by decide +kernel
theorem n_i250 : a_ins 96 250 = some (.bipush 102, 2) := by decide +kernel
theorem n_i252 : a_ins 96 252 = some (.goto 5, 3) := by decide +kernel
theorem n_i255 : a_ins 96 255 = some (.bipush 100, 2) := by decide +kernel
theorem n_i257 : a_ins 96 257 = some (.castore, 1) := by decide +kernel
theorem n_i258 : a_ins 96 258 = some (.iload_n 2, 1) := by decide +kernel
theorem n_i259 : a_ins 96 259 = some (.aload_n 1, 1) := by decide +kernel
theorem n_i260 : a_ins 96 260 = some (.aload 8, 2) := by decide +kernel
theorem n_i262 : a_ins 96 262 = some (.iload 12, 2) := by decide +kernel
theorem n_i264 : a_ins 96 264 = some (.caload, 1) := by decide +kernel
theorem n_i265 : a_ins 96 265 = some (.aload 7, 2) := by decide +kernel
theorem n_i267 : a_ins 96 267 = some (.iload 12, 2) := by decide +kernel
theorem n_i269 : a_ins 96 269 = some (.iaload, 1) := by decide +kernel
theorem n_i270 : a_ins 96 270 = some (.iload 13, 2) := by decide +kernel
theorem n_i272 : a_ins 96 272 = some (.invokestatic 71, 3) := by decide +kernel
theorem n_i275 : a_ins 96 275 = some (.iload 12, 2) := by decide +kernel
theorem n_i277 : a_ins 96 277 = some (.if_icmp .ne 27, 3) := by decide +kernel
theorem n_i280 : a_ins 96 280 = some (.aload_n 1, 1) := by decide +kernel
theorem n_i281 : a_ins 96 281 = some (.iload 12, 2) := by decide +kernel
theorem n_i283 : a_ins 96 283 = some (.invokestatic 80, 3) := by decide +kernel
theorem n_i286 : a_ins 96 286 = some (.ldc 20, 2) := by decide +kernel
theorem n_i288 : a_ins 96 288 = some (.if_icmp .ne 16, 3) := by decide +kernel
theorem n_i291 : a_ins 96 291 = some (.aload_n 1, 1) := by decide +kernel
theorem n_i292 : a_ins 96 292 = some (.iload 12, 2) := by decide +kernel
theorem n_i294 : a_ins 96 294 = some (.invokevirtual 90, 3) := by decide +kernel
theorem n_i297 : a_ins 96 297 = some (.ifCond .ne 7, 3) := by decide +kernel
theorem n_i300 : a_ins 96 300 = some (.iconst 1, 1) := by decide +kernel
theorem n_i301 : a_ins 96 301 = some (.goto 4, 3) := by decide +kernel
theorem n_i304 : a_ins 96 304 = some (.iconst 0, 1) := by decide +kernel
theorem n_i305 : a_ins 96 305 = some (.iand, 1) := by decide +kernel
theorem n_i306 : a_ins 96 306 = some (.istore_n 2, 1) := by decide +kernel
theorem n_i307 : a_ins 96 307 = some (.iconst 1, 1) := by decide +kernel
theorem n_i308 : a_ins 96 308 = some (.aload_n 0, 1) := by decide +kernel
theorem n_i309 : a_ins 96 309 = some (.bipush 50, 2) := by decide +kernel
theorem n_i311 : a_ins 96 311 = some (.iload 12, 2) := by decide +kernel
theorem n_i313 : a_ins 96 313 = some (.iadd, 1) := by decide +kernel
theorem n_i314 : a_ins 96 314 = some (.iconst 3, 1) := by decide +kernel
theorem n_i315 : a_ins 96 315 = some (.invokestatic 82, 3) := by decide +kernel
theorem n_i318 : a_ins 96 318 = some (.iadd, 1) := by decide +kernel
theorem n_i319 : a_ins 96 319 = some (.istore 14, 2) := by decide +kernel
theorem n_i321 : a_ins 96 321 = some (.iconst 0, 1) := by decide +kernel
theorem n_i322 : a_ins 96 322 = some (.istore 15, 2) := by decide +kernel
theorem n_i324 : a_ins 96 324 = some (.iconst 0, 1) := by decide +kernel
theorem n_i325 : a_ins 96 325 = some (.istore 16, 2) := by decide +kernel
theorem n_i327 : a_ins 96 327 = some (.iload 16, 2) := by decide +kernel
theorem n_i329 : a_ins 96 329 = some (.iload_n 3, 1) := by decide +kernel
theorem n_i330 : a_ins 96 330 = some (.if_icmp .ge 29, 3) := by decide +kernel
theorem n_i333 : a_ins 96 333 = some (.iload 15, 2) := by decide +kernel
theorem n_i335 : a_ins 96 335 = some (.aload 5, 2) := by decide +kernel
theorem n_i337 : a_ins 96 337 = some (.iload 16, 2) := by decide +kernel
theorem n_i339 : a_ins 96 339 = some (.iaload, 1) := by decide +kernel
theorem n_i340 : a_ins 96 340 = some (.iload 13, 2) := by decide +kernel
theorem n_i342 : a_ins 96 342 = some (.if_icmp .ne 7, 3) := by decide +kernel
theorem n_i345 : a_ins 96 345 = some (.iconst 0, 1) := by decide +kernel
theorem n_i346 : a_ins 96 346 = some (.goto 4, 3) := by decide +kernel
theorem n_i349 : a_ins 96 349 = some (.iconst 1, 1) := by decide +kernel
theorem n_i350 : a_ins 96 350 = some (.iadd, 1) := by decide +kernel
theorem n_i351 : a_ins 96 351 = some (.istore 15, 2) := by decide +kernel
theorem n_i353 : a_ins 96 353 = some (.iinc 16 1, 3) := by decide +kernel
theorem n_i356 : a_ins 96 356 = some (.goto (-29), 3) := by decide +kernel
theorem n_i359 : a_ins 96 359 = some (.aload_n 1, 1) := by decide +kernel
theorem n_i360 : a_ins 96 360 = some (.iload 12, 2) := by decide +kernel
theorem n_i362 : a_ins 96 362 = some (.iload 14, 2) := by decide +kernel
theorem n_i364 : a_ins 96 364 = some (.invokestatic 77, 3) := by decide +kernel
theorem n_i367 : a_ins 96 367 = some (.istore 16, 2) := by decide +kernel
theorem n_i369 : a_ins 96 369 = some (.iload_n 2, 1) := by decide +kernel
theorem n_i370 : a_ins 96 370 = some (.iload 16, 2) := by decide +kernel
theorem n_i372 : a_ins 96 372 = some (.iload 15, 2) := by decide +kernel
theorem n_i374 : a_ins 96 374 = some (.iload 14, 2) := by decide +kernel
theorem n_i376 : a_ins 96 376 = some (.if_icmp .ge 8, 3) := by decide +kernel
theorem n_i379 : a_ins 96 379 = some (.ldc 33, 2) := by decide +kernel
theorem n_i381 : a_ins 96 381 = some (.goto 5, 3) := by decide +kernel
theorem n_i384 : a_ins 96 384 = some (.iload 14, 2) := by decide +kernel
theorem n_i386 : a_ins 96 386 = some (.if_icmp .ne 7, 3) := by decide +kernel
theorem n_i389 : a_ins 96 389 = some (.iconst 1, 1) := by decide +kernel
theorem n_i390 : a_ins 96 390 = some (.goto 4, 3) := by decide +kernel
theorem n_i393 : a_ins 96 393 = some (.iconst 0, 1) := by decide +kernel
theorem n_i394 : a_ins 96 394 = some (.iand, 1) := by decide +kernel
theorem n_i395 : a_ins 96 395 = some (.istore_n 2, 1) := by decide +kernel
theorem n_i396 : a_ins 96 396 = some (.iconst 0, 1) := by decide +kernel
theorem n_i397 : a_ins 96 397 = some (.istore 17, 2) := by decide +kernel
theorem n_i399 : a_ins 96 399 = some (.iload 17, 2) := by decide +kernel
theorem n_i401 : a_ins 96 401 = some (.iload 14, 2) := by decide +kernel
theorem n_i403 : a_ins 96 403 = some (.if_icmp .ge 113, 3) := by decide +kernel
theorem n_i406 : a_ins 96 406 = some (.iload 15, 2) := by decide +kernel
theorem n_i408 : a_ins 96 408 = some (.iload 14, 2) := by decide +kernel
theorem n_i410 : a_ins 96 410 = some (.if_icmp .lt 106, 3) := by decide +kernel
theorem n_i413 : a_ins 96 413 = some (.iconst (-1), 1) := by decide +kernel
theorem n_i414 : a_ins 96 414 = some (.istore 18, 2) := by decide +kernel
theorem n_i416 : a_ins 96 416 = some (.iload_n 3, 1) := by decide +kernel
theorem n_i417 : a_ins 96 417 = some (.iconst 1, 1) := by decide +kernel
theorem n_i418 : a_ins 96 418 = some (.isub, 1) := by decide +kernel
theorem n_i419 : a_ins 96 419 = some (.istore 19, 2) := by decide +kernel
theorem n_i421 : a_ins 96 421 = some (.iload 19, 2) := by decide +kernel
theorem n_i423 : a_ins 96 423 = some (.ifCond .lt 69, 3) := by decide +kernel
theorem n_i426 : a_ins 96 426 = some (.aload 5, 2) := by decide +kernel
theorem n_i428 : a_ins 96 428 = some (.iload 19, 2) := by decide +kernel
theorem n_i430 : a_ins 96 430 = some (.iaload, 1) := by decide +kernel
theorem n_i431 : a_ins 96 431 = some (.iload 13, 2) := by decide +kernel
theorem n_i433 : a_ins 96 433 = some (.if_icmp .eq 18, 3) := by decide +kernel
theorem n_i436 : a_ins 96 436 = some (.aload 10, 2) := by decide +kernel
theorem n_i438 : a_ins 96 438 = some (.iload 12, 2) := by decide +kernel
theorem n_i440 : a_ins 96 440 = some (.aaload, 1) := by decide +kernel
theorem n_i441 : a_ins 96 441 = some (.iload 19, 2) := by decide +kernel
theorem n_i443 : a_ins 96 443 = some (.baload, 1) := by decide +kernel
theorem n_i444 : a_ins 96 444 = some (.ifCond .ne 7, 3) := by decide +kernel
theorem n_i447 : a_ins 96 447 = some (.iconst 1, 1) := by decide +kernel
theorem n_i448 : a_ins 96 448 = some (.goto 4, 3) := by decide +kernel
theorem n_i451 : a_ins 96 451 = some (.iconst 0, 1) := by decide +kernel
theorem n_i452 : a_ins 96 452 = some (.istore 20, 2) := by decide +kernel
theorem n_i454 : a_ins 96 454 = some (.iload 20, 2) := by decide +kernel
theorem n_i456 : a_ins 96 456 = some (.ifCond .eq 26, 3) := by decide +kernel
theorem n_i459 : a_ins 96 459 = some (.iload 18, 2) := by decide +kernel
theorem n_i461 : a_ins 96 461 = some (.ifCond .lt 16, 3) := by decide +kernel
theorem n_i464 : a_ins 96 464 = some (.aload 6, 2) := by decide +kernel
theorem n_i466 : a_ins 96 466 = some (.iload 19, 2) := by decide +kernel
theorem n_i468 : a_ins 96 468 = some (.iaload, 1) := by decide +kernel
theorem n_i469 : a_ins 96 469 = some (.aload 6, 2) := by decide +kernel
theorem n_i471 : a_ins 96 471 = some (.iload 18, 2) := by decide +kernel
theorem n_i473 : a_ins 96 473 = some (.iaload, 1) := by decide +kernel
theorem n_i474 : a_ins 96 474 = some (.if_icmp .gt 8, 3) := by decide +kernel
theorem n_i477 : a_ins 96 477 = some (.iload 19, 2) := by decide +kernel
theorem n_i479 : a_ins 96 479 = some (.goto 5, 3) := by decide +kernel
theorem n_i482 : a_ins 96 482 = some (.iload 18, 2) := by decide +kernel
theorem n_i484 : a_ins 96 484 = some (.istore 18, 2) := by decide +kernel
theorem n_i486 : a_ins 96 486 = some (.iinc 19 (-1), 3) := by decide +kernel
theorem n_i489 : a_ins 96 489 = some (.goto (-68), 3) := by decide +kernel
theorem n_i492 : a_ins 96 492 = some (.aload 10, 2) := by decide +kernel
theorem n_i494 : a_ins 96 494 = some (.iload 12, 2) := by decide +kernel
theorem n_i496 : a_ins 96 496 = some (.aaload, 1) := by decide +kernel
theorem n_i497 : a_ins 96 497 = some (.iload 18, 2) := by decide +kernel
theorem n_i499 : a_ins 96 499 = some (.iconst 1, 1) := by decide +kernel
theorem n_i500 : a_ins 96 500 = some (.bastore, 1) := by decide +kernel
theorem n_i501 : a_ins 96 501 = some (.aload 6, 2) := by decide +kernel
theorem n_i503 : a_ins 96 503 = some (.iload 18, 2) := by decide +kernel
theorem n_i505 : a_ins 96 505 = some (.dup2, 1) := by decide +kernel
theorem n_i506 : a_ins 96 506 = some (.iaload, 1) := by decide +kernel
theorem n_i507 : a_ins 96 507 = some (.iconst 1, 1) := by decide +kernel
theorem n_i508 : a_ins 96 508 = some (.iadd, 1) := by decide +kernel
theorem n_i509 : a_ins 96 509 = some (.iastore, 1) := by decide +kernel
theorem n_i510 : a_ins 96 510 = some (.iinc 17 1, 3) := by decide +kernel
theorem n_i513 : a_ins 96 513 = some (.goto (-114), 3) := by decide +kernel
theorem n_i516 : a_ins 96 516 = some (.iconst 0, 1) := by decide +kernel
theorem n_i517 : a_ins 96 517 = some (.istore 17, 2) := by decide +kernel
theorem n_i519 : a_ins 96 519 = some (.iload 17, 2) := by decide +kernel
theorem n_i521 : a_ins 96 521 = some (.iload_n 3, 1) := by decide +kernel
theorem n_i522 : a_ins 96 522 = some (.if_icmp .ge 45, 3) := by decide +kernel
theorem n_i525 : a_ins 96 525 = some (.iload_n 2, 1) := by decide +kernel
theorem n_i526 : a_ins 96 526 = some (.aload_n 1, 1) := by decide +kernel
theorem n_i527 : a_ins 96 527 = some (.iload 12, 2) := by decide +kernel
theorem n_i529 : a_ins 96 529 = some (.iload 17, 2) := by decide +kernel
theorem n_i531 : a_ins 96 531 = some (.invokevirtual 94, 3) := by decide +kernel
theorem n_i534 : a_ins 96 534 = some (.aload 10, 2) := by decide +kernel
theorem n_i536 : a_ins 96 536 = some (.iload 12, 2) := by decide +kernel
theorem n_i538 : a_ins 96 538 = some (.aaload, 1) := by decide +kernel
theorem n_i539 : a_ins 96 539 = some (.iload 17, 2) := by decide +kernel
theorem n_i541 : a_ins 96 541 = some (.baload, 1) := by decide +kernel
theorem n_i542 : a_ins 96 542 = some (.if_icmp .ne 7, 3) := by decide +kernel
theorem n_i545 : a_ins 96 545 = some (.iconst 1, 1) := by decide +kernel
theorem n_i546 : a_ins 96 546 = some (.goto 4, 3) := by decide +kernel
theorem n_i549 : a_ins 96 549 = some (.iconst 0, 1) := by decide +kernel
theorem n_i550 : a_ins 96 550 = some (.iand, 1) := by decide +kernel
theorem n_i551 : a_ins 96 551 = some (.istore_n 2, 1) := by decide +kernel
theorem n_i552 : a_ins 96 552 = some (.aload 11, 2) := by decide +kernel
theorem n_i554 : a_ins 96 554 = some (.iload 12, 2) := by decide +kernel
theorem n_i556 : a_ins 96 556 = some (.aaload, 1) := by decide +kernel
theorem n_i557 : a_ins 96 557 = some (.iload 17, 2) := by decide +kernel
theorem n_i559 : a_ins 96 559 = some (.iconst (-1), 1) := by decide +kernel
theorem n_i560 : a_ins 96 560 = some (.iastore, 1) := by decide +kernel
theorem n_i561 : a_ins 96 561 = some (.iinc 17 1, 3) := by decide +kernel
theorem n_i564 : a_ins 96 564 = some (.goto (-45), 3) := by decide +kernel
theorem n_i567 : a_ins 96 567 = some (.aload 9, 2) := by decide +kernel
theorem n_i569 : a_ins 96 569 = some (.iload 12, 2) := by decide +kernel
theorem n_i571 : a_ins 96 571 = some (.iconst 3, 1) := by decide +kernel
theorem n_i572 : a_ins 96 572 = some (.iastore, 1) := by decide +kernel
theorem n_i573 : a_ins 96 573 = some (.aload_n 0, 1) := by decide +kernel
theorem n_i574 : a_ins 96 574 = some (.bipush 60, 2) := by decide +kernel
theorem n_i576 : a_ins 96 576 = some (.iload 12, 2) := by decide +kernel
theorem n_i578 : a_ins 96 578 = some (.iadd, 1) := by decide +kernel
theorem n_i579 : a_ins 96 579 = some (.iconst 2, 1) := by decide +kernel
theorem n_i580 : a_ins 96 580 = some (.invokestatic 82, 3) := by decide +kernel
theorem n_i583 : a_ins 96 583 = some (.ifCond .ne 100, 3) := by decide +kernel
theorem n_i586 : a_ins 96 586 = some (.aload_n 0, 1) := by decide +kernel
theorem n_i587 : a_ins 96 587 = some (.bipush 70, 2) := by decide +kernel
theorem n_i589 : a_ins 96 589 = some (.iload 12, 2) := by decide +kernel
theorem n_i591 : a_ins 96 591 = some (.iadd, 1) := by decide +kernel
theorem n_i592 : a_ins 96 592 = some (.iconst 3, 1) := by decide +kernel
theorem n_i593 : a_ins 96 593 = some (.invokestatic 82, 3) := by decide +kernel
theorem n_i596 : a_ins 96 596 = some (.istore 17, 2) := by decide +kernel
theorem n_i598 : a_ins 96 598 = some (.aload 9, 2) := by decide +kernel
theorem n_i600 : a_ins 96 600 = some (.iload 12, 2) := by decide +kernel
theorem n_i602 : a_ins 96 602 = some (.iconst 2, 1) := by decide +kernel
theorem n_i603 : a_ins 96 603 = some (.iload 17, 2) := by decide +kernel
theorem n_i605 : a_ins 96 605 = some (.isub, 1) := by decide +kernel
theorem n_i606 : a_ins 96 606 = some (.iastore, 1) := by decide +kernel
theorem n_i607 : a_ins 96 607 = some (.iload_n 2, 1) := by decide +kernel
theorem n_i608 : a_ins 96 608 = some (.aload_n 1, 1) := by decide +kernel
theorem n_i609 : a_ins 96 609 = some (.iload 12, 2) := by decide +kernel
theorem n_i611 : a_ins 96 611 = some (.iload 17, 2) := by decide +kernel
theorem n_i613 : a_ins 96 613 = some (.ifCond .ne 8, 3) := by decide +kernel
theorem n_i616 : a_ins 96 616 = some (.bipush 97, 2) := by decide +kernel
theorem n_i618 : a_ins 96 618 = some (.goto 16, 3) := by decide +kernel
theorem n_i621 : a_ins 96 621 = some (.iload 17, 2) := by decide +kernel
theorem n_i623 : a_ins 96 623 = some (.iconst 1, 1) := by decide +kernel
theorem n_i624 : a_ins 96 624 = some (.if_icmp .ne 8, 3) := by decide +kernel
theorem n_i627 : a_ins 96 627 = some (.bipush 108, 2) := by decide +kernel
theorem n_i629 : a_ins 96 629 = some (.goto 5, 3) := by decide +kernel
theorem n_i632 : a_ins 96 632 = some (.bipush 116, 2) := by decide +kernel
theorem n_i634 : a_ins 96 634 = some (.invokestatic 98, 3) := by decide +kernel
theorem n_i637 : a_ins 96 637 = some (.iload 17, 2) := by decide +kernel
theorem n_i639 : a_ins 96 639 = some (.ifCond .ne 8, 3) := by decide +kernel
theorem n_i642 : a_ins 96 642 = some (.bipush 108, 2) := by decide +kernel
theorem n_i644 : a_ins 96 644 = some (.goto 16, 3) := by decide +kernel
theorem n_i647 : a_ins 96 647 = some (.iload 17, 2) := by decide +kernel
theorem n_i649 : a_ins 96 649 = some (.iconst 1, 1) := by decide +kernel
theorem n_i650 : a_ins 96 650 = some (.if_icmp .ne 8, 3) := by decide +kernel
theorem n_i653 : a_ins 96 653 = some (.bipush 116, 2) := by decide +kernel
theorem n_i655 : a_ins 96 655 = some (.goto 5, 3) := by decide +kernel
theorem n_i658 : a_ins 96 658 = some (.bipush 45, 2) := by decide +kernel
theorem n_i660 : a_ins 96 660 = some (.if_icmp .ne 20, 3) := by decide +kernel
theorem n_i663 : a_ins 96 663 = some (.aload_n 1, 1) := by decide +kernel
theorem n_i664 : a_ins 96 664 = some (.iload 12, 2) := by decide +kernel
theorem n_i666 : a_ins 96 666 = some (.bipush 120, 2) := by decide +kernel
theorem n_i668 : a_ins 96 668 = some (.invokestatic 98, 3) := by decide +kernel
theorem n_i671 : a_ins 96 671 = some (.ldc 20, 2) := by decide +kernel
theorem n_i673 : a_ins 96 673 = some (.if_icmp .ne 7, 3) := by decide +kernel
theorem n_i676 : a_ins 96 676 = some (.iconst 1, 1) := by decide +kernel
theorem n_i677 : a_ins 96 677 = some (.goto 4, 3) := by decide +kernel
theorem n_i680 : a_ins 96 680 = some (.iconst 0, 1) := by decide +kernel
theorem n_i681 : a_ins 96 681 = some (.iand, 1) := by decide +kernel
theorem n_i682 : a_ins 96 682 = some (.istore_n 2, 1) := by decide +kernel
theorem n_i683 : a_ins 96 683 = some (.iinc 12 1, 3) := by decide +kernel
theorem n_i686 : a_ins 96 686 = some (.goto (-491), 3) := by decide +kernel
theorem n_i689 : a_ins 96 689 = some (.iload_n 3, 1) := by decide +kernel
theorem n_i690 : a_ins 96 690 = some (.newarray .int, 2) := by decide +kernel
theorem n_i692 : a_ins 96 692 = some (.astore 12, 2) := by decide +kernel
theorem n_i694 : a_ins 96 694 = some (.iload_n 3, 1) := by decide +kernel
theorem n_i695 : a_ins 96 695 = some (.newarray .int, 2) := by decide +kernel
theorem n_i697 : a_ins 96 697 = some (.astore 13, 2) := by decide +kernel
theorem n_i699 : a_ins 96 699 = some (.iconst 0, 1) := by decide +kernel
theorem n_i700 : a_ins 96 700 = some (.istore 14, 2) := by decide +kernel
theorem n_i702 : a_ins 96 702 = some (.iload 14, 2) := by decide +kernel
theorem n_i704 : a_ins 96 704 = some (.iload 4, 2) := by decide +kernel
theorem n_i706 : a_ins 96 706 = some (.if_icmp .ge 217, 3) := by decide +kernel
theorem n_i709 : a_ins 96 709 = some (.iconst 0, 1) := by decide +kernel
theorem n_i710 : a_ins 96 710 = some (.istore 15, 2) := by decide +kernel
theorem n_i712 : a_ins 96 712 = some (.iconst 0, 1) := by decide +kernel
theorem n_i713 : a_ins 96 713 = some (.istore 16, 2) := by decide +kernel
theorem n_i715 : a_ins 96 715 = some (.iload 16, 2) := by decide +kernel
theorem n_i717 : a_ins 96 717 = some (.iload_n 3, 1) := by decide +kernel
theorem n_i718 : a_ins 96 718 = some (.if_icmp .ge 199, 3) := by decide +kernel
theorem n_i721 : a_ins 96 721 = some (.aload_n 0, 1) := by decide +kernel
theorem n_i722 : a_ins 96 722 = some (.bipush 80, 2) := by decide +kernel
theorem n_i724 : a_ins 96 724 = some (.bipush 8, 2) := by decide +kernel
theorem n_i726 : a_ins 96 726 = some (.iload 14, 2) := by decide +kernel
theorem n_i728 : a_ins 96 728 = some (.imul, 1) := by decide +kernel
theorem n_i729 : a_ins 96 729 = some (.iadd, 1) := by decide +kernel
theorem n_i730 : a_ins 96 730 = some (.iload 16, 2) := by decide +kernel
theorem n_i732 : a_ins 96 732 = some (.iadd, 1) := by decide +kernel
theorem n_i733 : a_ins 96 733 = some (.bipush 101, 2) := by decide +kernel
theorem n_i735 : a_ins 96 735 = some (.invokestatic 82, 3) := by decide +kernel
theorem n_i738 : a_ins 96 738 = some (.istore 17, 2) := by decide +kernel
theorem n_i740 : a_ins 96 740 = some (.aload 10, 2) := by decide +kernel
theorem n_i742 : a_ins 96 742 = some (.iload 14, 2) := by decide +kernel
theorem n_i744 : a_ins 96 744 = some (.aaload, 1) := by decide +kernel
theorem n_i745 : a_ins 96 745 = some (.iload 16, 2) := by decide +kernel
theorem n_i747 : a_ins 96 747 = some (.baload, 1) := by decide +kernel
theorem n_i748 : a_ins 96 748 = some (.ifCond .eq 27, 3) := by decide +kernel
theorem n_i751 : a_ins 96 751 = some (.aload_n 0, 1) := by decide +kernel
theorem n_i752 : a_ins 96 752 = some (.sipush 150, 3) := by decide +kernel
theorem n_i755 : a_ins 96 755 = some (.bipush 8, 2) := by decide +kernel
theorem n_i757 : a_ins 96 757 = some (.iload 14, 2) := by decide +kernel
theorem n_i759 : a_ins 96 759 = some (.imul, 1) := by decide +kernel
theorem n_i760 : a_ins 96 760 = some (.iadd, 1) := by decide +kernel
theorem n_i761 : a_ins 96 761 = some (.iload 16, 2) := by decide +kernel
theorem n_i763 : a_ins 96 763 = some (.iadd, 1) := by decide +kernel
theorem n_i764 : a_ins 96 764 = some (.iconst 5, 1) := by decide +kernel
theorem n_i765 : a_ins 96 765 = some (.invokestatic 82, 3) := by decide +kernel
theorem n_i768 : a_ins 96 768 = some (.ifCond .le 7, 3) := by decide +kernel
theorem n_i771 : a_ins 96 771 = some (.iconst 1, 1) := by decide +kernel
theorem n_i772 : a_ins 96 772 = some (.goto 4, 3) := by decide +kernel
theorem n_i775 : a_ins 96 775 = some (.iconst 0, 1) := by decide +kernel
theorem n_i776 : a_ins 96 776 = some (.istore 18, 2) := by decide +kernel
theorem n_i778 : a_ins 96 778 = some (.iload 18, 2) := by decide +kernel
theorem n_i780 : a_ins 96 780 = some (.ifCond .eq 76, 3) := by decide +kernel
theorem n_i783 : a_ins 96 783 = some (.aload 11, 2) := by decide +kernel
theorem n_i785 : a_ins 96 785 = some (.iload 14, 2) := by decide +kernel
theorem n_i787 : a_ins 96 787 = some (.aaload, 1) := by decide +kernel
theorem n_i788 : a_ins 96 788 = some (.iload 16, 2) := by decide +kernel
theorem n_i790 : a_ins 96 790 = some (.iload 17, 2) := by decide +kernel
theorem n_i792 : a_ins 96 792 = some (.iastore, 1) := by decide +kernel
theorem n_i793 : a_ins 96 793 = some (.aload 12, 2) := by decide +kernel
theorem n_i795 : a_ins 96 795 = some (.iload 16, 2) := by decide +kernel
theorem n_i797 : a_ins 96 797 = some (.dup2, 1) := by decide +kernel
theorem n_i798 : a_ins 96 798 = some (.iaload, 1) := by decide +kernel
theorem n_i799 : a_ins 96 799 = some (.iload 17, 2) := by decide +kernel
theorem n_i801 : a_ins 96 801 = some (.iadd, 1) := by decide +kernel
theorem n_i802 : a_ins 96 802 = some (.iastore, 1) := by decide +kernel
theorem n_i803 : a_ins 96 803 = some (.aload 13, 2) := by decide +kernel
theorem n_i805 : a_ins 96 805 = some (.iload 16, 2) := by decide +kernel
theorem n_i807 : a_ins 96 807 = some (.dup2, 1) := by decide +kernel
theorem n_i808 : a_ins 96 808 = some (.iaload, 1) := by decide +kernel
theorem n_i809 : a_ins 96 809 = some (.iconst 1, 1) := by decide +kernel
theorem n_i810 : a_ins 96 810 = some (.iadd, 1) := by decide +kernel
theorem n_i811 : a_ins 96 811 = some (.iastore, 1) := by decide +kernel
theorem n_i812 : a_ins 96 812 = some (.iinc 15 1, 3) := by decide +kernel
theorem n_i815 : a_ins 96 815 = some (.iload_n 2, 1) := by decide +kernel
theorem n_i816 : a_ins 96 816 = some (.aload_n 1, 1) := by decide +kernel
theorem n_i817 : a_ins 96 817 = some (.iload 14, 2) := by decide +kernel
theorem n_i819 : a_ins 96 819 = some (.iload 16, 2) := by decide +kernel
theorem n_i821 : a_ins 96 821 = some (.iload 17, 2) := by decide +kernel
theorem n_i823 : a_ins 96 823 = some (.invokestatic 101, 3) := by decide +kernel
theorem n_i826 : a_ins 96 826 = some (.iload 15, 2) := by decide +kernel
theorem n_i828 : a_ins 96 828 = some (.if_icmp .ne 22, 3) := by decide +kernel
theorem n_i831 : a_ins 96 831 = some (.aload_n 1, 1) := by decide +kernel
theorem n_i832 : a_ins 96 832 = some (.iload 14, 2) := by decide +kernel
theorem n_i834 : a_ins 96 834 = some (.iload 16, 2) := by decide +kernel
theorem n_i836 : a_ins 96 836 = some (.iload 17, 2) := by decide +kernel
theorem n_i838 : a_ins 96 838 = some (.invokestatic 101, 3) := by decide +kernel
theorem n_i841 : a_ins 96 841 = some (.ldc 33, 2) := by decide +kernel
theorem n_i843 : a_ins 96 843 = some (.if_icmp .ne 7, 3) := by decide +kernel
theorem n_i846 : a_ins 96 846 = some (.iconst 1, 1) := by decide +kernel
theorem n_i847 : a_ins 96 847 = some (.goto 4, 3) := by decide +kernel
theorem n_i850 : a_ins 96 850 = some (.iconst 0, 1) := by decide +kernel
theorem n_i851 : a_ins 96 851 = some (.iand, 1) := by decide +kernel
theorem n_i852 : a_ins 96 852 = some (.istore_n 2, 1) := by decide +kernel
theorem n_i853 : a_ins 96 853 = some (.goto 58, 3) := by decide +kernel
theorem n_i856 : a_ins 96 856 = some (.iload_n 2, 1) := by decide +kernel
theorem n_i857 : a_ins 96 857 = some (.aload 10, 2) := by decide +kernel
theorem n_i859 : a_ins 96 859 = some (.iload 14, 2) := by decide +kernel
theorem n_i861 : a_ins 96 861 = some (.aaload, 1) := by decide +kernel
theorem n_i862 : a_ins 96 862 = some (.iload 16, 2) := by decide +kernel
theorem n_i864 : a_ins 96 864 = some (.baload, 1) := by decide +kernel
theorem n_i865 : a_ins 96 865 = some (.ifCond .eq 24, 3) := by decide +kernel
theorem n_i868 : a_ins 96 868 = some (.aload_n 1, 1) := by decide +kernel
theorem n_i869 : a_ins 96 869 = some (.iload 14, 2) := by decide +kernel
theorem n_i871 : a_ins 96 871 = some (.iload 16, 2) := by decide +kernel
theorem n_i873 : a_ins 96 873 = some (.invokestatic 104, 3) := by decide +kernel
theorem n_i876 : a_ins 96 876 = some (.ldc 20, 2) := by decide +kernel
theorem n_i878 : a_ins 96 878 = some (.if_icmp .ne 7, 3) := by decide +kernel
theorem n_i881 : a_ins 96 881 = some (.iconst 1, 1) := by decide +kernel
theorem n_i882 : a_ins 96 882 = some (.goto 27, 3) := by decide +kernel
theorem n_i885 : a_ins 96 885 = some (.iconst 0, 1) := by decide +kernel
theorem n_i886 : a_ins 96 886 = some (.goto 23, 3) := by decide +kernel
theorem n_i889 : a_ins 96 889 = some (.aload_n 1, 1) := by decide +kernel
theorem n_i890 : a_ins 96 890 = some (.iload 14, 2) := by decide +kernel
theorem n_i892 : a_ins 96 892 = some (.iload 16, 2) := by decide +kernel
theorem n_i894 : a_ins 96 894 = some (.iload 17, 2) := by decide +kernel
theorem n_i896 : a_ins 96 896 = some (.invokestatic 101, 3) := by decide +kernel
theorem n_i899 : a_ins 96 899 = some (.ldc 33, 2) := by decide +kernel
theorem n_i901 : a_ins 96 901 = some (.if_icmp .ne 7, 3) := by decide +kernel
theorem n_i904 : a_ins 96 904 = some (.iconst 1, 1) := by decide +kernel
theorem n_i905 : a_ins 96 905 = some (.goto 4, 3) := by decide +kernel
theorem n_i908 : a_ins 96 908 = some (.iconst 0, 1) := by decide +kernel
theorem n_i909 : a_ins 96 909 = some (.iand, 1) := by decide +kernel
theorem n_i910 : a_ins 96 910 = some (.istore_n 2, 1) := by decide +kernel
theorem n_i911 : a_ins 96 911 = some (.iinc 16 1, 3) := by decide +kernel
theorem n_i914 : a_ins 96 914 = some (.goto (-199), 3) := by decide +kernel
theorem n_i917 : a_ins 96 917 = some (.iinc 14 1, 3) := by decide +kernel
theorem n_i920 : a_ins 96 920 = some (.goto (-218), 3) := by decide +kernel
theorem n_i923 : a_ins 96 923 = some (.iload 4, 2) := by decide +kernel
theorem n_i925 : a_ins 96 925 = some (.newarray .int, 2) := by decide +kernel
theorem n_i927 : a_ins 96 927 = some (.astore 14, 2) := by decide +kernel
theorem n_i929 : a_ins 96 929 = some (.iload 4, 2) := by decide +kernel
theorem n_i931 : a_ins 96 931 = some (.newarray .boolean, 2) := by decide +kernel
theorem n_i933 : a_ins 96 933 = some (.astore 15, 2) := by decide +kernel
theorem n_i935 : a_ins 96 935 = some (.iload 4, 2) := by decide +kernel
theorem n_i937 : a_ins 96 937 = some (.newarray .boolean, 2) := by decide +kernel
theorem n_i939 : a_ins 96 939 = some (.astore 16, 2) := by decide +kernel
theorem n_i941 : a_ins 96 941 = some (.iconst 0, 1) := by decide +kernel
theorem n_i942 : a_ins 96 942 = some (.istore 17, 2) := by decide +kernel
theorem n_i944 : a_ins 96 944 = some (.iload 17, 2) := by decide +kernel
theorem n_i946 : a_ins 96 946 = some (.iload 4, 2) := by decide +kernel
theorem n_i948 : a_ins 96 948 = some (.if_icmp .ge 244, 3) := by decide +kernel
theorem n_i951 : a_ins 96 951 = some (.iconst 0, 1) := by decide +kernel
theorem n_i952 : a_ins 96 952 = some (.istore 18, 2) := by decide +kernel
theorem n_i954 : a_ins 96 954 = some (.iconst 0, 1) := by decide +kernel
theorem n_i955 : a_ins 96 955 = some (.istore 19, 2) := by decide +kernel
theorem n_i957 : a_ins 96 957 = some (.sipush 9999, 3) := by decide +kernel
theorem n_i960 : a_ins 96 960 = some (.istore 20, 2) := by decide +kernel
theorem n_i962 : a_ins 96 962 = some (.sipush (-9999), 3) := by decide +kernel
theorem n_i965 : a_ins 96 965 = some (.istore 21, 2) := by decide +kernel
theorem n_i967 : a_ins 96 967 = some (.iconst 0, 1) := by decide +kernel
theorem n_i968 : a_ins 96 968 = some (.istore 22, 2) := by decide +kernel
theorem n_i970 : a_ins 96 970 = some (.iload 22, 2) := by decide +kernel
theorem n_i972 : a_ins 96 972 = some (.iload_n 3, 1) := by decide +kernel
theorem n_i973 : a_ins 96 973 = some (.if_icmp .ge 108, 3) := by decide +kernel
theorem n_i976 : a_ins 96 976 = some (.aload 11, 2) := by decide +kernel
theorem n_i978 : a_ins 96 978 = some (.iload 17, 2) := by decide +kernel
theorem n_i980 : a_ins 96 980 = some (.aaload, 1) := by decide +kernel
theorem n_i981 : a_ins 96 981 = some (.iload 22, 2) := by decide +kernel
theorem n_i983 : a_ins 96 983 = some (.iaload, 1) := by decide +kernel
theorem n_i984 : a_ins 96 984 = some (.ifCond .lt 91, 3) := by decide +kernel
theorem n_i987 : a_ins 96 987 = some (.aload 11, 2) := by decide +kernel
theorem n_i989 : a_ins 96 989 = some (.iload 17, 2) := by decide +kernel
theorem n_i991 : a_ins 96 991 = some (.aaload, 1) := by decide +kernel
theorem n_i992 : a_ins 96 992 = some (.iload 22, 2) := by decide +kernel
theorem n_i994 : a_ins 96 994 = some (.iaload, 1) := by decide +kernel
theorem n_i995 : a_ins 96 995 = some (.aload 12, 2) := by decide +kernel
theorem n_i997 : a_ins 96 997 = some (.iload 22, 2) := by decide +kernel
theorem n_i999 : a_ins 96 999 = some (.iaload, 1) := by decide +kernel
theorem n_i1000 : a_ins 96 1000 = some (.aload 13, 2) := by decide +kernel
theorem n_i1002 : a_ins 96 1002 = some (.iload 22, 2) := by decide +kernel
theorem n_i1004 : a_ins 96 1004 = some (.iaload, 1) := by decide +kernel
theorem n_i1005 : a_ins 96 1005 = some (.idiv, 1) := by decide +kernel
theorem n_i1006 : a_ins 96 1006 = some (.isub, 1) := by decide +kernel
theorem n_i1007 : a_ins 96 1007 = some (.bipush 50, 2) := by decide +kernel
theorem n_i1009 : a_ins 96 1009 = some (.iadd, 1) := by decide +kernel
theorem n_i1010 : a_ins 96 1010 = some (.istore 23, 2) := by decide +kernel
theorem n_i1012 : a_ins 96 1012 = some (.iload_n 2, 1) := by decide +kernel
theorem n_i1013 : a_ins 96 1013 = some (.aload_n 1, 1) := by decide +kernel
theorem n_i1014 : a_ins 96 1014 = some (.iload 17, 2) := by decide +kernel
theorem n_i1016 : a_ins 96 1016 = some (.iload 22, 2) := by decide +kernel
theorem n_i1018 : a_ins 96 1018 = some (.invokestatic 104, 3) := by decide +kernel
theorem n_i1021 : a_ins 96 1021 = some (.iload 23, 2) := by decide +kernel
theorem n_i1023 : a_ins 96 1023 = some (.if_icmp .ne 7, 3) := by decide +kernel
theorem n_i1026 : a_ins 96 1026 = some (.iconst 1, 1) := by decide +kernel
theorem n_i1027 : a_ins 96 1027 = some (.goto 4, 3) := by decide +kernel
theorem n_i1030 : a_ins 96 1030 = some (.iconst 0, 1) := by decide +kernel
theorem n_i1031 : a_ins 96 1031 = some (.iand, 1) := by decide +kernel
theorem n_i1032 : a_ins 96 1032 = some (.istore_n 2, 1) := by decide +kernel
theorem n_i1033 : a_ins 96 1033 = some (.iload 18, 2) := by decide +kernel
theorem n_i1035 : a_ins 96 1035 = some (.iload 23, 2) := by decide +kernel
theorem n_i1037 : a_ins 96 1037 = some (.iadd, 1) := by decide +kernel
theorem n_i1038 : a_ins 96 1038 = some (.istore 18, 2) := by decide +kernel
theorem n_i1040 : a_ins 96 1040 = some (.iinc 19 1, 3) := by decide +kernel
theorem n_i1043 : a_ins 96 1043 = some (.iload 23, 2) := by decide +kernel
theorem n_i1045 : a_ins 96 1045 = some (.iload 20, 2) := by decide +kernel
theorem n_i1047 : a_ins 96 1047 = some (.if_icmp .ge 8, 3) := by decide +kernel
theorem n_i1050 : a_ins 96 1050 = some (.iload 23, 2) := by decide +kernel
theorem n_i1052 : a_ins 96 1052 = some (.goto 5, 3) := by decide +kernel
theorem n_i1055 : a_ins 96 1055 = some (.iload 20, 2) := by decide +kernel
theorem n_i1057 : a_ins 96 1057 = some (.istore 20, 2) := by decide +kernel
theorem n_i1059 : a_ins 96 1059 = some (.iload 23, 2) := by decide +kernel
theorem n_i1061 : a_ins 96 1061 = some (.iload 21, 2) := by decide +kernel
theorem n_i1063 : a_ins 96 1063 = some (.if_icmp .le 8, 3) := by decide +kernel
theorem n_i1066 : a_ins 96 1066 = some (.iload 23, 2) := by decide +kernel
theorem n_i1068 : a_ins 96 1068 = some (.goto 5, 3) := by decide +kernel
theorem n_i1071 : a_ins 96 1071 = some (.iload 21, 2) := by decide +kernel
theorem n_i1073 : a_ins 96 1073 = some (.istore 21, 2) := by decide +kernel
theorem n_i1075 : a_ins 96 1075 = some (.iinc 22 1, 3) := by decide +kernel
theorem n_i1078 : a_ins 96 1078 = some (.goto (-108), 3) := by decide +kernel
theorem n_i1081 : a_ins 96 1081 = some (.aload 15, 2) := by decide +kernel
theorem n_i1083 : a_ins 96 1083 = some (.iload 17, 2) := by decide +kernel
theorem n_i1085 : a_ins 96 1085 = some (.iload 19, 2) := by decide +kernel
theorem n_i1087 : a_ins 96 1087 = some (.ifCond .le 7, 3) := by decide +kernel
theorem n_i1090 : a_ins 96 1090 = some (.iconst 1, 1) := by decide +kernel
theorem n_i1091 : a_ins 96 1091 = some (.goto 4, 3) := by decide +kernel
theorem n_i1094 : a_ins 96 1094 = some (.iconst 0, 1) := by decide +kernel
theorem n_i1095 : a_ins 96 1095 = some (.bastore, 1) := by decide +kernel
theorem n_i1096 : a_ins 96 1096 = some (.aload 14, 2) := by decide +kernel
theorem n_i1098 : a_ins 96 1098 = some (.iload 17, 2) := by decide +kernel
theorem n_i1100 : a_ins 96 1100 = some (.iload 19, 2) := by decide +kernel
theorem n_i1102 : a_ins 96 1102 = some (.ifCond .le 11, 3) := by decide +kernel
theorem n_i1105 : a_ins 96 1105 = some (.iload 18, 2) := by decide +kernel
theorem n_i1107 : a_ins 96 1107 = some (.iload 19, 2) := by decide +kernel
theorem n_i1109 : a_ins 96 1109 = some (.idiv, 1) := by decide +kernel
theorem n_i1110 : a_ins 96 1110 = some (.goto 4, 3) := by decide +kernel
theorem n_i1113 : a_ins 96 1113 = some (.iconst 0, 1) := by decide +kernel
theorem n_i1114 : a_ins 96 1114 = some (.iastore, 1) := by decide +kernel
theorem n_i1115 : a_ins 96 1115 = some (.aload 16, 2) := by decide +kernel
theorem n_i1117 : a_ins 96 1117 = some (.iload 17, 2) := by decide +kernel
theorem n_i1119 : a_ins 96 1119 = some (.iload 19, 2) := by decide +kernel
theorem n_i1121 : a_ins 96 1121 = some (.ifCond .le 17, 3) := by decide +kernel
theorem n_i1124 : a_ins 96 1124 = some (.iload 21, 2) := by decide +kernel
theorem n_i1126 : a_ins 96 1126 = some (.iload 20, 2) := by decide +kernel
theorem n_i1128 : a_ins 96 1128 = some (.isub, 1) := by decide +kernel
theorem n_i1129 : a_ins 96 1129 = some (.bipush 30, 2) := by decide +kernel
theorem n_i1131 : a_ins 96 1131 = some (.if_icmp .le 7, 3) := by decide +kernel
theorem n_i1134 : a_ins 96 1134 = some (.iconst 1, 1) := by decide +kernel
theorem n_i1135 : a_ins 96 1135 = some (.goto 4, 3) := by decide +kernel
theorem n_i1138 : a_ins 96 1138 = some (.iconst 0, 1) := by decide +kernel
theorem n_i1139 : a_ins 96 1139 = some (.bastore, 1) := by decide +kernel
theorem n_i1140 : a_ins 96 1140 = some (.iload_n 2, 1) := by decide +kernel
theorem n_i1141 : a_ins 96 1141 = some (.aload_n 1, 1) := by decide +kernel
theorem n_i1142 : a_ins 96 1142 = some (.iload 17, 2) := by decide +kernel
theorem n_i1144 : a_ins 96 1144 = some (.invokestatic 80, 3) := by decide +kernel
theorem n_i1147 : a_ins 96 1147 = some (.iload 19, 2) := by decide +kernel
theorem n_i1149 : a_ins 96 1149 = some (.ifCond .le 11, 3) := by decide +kernel
theorem n_i1152 : a_ins 96 1152 = some (.aload 14, 2) := by decide +kernel
theorem n_i1154 : a_ins 96 1154 = some (.iload 17, 2) := by decide +kernel
theorem n_i1156 : a_ins 96 1156 = some (.iaload, 1) := by decide +kernel
theorem n_i1157 : a_ins 96 1157 = some (.goto 5, 3) := by decide +kernel
theorem n_i1160 : a_ins 96 1160 = some (.ldc 20, 2) := by decide +kernel
theorem n_i1162 : a_ins 96 1162 = some (.if_icmp .ne 21, 3) := by decide +kernel
theorem n_i1165 : a_ins 96 1165 = some (.aload_n 1, 1) := by decide +kernel
theorem n_i1166 : a_ins 96 1166 = some (.iload 17, 2) := by decide +kernel
theorem n_i1168 : a_ins 96 1168 = some (.invokevirtual 90, 3) := by decide +kernel
theorem n_i1171 : a_ins 96 1171 = some (.aload 16, 2) := by decide +kernel
theorem n_i1173 : a_ins 96 1173 = some (.iload 17, 2) := by decide +kernel
theorem n_i1175 : a_ins 96 1175 = some (.baload, 1) := by decide +kernel
theorem n_i1176 : a_ins 96 1176 = some (.if_icmp .ne 7, 3) := by decide +kernel
theorem n_i1179 : a_ins 96 1179 = some (.iconst 1, 1) := by decide +kernel
theorem n_i1180 : a_ins 96 1180 = some (.goto 4, 3) := by decide +kernel
theorem n_i1183 : a_ins 96 1183 = some (.iconst 0, 1) := by decide +kernel
theorem n_i1184 : a_ins 96 1184 = some (.iand, 1) := by decide +kernel
theorem n_i1185 : a_ins 96 1185 = some (.istore_n 2, 1) := by decide +kernel
theorem n_i1186 : a_ins 96 1186 = some (.iinc 17 1, 3) := by decide +kernel
theorem n_i1189 : a_ins 96 1189 = some (.goto (-245), 3) := by decide +kernel
theorem n_i1192 : a_ins 96 1192 = some (.iload 4, 2) := by decide +kernel
theorem n_i1194 : a_ins 96 1194 = some (.newarray .boolean, 2) := by decide +kernel
theorem n_i1196 : a_ins 96 1196 = some (.astore 17, 2) := by decide +kernel
theorem n_i1198 : a_ins 96 1198 = some (.iload 4, 2) := by decide +kernel
theorem n_i1200 : a_ins 96 1200 = some (.newarray .int, 2) := by decide +kernel
theorem n_i1202 : a_ins 96 1202 = some (.astore 18, 2) := by decide +kernel
theorem n_i1204 : a_ins 96 1204 = some (.iconst 0, 1) := by decide +kernel
theorem n_i1205 : a_ins 96 1205 = some (.istore 19, 2) := by decide +kernel
theorem n_i1207 : a_ins 96 1207 = some (.iload 19, 2) := by decide +kernel
theorem n_i1209 : a_ins 96 1209 = some (.iconst 2, 1) := by decide +kernel
theorem n_i1210 : a_ins 96 1210 = some (.if_icmp .ge 439, 3) := by decide +kernel
theorem n_i1213 : a_ins 96 1213 = some (.iconst 1, 1) := by decide +kernel
theorem n_i1214 : a_ins 96 1214 = some (.aload_n 0, 1) := by decide +kernel
theorem n_i1215 : a_ins 96 1215 = some (.sipush 210, 3) := by decide +kernel
theorem n_i1218 : a_ins 96 1218 = some (.iload 19, 2) := by decide +kernel
theorem n_i1220 : a_ins 96 1220 = some (.iadd, 1) := by decide +kernel
theorem n_i1221 : a_ins 96 1221 = some (.iconst 4, 1) := by decide +kernel
theorem n_i1222 : a_ins 96 1222 = some (.invokestatic 82, 3) := by decide +kernel
theorem n_i1225 : a_ins 96 1225 = some (.iadd, 1) := by decide +kernel
theorem n_i1226 : a_ins 96 1226 = some (.istore 20, 2) := by decide +kernel
theorem n_i1228 : a_ins 96 1228 = some (.iconst 1, 1) := by decide +kernel
theorem n_i1229 : a_ins 96 1229 = some (.aload_n 0, 1) := by decide +kernel
theorem n_i1230 : a_ins 96 1230 = some (.sipush 212, 3) := by decide +kernel
theorem n_i1233 : a_ins 96 1233 = some (.iload 19, 2) := by decide +kernel
theorem n_i1235 : a_ins 96 1235 = some (.iadd, 1) := by decide +kernel
theorem n_i1236 : a_ins 96 1236 = some (.sipush 800, 3) := by decide +kernel
theorem n_i1239 : a_ins 96 1239 = some (.invokestatic 82, 3) := by decide +kernel
theorem n_i1242 : a_ins 96 1242 = some (.iadd, 1) := by decide +kernel
theorem n_i1243 : a_ins 96 1243 = some (.istore 21, 2) := by decide +kernel
theorem n_i1245 : a_ins 96 1245 = some (.aload_n 0, 1) := by decide +kernel
theorem n_i1246 : a_ins 96 1246 = some (.sipush 214, 3) := by decide +kernel
theorem n_i1249 : a_ins 96 1249 = some (.iload 19, 2) := by decide +kernel
theorem n_i1251 : a_ins 96 1251 = some (.iadd, 1) := by decide +kernel
theorem n_i1252 : a_ins 96 1252 = some (.bipush 60, 2) := by decide +kernel
theorem n_i1254 : a_ins 96 1254 = some (.invokestatic 82, 3) := by decide +kernel
theorem n_i1257 : a_ins 96 1257 = some (.istore 22, 2) := by decide +kernel
theorem n_i1259 : a_ins 96 1259 = some (.aload_n 0, 1) := by decide +kernel
theorem n_i1260 : a_ins 96 1260 = some (.sipush 216, 3) := by decide +kernel
theorem n_i1263 : a_ins 96 1263 = some (.iload 19, 2) := by decide +kernel
theorem n_i1265 : a_ins 96 1265 = some (.iadd, 1) := by decide +kernel
theorem n_i1266 : a_ins 96 1266 = some (.iconst 3, 1) := by decide +kernel
theorem n_i1267 : a_ins 96 1267 = some (.invokestatic 82, 3) := by decide +kernel
theorem n_i1270 : a_ins 96 1270 = some (.ifCond .ne 8, 3) := by decide +kernel
theorem n_i1273 : a_ins 96 1273 = some (.bipush 100, 2) := by decide +kernel
theorem n_i1275 : a_ins 96 1275 = some (.goto 5, 3) := by decide +kernel
theorem n_i1278 : a_ins 96 1278 = some (.bipush 45, 2) := by decide +kernel
theorem n_i1280 : a_ins 96 1280 = some (.istore 23, 2) := by decide +kernel
theorem n_i1282 : a_ins 96 1282 = some (.aload_n 0, 1) := by decide +kernel
theorem n_i1283 : a_ins 96 1283 = some (.sipush 218, 3) := by decide +kernel
theorem n_i1286 : a_ins 96 1286 = some (.iload 19, 2) := by decide +kernel
theorem n_i1288 : a_ins 96 1288 = some (.iadd, 1) := by decide +kernel
theorem n_i1289 : a_ins 96 1289 = some (.iconst 4, 1) := by decide +kernel
theorem n_i1290 : a_ins 96 1290 = some (.invokestatic 82, 3) := by decide +kernel
theorem n_i1293 : a_ins 96 1293 = some (.istore 24, 2) := by decide +kernel
theorem n_i1295 : a_ins 96 1295 = some (.iload 24, 2) := by decide +kernel
theorem n_i1297 : a_ins 96 1297 = some (.iconst 3, 1) := by decide +kernel
theorem n_i1298 : a_ins 96 1298 = some (.if_icmp .ne 8, 3) := by decide +kernel
theorem n_i1301 : a_ins 96 1301 = some (.bipush 119, 2) := by decide +kernel
theorem n_i1303 : a_ins 96 1303 = some (.goto 27, 3) := by decide +kernel
theorem n_i1306 : a_ins 96 1306 = some (.iload 24, 2) := by decide +kernel
theorem n_i1308 : a_ins 96 1308 = some (.iconst 2, 1) := by decide +kernel
theorem n_i1309 : a_ins 96 1309 = some (.if_icmp .ne 8, 3) := by decide +kernel
theorem n_i1312 : a_ins 96 1312 = some (.bipush 108, 2) := by decide +kernel
theorem n_i1314 : a_ins 96 1314 = some (.goto 16, 3) := by decide +kernel
theorem n_i1317 : a_ins 96 1317 = some (.iload 24, 2) := by decide +kernel
theorem n_i1319 : a_ins 96 1319 = some (.iconst 1, 1) := by decide +kernel
theorem n_i1320 : a_ins 96 1320 = some (.if_icmp .ne 8, 3) := by decide +kernel
theorem n_i1323 : a_ins 96 1323 = some (.bipush 116, 2) := by decide +kernel
theorem n_i1325 : a_ins 96 1325 = some (.goto 5, 3) := by decide +kernel
theorem n_i1328 : a_ins 96 1328 = some (.bipush 45, 2) := by decide +kernel
theorem n_i1330 : a_ins 96 1330 = some (.istore 25, 2) := by decide +kernel
theorem n_i1332 : a_ins 96 1332 = some (.iload_n 2, 1) := by decide +kernel
theorem n_i1333 : a_ins 96 1333 = some (.aload_n 1, 1) := by decide +kernel
theorem n_i1334 : a_ins 96 1334 = some (.iload 20, 2) := by decide +kernel
theorem n_i1336 : a_ins 96 1336 = some (.iload 21, 2) := by decide +kernel
theorem n_i1338 : a_ins 96 1338 = some (.iload 22, 2) := by decide +kernel
theorem n_i1340 : a_ins 96 1340 = some (.iload 23, 2) := by decide +kernel
theorem n_i1342 : a_ins 96 1342 = some (.iload 25, 2) := by decide +kernel
theorem n_i1344 : a_ins 96 1344 = some (.invokestatic 106, 3) := by decide +kernel
theorem n_i1347 : a_ins 96 1347 = some (.iload 19, 2) := by decide +kernel
theorem n_i1349 : a_ins 96 1349 = some (.if_icmp .ne 7, 3) := by decide +kernel
theorem n_i1352 : a_ins 96 1352 = some (.iconst 1, 1) := by decide +kernel
theorem n_i1353 : a_ins 96 1353 = some (.goto 4, 3) := by decide +kernel
theorem n_i1356 : a_ins 96 1356 = some (.iconst 0, 1) := by decide +kernel
theorem n_i1357 : a_ins 96 1357 = some (.iand, 1) := by decide +kernel
theorem n_i1358 : a_ins 96 1358 = some (.istore_n 2, 1) := by decide +kernel
theorem n_i1359 : a_ins 96 1359 = some (.iconst 0, 1) := by decide +kernel
theorem n_i1360 : a_ins 96 1360 = some (.istore 26, 2) := by decide +kernel
theorem n_i1362 : a_ins 96 1362 = some (.iconst 0, 1) := by decide +kernel
theorem n_i1363 : a_ins 96 1363 = some (.istore 27, 2) := by decide +kernel
theorem n_i1365 : a_ins 96 1365 = some (.iload 4, 2) := by decide +kernel
theorem n_i1367 : a_ins 96 1367 = some (.newarray .boolean, 2) := by decide +kernel
theorem n_i1369 : a_ins 96 1369 = some (.astore 28, 2) := by decide +kernel
theorem n_i1371 : a_ins 96 1371 = some (.iconst 0, 1) := by decide +kernel
theorem n_i1372 : a_ins 96 1372 = some (.istore 29, 2) := by decide +kernel
theorem n_i1374 : a_ins 96 1374 = some (.iload 29, 2) := by decide +kernel
theorem n_i1376 : a_ins 96 1376 = some (.iload 4, 2) := by decide +kernel
theorem n_i1378 : a_ins 96 1378 = some (.if_icmp .ge 226, 3) := by decide +kernel
theorem n_i1381 : a_ins 96 1381 = some (.iconst (-1), 1) := by decide +kernel
theorem n_i1382 : a_ins 96 1382 = some (.istore 30, 2) := by decide +kernel
theorem n_i1384 : a_ins 96 1384 = some (.iconst 0, 1) := by decide +kernel
theorem n_i1385 : a_ins 96 1385 = some (.istore 31, 2) := by decide +kernel
theorem n_i1387 : a_ins 96 1387 = some (.iload 31, 2) := by decide +kernel
theorem n_i1389 : a_ins 96 1389 = some (.iload 4, 2) := by decide +kernel
theorem n_i1391 : a_ins 96 1391 = some (.if_icmp .ge 52, 3) := by decide +kernel
theorem n_i1394 : a_ins 96 1394 = some (.aload 15, 2) := by decide +kernel
theorem n_i1396 : a_ins 96 1396 = some (.iload 31, 2) := by decide +kernel
theorem n_i1398 : a_ins 96 1398 = some (.baload, 1) := by decide +kernel
theorem n_i1399 : a_ins 96 1399 = some (.ifCond .eq 34, 3) := by decide +kernel
theorem n_i1402 : a_ins 96 1402 = some (.aload 28, 2) := by decide +kernel
theorem n_i1404 : a_ins 96 1404 = some (.iload 31, 2) := by decide +kernel
theorem n_i1406 : a_ins 96 1406 = some (.baload, 1) := by decide +kernel
theorem n_i1407 : a_ins 96 1407 = some (.ifCond .ne 26, 3) := by decide +kernel
theorem n_i1410 : a_ins 96 1410 = some (.iload 30, 2) := by decide +kernel
theorem n_i1412 : a_ins 96 1412 = some (.ifCond .lt 16, 3) := by decide +kernel
theorem n_i1415 : a_ins 96 1415 = some (.aload 14, 2) := by decide +kernel
theorem n_i1417 : a_ins 96 1417 = some (.iload 31, 2) := by decide +kernel
theorem n_i1419 : a_ins 96 1419 = some (.iaload, 1) := by decide +kernel
theorem n_i1420 : a_ins 96 1420 = some (.aload 14, 2) := by decide +kernel
theorem n_i1422 : a_ins 96 1422 = some (.iload 30, 2) := by decide +kernel
theorem n_i1424 : a_ins 96 1424 = some (.iaload, 1) := by decide +kernel
theorem n_i1425 : a_ins 96 1425 = some (.if_icmp .le 8, 3) := by decide +kernel
theorem n_i1428 : a_ins 96 1428 = some (.iload 31, 2) := by decide +kernel
theorem n_i1430 : a_ins 96 1430 = some (.goto 5, 3) := by decide +kernel
theorem n_i1433 : a_ins 96 1433 = some (.iload 30, 2) := by decide +kernel
theorem n_i1435 : a_ins 96 1435 = some (.istore 30, 2) := by decide +kernel
theorem n_i1437 : a_ins 96 1437 = some (.iinc 31 1, 3) := by decide +kernel
theorem n_i1440 : a_ins 96 1440 = some (.goto (-53), 3) := by decide +kernel
theorem n_i1443 : a_ins 96 1443 = some (.iload 30, 2) := by decide +kernel
theorem n_i1445 : a_ins 96 1445 = some (.ifCond .lt 153, 3) := by decide +kernel
theorem n_i1448 : a_ins 96 1448 = some (.aload 28, 2) := by decide +kernel
theorem n_i1450 : a_ins 96 1450 = some (.iload 30, 2) := by decide +kernel
theorem n_i1452 : a_ins 96 1452 = some (.iconst 1, 1) := by decide +kernel
theorem n_i1453 : a_ins 96 1453 = some (.bastore, 1) := by decide +kernel
theorem n_i1454 : a_ins 96 1454 = some (.aload 17, 2) := by decide +kernel
theorem n_i1456 : a_ins 96 1456 = some (.iload 30, 2) := by decide +kernel
theorem n_i1458 : a_ins 96 1458 = some (.baload, 1) := by decide +kernel
theorem n_i1459 : a_ins 96 1459 = some (.ifCond .ne 72, 3) := by decide +kernel
theorem n_i1462 : a_ins 96 1462 = some (.aload 16, 2) := by decide +kernel
theorem n_i1464 : a_ins 96 1464 = some (.iload 30, 2) := by decide +kernel
theorem n_i1466 : a_ins 96 1466 = some (.baload, 1) := by decide +kernel
theorem n_i1467 : a_ins 96 1467 = some (.ifCond .ne 64, 3) := by decide +kernel
theorem n_i1470 : a_ins 96 1470 = some (.iload 23, 2) := by decide +kernel
theorem n_i1472 : a_ins 96 1472 = some (.bipush 45, 2) := by decide +kernel
theorem n_i1474 : a_ins 96 1474 = some (.if_icmp .eq 13, 3) := by decide +kernel
theorem n_i1477 : a_ins 96 1477 = some (.aload 8, 2) := by decide +kernel
theorem n_i1479 : a_ins 96 1479 = some (.iload 30, 2) := by decide +kernel
theorem n_i1481 : a_ins 96 1481 = some (.caload, 1) := by decide +kernel
theorem n_i1482 : a_ins 96 1482 = some (.iload 23, 2) := by decide +kernel
theorem n_i1484 : a_ins 96 1484 = some (.if_icmp .ne 47, 3) := by decide +kernel
theorem n_i1487 : a_ins 96 1487 = some (.aload 14, 2) := by decide +kernel
theorem n_i1489 : a_ins 96 1489 = some (.iload 30, 2) := by decide +kernel
theorem n_i1491 : a_ins 96 1491 = some (.iaload, 1) := by decide +kernel
theorem n_i1492 : a_ins 96 1492 = some (.iload 22, 2) := by decide +kernel
theorem n_i1494 : a_ins 96 1494 = some (.if_icmp .lt 37, 3) := by decide +kernel
theorem n_i1497 : a_ins 96 1497 = some (.aload 9, 2) := by decide +kernel
theorem n_i1499 : a_ins 96 1499 = some (.iload 30, 2) := by decide +kernel
theorem n_i1501 : a_ins 96 1501 = some (.iaload, 1) := by decide +kernel
theorem n_i1502 : a_ins 96 1502 = some (.iload 24, 2) := by decide +kernel
theorem n_i1504 : a_ins 96 1504 = some (.if_icmp .lt 27, 3) := by decide +kernel
theorem n_i1507 : a_ins 96 1507 = some (.iload 26, 2) := by decide +kernel
theorem n_i1509 : a_ins 96 1509 = some (.iload 20, 2) := by decide +kernel
theorem n_i1511 : a_ins 96 1511 = some (.if_icmp .ge 20, 3) := by decide +kernel
theorem n_i1514 : a_ins 96 1514 = some (.iload 27, 2) := by decide +kernel
theorem n_i1516 : a_ins 96 1516 = some (.aload 7, 2) := by decide +kernel
theorem n_i1518 : a_ins 96 1518 = some (.iload 30, 2) := by decide +kernel
theorem n_i1520 : a_ins 96 1520 = some (.iaload, 1) := by decide +kernel
theorem n_i1521 : a_ins 96 1521 = some (.iadd, 1) := by decide +kernel
theorem n_i1522 : a_ins 96 1522 = some (.iload 21, 2) := by decide +kernel
theorem n_i1524 : a_ins 96 1524 = some (.if_icmp .gt 7, 3) := by decide +kernel
theorem n_i1527 : a_ins 96 1527 = some (.iconst 1, 1) := by decide +kernel
theorem n_i1528 : a_ins 96 1528 = some (.goto 4, 3) := by decide +kernel
theorem n_i1531 : a_ins 96 1531 = some (.iconst 0, 1) := by decide +kernel
theorem n_i1532 : a_ins 96 1532 = some (.istore 31, 2) := by decide +kernel
theorem n_i1534 : a_ins 96 1534 = some (.aload 17, 2) := by decide +kernel
theorem n_i1536 : a_ins 96 1536 = some (.iload 30, 2) := by decide +kernel
theorem n_i1538 : a_ins 96 1538 = some (.dup2, 1) := by decide +kernel
theorem n_i1539 : a_ins 96 1539 = some (.baload, 1) := by decide +kernel
theorem n_i1540 : a_ins 96 1540 = some (.iload 31, 2) := by decide +kernel
theorem n_i1542 : a_ins 96 1542 = some (.ior, 1) := by decide +kernel
theorem n_i1543 : a_ins 96 1543 = some (.bastore, 1) := by decide +kernel
theorem n_i1544 : a_ins 96 1544 = some (.aload 18, 2) := by decide +kernel
theorem n_i1546 : a_ins 96 1546 = some (.iload 30, 2) := by decide +kernel
theorem n_i1548 : a_ins 96 1548 = some (.iload 31, 2) := by decide +kernel
theorem n_i1550 : a_ins 96 1550 = some (.ifCond .eq 8, 3) := by decide +kernel
theorem n_i1553 : a_ins 96 1553 = some (.iload 19, 2) := by decide +kernel
theorem n_i1555 : a_ins 96 1555 = some (.goto 8, 3) := by decide +kernel
theorem n_i1558 : a_ins 96 1558 = some (.aload 18, 2) := by decide +kernel
theorem n_i1560 : a_ins 96 1560 = some (.iload 30, 2) := by decide +kernel
theorem n_i1562 : a_ins 96 1562 = some (.iaload, 1) := by decide +kernel
theorem n_i1563 : a_ins 96 1563 = some (.iastore, 1) := by decide +kernel
theorem n_i1564 : a_ins 96 1564 = some (.iload 26, 2) := by decide +kernel
theorem n_i1566 : a_ins 96 1566 = some (.iload 31, 2) := by decide +kernel
theorem n_i1568 : a_ins 96 1568 = some (.ifCond .eq 7, 3) := by decide +kernel
theorem n_i1571 : a_ins 96 1571 = some (.iconst 1, 1) := by decide +kernel
theorem n_i1572 : a_ins 96 1572 = some (.goto 4, 3) := by decide +kernel
theorem n_i1575 : a_ins 96 1575 = some (.iconst 0, 1) := by decide +kernel
theorem n_i1576 : a_ins 96 1576 = some (.iadd, 1) := by decide +kernel
theorem n_i1577 : a_ins 96 1577 = some (.istore 26, 2) := by decide +kernel
theorem n_i1579 : a_ins 96 1579 = some (.iload 27, 2) := by decide +kernel
theorem n_i1581 : a_ins 96 1581 = some (.iload 31, 2) := by decide +kernel
theorem n_i1583 : a_ins 96 1583 = some (.ifCond .eq 11, 3) := by decide +kernel
theorem n_i1586 : a_ins 96 1586 = some (.aload 7, 2) := by decide +kernel
theorem n_i1588 : a_ins 96 1588 = some (.iload 30, 2) := by decide +kernel
theorem n_i1590 : a_ins 96 1590 = some (.iaload, 1) := by decide +kernel
theorem n_i1591 : a_ins 96 1591 = some (.goto 4, 3) := by decide +kernel
theorem n_i1594 : a_ins 96 1594 = some (.iconst 0, 1) := by decide +kernel
theorem n_i1595 : a_ins 96 1595 = some (.iadd, 1) := by decide +kernel
theorem n_i1596 : a_ins 96 1596 = some (.istore 27, 2) := by decide +kernel
theorem n_i1598 : a_ins 96 1598 = some (.iinc 29 1, 3) := by decide +kernel
theorem n_i1601 : a_ins 96 1601 = some (.goto (-227), 3) := by decide +kernel
theorem n_i1604 : a_ins 96 1604 = some (.iload_n 2, 1) := by decide +kernel
theorem n_i1605 : a_ins 96 1605 = some (.aload_n 1, 1) := by decide +kernel
theorem n_i1606 : a_ins 96 1606 = some (.iload 19, 2) := by decide +kernel
theorem n_i1608 : a_ins 96 1608 = some (.invokestatic 109, 3) := by decide +kernel
theorem n_i1611 : a_ins 96 1611 = some (.iload 26, 2) := by decide +kernel
theorem n_i1613 : a_ins 96 1613 = some (.if_icmp .ne 27, 3) := by decide +kernel
theorem n_i1616 : a_ins 96 1616 = some (.aload_n 1, 1) := by decide +kernel
theorem n_i1617 : a_ins 96 1617 = some (.iload 19, 2) := by decide +kernel
theorem n_i1619 : a_ins 96 1619 = some (.invokestatic 111, 3) := by decide +kernel
theorem n_i1622 : a_ins 96 1622 = some (.iload 27, 2) := by decide +kernel
theorem n_i1624 : a_ins 96 1624 = some (.if_icmp .ne 16, 3) := by decide +kernel
theorem n_i1627 : a_ins 96 1627 = some (.aload_n 1, 1) := by decide +kernel
theorem n_i1628 : a_ins 96 1628 = some (.iload 19, 2) := by decide +kernel
theorem n_i1630 : a_ins 96 1630 = some (.invokestatic 109, 3) := by decide +kernel
theorem n_i1633 : a_ins 96 1633 = some (.ifCond .ne 7, 3) := by decide +kernel
theorem n_i1636 : a_ins 96 1636 = some (.iconst 1, 1) := by decide +kernel
theorem n_i1637 : a_ins 96 1637 = some (.goto 4, 3) := by decide +kernel
theorem n_i1640 : a_ins 96 1640 = some (.iconst 0, 1) := by decide +kernel
theorem n_i1641 : a_ins 96 1641 = some (.iand, 1) := by decide +kernel
theorem n_i1642 : a_ins 96 1642 = some (.istore_n 2, 1) := by decide +kernel
theorem n_i1643 : a_ins 96 1643 = some (.iinc 19 1, 3) := by decide +kernel
theorem n_i1646 : a_ins 96 1646 = some (.goto (-439), 3) := by decide +kernel
theorem n_i1649 : a_ins 96 1649 = some (.iconst 0, 1) := by decide +kernel
theorem n_i1650 : a_ins 96 1650 = some (.istore 19, 2) := by decide +kernel
theorem n_i1652 : a_ins 96 1652 = some (.iload 19, 2) := by decide +kernel
theorem n_i1654 : a_ins 96 1654 = some (.iload 4, 2) := by decide +kernel
theorem n_i1656 : a_ins 96 1656 = some (.if_icmp .ge 44, 3) := by decide +kernel
theorem n_i1659 : a_ins 96 1659 = some (.iload_n 2, 1) := by decide +kernel
theorem n_i1660 : a_ins 96 1660 = some (.aload_n 1, 1) := by decide +kernel
theorem n_i1661 : a_ins 96 1661 = some (.iload 19, 2) := by decide +kernel
theorem n_i1663 : a_ins 96 1663 = some (.invokestatic 113, 3) := by decide +kernel
theorem n_i1666 : a_ins 96 1666 = some (.aload 17, 2) := by decide +kernel
theorem n_i1668 : a_ins 96 1668 = some (.iload 19, 2) := by decide +kernel
theorem n_i1670 : a_ins 96 1670 = some (.baload, 1) := by decide +kernel
theorem n_i1671 : a_ins 96 1671 = some (.ifCond .eq 11, 3) := by decide +kernel
theorem n_i1674 : a_ins 96 1674 = some (.aload 18, 2) := by decide +kernel
theorem n_i1676 : a_ins 96 1676 = some (.iload 19, 2) := by decide +kernel
theorem n_i1678 : a_ins 96 1678 = some (.iaload, 1) := by decide +kernel
theorem n_i1679 : a_ins 96 1679 = some (.goto 5, 3) := by decide +kernel
theorem n_i1682 : a_ins 96 1682 = some (.ldc 20, 2) := by decide +kernel
theorem n_i1684 : a_ins 96 1684 = some (.if_icmp .ne 7, 3) := by decide +kernel
theorem n_i1687 : a_ins 96 1687 = some (.iconst 1, 1) := by decide +kernel
theorem n_i1688 : a_ins 96 1688 = some (.goto 4, 3) := by decide +kernel
theorem n_i1691 : a_ins 96 1691 = some (.iconst 0, 1) := by decide +kernel
theorem n_i1692 : a_ins 96 1692 = some (.iand, 1) := by decide +kernel
theorem n_i1693 : a_ins 96 1693 = some (.istore_n 2, 1) := by decide +kernel
theorem n_i1694 : a_ins 96 1694 = some (.iinc 19 1, 3) := by decide +kernel
theorem n_i1697 : a_ins 96 1697 = some (.goto (-45), 3) := by decide +kernel
theorem n_i1700 : a_ins 96 1700 = some (.iload_n 2, 1) := by decide +kernel
theorem n_i1701 : a_ins 96 1701 = some (.ifCond .eq 40, 3) := by decide +kernel
theorem n_i1704 : a_ins 96 1704 = some (.aload_n 1, 1) := by decide +kernel
theorem n_i1705 : a_ins 96 1705 = some (.iconst 1, 1) := by decide +kernel
theorem n_i1706 : a_ins 96 1706 = some (.iconst 1, 1) := by decide +kernel
theorem n_i1707 : a_ins 96 1707 = some (.iconst 1, 1) := by decide +kernel
theorem n_i1708 : a_ins 96 1708 = some (.bipush 120, 2) := by decide +kernel
theorem n_i1710 : a_ins 96 1710 = some (.bipush 119, 2) := by decide +kernel
theorem n_i1712 : a_ins 96 1712 = some (.invokestatic 106, 3) := by decide +kernel
theorem n_i1715 : a_ins 96 1715 = some (.ldc 17, 2) := by decide +kernel
theorem n_i1717 : a_ins 96 1717 = some (.if_icmp .ne 24, 3) := by decide +kernel
theorem n_i1720 : a_ins 96 1720 = some (.aload_n 1, 1) := by decide +kernel
theorem n_i1721 : a_ins 96 1721 = some (.iconst 2, 1) := by decide +kernel
theorem n_i1722 : a_ins 96 1722 = some (.invokestatic 109, 3) := by decide +kernel
theorem n_i1725 : a_ins 96 1725 = some (.ldc 17, 2) := by decide +kernel
theorem n_i1727 : a_ins 96 1727 = some (.if_icmp .ne 14, 3) := by decide +kernel
theorem n_i1730 : a_ins 96 1730 = some (.aload_n 1, 1) := by decide +kernel
theorem n_i1731 : a_ins 96 1731 = some (.invokevirtual 115, 3) := by decide +kernel
theorem n_i1734 : a_ins 96 1734 = some (.ifCond .eq 7, 3) := by decide +kernel
theorem n_i1737 : a_ins 96 1737 = some (.iconst 1, 1) := by decide +kernel
theorem n_i1738 : a_ins 96 1738 = some (.goto 4, 3) := by decide +kernel
theorem n_i1741 : a_ins 96 1741 = some (.iconst 0, 1) := by decide +kernel
theorem n_i1742 : a_ins 96 1742 = some (.ireturn, 1) := by decide +kernel
theorem n_mx : a_mxl 96 = 32 := by decide +kernel
theorem n_own : a_own 96 = 13 := by decide +kernel
def n_T (F a : Nat) : Nat := if a = 3 then 22 else if a = 5 then 30 else if a = 6 + F then 29 else if (6 ≤ a ∧ a < 6 + F) ∨ a = 10 + 2 * F ∨ a = 11 + 2 * F ∨ a = 12 + 2 * F ∨ 14 + 2 * F ≤ a then 21 else 20
def n_l (F R a : Nat) : Int := if a ≤ 1 ∨ (6 ≤ a ∧ a < 6 + F) ∨ (6 + F < a ∧ a < 9 + 2 * F) then (R : Int) else (F : Int)
section
variable {F R : Nat}
theorem n_T0 : n_T F (0) = 20 := by
  unfold n_T
  (repeat' split) <;> omega
theorem n_l0 : n_l F R (0) = (R : Int) := by
  unfold n_l
  (repeat' split) <;> omega
theorem n_T1 : n_T F (1) = 20 := by
  unfold n_T
  (repeat' split) <;> omega
theorem n_l1 : n_l F R (1) = (R : Int) := by
  unfold n_l
  (repeat' split) <;> omega
theorem n_T2 : n_T F (2) = 20 := by
  unfold n_T
  (repeat' split) <;> omega
theorem n_l2 : n_l F R (2) = (F : Int) := by
  unfold n_l
  (repeat' split) <;> omega
theorem n_T3 : n_T F (3) = 22 := by
  unfold n_T
  (repeat' split) <;> omega
theorem n_l3 : n_l F R (3) = (F : Int) := by
  unfold n_l
  (repeat' split) <;> omega
theorem n_T4 : n_T F (4) = 20 := by
  unfold n_T
  (repeat' split) <;> omega
theorem n_l4 : n_l F R (4) = (F : Int) := by
  unfold n_l
  (repeat' split) <;> omega
theorem n_T5 : n_T F (5) = 30 := by
  unfold n_T
  (repeat' split) <;> omega
theorem n_l5 : n_l F R (5) = (F : Int) := by
  unfold n_l
  (repeat' split) <;> omega
theorem n_T6 {f : Nat} (hf : f < F) : n_T F (6 + f) = 21 := by
  unfold n_T
  (repeat' split) <;> omega
theorem n_l6 {f : Nat} (hf : f < F) : n_l F R (6 + f) = (R : Int) := by
  unfold n_l
  (repeat' split) <;> omega
theorem n_T7 : n_T F (6 + F) = 29 := by
  unfold n_T
  (repeat' split) <;> omega
theorem n_l7 : n_l F R (6 + F) = (F : Int) := by
  unfold n_l
  (repeat' split) <;> omega
theorem n_T8 {f : Nat} (hf : f < F) : n_T F (7 + F + f) = 20 := by
  unfold n_T
  (repeat' split) <;> omega
theorem n_l8 {f : Nat} (hf : f < F) : n_l F R (7 + F + f) = (R : Int) := by
  unfold n_l
  (repeat' split) <;> omega
theorem n_T9 : n_T F (7 + 2 * F) = 20 := by
  unfold n_T
  (repeat' split) <;> omega
theorem n_l9 : n_l F R (7 + 2 * F) = (R : Int) := by
  unfold n_l
  (repeat' split) <;> omega
theorem n_T10 : n_T F (8 + 2 * F) = 20 := by
  unfold n_T
  (repeat' split) <;> omega
theorem n_l10 : n_l F R (8 + 2 * F) = (R : Int) := by
  unfold n_l
  (repeat' split) <;> omega
theorem n_T11 : n_T F (9 + 2 * F) = 20 := by
  unfold n_T
  (repeat' split) <;> omega
theorem n_l11 : n_l F R (9 + 2 * F) = (F : Int) := by
  unfold n_l
  (repeat' split) <;> omega
theorem n_T12 : n_T F (10 + 2 * F) = 21 := by
  unfold n_T
  (repeat' split) <;> omega
theorem n_l12 : n_l F R (10 + 2 * F) = (F : Int) := by
  unfold n_l
  (repeat' split) <;> omega
theorem n_T13 : n_T F (11 + 2 * F) = 21 := by
  unfold n_T
  (repeat' split) <;> omega
theorem n_l13 : n_l F R (11 + 2 * F) = (F : Int) := by
  unfold n_l
  (repeat' split) <;> omega
theorem n_T14 : n_T F (12 + 2 * F) = 21 := by
  unfold n_T
  (repeat' split) <;> omega
theorem n_l14 : n_l F R (12 + 2 * F) = (F : Int) := by
  unfold n_l
  (repeat' split) <;> omega
theorem n_T15 : n_T F (13 + 2 * F) = 20 := by
  unfold n_T
  (repeat' split) <;> omega
theorem n_l15 : n_l F R (13 + 2 * F) = (F : Int) := by
  unfold n_l
  (repeat' split) <;> omega
theorem n_T16 {k : Nat} (_ : k < 2) : n_T F (14 + 2 * F + k) = 21 := by
  unfold n_T
  (repeat' split) <;> omega
theorem n_l16 {k : Nat} (_ : k < 2) : n_l F R (14 + 2 * F + k) = (F : Int) := by
  unfold n_l
  (repeat' split) <;> omega
end
theorem n_calls {own idx mt : Nat} {args st : List Value} {h : AH} {e : AI} (hf : (a_of a_inv own).find? (fun e => e.1 == idx && e.2.1 == 1) = some e) (he : e.2.2.1 = mt) (hn : a_nrg mt = args.length) (hc : a_cat st ≤ 8) : a_call own (.invokestatic idx) (args.reverse ++ st) h = some (mt, args, st) := by
  unfold a_call
  dsimp only
  rw [hf]
  dsimp only
  rw [he, hn, List.take_left' (by simp), List.drop_left' (by simp), List.reverse_reverse, if_pos ⟨by simp, hc⟩]
theorem n_callv {own idx mt : Nat} {args st : List Value} {h : AH} {e : AI} (hf : (a_of a_inv own).find? (fun e => e.1 == idx && e.2.1 == 0) = some e) (he : e.2.2.1 = mt) (hn : a_nrg mt = args.length + 1) (ho : a_own mt = 11) (hc : a_cat st ≤ 8) (hI : n_I h) : a_call own (.invokevirtual idx) ((.ref 1 :: args).reverse ++ st) h = some (mt, .ref 1 :: args, st) := by
  obtain ⟨vs, k⟩ := n_obj hI
  unfold a_call
  dsimp only
  rw [hf]
  dsimp only
  rw [he, hn, List.take_left' (by simp), List.drop_left' (by simp), List.reverse_reverse, if_pos ⟨by simp, hc⟩]
  dsimp only
  rw [k]
  dsimp only
  rw [ho, if_pos rfl]
theorem n_ain {m i : Int} {st : List Value} (hc : a_cat st ≤ 8) : ∀ h, a_call (a_own 96) (.invokestatic 82) (n_v m :: n_v i :: .ref 0 :: st) h = some (95, [.ref 0, n_v i, n_v m], st) := fun h => by
  rw [n_own]
  exact n_calls (args := [.ref 0, n_v i, n_v m]) rfl rfl (show a_nrg 95 = 3 by decide +kernel) hc
theorem n_J.and {d mi : Nat} {P : Value → AH → Prop} {T : Nat → Nat} {l : Nat → Int} {pc n : Nat} {vl st : List Value} {A : Nat → Int → Int} {K : ZS → Prop} {b : Nat} {p : Prop} (k : p → n_J d mi P T l pc vl st n A K b) : n_J d mi P T l pc vl st n A (fun S => p ∧ K S) b := fun al h a1 a2 a3 a4 => k a4.1 al h a1 a2 a3 a4.2
section
variable {P : Value → AH → Prop} {T : Nat → Nat} {l : Nat → Int} {pc p' n : Nat} {vl st : List Value} {A : Nat → Int → Int} {K K' : ZS → Prop} {b : Nat} {v : Int}
theorem n_o_film {x1 x2 x3 : Int} (hi : a_ins 96 pc = some (.invokestatic 71, 3)) (hst : a_cat st ≤ 8) (hp : pc + 3 = p') (hE : n_fit c_r84.2.2.1.2.1 [x1, x2, x3]) (hφ : ∀ S, K S → ∃ S', f_w_film [x1, x2, x3] S = ((0, [v]), S') ∧ K' S') (k : n_J 12 96 P T l p' vl (n_v v :: st) n A K' b) : n_J 12 96 P T l pc vl (n_v x3 :: n_v x2 :: n_v x1 :: .ref 1 :: st) n A K (b + 1) := n_kcl (R := c_r84) (xs := [x1, x2, x3]) (K' := fun w S => w = v ∧ K' S) hi (fun _ => rfl) (fun _ => rfl) (fun h _ => by
  rw [n_own]
  exact n_calls (args := [.ref 1, n_v x1, n_v x2, n_v x3]) rfl rfl (show a_nrg 84 = 4 by decide +kernel) hst) (by decide) c_v84 zM84 zK84 (by decide +kernel) rfl rfl hE (by decide +kernel) (fun S hS => by
  obtain ⟨S', e1, e2⟩ := hφ S hS
  exact ⟨v, S', e1, rfl, e2⟩) hp (fun w => n_J.and fun e => by
  rw [e]
  exact k)
theorem n_o_reader {x1 : Int} (hi : a_ins 96 pc = some (.invokestatic 74, 3)) (hst : a_cat st ≤ 8) (hp : pc + 3 = p') (hE : n_fit c_r85.2.2.1.2.1 [x1]) (hφ : ∀ S, K S → ∃ S', f_w_reader [x1] S = ((0, [v]), S') ∧ K' S') (k : n_J 12 96 P T l p' vl (n_v v :: st) n A K' b) : n_J 12 96 P T l pc vl (n_v x1 :: .ref 1 :: st) n A K (b + 1) := n_kcl (R := c_r85) (xs := [x1]) (K' := fun w S => w = v ∧ K' S) hi (fun _ => rfl) (fun _ => rfl) (fun h _ => by
  rw [n_own]
  exact n_calls (args := [.ref 1, n_v x1]) rfl rfl (show a_nrg 85 = 2 by decide +kernel) hst) (by decide) c_v85 zM85 zK85 (by decide +kernel) rfl rfl hE (by decide +kernel) (fun S hS => by
  obtain ⟨S', e1, e2⟩ := hφ S hS
  exact ⟨v, S', e1, rfl, e2⟩) hp (fun w => n_J.and fun e => by
  rw [e]
  exact k)
theorem n_o_deal {x1 x2 : Int} (hi : a_ins 96 pc = some (.invokestatic 77, 3)) (hst : a_cat st ≤ 8) (hp : pc + 3 = p') (hE : n_fit c_r86.2.2.1.2.1 [x1, x2]) (hφ : ∀ S, K S → ∃ S', f_w_deal [x1, x2] S = ((0, [v]), S') ∧ K' S') (k : n_J 12 96 P T l p' vl (n_v v :: st) n A K' b) : n_J 12 96 P T l pc vl (n_v x2 :: n_v x1 :: .ref 1 :: st) n A K (b + 1) := n_kcl (R := c_r86) (xs := [x1, x2]) (K' := fun w S => w = v ∧ K' S) hi (fun _ => rfl) (fun _ => rfl) (fun h _ => by
  rw [n_own]
  exact n_calls (args := [.ref 1, n_v x1, n_v x2]) rfl rfl (show a_nrg 86 = 3 by decide +kernel) hst) (by decide) c_v86 zM86 zK86 (by decide +kernel) rfl rfl hE (by decide +kernel) (fun S hS => by
  obtain ⟨S', e1, e2⟩ := hφ S hS
  exact ⟨v, S', e1, rfl, e2⟩) hp (fun w => n_J.and fun e => by
  rw [e]
  exact k)
theorem n_o_read {x1 x2 x3 : Int} (hi : a_ins 96 pc = some (.invokestatic 101, 3)) (hst : a_cat st ≤ 8) (hp : pc + 3 = p') (hE : n_fit c_r87.2.2.1.2.1 [x1, x2, x3]) (hφ : ∀ S, K S → ∃ S', f_w_read [x1, x2, x3] S = ((0, [v]), S') ∧ K' S') (k : n_J 12 96 P T l p' vl (n_v v :: st) n A K' b) : n_J 12 96 P T l pc vl (n_v x3 :: n_v x2 :: n_v x1 :: .ref 1 :: st) n A K (b + 1) := n_kcl (R := c_r87) (xs := [x1, x2, x3]) (K' := fun w S => w = v ∧ K' S) hi (fun _ => rfl) (fun _ => rfl) (fun h _ => by
  rw [n_own]
  exact n_calls (args := [.ref 1, n_v x1, n_v x2, n_v x3]) rfl rfl (show a_nrg 87 = 4 by decide +kernel) hst) (by decide) c_v87 zM87 zK87 (by decide +kernel) rfl rfl hE (by decide +kernel) (fun S hS => by
  obtain ⟨S', e1, e2⟩ := hφ S hS
  exact ⟨v, S', e1, rfl, e2⟩) hp (fun w => n_J.and fun e => by
  rw [e]
  exact k)
theorem n_o_even {x1 x2 : Int} (hi : a_ins 96 pc = some (.invokestatic 104, 3)) (hst : a_cat st ≤ 8) (hp : pc + 3 = p') (hE : n_fit c_r88.2.2.1.2.1 [x1, x2]) (hφ : ∀ S, K S → ∃ S', f_w_even [x1, x2] S = ((0, [v]), S') ∧ K' S') (k : n_J 12 96 P T l p' vl (n_v v :: st) n A K' b) : n_J 12 96 P T l pc vl (n_v x2 :: n_v x1 :: .ref 1 :: st) n A K (b + 1) := n_kcl (R := c_r88) (xs := [x1, x2]) (K' := fun w S => w = v ∧ K' S) hi (fun _ => rfl) (fun _ => rfl) (fun h _ => by
  rw [n_own]
  exact n_calls (args := [.ref 1, n_v x1, n_v x2]) rfl rfl (show a_nrg 88 = 3 by decide +kernel) hst) (by decide) c_v88 zM88 zK88 (by decide +kernel) rfl rfl hE (by decide +kernel) (fun S hS => by
  obtain ⟨S', e1, e2⟩ := hφ S hS
  exact ⟨v, S', e1, rfl, e2⟩) hp (fun w => n_J.and fun e => by
  rw [e]
  exact k)
theorem n_o_score {x1 : Int} (hi : a_ins 96 pc = some (.invokestatic 80, 3)) (hst : a_cat st ≤ 8) (hp : pc + 3 = p') (hE : n_fit c_r89.2.2.1.2.1 [x1]) (hφ : ∀ S, K S → ∃ S', f_w_score [x1] S = ((0, [v]), S') ∧ K' S') (k : n_J 12 96 P T l p' vl (n_v v :: st) n A K' b) : n_J 12 96 P T l pc vl (n_v x1 :: .ref 1 :: st) n A K (b + 1) := n_kcl (R := c_r89) (xs := [x1]) (K' := fun w S => w = v ∧ K' S) hi (fun _ => rfl) (fun _ => rfl) (fun h _ => by
  rw [n_own]
  exact n_calls (args := [.ref 1, n_v x1]) rfl rfl (show a_nrg 89 = 2 by decide +kernel) hst) (by decide) c_v89 zM89 zK89 (by decide +kernel) rfl rfl hE (by decide +kernel) (fun S hS => by
  obtain ⟨S', e1, e2⟩ := hφ S hS
  exact ⟨v, S', e1, rfl, e2⟩) hp (fun w => n_J.and fun e => by
  rw [e]
  exact k)
theorem n_o_rival {x1 x2 : Int} (hi : a_ins 96 pc = some (.invokestatic 98, 3)) (hst : a_cat st ≤ 8) (hp : pc + 3 = p') (hE : n_fit c_r90.2.2.1.2.1 [x1, x2]) (hφ : ∀ S, K S → ∃ S', f_w_rival [x1, x2] S = ((0, [v]), S') ∧ K' S') (k : n_J 12 96 P T l p' vl (n_v v :: st) n A K' b) : n_J 12 96 P T l pc vl (n_v x2 :: n_v x1 :: .ref 1 :: st) n A K (b + 1) := n_kcl (R := c_r90) (xs := [x1, x2]) (K' := fun w S => w = v ∧ K' S) hi (fun _ => rfl) (fun _ => rfl) (fun h _ => by
  rw [n_own]
  exact n_calls (args := [.ref 1, n_v x1, n_v x2]) rfl rfl (show a_nrg 90 = 3 by decide +kernel) hst) (by decide) c_v90 zM90 zK90 (by decide +kernel) rfl rfl hE (by decide +kernel) (fun S hS => by
  obtain ⟨S', e1, e2⟩ := hφ S hS
  exact ⟨v, S', e1, rfl, e2⟩) hp (fun w => n_J.and fun e => by
  rw [e]
  exact k)
theorem n_o_section {x1 x2 x3 x4 x5 : Int} (hi : a_ins 96 pc = some (.invokestatic 106, 3)) (hst : a_cat st ≤ 8) (hp : pc + 3 = p') (hE : n_fit c_r91.2.2.1.2.1 [x1, x2, x3, x4, x5]) (hφ : ∀ S, K S → ∃ S', f_w_section [x1, x2, x3, x4, x5] S = ((0, [v]), S') ∧ K' S') (k : n_J 12 96 P T l p' vl (n_v v :: st) n A K' b) : n_J 12 96 P T l pc vl (n_v x5 :: n_v x4 :: n_v x3 :: n_v x2 :: n_v x1 :: .ref 1 :: st) n A K (b + 1) := n_kcl (R := c_r91) (xs := [x1, x2, x3, x4, x5]) (K' := fun w S => w = v ∧ K' S) hi (fun _ => rfl) (fun _ => rfl) (fun h _ => by
  rw [n_own]
  exact n_calls (args := [.ref 1, n_v x1, n_v x2, n_v x3, n_v x4, n_v x5]) rfl rfl (show a_nrg 91 = 6 by decide +kernel) hst) (by decide) c_v91 zM91 zK91 (by decide +kernel) rfl rfl hE (by decide +kernel) (fun S hS => by
  obtain ⟨S', e1, e2⟩ := hφ S hS
  exact ⟨v, S', e1, rfl, e2⟩) hp (fun w => n_J.and fun e => by
  rw [e]
  exact k)
theorem n_o_choose {x1 : Int} (hi : a_ins 96 pc = some (.invokestatic 109, 3)) (hst : a_cat st ≤ 8) (hp : pc + 3 = p') (hE : n_fit c_r92.2.2.1.2.1 [x1]) (hφ : ∀ S, K S → ∃ S', f_w_choose [x1] S = ((0, [v]), S') ∧ K' S') (k : n_J 12 96 P T l p' vl (n_v v :: st) n A K' b) : n_J 12 96 P T l pc vl (n_v x1 :: .ref 1 :: st) n A K (b + 1) := n_kcl (R := c_r92) (xs := [x1]) (K' := fun w S => w = v ∧ K' S) hi (fun _ => rfl) (fun _ => rfl) (fun h _ => by
  rw [n_own]
  exact n_calls (args := [.ref 1, n_v x1]) rfl rfl (show a_nrg 92 = 2 by decide +kernel) hst) (by decide) c_v92 zM92 zK92 (by decide +kernel) rfl rfl hE (by decide +kernel) (fun S hS => by
  obtain ⟨S', e1, e2⟩ := hφ S hS
  exact ⟨v, S', e1, rfl, e2⟩) hp (fun w => n_J.and fun e => by
  rw [e]
  exact k)
theorem n_o_sectionOf {x1 : Int} (hi : a_ins 96 pc = some (.invokestatic 113, 3)) (hst : a_cat st ≤ 8) (hp : pc + 3 = p') (hE : n_fit c_r93.2.2.1.2.1 [x1]) (hφ : ∀ S, K S → ∃ S', f_w_sectionOf [x1] S = ((0, [v]), S') ∧ K' S') (k : n_J 12 96 P T l p' vl (n_v v :: st) n A K' b) : n_J 12 96 P T l pc vl (n_v x1 :: .ref 1 :: st) n A K (b + 1) := n_kcl (R := c_r93) (xs := [x1]) (K' := fun w S => w = v ∧ K' S) hi (fun _ => rfl) (fun _ => rfl) (fun h _ => by
  rw [n_own]
  exact n_calls (args := [.ref 1, n_v x1]) rfl rfl (show a_nrg 93 = 2 by decide +kernel) hst) (by decide) c_v93 zM93 zK93 (by decide +kernel) rfl rfl hE (by decide +kernel) (fun S hS => by
  obtain ⟨S', e1, e2⟩ := hφ S hS
  exact ⟨v, S', e1, rfl, e2⟩) hp (fun w => n_J.and fun e => by
  rw [e]
  exact k)
theorem n_o_minutes {x1 : Int} (hi : a_ins 96 pc = some (.invokestatic 111, 3)) (hst : a_cat st ≤ 8) (hp : pc + 3 = p') (hE : n_fit c_r94.2.2.1.2.1 [x1]) (hφ : ∀ S, K S → ∃ S', f_w_minutes [x1] S = ((0, [v]), S') ∧ K' S') (k : n_J 12 96 P T l p' vl (n_v v :: st) n A K' b) : n_J 12 96 P T l pc vl (n_v x1 :: .ref 1 :: st) n A K (b + 1) := n_kcl (R := c_r94) (xs := [x1]) (K' := fun w S => w = v ∧ K' S) hi (fun _ => rfl) (fun _ => rfl) (fun h _ => by
  rw [n_own]
  exact n_calls (args := [.ref 1, n_v x1]) rfl rfl (show a_nrg 94 = 2 by decide +kernel) hst) (by decide) c_v94 zM94 zK94 (by decide +kernel) rfl rfl hE (by decide +kernel) (fun S hS => by
  obtain ⟨S', e1, e2⟩ := hφ S hS
  exact ⟨v, S', e1, rfl, e2⟩) hp (fun w => n_J.and fun e => by
  rw [e]
  exact k)
theorem n_o_isInQuarrel {x1 : Int} (hi : a_ins 96 pc = some (.invokevirtual 90, 3)) (hst : a_cat st ≤ 8) (hp : pc + 3 = p') (hE : n_fit c_r61.2.2.1.2.1 [x1]) (hφ : ∀ S, K S → ∃ S', f_x_isInQuarrel [x1] S = ((0, [v]), S') ∧ K' S') (k : n_J 12 96 P T l p' vl (n_v v :: st) n A K' b) : n_J 12 96 P T l pc vl (n_v x1 :: .ref 1 :: st) n A K (b + 1) := n_kcl (R := c_r61) (xs := [x1]) (K' := fun w S => w = v ∧ K' S) hi (fun _ => rfl) (fun _ => rfl) (fun h hI => by
  rw [n_own]
  exact n_callv (args := [n_v x1]) rfl rfl (show a_nrg 61 = 1 + 1 by decide +kernel) (by decide +kernel) hst hI) (by decide) c_v61 zM61 zK61 (by decide +kernel) rfl rfl hE (by decide +kernel) (fun S hS => by
  obtain ⟨S', e1, e2⟩ := hφ S hS
  exact ⟨v, S', e1, rfl, e2⟩) hp (fun w => n_J.and fun e => by
  rw [e]
  exact k)
theorem n_o_isDealt {x1 x2 : Int} (hi : a_ins 96 pc = some (.invokevirtual 94, 3)) (hst : a_cat st ≤ 8) (hp : pc + 3 = p') (hE : n_fit c_r57.2.2.1.2.1 [x1, x2]) (hφ : ∀ S, K S → ∃ S', f_x_isDealt [x1, x2] S = ((0, [v]), S') ∧ K' S') (k : n_J 12 96 P T l p' vl (n_v v :: st) n A K' b) : n_J 12 96 P T l pc vl (n_v x2 :: n_v x1 :: .ref 1 :: st) n A K (b + 1) := n_kcl (R := c_r57) (xs := [x1, x2]) (K' := fun w S => w = v ∧ K' S) hi (fun _ => rfl) (fun _ => rfl) (fun h hI => by
  rw [n_own]
  exact n_callv (args := [n_v x1, n_v x2]) rfl rfl (show a_nrg 57 = 2 + 1 by decide +kernel) (by decide +kernel) hst hI) (by decide) c_v57 zM57 zK57 (by decide +kernel) rfl rfl hE (by decide +kernel) (fun S hS => by
  obtain ⟨S', e1, e2⟩ := hφ S hS
  exact ⟨v, S', e1, rfl, e2⟩) hp (fun w => n_J.and fun e => by
  rw [e]
  exact k)
theorem n_o_isSound (hi : a_ins 96 pc = some (.invokevirtual 115, 3)) (hst : a_cat st ≤ 8) (hp : pc + 3 = p') (hE : n_fit c_r67.2.2.1.2.1 []) (hφ : ∀ S, K S → ∃ S', f_x_isSound [] S = ((0, [v]), S') ∧ K' S') (k : n_J 12 96 P T l p' vl (n_v v :: st) n A K' b) : n_J 12 96 P T l pc vl (.ref 1 :: st) n A K (b + 1) := n_kcl (R := c_r67) (xs := []) (K' := fun w S => w = v ∧ K' S) hi (fun _ => rfl) (fun _ => rfl) (fun h hI => by
  rw [n_own]
  exact n_callv (args := []) rfl rfl (show a_nrg 67 = 0 + 1 by decide +kernel) (by decide +kernel) hst hI) (by decide) c_v67 zM67 zK67 (by decide +kernel) rfl rfl hE (by decide +kernel) (fun S hS => by
  obtain ⟨S', e1, e2⟩ := hφ S hS
  exact ⟨v, S', e1, rfl, e2⟩) hp (fun w => n_J.and fun e => by
  rw [e]
  exact k)
end
