theorem q79 : Cond.selects RX11 yX11_next yX11_next ∈ gw := gw_in (i := 79) (by decide +kernel) rfl
theorem q80 : Cond.selects RX11 yX11_charAt yX11_charAt ∈ gw := gw_in (i := 80) (by decide +kernel) rfl
theorem q83 : Cond.selects RX11 yX11_fault yX11_fault ∈ gw := gw_in (i := 83) (by decide +kernel) rfl
theorem q85 : Cond.selects RX11 yX11_wrongAt yX11_wrongAt ∈ gw := gw_in (i := 85) (by decide +kernel) rfl
theorem q88 : Cond.selects RX11 yX11_piece yX11_piece ∈ gw := gw_in (i := 88) (by decide +kernel) rfl
theorem q160 : Cond.initialized RX11 ∈ gw := gw_in (i := 160) (by decide +kernel) rfl
theorem q1615 : Cond.fieldLink RX11 263 "SegmentBenchModel" "thrown" "I" ∈ gw := gw_in (i := 1615) (by decide +kernel) rfl
theorem q1616 : Cond.fieldLink RX11 7 "SegmentBenchModel" "text" "[I" ∈ gw := gw_in (i := 1616) (by decide +kernel) rfl
theorem q1617 : Cond.fieldLink RX11 266 "SegmentBenchModel" "length" "I" ∈ gw := gw_in (i := 1617) (by decide +kernel) rfl
theorem q1618 : Cond.fieldLink RX11 13 "SegmentBenchModel" "kind" "I" ∈ gw := gw_in (i := 1618) (by decide +kernel) rfl
theorem q1619 : Cond.fieldLink RX11 17 "SegmentBenchModel" "placeOf" "I" ∈ gw := gw_in (i := 1619) (by decide +kernel) rfl
theorem q1620 : Cond.fieldLink RX11 269 "SegmentBenchModel" "at" "I" ∈ gw := gw_in (i := 1620) (by decide +kernel) rfl
theorem q1621 : Cond.fieldLink RX11 276 "SegmentBenchModel" "start" "I" ∈ gw := gw_in (i := 1621) (by decide +kernel) rfl
theorem q1622 : Cond.fieldLink RX11 279 "SegmentBenchModel" "token" "I" ∈ gw := gw_in (i := 1622) (by decide +kernel) rfl
theorem q1623 : Cond.fieldLink RX11 286 "SegmentBenchModel" "word" "J" ∈ gw := gw_in (i := 1623) (by decide +kernel) rfl
theorem q1624 : Cond.fieldLink RX11 293 "SegmentBenchModel" "code" "I" ∈ gw := gw_in (i := 1624) (by decide +kernel) rfl
theorem q1625 : Cond.fieldLink RX11 296 "SegmentBenchModel" "numbe\x72" "I" ∈ gw := gw_in (i := 1625) (by decide +kernel) rfl
theorem q1626 : Cond.fieldLink RX11 116 "SegmentBenchModel" "words" "[J" ∈ gw := gw_in (i := 1626) (by decide +kernel) rfl
theorem q1627 : Cond.fieldLink RX11 120 "SegmentBenchModel" "names" "[J" ∈ gw := gw_in (i := 1627) (by decide +kernel) rfl
theorem q1628 : Cond.fieldLink RX11 123 "SegmentBenchModel" "sort" "[I" ∈ gw := gw_in (i := 1628) (by decide +kernel) rfl
theorem q1632 : Cond.fieldLink RX11 311 "SegmentBenchModel" "nameCount" "I" ∈ gw := gw_in (i := 1632) (by decide +kernel) rfl
theorem q1633 : Cond.fieldLink RX11 308 "SegmentBenchModel" "wrong" "I" ∈ gw := gw_in (i := 1633) (by decide +kernel) rfl
theorem q1634 : Cond.fieldLink RX11 135 "SegmentBenchModel" "useKind" "[I" ∈ gw := gw_in (i := 1634) (by decide +kernel) rfl
theorem q1635 : Cond.fieldLink RX11 138 "SegmentBenchModel" "useName" "[I" ∈ gw := gw_in (i := 1635) (by decide +kernel) rfl
theorem q1636 : Cond.fieldLink RX11 141 "SegmentBenchModel" "usePlace" "[I" ∈ gw := gw_in (i := 1636) (by decide +kernel) rfl
theorem q1637 : Cond.fieldLink RX11 144 "SegmentBenchModel" "useSegment" "[I" ∈ gw := gw_in (i := 1637) (by decide +kernel) rfl
theorem q1638 : Cond.fieldLink RX11 318 "SegmentBenchModel" "uses" "I" ∈ gw := gw_in (i := 1638) (by decide +kernel) rfl
theorem q1639 : Cond.fieldLink RX11 147 "SegmentBenchModel" "pieceKind" "[I" ∈ gw := gw_in (i := 1639) (by decide +kernel) rfl
theorem q1640 : Cond.fieldLink RX11 150 "SegmentBenchModel" "pieceA" "[I" ∈ gw := gw_in (i := 1640) (by decide +kernel) rfl
theorem q1641 : Cond.fieldLink RX11 153 "SegmentBenchModel" "pieceB" "[I" ∈ gw := gw_in (i := 1641) (by decide +kernel) rfl
theorem q1642 : Cond.fieldLink RX11 156 "SegmentBenchModel" "piecePlace" "[I" ∈ gw := gw_in (i := 1642) (by decide +kernel) rfl
theorem q1643 : Cond.fieldLink RX11 159 "SegmentBenchModel" "pieceSegment" "[I" ∈ gw := gw_in (i := 1643) (by decide +kernel) rfl
theorem q1645 : Cond.fieldLink RX11 165 "SegmentBenchModel" "nea\x72" "[Z" ∈ gw := gw_in (i := 1645) (by decide +kernel) rfl
theorem q1646 : Cond.fieldLink RX11 324 "SegmentBenchModel" "pieces" "I" ∈ gw := gw_in (i := 1646) (by decide +kernel) rfl
theorem q1647 : Cond.fieldLink RX11 321 "SegmentBenchModel" "segment" "I" ∈ gw := gw_in (i := 1647) (by decide +kernel) rfl
theorem q1892 : Cond.methodLink RX11 305 yX11_next ∈ gw := gw_in (i := 1892) (by decide +kernel) rfl
theorem q1894 : Cond.instanceMethod yX11_next ∈ gw := gw_in (i := 1894) (by decide +kernel) rfl
theorem q1895 : Cond.code yX11_next cX11_next 4 none ∈ gw := gw_in (i := 1895) (by decide +kernel) rfl
theorem q1896 : Cond.methodLink RX11 272 yX11_charAt ∈ gw := gw_in (i := 1896) (by decide +kernel) rfl
theorem q1898 : Cond.instanceMethod yX11_charAt ∈ gw := gw_in (i := 1898) (by decide +kernel) rfl
theorem q1899 : Cond.code yX11_charAt cX11_charAt 2 (some .int) ∈ gw := gw_in (i := 1899) (by decide +kernel) rfl
theorem q1900 : Cond.methodLink RX11 282 yX11_letter ∈ gw := gw_in (i := 1900) (by decide +kernel) rfl
theorem q1901 : Cond.static yX11_letter ∈ gw := gw_in (i := 1901) (by decide +kernel) rfl
theorem q1902 : Cond.code yX11_letter cX11_letter 1 (some .boolean) ∈ gw := gw_in (i := 1902) (by decide +kernel) rfl
theorem q1903 : Cond.methodLink RX11 290 yX11_digit ∈ gw := gw_in (i := 1903) (by decide +kernel) rfl
theorem q1904 : Cond.static yX11_digit ∈ gw := gw_in (i := 1904) (by decide +kernel) rfl
theorem q1905 : Cond.code yX11_digit cX11_digit 1 (some .boolean) ∈ gw := gw_in (i := 1905) (by decide +kernel) rfl
theorem q1906 : Cond.constant RX11 299 (100000) ∈ gw := gw_in (i := 1906) (by decide +kernel) rfl
theorem q1907 : Cond.constant RX11 300 (65535) ∈ gw := gw_in (i := 1907) (by decide +kernel) rfl
theorem q1916 : Cond.methodLink RX11 301 yX11_fault ∈ gw := gw_in (i := 1916) (by decide +kernel) rfl
theorem q1918 : Cond.instanceMethod yX11_fault ∈ gw := gw_in (i := 1918) (by decide +kernel) rfl
theorem q1919 : Cond.code yX11_fault cX11_fault 1 (some .boolean) ∈ gw := gw_in (i := 1919) (by decide +kernel) rfl
theorem q1924 : Cond.methodLink RX11 314 yX11_wrongAt ∈ gw := gw_in (i := 1924) (by decide +kernel) rfl
theorem q1926 : Cond.instanceMethod yX11_wrongAt ∈ gw := gw_in (i := 1926) (by decide +kernel) rfl
theorem q1927 : Cond.code yX11_wrongAt cX11_wrongAt 2 none ∈ gw := gw_in (i := 1927) (by decide +kernel) rfl
theorem q1936 : Cond.methodLink RX11 327 yX11_piece ∈ gw := gw_in (i := 1936) (by decide +kernel) rfl
theorem q1938 : Cond.instanceMethod yX11_piece ∈ gw := gw_in (i := 1938) (by decide +kernel) rfl
theorem q1939 : Cond.code yX11_piece cX11_piece 5 none ∈ gw := gw_in (i := 1939) (by decide +kernel) rfl
theorem dX11_thrown_0 : decode cX11_thrown 0 = .ok (.aload_n 0, 1) := by decide +kernel
theorem dX11_thrown_1 : decode cX11_thrown 1 = .ok (.getfield 263, 3) := by decide +kernel
theorem dX11_thrown_4 : decode cX11_thrown 4 = .ok (.ireturn, 1) := by decide +kernel
theorem dX11_raise_0 : decode cX11_raise 0 = .ok (.aload_n 0, 1) := by decide +kernel
theorem dX11_raise_1 : decode cX11_raise 1 = .ok (.iload_n 1, 1) := by decide +kernel
theorem dX11_raise_2 : decode cX11_raise 2 = .ok (.putfield 263, 3) := by decide +kernel
theorem dX11_raise_5 : decode cX11_raise 5 = .ok (.iconst 0, 1) := by decide +kernel
theorem dX11_raise_6 : decode cX11_raise 6 = .ok (.ireturn, 1) := by decide +kernel
theorem dX11_letter_0 : decode cX11_letter 0 = .ok (.iload_n 0, 1) := by decide +kernel
theorem dX11_letter_1 : decode cX11_letter 1 = .ok (.bipush 97, 2) := by decide +kernel
theorem dX11_letter_3 : decode cX11_letter 3 = .ok (.if_icmp .lt 13, 3) := by decide +kernel
theorem dX11_letter_6 : decode cX11_letter 6 = .ok (.iload_n 0, 1) := by decide +kernel
theorem dX11_letter_7 : decode cX11_letter 7 = .ok (.bipush 122, 2) := by decide +kernel
theorem dX11_letter_9 : decode cX11_letter 9 = .ok (.if_icmp .gt 7, 3) := by decide +kernel
theorem dX11_letter_12 : decode cX11_letter 12 = .ok (.iconst 1, 1) := by decide +kernel
theorem dX11_letter_13 : decode cX11_letter 13 = .ok (.goto 4, 3) := by decide +kernel
theorem dX11_letter_16 : decode cX11_letter 16 = .ok (.iconst 0, 1) := by decide +kernel
theorem dX11_letter_17 : decode cX11_letter 17 = .ok (.ireturn, 1) := by decide +kernel
theorem dX11_digit_0 : decode cX11_digit 0 = .ok (.iload_n 0, 1) := by decide +kernel
theorem dX11_digit_1 : decode cX11_digit 1 = .ok (.bipush 48, 2) := by decide +kernel
theorem dX11_digit_3 : decode cX11_digit 3 = .ok (.if_icmp .lt 13, 3) := by decide +kernel
theorem dX11_digit_6 : decode cX11_digit 6 = .ok (.iload_n 0, 1) := by decide +kernel
theorem dX11_digit_7 : decode cX11_digit 7 = .ok (.bipush 57, 2) := by decide +kernel
theorem dX11_digit_9 : decode cX11_digit 9 = .ok (.if_icmp .gt 7, 3) := by decide +kernel
theorem dX11_digit_12 : decode cX11_digit 12 = .ok (.iconst 1, 1) := by decide +kernel
theorem dX11_digit_13 : decode cX11_digit 13 = .ok (.goto 4, 3) := by decide +kernel
theorem dX11_digit_16 : decode cX11_digit 16 = .ok (.iconst 0, 1) := by decide +kernel
theorem dX11_digit_17 : decode cX11_digit 17 = .ok (.ireturn, 1) := by decide +kernel
theorem dX11_charAt_0 : decode cX11_charAt 0 = .ok (.iload_n 1, 1) := by decide +kernel
theorem dX11_charAt_1 : decode cX11_charAt 1 = .ok (.aload_n 0, 1) := by decide +kernel
theorem dX11_charAt_2 : decode cX11_charAt 2 = .ok (.getfield 266, 3) := by decide +kernel
theorem dX11_charAt_5 : decode cX11_charAt 5 = .ok (.if_icmp .ge 12, 3) := by decide +kernel
theorem dX11_charAt_17 : decode cX11_charAt 17 = .ok (.iconst 0, 1) := by decide +kernel
theorem dX11_charAt_8 : decode cX11_charAt 8 = .ok (.aload_n 0, 1) := by decide +kernel
theorem dX11_charAt_9 : decode cX11_charAt 9 = .ok (.getfield 7, 3) := by decide +kernel
theorem dX11_charAt_12 : decode cX11_charAt 12 = .ok (.iload_n 1, 1) := by decide +kernel
theorem dX11_charAt_13 : decode cX11_charAt 13 = .ok (.iaload, 1) := by decide +kernel
theorem dX11_charAt_14 : decode cX11_charAt 14 = .ok (.goto 4, 3) := by decide +kernel
theorem dX11_charAt_18 : decode cX11_charAt 18 = .ok (.ireturn, 1) := by decide +kernel
theorem dX11_next_0 : decode cX11_next 0 = .ok (.aload_n 0, 1) := by decide +kernel
theorem dX11_next_1 : decode cX11_next 1 = .ok (.aload_n 0, 1) := by decide +kernel
theorem dX11_next_2 : decode cX11_next 2 = .ok (.getfield 269, 3) := by decide +kernel
theorem dX11_next_5 : decode cX11_next 5 = .ok (.invokevirtual 272, 3) := by decide +kernel
theorem dX11_next_8 : decode cX11_next 8 = .ok (.bipush 32, 2) := by decide +kernel
theorem dX11_next_10 : decode cX11_next 10 = .ok (.if_icmp .ne 16, 3) := by decide +kernel
theorem dX11_next_26 : decode cX11_next 26 = .ok (.aload_n 0, 1) := by decide +kernel
theorem dX11_next_27 : decode cX11_next 27 = .ok (.aload_n 0, 1) := by decide +kernel
theorem dX11_next_28 : decode cX11_next 28 = .ok (.getfield 269, 3) := by decide +kernel
theorem dX11_next_31 : decode cX11_next 31 = .ok (.putfield 276, 3) := by decide +kernel
theorem dX11_next_34 : decode cX11_next 34 = .ok (.aload_n 0, 1) := by decide +kernel
theorem dX11_next_35 : decode cX11_next 35 = .ok (.aload_n 0, 1) := by decide +kernel
theorem dX11_next_36 : decode cX11_next 36 = .ok (.getfield 269, 3) := by decide +kernel
theorem dX11_next_39 : decode cX11_next 39 = .ok (.invokevirtual 272, 3) := by decide +kernel
theorem dX11_next_42 : decode cX11_next 42 = .ok (.istore_n 1, 1) := by decide +kernel
theorem dX11_next_43 : decode cX11_next 43 = .ok (.aload_n 0, 1) := by decide +kernel
theorem dX11_next_44 : decode cX11_next 44 = .ok (.iload_n 1, 1) := by decide +kernel
theorem dX11_next_45 : decode cX11_next 45 = .ok (.putfield 279, 3) := by decide +kernel
theorem dX11_next_48 : decode cX11_next 48 = .ok (.iload_n 1, 1) := by decide +kernel
theorem dX11_next_49 : decode cX11_next 49 = .ok (.ifCond .ne 4, 3) := by decide +kernel
theorem dX11_next_53 : decode cX11_next 53 = .ok (.aload_n 0, 1) := by decide +kernel
theorem dX11_next_54 : decode cX11_next 54 = .ok (.dup, 1) := by decide +kernel
theorem dX11_next_55 : decode cX11_next 55 = .ok (.getfield 269, 3) := by decide +kernel
theorem dX11_next_58 : decode cX11_next 58 = .ok (.iconst 1, 1) := by decide +kernel
theorem dX11_next_59 : decode cX11_next 59 = .ok (.iadd, 1) := by decide +kernel
theorem dX11_next_60 : decode cX11_next 60 = .ok (.putfield 269, 3) := by decide +kernel
theorem dX11_next_63 : decode cX11_next 63 = .ok (.iload_n 1, 1) := by decide +kernel
theorem dX11_next_64 : decode cX11_next 64 = .ok (.invokestatic 282, 3) := by decide +kernel
theorem dX11_next_67 : decode cX11_next 67 = .ok (.ifCond .eq 139, 3) := by decide +kernel
theorem dX11_next_206 : decode cX11_next 206 = .ok (.iload_n 1, 1) := by decide +kernel
theorem dX11_next_207 : decode cX11_next 207 = .ok (.invokestatic 290, 3) := by decide +kernel
theorem dX11_next_210 : decode cX11_next 210 = .ok (.ifCond .eq 101, 3) := by decide +kernel
theorem dX11_next_311 : decode cX11_next 311 = .ok (.iload_n 1, 1) := by decide +kernel
theorem dX11_next_312 : decode cX11_next 312 = .ok (.bipush 58, 2) := by decide +kernel
theorem dX11_next_314 : decode cX11_next 314 = .ok (.if_icmp .eq 51, 3) := by decide +kernel
theorem dX11_next_317 : decode cX11_next 317 = .ok (.iload_n 1, 1) := by decide +kernel
theorem dX11_next_318 : decode cX11_next 318 = .ok (.bipush 59, 2) := by decide +kernel
theorem dX11_next_320 : decode cX11_next 320 = .ok (.if_icmp .eq 45, 3) := by decide +kernel
theorem dX11_next_323 : decode cX11_next 323 = .ok (.iload_n 1, 1) := by decide +kernel
theorem dX11_next_324 : decode cX11_next 324 = .ok (.bipush 44, 2) := by decide +kernel
theorem dX11_next_326 : decode cX11_next 326 = .ok (.if_icmp .eq 39, 3) := by decide +kernel
theorem dX11_next_329 : decode cX11_next 329 = .ok (.iload_n 1, 1) := by decide +kernel
theorem dX11_next_330 : decode cX11_next 330 = .ok (.bipush 91, 2) := by decide +kernel
theorem dX11_next_332 : decode cX11_next 332 = .ok (.if_icmp .eq 33, 3) := by decide +kernel
theorem dX11_next_335 : decode cX11_next 335 = .ok (.iload_n 1, 1) := by decide +kernel
theorem dX11_next_336 : decode cX11_next 336 = .ok (.bipush 93, 2) := by decide +kernel
theorem dX11_next_338 : decode cX11_next 338 = .ok (.if_icmp .eq 27, 3) := by decide +kernel
theorem dX11_next_341 : decode cX11_next 341 = .ok (.iload_n 1, 1) := by decide +kernel
theorem dX11_next_342 : decode cX11_next 342 = .ok (.bipush 43, 2) := by decide +kernel
theorem dX11_next_344 : decode cX11_next 344 = .ok (.if_icmp .eq 21, 3) := by decide +kernel
theorem dX11_next_347 : decode cX11_next 347 = .ok (.iload_n 1, 1) := by decide +kernel
theorem dX11_next_348 : decode cX11_next 348 = .ok (.bipush 45, 2) := by decide +kernel
theorem dX11_next_350 : decode cX11_next 350 = .ok (.if_icmp .eq 15, 3) := by decide +kernel
theorem dX11_next_353 : decode cX11_next 353 = .ok (.iload_n 1, 1) := by decide +kernel
theorem dX11_next_354 : decode cX11_next 354 = .ok (.bipush 64, 2) := by decide +kernel
theorem dX11_next_356 : decode cX11_next 356 = .ok (.if_icmp .eq 9, 3) := by decide +kernel
theorem dX11_next_359 : decode cX11_next 359 = .ok (.aload_n 0, 1) := by decide +kernel
theorem dX11_next_360 : decode cX11_next 360 = .ok (.bipush 9, 2) := by decide +kernel
theorem dX11_next_362 : decode cX11_next 362 = .ok (.putfield 279, 3) := by decide +kernel
theorem dX11_next_213 : decode cX11_next 213 = .ok (.aload_n 0, 1) := by decide +kernel
theorem dX11_next_214 : decode cX11_next 214 = .ok (.iload_n 1, 1) := by decide +kernel
theorem dX11_next_215 : decode cX11_next 215 = .ok (.bipush 48, 2) := by decide +kernel
theorem dX11_next_217 : decode cX11_next 217 = .ok (.isub, 1) := by decide +kernel
theorem dX11_next_218 : decode cX11_next 218 = .ok (.putfield 296, 3) := by decide +kernel
theorem dX11_next_70 : decode cX11_next 70 = .ok (.aload_n 0, 1) := by decide +kernel
theorem dX11_next_71 : decode cX11_next 71 = .ok (.iload_n 1, 1) := by decide +kernel
theorem dX11_next_72 : decode cX11_next 72 = .ok (.i2l, 1) := by decide +kernel
theorem dX11_next_73 : decode cX11_next 73 = .ok (.putfield 286, 3) := by decide +kernel
theorem dX11_next_76 : decode cX11_next 76 = .ok (.iconst 1, 1) := by decide +kernel
theorem dX11_next_77 : decode cX11_next 77 = .ok (.istore_n 2, 1) := by decide +kernel
theorem dX11_next_52 : decode cX11_next 52 = .ok (.return_, 1) := by decide +kernel
theorem dX11_next_13 : decode cX11_next 13 = .ok (.aload_n 0, 1) := by decide +kernel
theorem dX11_next_14 : decode cX11_next 14 = .ok (.dup, 1) := by decide +kernel
theorem dX11_next_15 : decode cX11_next 15 = .ok (.getfield 269, 3) := by decide +kernel
theorem dX11_next_18 : decode cX11_next 18 = .ok (.iconst 1, 1) := by decide +kernel
theorem dX11_next_19 : decode cX11_next 19 = .ok (.iadd, 1) := by decide +kernel
theorem dX11_next_20 : decode cX11_next 20 = .ok (.putfield 269, 3) := by decide +kernel
theorem dX11_next_23 : decode cX11_next 23 = .ok (.goto (-23), 3) := by decide +kernel
theorem dX11_next_365 : decode cX11_next 365 = .ok (.return_, 1) := by decide +kernel
theorem dX11_next_221 : decode cX11_next 221 = .ok (.aload_n 0, 1) := by decide +kernel
theorem dX11_next_222 : decode cX11_next 222 = .ok (.aload_n 0, 1) := by decide +kernel
theorem dX11_next_223 : decode cX11_next 223 = .ok (.getfield 269, 3) := by decide +kernel
theorem dX11_next_226 : decode cX11_next 226 = .ok (.invokevirtual 272, 3) := by decide +kernel
theorem dX11_next_229 : decode cX11_next 229 = .ok (.invokestatic 290, 3) := by decide +kernel
theorem dX11_next_232 : decode cX11_next 232 = .ok (.ifCond .eq 56, 3) := by decide +kernel
theorem dX11_next_288 : decode cX11_next 288 = .ok (.aload_n 0, 1) := by decide +kernel
theorem dX11_next_289 : decode cX11_next 289 = .ok (.aload_n 0, 1) := by decide +kernel
theorem dX11_next_290 : decode cX11_next 290 = .ok (.getfield 296, 3) := by decide +kernel
theorem dX11_next_293 : decode cX11_next 293 = .ok (.ldc_w 300, 3) := by decide +kernel
theorem dX11_next_296 : decode cX11_next 296 = .ok (.if_icmp .le 8, 3) := by decide +kernel
theorem dX11_next_304 : decode cX11_next 304 = .ok (.iconst 2, 1) := by decide +kernel
theorem dX11_next_299 : decode cX11_next 299 = .ok (.bipush 9, 2) := by decide +kernel
theorem dX11_next_301 : decode cX11_next 301 = .ok (.goto 4, 3) := by decide +kernel
theorem dX11_next_235 : decode cX11_next 235 = .ok (.aload_n 0, 1) := by decide +kernel
theorem dX11_next_236 : decode cX11_next 236 = .ok (.aload_n 0, 1) := by decide +kernel
theorem dX11_next_237 : decode cX11_next 237 = .ok (.getfield 296, 3) := by decide +kernel
theorem dX11_next_240 : decode cX11_next 240 = .ok (.ldc_w 299, 3) := by decide +kernel
theorem dX11_next_243 : decode cX11_next 243 = .ok (.if_icmp .le 10, 3) := by decide +kernel
theorem dX11_next_253 : decode cX11_next 253 = .ok (.bipush 10, 2) := by decide +kernel
theorem dX11_next_255 : decode cX11_next 255 = .ok (.aload_n 0, 1) := by decide +kernel
theorem dX11_next_256 : decode cX11_next 256 = .ok (.getfield 296, 3) := by decide +kernel
theorem dX11_next_259 : decode cX11_next 259 = .ok (.imul, 1) := by decide +kernel
theorem dX11_next_260 : decode cX11_next 260 = .ok (.aload_n 0, 1) := by decide +kernel
theorem dX11_next_261 : decode cX11_next 261 = .ok (.aload_n 0, 1) := by decide +kernel
theorem dX11_next_262 : decode cX11_next 262 = .ok (.getfield 269, 3) := by decide +kernel
theorem dX11_next_265 : decode cX11_next 265 = .ok (.invokevirtual 272, 3) := by decide +kernel
theorem dX11_next_268 : decode cX11_next 268 = .ok (.iadd, 1) := by decide +kernel
theorem dX11_next_269 : decode cX11_next 269 = .ok (.bipush 48, 2) := by decide +kernel
theorem dX11_next_271 : decode cX11_next 271 = .ok (.isub, 1) := by decide +kernel
theorem dX11_next_246 : decode cX11_next 246 = .ok (.aload_n 0, 1) := by decide +kernel
theorem dX11_next_247 : decode cX11_next 247 = .ok (.getfield 296, 3) := by decide +kernel
theorem dX11_next_250 : decode cX11_next 250 = .ok (.goto 22, 3) := by decide +kernel
theorem dX11_next_78 : decode cX11_next 78 = .ok (.aload_n 0, 1) := by decide +kernel
theorem dX11_next_79 : decode cX11_next 79 = .ok (.aload_n 0, 1) := by decide +kernel
theorem dX11_next_80 : decode cX11_next 80 = .ok (.getfield 269, 3) := by decide +kernel
theorem dX11_next_83 : decode cX11_next 83 = .ok (.invokevirtual 272, 3) := by decide +kernel
theorem dX11_next_86 : decode cX11_next 86 = .ok (.invokestatic 282, 3) := by decide +kernel
theorem dX11_next_89 : decode cX11_next 89 = .ok (.ifCond .ne 17, 3) := by decide +kernel
theorem dX11_next_92 : decode cX11_next 92 = .ok (.aload_n 0, 1) := by decide +kernel
theorem dX11_next_93 : decode cX11_next 93 = .ok (.aload_n 0, 1) := by decide +kernel
theorem dX11_next_94 : decode cX11_next 94 = .ok (.getfield 269, 3) := by decide +kernel
theorem dX11_next_97 : decode cX11_next 97 = .ok (.invokevirtual 272, 3) := by decide +kernel
theorem dX11_next_100 : decode cX11_next 100 = .ok (.invokestatic 290, 3) := by decide +kernel
theorem dX11_next_103 : decode cX11_next 103 = .ok (.ifCond .eq 46, 3) := by decide +kernel
theorem dX11_next_149 : decode cX11_next 149 = .ok (.aload_n 0, 1) := by decide +kernel
theorem dX11_next_150 : decode cX11_next 150 = .ok (.iload_n 2, 1) := by decide +kernel
theorem dX11_next_151 : decode cX11_next 151 = .ok (.bipush 6, 2) := by decide +kernel
theorem dX11_next_153 : decode cX11_next 153 = .ok (.if_icmp .le 8, 3) := by decide +kernel
theorem dX11_next_161 : decode cX11_next 161 = .ok (.iconst 1, 1) := by decide +kernel
theorem dX11_next_156 : decode cX11_next 156 = .ok (.bipush 9, 2) := by decide +kernel
theorem dX11_next_158 : decode cX11_next 158 = .ok (.goto 4, 3) := by decide +kernel
theorem dX11_next_305 : decode cX11_next 305 = .ok (.putfield 279, 3) := by decide +kernel
theorem dX11_next_308 : decode cX11_next 308 = .ok (.goto 57, 3) := by decide +kernel
theorem dX11_next_272 : decode cX11_next 272 = .ok (.putfield 296, 3) := by decide +kernel
theorem dX11_next_275 : decode cX11_next 275 = .ok (.aload_n 0, 1) := by decide +kernel
theorem dX11_next_276 : decode cX11_next 276 = .ok (.dup, 1) := by decide +kernel
theorem dX11_next_277 : decode cX11_next 277 = .ok (.getfield 269, 3) := by decide +kernel
theorem dX11_next_280 : decode cX11_next 280 = .ok (.iconst 1, 1) := by decide +kernel
theorem dX11_next_281 : decode cX11_next 281 = .ok (.iadd, 1) := by decide +kernel
theorem dX11_next_282 : decode cX11_next 282 = .ok (.putfield 269, 3) := by decide +kernel
theorem dX11_next_285 : decode cX11_next 285 = .ok (.goto (-64), 3) := by decide +kernel
theorem dX11_next_106 : decode cX11_next 106 = .ok (.iload_n 2, 1) := by decide +kernel
theorem dX11_next_107 : decode cX11_next 107 = .ok (.bipush 7, 2) := by decide +kernel
theorem dX11_next_109 : decode cX11_next 109 = .ok (.if_icmp .ge 24, 3) := by decide +kernel
theorem dX11_next_112 : decode cX11_next 112 = .ok (.aload_n 0, 1) := by decide +kernel
theorem dX11_next_113 : decode cX11_next 113 = .ok (.aload_n 0, 1) := by decide +kernel
theorem dX11_next_114 : decode cX11_next 114 = .ok (.getfield 286, 3) := by decide +kernel
theorem dX11_next_117 : decode cX11_next 117 = .ok (.bipush 8, 2) := by decide +kernel
theorem dX11_next_119 : decode cX11_next 119 = .ok (.lshl, 1) := by decide +kernel
theorem dX11_next_120 : decode cX11_next 120 = .ok (.aload_n 0, 1) := by decide +kernel
theorem dX11_next_121 : decode cX11_next 121 = .ok (.aload_n 0, 1) := by decide +kernel
theorem dX11_next_122 : decode cX11_next 122 = .ok (.getfield 269, 3) := by decide +kernel
theorem dX11_next_125 : decode cX11_next 125 = .ok (.invokevirtual 272, 3) := by decide +kernel
theorem dX11_next_128 : decode cX11_next 128 = .ok (.i2l, 1) := by decide +kernel
theorem dX11_next_129 : decode cX11_next 129 = .ok (.lor, 1) := by decide +kernel
theorem dX11_next_130 : decode cX11_next 130 = .ok (.putfield 286, 3) := by decide +kernel
theorem dX11_next_162 : decode cX11_next 162 = .ok (.putfield 279, 3) := by decide +kernel
theorem dX11_next_165 : decode cX11_next 165 = .ok (.aload_n 0, 1) := by decide +kernel
theorem dX11_next_166 : decode cX11_next 166 = .ok (.iconst (-1), 1) := by decide +kernel
theorem dX11_next_167 : decode cX11_next 167 = .ok (.putfield 293, 3) := by decide +kernel
theorem dX11_next_170 : decode cX11_next 170 = .ok (.iconst 0, 1) := by decide +kernel
theorem dX11_next_171 : decode cX11_next 171 = .ok (.istore_n 3, 1) := by decide +kernel
theorem dX11_next_133 : decode cX11_next 133 = .ok (.iinc 2 1, 3) := by decide +kernel
theorem dX11_next_136 : decode cX11_next 136 = .ok (.aload_n 0, 1) := by decide +kernel
theorem dX11_next_137 : decode cX11_next 137 = .ok (.dup, 1) := by decide +kernel
theorem dX11_next_138 : decode cX11_next 138 = .ok (.getfield 269, 3) := by decide +kernel
theorem dX11_next_141 : decode cX11_next 141 = .ok (.iconst 1, 1) := by decide +kernel
theorem dX11_next_142 : decode cX11_next 142 = .ok (.iadd, 1) := by decide +kernel
theorem dX11_next_143 : decode cX11_next 143 = .ok (.putfield 269, 3) := by decide +kernel
theorem dX11_next_146 : decode cX11_next 146 = .ok (.goto (-68), 3) := by decide +kernel
theorem dX11_next_172 : decode cX11_next 172 = .ok (.iload_n 3, 1) := by decide +kernel
theorem dX11_next_173 : decode cX11_next 173 = .ok (.bipush 48, 2) := by decide +kernel
theorem dX11_next_175 : decode cX11_next 175 = .ok (.if_icmp .ge 28, 3) := by decide +kernel
theorem dX11_next_203 : decode cX11_next 203 = .ok (.goto 162, 3) := by decide +kernel
theorem dX11_next_178 : decode cX11_next 178 = .ok (.aload_n 0, 1) := by decide +kernel
theorem dX11_next_179 : decode cX11_next 179 = .ok (.getfield 116, 3) := by decide +kernel
theorem dX11_next_182 : decode cX11_next 182 = .ok (.iload_n 3, 1) := by decide +kernel
theorem dX11_next_183 : decode cX11_next 183 = .ok (.laload, 1) := by decide +kernel
theorem dX11_next_184 : decode cX11_next 184 = .ok (.aload_n 0, 1) := by decide +kernel
theorem dX11_next_185 : decode cX11_next 185 = .ok (.getfield 286, 3) := by decide +kernel
theorem dX11_next_188 : decode cX11_next 188 = .ok (.lcmp, 1) := by decide +kernel
theorem dX11_next_189 : decode cX11_next 189 = .ok (.ifCond .ne 8, 3) := by decide +kernel
theorem dX11_next_192 : decode cX11_next 192 = .ok (.aload_n 0, 1) := by decide +kernel
theorem dX11_next_193 : decode cX11_next 193 = .ok (.iload_n 3, 1) := by decide +kernel
theorem dX11_next_194 : decode cX11_next 194 = .ok (.putfield 293, 3) := by decide +kernel
theorem dX11_next_197 : decode cX11_next 197 = .ok (.iinc 3 1, 3) := by decide +kernel
theorem dX11_next_200 : decode cX11_next 200 = .ok (.goto (-28), 3) := by decide +kernel
theorem dX11_fault_0 : decode cX11_fault 0 = .ok (.aload_n 0, 1) := by decide +kernel
theorem dX11_fault_1 : decode cX11_fault 1 = .ok (.iconst 1, 1) := by decide +kernel
theorem dX11_fault_2 : decode cX11_fault 2 = .ok (.putfield 13, 3) := by decide +kernel
theorem dX11_fault_5 : decode cX11_fault 5 = .ok (.aload_n 0, 1) := by decide +kernel
theorem dX11_fault_6 : decode cX11_fault 6 = .ok (.aload_n 0, 1) := by decide +kernel
theorem dX11_fault_7 : decode cX11_fault 7 = .ok (.getfield 276, 3) := by decide +kernel
theorem dX11_fault_10 : decode cX11_fault 10 = .ok (.putfield 17, 3) := by decide +kernel
theorem dX11_fault_13 : decode cX11_fault 13 = .ok (.iconst 0, 1) := by decide +kernel
theorem dX11_fault_14 : decode cX11_fault 14 = .ok (.ireturn, 1) := by decide +kernel
theorem dX11_take_0 : decode cX11_take 0 = .ok (.aload_n 0, 1) := by decide +kernel
theorem dX11_take_1 : decode cX11_take 1 = .ok (.getfield 279, 3) := by decide +kernel
theorem dX11_take_4 : decode cX11_take 4 = .ok (.iload_n 1, 1) := by decide +kernel
theorem dX11_take_5 : decode cX11_take 5 = .ok (.if_icmp .eq 8, 3) := by decide +kernel
theorem dX11_take_13 : decode cX11_take 13 = .ok (.aload_n 0, 1) := by decide +kernel
theorem dX11_take_14 : decode cX11_take 14 = .ok (.invokevirtual 305, 3) := by decide +kernel
theorem dX11_take_17 : decode cX11_take 17 = .ok (.iconst 1, 1) := by decide +kernel
theorem dX11_take_18 : decode cX11_take 18 = .ok (.ireturn, 1) := by decide +kernel
theorem dX11_take_8 : decode cX11_take 8 = .ok (.aload_n 0, 1) := by decide +kernel
theorem dX11_take_9 : decode cX11_take 9 = .ok (.invokevirtual 301, 3) := by decide +kernel
theorem dX11_take_12 : decode cX11_take 12 = .ok (.ireturn, 1) := by decide +kernel
theorem dX11_isName_0 : decode cX11_isName 0 = .ok (.aload_n 0, 1) := by decide +kernel
theorem dX11_isName_1 : decode cX11_isName 1 = .ok (.getfield 279, 3) := by decide +kernel
theorem dX11_isName_4 : decode cX11_isName 4 = .ok (.iconst 1, 1) := by decide +kernel
theorem dX11_isName_5 : decode cX11_isName 5 = .ok (.if_icmp .ne 14, 3) := by decide +kernel
theorem dX11_isName_8 : decode cX11_isName 8 = .ok (.aload_n 0, 1) := by decide +kernel
theorem dX11_isName_9 : decode cX11_isName 9 = .ok (.getfield 293, 3) := by decide +kernel
theorem dX11_isName_12 : decode cX11_isName 12 = .ok (.ifCond .ge 7, 3) := by decide +kernel
theorem dX11_isName_15 : decode cX11_isName 15 = .ok (.iconst 1, 1) := by decide +kernel
theorem dX11_isName_16 : decode cX11_isName 16 = .ok (.goto 4, 3) := by decide +kernel
theorem dX11_isName_19 : decode cX11_isName 19 = .ok (.iconst 0, 1) := by decide +kernel
theorem dX11_isName_20 : decode cX11_isName 20 = .ok (.ireturn, 1) := by decide +kernel
theorem dX11_isWord_0 : decode cX11_isWord 0 = .ok (.aload_n 0, 1) := by decide +kernel
theorem dX11_isWord_1 : decode cX11_isWord 1 = .ok (.getfield 279, 3) := by decide +kernel
theorem dX11_isWord_4 : decode cX11_isWord 4 = .ok (.iconst 1, 1) := by decide +kernel
theorem dX11_isWord_5 : decode cX11_isWord 5 = .ok (.if_icmp .ne 23, 3) := by decide +kernel
theorem dX11_isWord_8 : decode cX11_isWord 8 = .ok (.aload_n 0, 1) := by decide +kernel
theorem dX11_isWord_9 : decode cX11_isWord 9 = .ok (.getfield 293, 3) := by decide +kernel
theorem dX11_isWord_12 : decode cX11_isWord 12 = .ok (.iload_n 1, 1) := by decide +kernel
theorem dX11_isWord_13 : decode cX11_isWord 13 = .ok (.if_icmp .lt 15, 3) := by decide +kernel
theorem dX11_isWord_16 : decode cX11_isWord 16 = .ok (.aload_n 0, 1) := by decide +kernel
theorem dX11_isWord_17 : decode cX11_isWord 17 = .ok (.getfield 293, 3) := by decide +kernel
theorem dX11_isWord_20 : decode cX11_isWord 20 = .ok (.iload_n 2, 1) := by decide +kernel
theorem dX11_isWord_21 : decode cX11_isWord 21 = .ok (.if_icmp .gt 7, 3) := by decide +kernel
theorem dX11_isWord_24 : decode cX11_isWord 24 = .ok (.iconst 1, 1) := by decide +kernel
theorem dX11_isWord_25 : decode cX11_isWord 25 = .ok (.goto 4, 3) := by decide +kernel
theorem dX11_isWord_28 : decode cX11_isWord 28 = .ok (.iconst 0, 1) := by decide +kernel
theorem dX11_isWord_29 : decode cX11_isWord 29 = .ok (.ireturn, 1) := by decide +kernel
theorem dX11_wrongAt_0 : decode cX11_wrongAt 0 = .ok (.aload_n 0, 1) := by decide +kernel
theorem dX11_wrongAt_1 : decode cX11_wrongAt 1 = .ok (.getfield 308, 3) := by decide +kernel
theorem dX11_wrongAt_4 : decode cX11_wrongAt 4 = .ok (.ifCond .lt 11, 3) := by decide +kernel
theorem dX11_wrongAt_7 : decode cX11_wrongAt 7 = .ok (.iload_n 1, 1) := by decide +kernel
theorem dX11_wrongAt_8 : decode cX11_wrongAt 8 = .ok (.aload_n 0, 1) := by decide +kernel
theorem dX11_wrongAt_9 : decode cX11_wrongAt 9 = .ok (.getfield 308, 3) := by decide +kernel
theorem dX11_wrongAt_12 : decode cX11_wrongAt 12 = .ok (.if_icmp .ge 8, 3) := by decide +kernel
theorem dX11_wrongAt_15 : decode cX11_wrongAt 15 = .ok (.aload_n 0, 1) := by decide +kernel
theorem dX11_wrongAt_16 : decode cX11_wrongAt 16 = .ok (.iload_n 1, 1) := by decide +kernel
theorem dX11_wrongAt_17 : decode cX11_wrongAt 17 = .ok (.putfield 308, 3) := by decide +kernel
theorem dX11_wrongAt_20 : decode cX11_wrongAt 20 = .ok (.return_, 1) := by decide +kernel
theorem dX11_name_0 : decode cX11_name 0 = .ok (.iconst 0, 1) := by decide +kernel
theorem dX11_name_1 : decode cX11_name 1 = .ok (.istore_n 1, 1) := by decide +kernel
theorem dX11_name_2 : decode cX11_name 2 = .ok (.iload_n 1, 1) := by decide +kernel
theorem dX11_name_3 : decode cX11_name 3 = .ok (.aload_n 0, 1) := by decide +kernel
theorem dX11_name_4 : decode cX11_name 4 = .ok (.getfield 311, 3) := by decide +kernel
theorem dX11_name_7 : decode cX11_name 7 = .ok (.if_icmp .ge 23, 3) := by decide +kernel
theorem dX11_name_10 : decode cX11_name 10 = .ok (.aload_n 0, 1) := by decide +kernel
theorem dX11_name_11 : decode cX11_name 11 = .ok (.getfield 120, 3) := by decide +kernel
theorem dX11_name_14 : decode cX11_name 14 = .ok (.iload_n 1, 1) := by decide +kernel
theorem dX11_name_15 : decode cX11_name 15 = .ok (.laload, 1) := by decide +kernel
theorem dX11_name_16 : decode cX11_name 16 = .ok (.aload_n 0, 1) := by decide +kernel
theorem dX11_name_17 : decode cX11_name 17 = .ok (.getfield 286, 3) := by decide +kernel
theorem dX11_name_20 : decode cX11_name 20 = .ok (.lcmp, 1) := by decide +kernel
theorem dX11_name_21 : decode cX11_name 21 = .ok (.ifCond .eq 9, 3) := by decide +kernel
theorem dX11_name_24 : decode cX11_name 24 = .ok (.iinc 1 1, 3) := by decide +kernel
theorem dX11_name_27 : decode cX11_name 27 = .ok (.goto (-25), 3) := by decide +kernel
theorem dX11_name_30 : decode cX11_name 30 = .ok (.iload_n 1, 1) := by decide +kernel
theorem dX11_name_31 : decode cX11_name 31 = .ok (.aload_n 0, 1) := by decide +kernel
theorem dX11_name_32 : decode cX11_name 32 = .ok (.getfield 311, 3) := by decide +kernel
theorem dX11_name_35 : decode cX11_name 35 = .ok (.if_icmp .ne 47, 3) := by decide +kernel
theorem dX11_name_38 : decode cX11_name 38 = .ok (.aload_n 0, 1) := by decide +kernel
theorem dX11_name_39 : decode cX11_name 39 = .ok (.getfield 120, 3) := by decide +kernel
theorem dX11_name_42 : decode cX11_name 42 = .ok (.iload_n 1, 1) := by decide +kernel
theorem dX11_name_43 : decode cX11_name 43 = .ok (.aload_n 0, 1) := by decide +kernel
theorem dX11_name_44 : decode cX11_name 44 = .ok (.getfield 286, 3) := by decide +kernel
theorem dX11_name_47 : decode cX11_name 47 = .ok (.lastore, 1) := by decide +kernel
theorem dX11_name_48 : decode cX11_name 48 = .ok (.aload_n 0, 1) := by decide +kernel
theorem dX11_name_49 : decode cX11_name 49 = .ok (.getfield 123, 3) := by decide +kernel
theorem dX11_name_52 : decode cX11_name 52 = .ok (.iload_n 1, 1) := by decide +kernel
theorem dX11_name_53 : decode cX11_name 53 = .ok (.iconst 0, 1) := by decide +kernel
theorem dX11_name_54 : decode cX11_name 54 = .ok (.iastore, 1) := by decide +kernel
theorem dX11_name_55 : decode cX11_name 55 = .ok (.aload_n 0, 1) := by decide +kernel
theorem dX11_name_56 : decode cX11_name 56 = .ok (.dup, 1) := by decide +kernel
theorem dX11_name_57 : decode cX11_name 57 = .ok (.getfield 311, 3) := by decide +kernel
theorem dX11_name_60 : decode cX11_name 60 = .ok (.iconst 1, 1) := by decide +kernel
theorem dX11_name_61 : decode cX11_name 61 = .ok (.iadd, 1) := by decide +kernel
theorem dX11_name_62 : decode cX11_name 62 = .ok (.putfield 311, 3) := by decide +kernel
theorem dX11_name_65 : decode cX11_name 65 = .ok (.aload_n 0, 1) := by decide +kernel
theorem dX11_name_66 : decode cX11_name 66 = .ok (.getfield 311, 3) := by decide +kernel
theorem dX11_name_69 : decode cX11_name 69 = .ok (.bipush 24, 2) := by decide +kernel
theorem dX11_name_71 : decode cX11_name 71 = .ok (.if_icmp .le 11, 3) := by decide +kernel
theorem dX11_name_74 : decode cX11_name 74 = .ok (.aload_n 0, 1) := by decide +kernel
theorem dX11_name_75 : decode cX11_name 75 = .ok (.aload_n 0, 1) := by decide +kernel
theorem dX11_name_76 : decode cX11_name 76 = .ok (.getfield 276, 3) := by decide +kernel
theorem dX11_name_79 : decode cX11_name 79 = .ok (.invokevirtual 314, 3) := by decide +kernel
theorem dX11_name_82 : decode cX11_name 82 = .ok (.iload_n 1, 1) := by decide +kernel
theorem dX11_name_83 : decode cX11_name 83 = .ok (.ireturn, 1) := by decide +kernel
theorem dX11_use_0 : decode cX11_use 0 = .ok (.aload_n 0, 1) := by decide +kernel
theorem dX11_use_1 : decode cX11_use 1 = .ok (.getfield 135, 3) := by decide +kernel
theorem dX11_use_4 : decode cX11_use 4 = .ok (.aload_n 0, 1) := by decide +kernel
theorem dX11_use_5 : decode cX11_use 5 = .ok (.getfield 318, 3) := by decide +kernel
theorem dX11_use_8 : decode cX11_use 8 = .ok (.iload_n 1, 1) := by decide +kernel
theorem dX11_use_9 : decode cX11_use 9 = .ok (.iastore, 1) := by decide +kernel
theorem dX11_use_10 : decode cX11_use 10 = .ok (.aload_n 0, 1) := by decide +kernel
theorem dX11_use_11 : decode cX11_use 11 = .ok (.getfield 138, 3) := by decide +kernel
theorem dX11_use_14 : decode cX11_use 14 = .ok (.aload_n 0, 1) := by decide +kernel
theorem dX11_use_15 : decode cX11_use 15 = .ok (.getfield 318, 3) := by decide +kernel
theorem dX11_use_18 : decode cX11_use 18 = .ok (.iload_n 2, 1) := by decide +kernel
theorem dX11_use_19 : decode cX11_use 19 = .ok (.iastore, 1) := by decide +kernel
theorem dX11_use_20 : decode cX11_use 20 = .ok (.aload_n 0, 1) := by decide +kernel
theorem dX11_use_21 : decode cX11_use 21 = .ok (.getfield 141, 3) := by decide +kernel
theorem dX11_use_24 : decode cX11_use 24 = .ok (.aload_n 0, 1) := by decide +kernel
theorem dX11_use_25 : decode cX11_use 25 = .ok (.getfield 318, 3) := by decide +kernel
theorem dX11_use_28 : decode cX11_use 28 = .ok (.iload_n 3, 1) := by decide +kernel
theorem dX11_use_29 : decode cX11_use 29 = .ok (.iastore, 1) := by decide +kernel
theorem dX11_use_30 : decode cX11_use 30 = .ok (.aload_n 0, 1) := by decide +kernel
theorem dX11_use_31 : decode cX11_use 31 = .ok (.getfield 144, 3) := by decide +kernel
theorem dX11_use_34 : decode cX11_use 34 = .ok (.aload_n 0, 1) := by decide +kernel
theorem dX11_use_35 : decode cX11_use 35 = .ok (.getfield 318, 3) := by decide +kernel
theorem dX11_use_38 : decode cX11_use 38 = .ok (.aload_n 0, 1) := by decide +kernel
theorem dX11_use_39 : decode cX11_use 39 = .ok (.getfield 321, 3) := by decide +kernel
theorem dX11_use_42 : decode cX11_use 42 = .ok (.iastore, 1) := by decide +kernel
theorem dX11_use_43 : decode cX11_use 43 = .ok (.aload_n 0, 1) := by decide +kernel
theorem dX11_use_44 : decode cX11_use 44 = .ok (.dup, 1) := by decide +kernel
theorem dX11_use_45 : decode cX11_use 45 = .ok (.getfield 318, 3) := by decide +kernel
theorem dX11_use_48 : decode cX11_use 48 = .ok (.iconst 1, 1) := by decide +kernel
theorem dX11_use_49 : decode cX11_use 49 = .ok (.iadd, 1) := by decide +kernel
theorem dX11_use_50 : decode cX11_use 50 = .ok (.putfield 318, 3) := by decide +kernel
theorem dX11_use_53 : decode cX11_use 53 = .ok (.return_, 1) := by decide +kernel
theorem dX11_piece_0 : decode cX11_piece 0 = .ok (.aload_n 0, 1) := by decide +kernel
theorem dX11_piece_1 : decode cX11_piece 1 = .ok (.getfield 147, 3) := by decide +kernel
theorem dX11_piece_4 : decode cX11_piece 4 = .ok (.aload_n 0, 1) := by decide +kernel
theorem dX11_piece_5 : decode cX11_piece 5 = .ok (.getfield 324, 3) := by decide +kernel
theorem dX11_piece_8 : decode cX11_piece 8 = .ok (.iload_n 1, 1) := by decide +kernel
theorem dX11_piece_9 : decode cX11_piece 9 = .ok (.iastore, 1) := by decide +kernel
theorem dX11_piece_10 : decode cX11_piece 10 = .ok (.aload_n 0, 1) := by decide +kernel
theorem dX11_piece_11 : decode cX11_piece 11 = .ok (.getfield 150, 3) := by decide +kernel
theorem dX11_piece_14 : decode cX11_piece 14 = .ok (.aload_n 0, 1) := by decide +kernel
theorem dX11_piece_15 : decode cX11_piece 15 = .ok (.getfield 324, 3) := by decide +kernel
theorem dX11_piece_18 : decode cX11_piece 18 = .ok (.iload_n 2, 1) := by decide +kernel
theorem dX11_piece_19 : decode cX11_piece 19 = .ok (.iastore, 1) := by decide +kernel
theorem dX11_piece_20 : decode cX11_piece 20 = .ok (.aload_n 0, 1) := by decide +kernel
theorem dX11_piece_21 : decode cX11_piece 21 = .ok (.getfield 153, 3) := by decide +kernel
theorem dX11_piece_24 : decode cX11_piece 24 = .ok (.aload_n 0, 1) := by decide +kernel
theorem dX11_piece_25 : decode cX11_piece 25 = .ok (.getfield 324, 3) := by decide +kernel
theorem dX11_piece_28 : decode cX11_piece 28 = .ok (.iload_n 3, 1) := by decide +kernel
theorem dX11_piece_29 : decode cX11_piece 29 = .ok (.iastore, 1) := by decide +kernel
theorem dX11_piece_30 : decode cX11_piece 30 = .ok (.aload_n 0, 1) := by decide +kernel
theorem dX11_piece_31 : decode cX11_piece 31 = .ok (.getfield 156, 3) := by decide +kernel
theorem dX11_piece_34 : decode cX11_piece 34 = .ok (.aload_n 0, 1) := by decide +kernel
theorem dX11_piece_35 : decode cX11_piece 35 = .ok (.getfield 324, 3) := by decide +kernel
theorem dX11_piece_38 : decode cX11_piece 38 = .ok (.iload 4, 2) := by decide +kernel
theorem dX11_piece_40 : decode cX11_piece 40 = .ok (.iastore, 1) := by decide +kernel
theorem dX11_piece_41 : decode cX11_piece 41 = .ok (.aload_n 0, 1) := by decide +kernel
theorem dX11_piece_42 : decode cX11_piece 42 = .ok (.getfield 159, 3) := by decide +kernel
theorem dX11_piece_45 : decode cX11_piece 45 = .ok (.aload_n 0, 1) := by decide +kernel
theorem dX11_piece_46 : decode cX11_piece 46 = .ok (.getfield 324, 3) := by decide +kernel
theorem dX11_piece_49 : decode cX11_piece 49 = .ok (.aload_n 0, 1) := by decide +kernel
theorem dX11_piece_50 : decode cX11_piece 50 = .ok (.getfield 321, 3) := by decide +kernel
theorem dX11_piece_53 : decode cX11_piece 53 = .ok (.iastore, 1) := by decide +kernel
theorem dX11_piece_54 : decode cX11_piece 54 = .ok (.aload_n 0, 1) := by decide +kernel
theorem dX11_piece_55 : decode cX11_piece 55 = .ok (.getfield 165, 3) := by decide +kernel
theorem dX11_piece_58 : decode cX11_piece 58 = .ok (.aload_n 0, 1) := by decide +kernel
theorem dX11_piece_59 : decode cX11_piece 59 = .ok (.getfield 324, 3) := by decide +kernel
theorem dX11_piece_62 : decode cX11_piece 62 = .ok (.iconst 0, 1) := by decide +kernel
theorem dX11_piece_63 : decode cX11_piece 63 = .ok (.bastore, 1) := by decide +kernel
theorem dX11_piece_64 : decode cX11_piece 64 = .ok (.aload_n 0, 1) := by decide +kernel
theorem dX11_piece_65 : decode cX11_piece 65 = .ok (.dup, 1) := by decide +kernel
theorem dX11_piece_66 : decode cX11_piece 66 = .ok (.getfield 324, 3) := by decide +kernel
theorem dX11_piece_69 : decode cX11_piece 69 = .ok (.iconst 1, 1) := by decide +kernel
theorem dX11_piece_70 : decode cX11_piece 70 = .ok (.iadd, 1) := by decide +kernel
theorem dX11_piece_71 : decode cX11_piece 71 = .ok (.putfield 324, 3) := by decide +kernel
theorem dX11_piece_74 : decode cX11_piece 74 = .ok (.return_, 1) := by decide +kernel
theorem dX11_octet_0 : decode cX11_octet 0 = .ok (.aload_n 0, 1) := by decide +kernel
theorem dX11_octet_1 : decode cX11_octet 1 = .ok (.iconst 0, 1) := by decide +kernel
theorem dX11_octet_2 : decode cX11_octet 2 = .ok (.iload_n 1, 1) := by decide +kernel
theorem dX11_octet_3 : decode cX11_octet 3 = .ok (.iconst 0, 1) := by decide +kernel
theorem dX11_octet_4 : decode cX11_octet 4 = .ok (.iconst 0, 1) := by decide +kernel
theorem dX11_octet_5 : decode cX11_octet 5 = .ok (.invokevirtual 327, 3) := by decide +kernel
theorem dX11_octet_8 : decode cX11_octet 8 = .ok (.return_, 1) := by decide +kernel
def wpX11_thrown (σ : ZS) (Q : Int → ZS → Prop) : Prop := Q (zI σ 0 0) σ
set_option maxHeartbeats 4000000 in
set_option maxRecDepth 100000 in
theorem kX11_thrown (l : Launch) (D : va_G) (dA : Nat → ClassId) (ad : Int → Nat → Nat) (σ : ZS) (Q : Int → ZS → Prop) (sz : Nat) (hw : wpX11_thrown σ Q) : Met l yX11_thrown (gws yX11_thrown cX11_thrown 1 (some .int)) (gR 1 0 0) (gPre D dA [.ref (ad 0 1000)] (zR dA ad σ) sz) (va_Qi (zQi Q) (gAt D dA (va_A (zR dA ad σ) sz) (zR dA ad)) (va_A (zR dA ad σ) sz)) 0 0 (va_A (zR dA ad σ) sz) := by
  refine Met.ofW (cc := cX11_thrown) (maxL := 1) (ret := (some .int)) (by decide) rfl ?_
  intro p e s m args below meth c s₁ B hml hv
  obtain ⟨rfl, hsz, hP, hK, hD0⟩ := hv
  have hx := B.exec
  have hb := B.bytes
  have hr := B.returns
  have hts := atoms_spec (ws := gws yX11_thrown cX11_thrown 1 (some .int)) B.pre
  have hg : ∀ w ∈ gw, w.before _ s = true := fun w h => hts w (List.mem_cons_of_mem _ h)
  have hown : s.vm.findClass RX11 = some m.cls := findClass_of_methodNamed B.named
  have hlocks := B.notSynchronized
  subst hsz
  have hD := hD0.self (sz := s.heap.size)
  generalize hAe : va_A (zR dA ad σ) s.heap.size = A at hD ⊢
  have hA : ∀ q : Nat, s.heap.size ≤ q → A q := fun q h => by rw [← hAe]; exact Or.inr h
  have hS : va_S A s.heap s.heap [] := va_S.rf
  have hl := lv_entry ([.ref (ad 0 1000)]) (n := 1) (Nat.le_of_ble_eq_true rfl)
  rw [lg_entry_eq]
  generalize (lg_sl ([.ref (ad 0 1000)]) ++ List.replicate (1 - (lg_sl ([.ref (ad 0 1000)])).length) Slot.unset).toArray = ls at hl ⊢
  have hl : lv_has ls 1 [(0, .ref (ad 0 1000))] := hl
  have hret : ∀ (v : Int) (σ : ZS) (H : Heap) (locs : List Loc) (ls : Array Slot) (pc : Nat), Q v σ → va_P D vwC (zR dA ad σ) H → va_D A (zR dA ad σ) → va_S A s.heap H locs → decode cX11_thrown pc = .ok (.ireturn, 1) → W p l e (gR 1 0 0) s m #[.ref (ad 0 1000)] below meth c H locs 0 0 (MQ below (va_Qi (zQi Q) (gAt D dA A (zR dA ad)) A) #[.ref (ad 0 1000)] s 0 0 A) (F0 m pc ls [.int (Int32.ofInt v)]) := fun v σ H locs ls pc hw hP hD hS hd => g_iret hx hb hr rfl hlocks hK σ hP hD hS ⟨v, rfl, hw⟩ (Nat.le_of_ble_eq_true rfl) (Nat.le_of_ble_eq_true rfl) hd
  generalize MQ below (va_Qi (zQi Q) (gAt D dA A (zR dA ad)) A) #[.ref (ad 0 1000)] s 0 0 A = QQ at hret ⊢
  unfold wpX11_thrown at hw
  refine lv_aload_n hx hb dX11_thrown_0 rfl (lv_at hl 0 rfl) ?_
  refine zgR0_0 hx hb hg hown hK hP q1615 dX11_thrown_1 ?_
  exact hret (zI σ 0 0) σ _ _ _ _ hw hP hD hS dX11_thrown_4
def wpX11_raise (a1 : Int) (σ : ZS) (Q : Int → ZS → Prop) : Prop := Q 0 (zsI σ 0 0 a1)
set_option maxHeartbeats 4000000 in
set_option maxRecDepth 100000 in
theorem kX11_raise (l : Launch) (D : va_G) (dA : Nat → ClassId) (ad : Int → Nat → Nat) (a1 : Int) (σ : ZS) (Q : Int → ZS → Prop) (sz : Nat) (hw : wpX11_raise a1 σ Q) : Met l yX11_raise (gws yX11_raise cX11_raise 2 (some .int)) (gR 1 0 0) (gPre D dA [.ref (ad 0 1000), .int (Int32.ofInt a1)] (zR dA ad σ) sz) (va_Qi (zQi Q) (gAt D dA (va_A (zR dA ad σ) sz) (zR dA ad)) (va_A (zR dA ad σ) sz)) 0 0 (va_A (zR dA ad σ) sz) := by
  refine Met.ofW (cc := cX11_raise) (maxL := 2) (ret := (some .int)) (by decide) rfl ?_
  intro p e s m args below meth c s₁ B hml hv
  obtain ⟨rfl, hsz, hP, hK, hD0⟩ := hv
  have hx := B.exec
  have hb := B.bytes
  have hr := B.returns
  have hts := atoms_spec (ws := gws yX11_raise cX11_raise 2 (some .int)) B.pre
  have hg : ∀ w ∈ gw, w.before _ s = true := fun w h => hts w (List.mem_cons_of_mem _ h)
  have hown : s.vm.findClass RX11 = some m.cls := findClass_of_methodNamed B.named
  have hlocks := B.notSynchronized
  subst hsz
  have hD := hD0.self (sz := s.heap.size)
  generalize hAe : va_A (zR dA ad σ) s.heap.size = A at hD ⊢
  have hA : ∀ q : Nat, s.heap.size ≤ q → A q := fun q h => by rw [← hAe]; exact Or.inr h
  have hS : va_S A s.heap s.heap [] := va_S.rf
  have hl := lv_entry ([.ref (ad 0 1000), .int (Int32.ofInt a1)]) (n := 2) (Nat.le_of_ble_eq_true rfl)
  rw [lg_entry_eq]
  generalize (lg_sl ([.ref (ad 0 1000), .int (Int32.ofInt a1)]) ++ List.replicate (2 - (lg_sl ([.ref (ad 0 1000), .int (Int32.ofInt a1)])).length) Slot.unset).toArray = ls at hl ⊢
  have hl : lv_has ls 2 [(0, .ref (ad 0 1000)), (1, .int (Int32.ofInt a1))] := hl
  have hret : ∀ (v : Int) (σ : ZS) (H : Heap) (locs : List Loc) (ls : Array Slot) (pc : Nat), Q v σ → va_P D vwC (zR dA ad σ) H → va_D A (zR dA ad σ) → va_S A s.heap H locs → decode cX11_raise pc = .ok (.ireturn, 1) → W p l e (gR 1 0 0) s m #[.ref (ad 0 1000), .int (Int32.ofInt a1)] below meth c H locs 0 0 (MQ below (va_Qi (zQi Q) (gAt D dA A (zR dA ad)) A) #[.ref (ad 0 1000), .int (Int32.ofInt a1)] s 0 0 A) (F0 m pc ls [.int (Int32.ofInt v)]) := fun v σ H locs ls pc hw hP hD hS hd => g_iret hx hb hr rfl hlocks hK σ hP hD hS ⟨v, rfl, hw⟩ (Nat.le_of_ble_eq_true rfl) (Nat.le_of_ble_eq_true rfl) hd
  generalize MQ below (va_Qi (zQi Q) (gAt D dA A (zR dA ad)) A) #[.ref (ad 0 1000), .int (Int32.ofInt a1)] s 0 0 A = QQ at hret ⊢
  unfold wpX11_raise at hw
  refine lv_aload_n hx hb dX11_raise_0 rfl (lv_at hl 0 rfl) ?_
  refine lv_iload_n hx hb dX11_raise_1 rfl (lv_at hl 1 rfl) ?_
  refine zpR0_0 (v := a1) hx hb hg hown hK hP hD hS q1615 dX11_raise_2 (fun H locs hP hD hS => ?_)
  refine lv_iconst (v := Int32.ofInt 0) hx hb dX11_raise_5 (by decide) ?_
  exact hret 0 (zsI σ 0 0 a1) _ _ _ _ hw hP hD hS dX11_raise_6
def wpX11_letter_17 (s0 : Int) (σ : ZS) (Q : Int → ZS → Prop) : Prop := (0 ≤ s0 ∧ s0 ≤ 1) ∧ Q s0 σ
def wpX11_letter_16 (σ : ZS) (Q : Int → ZS → Prop) : Prop := wpX11_letter_17 0 σ Q
def wpX11_letter (a0 : Int) (σ : ZS) (Q : Int → ZS → Prop) : Prop := (-2147483648 ≤ a0 ∧ a0 ≤ 2147483647) ∧ (a0 < 97 → wpX11_letter_16 σ Q) ∧ (¬ a0 < 97 → (122 < a0 → wpX11_letter_16 σ Q) ∧ (¬ 122 < a0 → wpX11_letter_17 1 σ Q))
set_option maxHeartbeats 4000000 in
set_option maxRecDepth 100000 in
theorem kX11_letter (l : Launch) (D : va_G) (dA : Nat → ClassId) (ad : Int → Nat → Nat) (a0 : Int) (σ : ZS) (Q : Int → ZS → Prop) (sz : Nat) (hw : wpX11_letter a0 σ Q) : Met l yX11_letter (gws yX11_letter cX11_letter 1 (some .boolean)) (gR 1 0 0) (gPre D dA [.int (Int32.ofInt a0)] (zR dA ad σ) sz) (va_Qi (zQi Q) (gAt D dA (va_A (zR dA ad σ) sz) (zR dA ad)) (va_A (zR dA ad σ) sz)) 0 0 (va_A (zR dA ad σ) sz) := by
  refine Met.ofW (cc := cX11_letter) (maxL := 1) (ret := (some .boolean)) (by decide) rfl ?_
  intro p e s m args below meth c s₁ B hml hv
  obtain ⟨rfl, hsz, hP, hK, hD0⟩ := hv
  have hx := B.exec
  have hb := B.bytes
  have hr := B.returns
  have hts := atoms_spec (ws := gws yX11_letter cX11_letter 1 (some .boolean)) B.pre
  have hg : ∀ w ∈ gw, w.before _ s = true := fun w h => hts w (List.mem_cons_of_mem _ h)
  have hown : s.vm.findClass RX11 = some m.cls := findClass_of_methodNamed B.named
  have hlocks := B.notSynchronized
  subst hsz
  have hD := hD0.self (sz := s.heap.size)
  generalize hAe : va_A (zR dA ad σ) s.heap.size = A at hD ⊢
  have hA : ∀ q : Nat, s.heap.size ≤ q → A q := fun q h => by rw [← hAe]; exact Or.inr h
  have hS : va_S A s.heap s.heap [] := va_S.rf
  have hl := lv_entry ([.int (Int32.ofInt a0)]) (n := 1) (Nat.le_of_ble_eq_true rfl)
  rw [lg_entry_eq]
  generalize (lg_sl ([.int (Int32.ofInt a0)]) ++ List.replicate (1 - (lg_sl ([.int (Int32.ofInt a0)])).length) Slot.unset).toArray = ls at hl ⊢
  have hl : lv_has ls 1 [(0, .int (Int32.ofInt a0))] := hl
  have hret : ∀ (v : Int) (σ : ZS) (H : Heap) (locs : List Loc) (ls : Array Slot) (pc : Nat), (0 ≤ v ∧ v ≤ 1) → Q v σ → va_P D vwC (zR dA ad σ) H → va_D A (zR dA ad σ) → va_S A s.heap H locs → decode cX11_letter pc = .ok (.ireturn, 1) → W p l e (gR 1 0 0) s m #[.int (Int32.ofInt a0)] below meth c H locs 0 0 (MQ below (va_Qi (zQi Q) (gAt D dA A (zR dA ad)) A) #[.int (Int32.ofInt a0)] s 0 0 A) (F0 m pc ls [.int (Int32.ofInt v)]) := fun v σ H locs ls pc hv hw hP hD hS hd => g_iret hx hb hr (z_nb hv) hlocks hK σ hP hD hS ⟨v, rfl, hw⟩ (Nat.le_of_ble_eq_true rfl) (Nat.le_of_ble_eq_true rfl) hd
  generalize MQ below (va_Qi (zQi Q) (gAt D dA A (zR dA ad)) A) #[.int (Int32.ofInt a0)] s 0 0 A = QQ at hret ⊢
  have j17 : ∀ (s0 : Int) (σ : ZS), ∀ (H : Heap) (locs : List Loc) (ls : Array Slot), va_P D vwC (zR dA ad σ) H → va_D A (zR dA ad σ) → va_S A s.heap H locs → lv_has ls 1 [] → wpX11_letter_17 s0 σ Q → W p l e (gR 1 0 0) s m #[.int (Int32.ofInt a0)] below meth c H locs 0 0 QQ (F0 m 17 ls [.int (Int32.ofInt s0)]) := by
    intro s0 σ H locs ls hP hD hS hl hw
    unfold wpX11_letter_17 at hw
    obtain ⟨o1, hw⟩ := hw
    exact hret s0 σ _ _ _ _ o1 hw hP hD hS dX11_letter_17
  have j16 : ∀ (σ : ZS), ∀ (H : Heap) (locs : List Loc) (ls : Array Slot), va_P D vwC (zR dA ad σ) H → va_D A (zR dA ad σ) → va_S A s.heap H locs → lv_has ls 1 [] → wpX11_letter_16 σ Q → W p l e (gR 1 0 0) s m #[.int (Int32.ofInt a0)] below meth c H locs 0 0 QQ (F0 m 16 ls []) := by
    intro σ H locs ls hP hD hS hl hw
    unfold wpX11_letter_16 at hw
    refine lv_iconst (v := Int32.ofInt 0) hx hb dX11_letter_16 (by decide) ?_
    exact j17 0 σ _ _ _ hP hD hS (lv_sub hl [] rfl) hw
  unfold wpX11_letter at hw
  refine lv_iload_n hx hb dX11_letter_0 rfl (lv_at hl 0 rfl) ?_
  refine lv_bipush (v := Int32.ofInt 97) hx hb dX11_letter_1 (by decide) ?_
  obtain ⟨o2, hw⟩ := hw
  refine z_icmp_lt (tgt := 16) hx hb o2 (by decide) dX11_letter_3 (by decide) (fun k3 => ?_) (fun k3 => ?_)
  · replace hw := hw.1 k3
    exact j16 σ _ _ _ hP hD hS (lv_sub hl [] rfl) hw
  · replace hw := hw.2 k3
    refine lv_iload_n hx hb dX11_letter_6 rfl (lv_at hl 0 rfl) ?_
    refine lv_bipush (v := Int32.ofInt 122) hx hb dX11_letter_7 (by decide) ?_
    refine z_icmp_gt (tgt := 16) hx hb o2 (by decide) dX11_letter_9 (by decide) (fun k4 => ?_) (fun k4 => ?_)
    · replace hw := hw.1 k4
      exact j16 σ _ _ _ hP hD hS (lv_sub hl [] rfl) hw
    · replace hw := hw.2 k4
      refine lv_iconst (v := Int32.ofInt 1) hx hb dX11_letter_12 (by decide) ?_
      refine lv_goto (tgt := 17) hx hb dX11_letter_13 (by decide) ?_
      exact j17 1 σ _ _ _ hP hD hS (lv_sub hl [] rfl) hw
def wpX11_digit_17 (s0 : Int) (σ : ZS) (Q : Int → ZS → Prop) : Prop := (0 ≤ s0 ∧ s0 ≤ 1) ∧ Q s0 σ
def wpX11_digit_16 (σ : ZS) (Q : Int → ZS → Prop) : Prop := wpX11_digit_17 0 σ Q
def wpX11_digit (a0 : Int) (σ : ZS) (Q : Int → ZS → Prop) : Prop := (-2147483648 ≤ a0 ∧ a0 ≤ 2147483647) ∧ (a0 < 48 → wpX11_digit_16 σ Q) ∧ (¬ a0 < 48 → (57 < a0 → wpX11_digit_16 σ Q) ∧ (¬ 57 < a0 → wpX11_digit_17 1 σ Q))
set_option maxHeartbeats 4000000 in
set_option maxRecDepth 100000 in
theorem kX11_digit (l : Launch) (D : va_G) (dA : Nat → ClassId) (ad : Int → Nat → Nat) (a0 : Int) (σ : ZS) (Q : Int → ZS → Prop) (sz : Nat) (hw : wpX11_digit a0 σ Q) : Met l yX11_digit (gws yX11_digit cX11_digit 1 (some .boolean)) (gR 1 0 0) (gPre D dA [.int (Int32.ofInt a0)] (zR dA ad σ) sz) (va_Qi (zQi Q) (gAt D dA (va_A (zR dA ad σ) sz) (zR dA ad)) (va_A (zR dA ad σ) sz)) 0 0 (va_A (zR dA ad σ) sz) := by
  refine Met.ofW (cc := cX11_digit) (maxL := 1) (ret := (some .boolean)) (by decide) rfl ?_
  intro p e s m args below meth c s₁ B hml hv
  obtain ⟨rfl, hsz, hP, hK, hD0⟩ := hv
  have hx := B.exec
  have hb := B.bytes
  have hr := B.returns
  have hts := atoms_spec (ws := gws yX11_digit cX11_digit 1 (some .boolean)) B.pre
  have hg : ∀ w ∈ gw, w.before _ s = true := fun w h => hts w (List.mem_cons_of_mem _ h)
  have hown : s.vm.findClass RX11 = some m.cls := findClass_of_methodNamed B.named
  have hlocks := B.notSynchronized
  subst hsz
  have hD := hD0.self (sz := s.heap.size)
  generalize hAe : va_A (zR dA ad σ) s.heap.size = A at hD ⊢
  have hA : ∀ q : Nat, s.heap.size ≤ q → A q := fun q h => by rw [← hAe]; exact Or.inr h
  have hS : va_S A s.heap s.heap [] := va_S.rf
  have hl := lv_entry ([.int (Int32.ofInt a0)]) (n := 1) (Nat.le_of_ble_eq_true rfl)
  rw [lg_entry_eq]
  generalize (lg_sl ([.int (Int32.ofInt a0)]) ++ List.replicate (1 - (lg_sl ([.int (Int32.ofInt a0)])).length) Slot.unset).toArray = ls at hl ⊢
  have hl : lv_has ls 1 [(0, .int (Int32.ofInt a0))] := hl
  have hret : ∀ (v : Int) (σ : ZS) (H : Heap) (locs : List Loc) (ls : Array Slot) (pc : Nat), (0 ≤ v ∧ v ≤ 1) → Q v σ → va_P D vwC (zR dA ad σ) H → va_D A (zR dA ad σ) → va_S A s.heap H locs → decode cX11_digit pc = .ok (.ireturn, 1) → W p l e (gR 1 0 0) s m #[.int (Int32.ofInt a0)] below meth c H locs 0 0 (MQ below (va_Qi (zQi Q) (gAt D dA A (zR dA ad)) A) #[.int (Int32.ofInt a0)] s 0 0 A) (F0 m pc ls [.int (Int32.ofInt v)]) := fun v σ H locs ls pc hv hw hP hD hS hd => g_iret hx hb hr (z_nb hv) hlocks hK σ hP hD hS ⟨v, rfl, hw⟩ (Nat.le_of_ble_eq_true rfl) (Nat.le_of_ble_eq_true rfl) hd
  generalize MQ below (va_Qi (zQi Q) (gAt D dA A (zR dA ad)) A) #[.int (Int32.ofInt a0)] s 0 0 A = QQ at hret ⊢
  have j17 : ∀ (s0 : Int) (σ : ZS), ∀ (H : Heap) (locs : List Loc) (ls : Array Slot), va_P D vwC (zR dA ad σ) H → va_D A (zR dA ad σ) → va_S A s.heap H locs → lv_has ls 1 [] → wpX11_digit_17 s0 σ Q → W p l e (gR 1 0 0) s m #[.int (Int32.ofInt a0)] below meth c H locs 0 0 QQ (F0 m 17 ls [.int (Int32.ofInt s0)]) := by
    intro s0 σ H locs ls hP hD hS hl hw
    unfold wpX11_digit_17 at hw
    obtain ⟨o1, hw⟩ := hw
    exact hret s0 σ _ _ _ _ o1 hw hP hD hS dX11_digit_17
  have j16 : ∀ (σ : ZS), ∀ (H : Heap) (locs : List Loc) (ls : Array Slot), va_P D vwC (zR dA ad σ) H → va_D A (zR dA ad σ) → va_S A s.heap H locs → lv_has ls 1 [] → wpX11_digit_16 σ Q → W p l e (gR 1 0 0) s m #[.int (Int32.ofInt a0)] below meth c H locs 0 0 QQ (F0 m 16 ls []) := by
    intro σ H locs ls hP hD hS hl hw
    unfold wpX11_digit_16 at hw
    refine lv_iconst (v := Int32.ofInt 0) hx hb dX11_digit_16 (by decide) ?_
    exact j17 0 σ _ _ _ hP hD hS (lv_sub hl [] rfl) hw
  unfold wpX11_digit at hw
  refine lv_iload_n hx hb dX11_digit_0 rfl (lv_at hl 0 rfl) ?_
  refine lv_bipush (v := Int32.ofInt 48) hx hb dX11_digit_1 (by decide) ?_
  obtain ⟨o2, hw⟩ := hw
  refine z_icmp_lt (tgt := 16) hx hb o2 (by decide) dX11_digit_3 (by decide) (fun k3 => ?_) (fun k3 => ?_)
  · replace hw := hw.1 k3
    exact j16 σ _ _ _ hP hD hS (lv_sub hl [] rfl) hw
  · replace hw := hw.2 k3
    refine lv_iload_n hx hb dX11_digit_6 rfl (lv_at hl 0 rfl) ?_
    refine lv_bipush (v := Int32.ofInt 57) hx hb dX11_digit_7 (by decide) ?_
    refine z_icmp_gt (tgt := 16) hx hb o2 (by decide) dX11_digit_9 (by decide) (fun k4 => ?_) (fun k4 => ?_)
    · replace hw := hw.1 k4
      exact j16 σ _ _ _ hP hD hS (lv_sub hl [] rfl) hw
    · replace hw := hw.2 k4
      refine lv_iconst (v := Int32.ofInt 1) hx hb dX11_digit_12 (by decide) ?_
      refine lv_goto (tgt := 17) hx hb dX11_digit_13 (by decide) ?_
      exact j17 1 σ _ _ _ hP hD hS (lv_sub hl [] rfl) hw
def wpX11_charAt_18 (s0 : Int) (σ : ZS) (Q : Int → ZS → Prop) : Prop := Q s0 σ
def wpX11_charAt (a1 : Int) (σ : ZS) (Q : Int → ZS → Prop) : Prop := (-2147483648 ≤ a1 ∧ a1 ≤ 2147483647) ∧ (-2147483648 ≤ (zI σ 0 2) ∧ (zI σ 0 2) ≤ 2147483647) ∧ ((zI σ 0 2) ≤ a1 → wpX11_charAt_18 0 σ Q) ∧ (¬ (zI σ 0 2) ≤ a1 → (0 ≤ a1 ∧ a1 < 480) ∧ wpX11_charAt_18 (zA σ 0 1 a1) σ Q)
set_option maxHeartbeats 4000000 in
set_option maxRecDepth 100000 in
theorem kX11_charAt (l : Launch) (D : va_G) (dA : Nat → ClassId) (ad : Int → Nat → Nat) (a1 : Int) (σ : ZS) (Q : Int → ZS → Prop) (sz : Nat) (hw : wpX11_charAt a1 σ Q) : Met l yX11_charAt (gws yX11_charAt cX11_charAt 2 (some .int)) (gR 1 0 0) (gPre D dA [.ref (ad 0 1000), .int (Int32.ofInt a1)] (zR dA ad σ) sz) (va_Qi (zQi Q) (gAt D dA (va_A (zR dA ad σ) sz) (zR dA ad)) (va_A (zR dA ad σ) sz)) 0 0 (va_A (zR dA ad σ) sz) := by
  refine Met.ofW (cc := cX11_charAt) (maxL := 2) (ret := (some .int)) (by decide) rfl ?_
  intro p e s m args below meth c s₁ B hml hv
  obtain ⟨rfl, hsz, hP, hK, hD0⟩ := hv
  have hx := B.exec
  have hb := B.bytes
  have hr := B.returns
  have hts := atoms_spec (ws := gws yX11_charAt cX11_charAt 2 (some .int)) B.pre
  have hg : ∀ w ∈ gw, w.before _ s = true := fun w h => hts w (List.mem_cons_of_mem _ h)
  have hown : s.vm.findClass RX11 = some m.cls := findClass_of_methodNamed B.named
  have hlocks := B.notSynchronized
  subst hsz
  have hD := hD0.self (sz := s.heap.size)
  generalize hAe : va_A (zR dA ad σ) s.heap.size = A at hD ⊢
  have hA : ∀ q : Nat, s.heap.size ≤ q → A q := fun q h => by rw [← hAe]; exact Or.inr h
  have hS : va_S A s.heap s.heap [] := va_S.rf
  have hl := lv_entry ([.ref (ad 0 1000), .int (Int32.ofInt a1)]) (n := 2) (Nat.le_of_ble_eq_true rfl)
  rw [lg_entry_eq]
  generalize (lg_sl ([.ref (ad 0 1000), .int (Int32.ofInt a1)]) ++ List.replicate (2 - (lg_sl ([.ref (ad 0 1000), .int (Int32.ofInt a1)])).length) Slot.unset).toArray = ls at hl ⊢
  have hl : lv_has ls 2 [(0, .ref (ad 0 1000)), (1, .int (Int32.ofInt a1))] := hl
  have hret : ∀ (v : Int) (σ : ZS) (H : Heap) (locs : List Loc) (ls : Array Slot) (pc : Nat), Q v σ → va_P D vwC (zR dA ad σ) H → va_D A (zR dA ad σ) → va_S A s.heap H locs → decode cX11_charAt pc = .ok (.ireturn, 1) → W p l e (gR 1 0 0) s m #[.ref (ad 0 1000), .int (Int32.ofInt a1)] below meth c H locs 0 0 (MQ below (va_Qi (zQi Q) (gAt D dA A (zR dA ad)) A) #[.ref (ad 0 1000), .int (Int32.ofInt a1)] s 0 0 A) (F0 m pc ls [.int (Int32.ofInt v)]) := fun v σ H locs ls pc hw hP hD hS hd => g_iret hx hb hr rfl hlocks hK σ hP hD hS ⟨v, rfl, hw⟩ (Nat.le_of_ble_eq_true rfl) (Nat.le_of_ble_eq_true rfl) hd
  generalize MQ below (va_Qi (zQi Q) (gAt D dA A (zR dA ad)) A) #[.ref (ad 0 1000), .int (Int32.ofInt a1)] s 0 0 A = QQ at hret ⊢
  have j18 : ∀ (s0 : Int) (σ : ZS), ∀ (H : Heap) (locs : List Loc) (ls : Array Slot), va_P D vwC (zR dA ad σ) H → va_D A (zR dA ad σ) → va_S A s.heap H locs → lv_has ls 2 [] → wpX11_charAt_18 s0 σ Q → W p l e (gR 1 0 0) s m #[.ref (ad 0 1000), .int (Int32.ofInt a1)] below meth c H locs 0 0 QQ (F0 m 18 ls [.int (Int32.ofInt s0)]) := by
    intro s0 σ H locs ls hP hD hS hl hw
    unfold wpX11_charAt_18 at hw
    exact hret s0 σ _ _ _ _ hw hP hD hS dX11_charAt_18
  unfold wpX11_charAt at hw
  refine lv_iload_n hx hb dX11_charAt_0 rfl (lv_at hl 1 rfl) ?_
  refine lv_aload_n hx hb dX11_charAt_1 rfl (lv_at hl 0 rfl) ?_
  refine zgR0_2 hx hb hg hown hK hP q1617 dX11_charAt_2 ?_
  obtain ⟨o1, hw⟩ := hw
  obtain ⟨o2, hw⟩ := hw
  refine z_icmp_ge (tgt := 17) hx hb o1 o2 dX11_charAt_5 (by decide) (fun k3 => ?_) (fun k3 => ?_)
  · replace hw := hw.1 k3
    refine lv_iconst (v := Int32.ofInt 0) hx hb dX11_charAt_17 (by decide) ?_
    exact j18 0 σ _ _ _ hP hD hS (lv_sub hl [] rfl) hw
  · replace hw := hw.2 k3
    refine lv_aload_n hx hb dX11_charAt_8 rfl (lv_at hl 0 rfl) ?_
    refine zgR0_1 hx hb hg hown hK hP q1616 dX11_charAt_9 ?_
    refine lv_iload_n hx hb dX11_charAt_12 rfl (lv_at hl 1 rfl) ?_
    obtain ⟨o4, hw⟩ := hw
    refine zlR0_1 hx hb o4 hK hP dX11_charAt_13 ?_
    refine lv_goto (tgt := 18) hx hb dX11_charAt_14 (by decide) ?_
    exact j18 (zA σ 0 1 a1) σ _ _ _ hP hD hS (lv_sub hl [] rfl) hw
def wpX11_next_365 (σ : ZS) (Q : ZS → Prop) : Prop := Q σ
def wpX11_next_305 (s1 : Int) (σ : ZS) (Q : ZS → Prop) : Prop := wpX11_next_365 (zsI σ 0 7 s1) Q
def wpX11_next_272 (K221 : ZS → Prop) (s1 : Int) (σ : ZS) (Q : ZS → Prop) : Prop := K221 (zsI (zsI σ 0 10 s1) 0 5 ((zI σ 0 5) + 1))
def wpbX11_next_221 (K221 : ZS → Prop) (σ : ZS) (Q : ZS → Prop) : Prop := wpX11_charAt (zI σ 0 5) σ (fun (x1 : Int) (σ2 : ZS) => wpX11_digit x1 σ2 (fun (x3 : Int) (σ4 : ZS) => (-2147483648 ≤ x3 ∧ x3 ≤ 2147483647) ∧ (x3 = 0 → (-2147483648 ≤ (zI σ4 0 10) ∧ (zI σ4 0 10) ≤ 2147483647) ∧ ((zI σ4 0 10) ≤ 65535 → wpX11_next_305 2 σ4 Q) ∧ (¬ (zI σ4 0 10) ≤ 65535 → wpX11_next_305 9 σ4 Q)) ∧ (¬ x3 = 0 → (-2147483648 ≤ (zI σ4 0 10) ∧ (zI σ4 0 10) ≤ 2147483647) ∧ ((zI σ4 0 10) ≤ 100000 → wpX11_charAt (zI σ4 0 5) σ4 (fun (x11 : Int) (σ12 : ZS) => wpX11_next_272 K221 (((10 * (zI σ4 0 10)) + x11) - 48) σ12 Q)) ∧ (¬ (zI σ4 0 10) ≤ 100000 → wpX11_next_272 K221 (zI σ4 0 10) σ4 Q))))
def wpX11_next_221 (σ : ZS) (Q : ZS → Prop) : Prop := lfp0 (fun K221 σ => wpbX11_next_221 K221 σ Q) σ
def wpX11_next_197 (K172 : Int → ZS → Prop) (v3 : Int) (σ : ZS) (Q : ZS → Prop) : Prop := K172 (v3 + 1) σ
def wpbX11_next_172 (K172 : Int → ZS → Prop) (v3 : Int) (σ : ZS) (Q : ZS → Prop) : Prop := (-2147483648 ≤ v3 ∧ v3 ≤ 2147483647) ∧ (48 ≤ v3 → wpX11_next_365 σ Q) ∧ (¬ 48 ≤ v3 → (0 ≤ v3 ∧ v3 < 48) ∧ (-9223372036854775808 ≤ (zA σ 0 11 v3) ∧ (zA σ 0 11 v3) ≤ 9223372036854775807) ∧ (-9223372036854775808 ≤ (zI σ 0 8) ∧ (zI σ 0 8) ≤ 9223372036854775807) ∧ (¬ (zA σ 0 11 v3) = (zI σ 0 8) → wpX11_next_197 K172 v3 σ Q) ∧ ((zA σ 0 11 v3) = (zI σ 0 8) → wpX11_next_197 K172 v3 (zsI σ 0 9 v3) Q))
def wpX11_next_172 (v3 : Int) (σ : ZS) (Q : ZS → Prop) : Prop := lfp1 (fun K172 v3 σ => wpbX11_next_172 K172 v3 σ Q) v3 σ
def wpX11_next_162 (s1 : Int) (σ : ZS) (Q : ZS → Prop) : Prop := wpX11_next_172 0 (zsI (zsI σ 0 7 s1) 0 9 (-1)) Q
def wpX11_next_133 (K78 : Int → ZS → Prop) (v2 : Int) (σ : ZS) (Q : ZS → Prop) : Prop := K78 (v2 + 1) (zsI σ 0 5 ((zI σ 0 5) + 1))
def wpX11_next_106 (K78 : Int → ZS → Prop) (v2 : Int) (σ : ZS) (Q : ZS → Prop) : Prop := (-2147483648 ≤ v2 ∧ v2 ≤ 2147483647) ∧ (7 ≤ v2 → wpX11_next_133 K78 v2 σ Q) ∧ (¬ 7 ≤ v2 → wpX11_charAt (zI σ 0 5) σ (fun (x21 : Int) (σ22 : ZS) => (-2147483648 ≤ x21 ∧ x21 ≤ 2147483647) ∧ wpX11_next_133 K78 v2 (zsI σ22 0 8 (zlor ((zI σ 0 8) * 256) x21)) Q))
def wpbX11_next_78 (K78 : Int → ZS → Prop) (v2 : Int) (σ : ZS) (Q : ZS → Prop) : Prop := wpX11_charAt (zI σ 0 5) σ (fun (x24 : Int) (σ25 : ZS) => wpX11_letter x24 σ25 (fun (x26 : Int) (σ27 : ZS) => (-2147483648 ≤ x26 ∧ x26 ≤ 2147483647) ∧ (¬ x26 = 0 → wpX11_next_106 K78 v2 σ27 Q) ∧ (x26 = 0 → wpX11_charAt (zI σ27 0 5) σ27 (fun (x30 : Int) (σ31 : ZS) => wpX11_digit x30 σ31 (fun (x32 : Int) (σ33 : ZS) => (-2147483648 ≤ x32 ∧ x32 ≤ 2147483647) ∧ (x32 = 0 → (-2147483648 ≤ v2 ∧ v2 ≤ 2147483647) ∧ (v2 ≤ 6 → wpX11_next_162 1 σ33 Q) ∧ (¬ v2 ≤ 6 → wpX11_next_162 9 σ33 Q)) ∧ (¬ x32 = 0 → wpX11_next_106 K78 v2 σ33 Q))))))
def wpX11_next_78 (v2 : Int) (σ : ZS) (Q : ZS → Prop) : Prop := lfp1 (fun K78 v2 σ => wpbX11_next_78 K78 v2 σ Q) v2 σ
def wpbX11_next_0 (K0 : ZS → Prop) (σ : ZS) (Q : ZS → Prop) : Prop := wpX11_charAt (zI σ 0 5) σ (fun (x38 : Int) (σ39 : ZS) => (-2147483648 ≤ x38 ∧ x38 ≤ 2147483647) ∧ (¬ x38 = 32 → wpX11_charAt (zI σ39 0 5) (zsI σ39 0 6 (zI σ39 0 5)) (fun (x42 : Int) (σ43 : ZS) => (-2147483648 ≤ x42 ∧ x42 ≤ 2147483647) ∧ (¬ x42 = 0 → wpX11_letter x42 (zsI (zsI σ43 0 7 x42) 0 5 ((zI σ43 0 5) + 1)) (fun (x46 : Int) (σ47 : ZS) => (-2147483648 ≤ x46 ∧ x46 ≤ 2147483647) ∧ (x46 = 0 → wpX11_digit x42 σ47 (fun (x50 : Int) (σ51 : ZS) => (-2147483648 ≤ x50 ∧ x50 ≤ 2147483647) ∧ (x50 = 0 → (x42 = 58 → wpX11_next_365 σ51 Q) ∧ (¬ x42 = 58 → (x42 = 59 → wpX11_next_365 σ51 Q) ∧ (¬ x42 = 59 → (x42 = 44 → wpX11_next_365 σ51 Q) ∧ (¬ x42 = 44 → (x42 = 91 → wpX11_next_365 σ51 Q) ∧ (¬ x42 = 91 → (x42 = 93 → wpX11_next_365 σ51 Q) ∧ (¬ x42 = 93 → (x42 = 43 → wpX11_next_365 σ51 Q) ∧ (¬ x42 = 43 → (x42 = 45 → wpX11_next_365 σ51 Q) ∧ (¬ x42 = 45 → (x42 = 64 → wpX11_next_365 σ51 Q) ∧ (¬ x42 = 64 → wpX11_next_365 (zsI σ51 0 7 9) Q))))))))) ∧ (¬ x50 = 0 → wpX11_next_221 (zsI σ51 0 10 (x42 - 48)) Q))) ∧ (¬ x46 = 0 → wpX11_next_78 1 (zsI σ47 0 8 x42) Q))) ∧ (x42 = 0 → Q (zsI σ43 0 7 x42)))) ∧ (x38 = 32 → K0 (zsI σ39 0 5 ((zI σ39 0 5) + 1))))
def wpX11_next_0 (σ : ZS) (Q : ZS → Prop) : Prop := lfp0 (fun K0 σ => wpbX11_next_0 K0 σ Q) σ
def wpX11_next (σ : ZS) (Q : ZS → Prop) : Prop := wpX11_next_0 σ Q
set_option maxHeartbeats 4000000 in
set_option maxRecDepth 100000 in
theorem kX11_next (l : Launch) (D : va_G) (dA : Nat → ClassId) (ad : Int → Nat → Nat) (σ : ZS) (Q : ZS → Prop) (sz : Nat) (hw : wpX11_next σ Q) : Met l yX11_next (gws yX11_next cX11_next 4 none) (gR 2 0 0) (gPre D dA [.ref (ad 0 1000)] (zR dA ad σ) sz) (va_Qv Q (gAt D dA (va_A (zR dA ad σ) sz) (zR dA ad)) (va_A (zR dA ad σ) sz)) 0 0 (va_A (zR dA ad σ) sz) := by
  refine Met.ofW (cc := cX11_next) (maxL := 4) (ret := none) (by decide) rfl ?_
  intro p e s m args below meth c s₁ B hml hv
  obtain ⟨rfl, hsz, hP, hK, hD0⟩ := hv
  have hx := B.exec
  have hb := B.bytes
  have hr := B.returns
  have hts := atoms_spec (ws := gws yX11_next cX11_next 4 none) B.pre
  have hg : ∀ w ∈ gw, w.before _ s = true := fun w h => hts w (List.mem_cons_of_mem _ h)
  have hown : s.vm.findClass RX11 = some m.cls := findClass_of_methodNamed B.named
  have hlocks := B.notSynchronized
  subst hsz
  have hD := hD0.self (sz := s.heap.size)
  generalize hAe : va_A (zR dA ad σ) s.heap.size = A at hD ⊢
  have hA : ∀ q : Nat, s.heap.size ≤ q → A q := fun q h => by rw [← hAe]; exact Or.inr h
  have hS : va_S A s.heap s.heap [] := va_S.rf
  have hl := lv_entry ([.ref (ad 0 1000)]) (n := 4) (Nat.le_of_ble_eq_true rfl)
  rw [lg_entry_eq]
  generalize (lg_sl ([.ref (ad 0 1000)]) ++ List.replicate (4 - (lg_sl ([.ref (ad 0 1000)])).length) Slot.unset).toArray = ls at hl ⊢
  have hl : lv_has ls 4 [(0, .ref (ad 0 1000))] := hl
  have hret : ∀ (σ : ZS) (H : Heap) (locs : List Loc) (ls : Array Slot) (pc : Nat), Q σ → va_P D vwC (zR dA ad σ) H → va_D A (zR dA ad σ) → va_S A s.heap H locs → decode cX11_next pc = .ok (.return_, 1) → W p l e (gR 2 0 0) s m #[.ref (ad 0 1000)] below meth c H locs 0 0 (MQ below (va_Qv Q (gAt D dA A (zR dA ad)) A) #[.ref (ad 0 1000)] s 0 0 A) (F0 m pc ls []) := fun σ H locs ls pc hw hP hD hS hd => g_vret hx hb hr hlocks hK σ hP hD hS hw (Nat.le_of_ble_eq_true rfl) (Nat.le_of_ble_eq_true rfl) hd
  generalize MQ below (va_Qv Q (gAt D dA A (zR dA ad)) A) #[.ref (ad 0 1000)] s 0 0 A = QQ at hret ⊢
  have j365 : ∀ (σ : ZS), ∀ (H : Heap) (locs : List Loc) (ls : Array Slot), va_P D vwC (zR dA ad σ) H → va_D A (zR dA ad σ) → va_S A s.heap H locs → lv_has ls 4 [] → wpX11_next_365 σ Q → W p l e (gR 2 0 0) s m #[.ref (ad 0 1000)] below meth c H locs 0 0 QQ (F0 m 365 ls []) := by
    intro σ H locs ls hP hD hS hl hw
    unfold wpX11_next_365 at hw
    exact hret σ _ _ _ _ hw hP hD hS dX11_next_365
  have j305 : ∀ (s1 : Int) (σ : ZS), ∀ (H : Heap) (locs : List Loc) (ls : Array Slot), va_P D vwC (zR dA ad σ) H → va_D A (zR dA ad σ) → va_S A s.heap H locs → lv_has ls 4 [] → wpX11_next_305 s1 σ Q → W p l e (gR 2 0 0) s m #[.ref (ad 0 1000)] below meth c H locs 0 0 QQ (F0 m 305 ls [.int (Int32.ofInt s1), .ref (ad 0 1000)]) := by
    intro s1 σ H locs ls hP hD hS hl hw
    unfold wpX11_next_305 at hw
    refine zpR0_7 (v := s1) hx hb hg hown hK hP hD hS q1622 dX11_next_305 (fun H locs hP hD hS => ?_)
    refine lv_goto (tgt := 365) hx hb dX11_next_308 (by decide) ?_
    exact j365 (zsI σ 0 7 s1) _ _ _ hP hD hS (lv_sub hl [] rfl) hw
  have b221 : ∀ (K221 : ZS → Prop), (∀ (σ : ZS), K221 σ → ∀ (H : Heap) (locs : List Loc) (ls : Array Slot), va_P D vwC (zR dA ad σ) H → va_D A (zR dA ad σ) → va_S A s.heap H locs → lv_has ls 4 [(0, .ref (ad 0 1000))] → W p l e (gR 2 0 0) s m #[.ref (ad 0 1000)] below meth c H locs 0 0 QQ (F0 m 221 ls [])) → ∀ (σ : ZS), wpbX11_next_221 K221 σ Q → ∀ (H : Heap) (locs : List Loc) (ls : Array Slot), va_P D vwC (zR dA ad σ) H → va_D A (zR dA ad σ) → va_S A s.heap H locs → lv_has ls 4 [(0, .ref (ad 0 1000))] → W p l e (gR 2 0 0) s m #[.ref (ad 0 1000)] below meth c H locs 0 0 QQ (F0 m 221 ls []) := by
    intro K221 hK221
    have j272 : ∀ (s1 : Int) (σ : ZS), ∀ (H : Heap) (locs : List Loc) (ls : Array Slot), va_P D vwC (zR dA ad σ) H → va_D A (zR dA ad σ) → va_S A s.heap H locs → lv_has ls 4 [(0, .ref (ad 0 1000))] → wpX11_next_272 K221 s1 σ Q → W p l e (gR 2 0 0) s m #[.ref (ad 0 1000)] below meth c H locs 0 0 QQ (F0 m 272 ls [.int (Int32.ofInt s1), .ref (ad 0 1000)]) := by
      intro s1 σ H locs ls hP hD hS hl hw
      unfold wpX11_next_272 at hw
      refine zpR0_10 (v := s1) hx hb hg hown hK hP hD hS q1625 dX11_next_272 (fun H locs hP hD hS => ?_)
      refine lv_aload_n hx hb dX11_next_275 rfl (lv_at hl 0 rfl) ?_
      refine lv_dup hx hb dX11_next_276 rfl ?_
      refine zgR0_5 hx hb hg hown hK hP q1620 dX11_next_277 ?_
      refine g_nrm (y := Int32.ofInt (zI σ 0 5)) rfl ?_
      refine lv_iconst (v := Int32.ofInt 1) hx hb dX11_next_280 (by decide) ?_
      refine z_iadd hx hb dX11_next_281 ?_
      refine zpR0_5 (v := ((zI σ 0 5) + 1)) hx hb hg hown hK hP hD hS q1620 dX11_next_282 (fun H locs hP hD hS => ?_)
      refine lv_goto (tgt := 221) hx hb dX11_next_285 (by decide) ?_
      exact hK221 (zsI (zsI σ 0 10 s1) 0 5 ((zI σ 0 5) + 1)) hw _ _ _ hP hD hS (lv_sub hl [0] rfl)
    intro σ hw H locs ls hP hD hS hl
    unfold wpbX11_next_221 at hw
    refine lv_aload_n hx hb dX11_next_221 rfl (lv_at hl 0 rfl) ?_
    refine lv_aload_n hx hb dX11_next_222 rfl (lv_at hl 0 rfl) ?_
    refine zgR0_5 hx hb hg hown hK hP q1620 dX11_next_223 ?_
    refine z_Vi (n := 1) (As := [.int (Int32.ofInt (zI σ 0 5))]) (rest := []) hx hb hml hg hown hK hP hD hS hA (kX11_charAt l D dA ad (zI σ 0 5) σ _ _ hw) (zoR0) rfl q1899 q160 q1896 q1898 q80 (by decide +kernel) ⟨(Nat.le_of_ble_eq_true rfl), (Nat.le_of_ble_eq_true rfl)⟩ rfl hl.1 rfl (Nat.le_of_ble_eq_true rfl) dX11_next_226 ⟨(Nat.le_of_ble_eq_true rfl), (Nat.le_of_ble_eq_true rfl)⟩ (fun x1 σ2 H locs hw hP hD hS => ?_)
    refine z_Si (n := 1) (As := [.int (Int32.ofInt x1)]) (rest := []) hx hb hml hg hown hK hP hD hS hA (kX11_digit l D dA ad x1 σ2 _ _ hw) q1905 q160 q1903 q1904 (by decide +kernel) ⟨(Nat.le_of_ble_eq_true rfl), (Nat.le_of_ble_eq_true rfl)⟩ rfl hl.1 rfl (Nat.le_of_ble_eq_true rfl) dX11_next_229 ⟨(Nat.le_of_ble_eq_true rfl), (Nat.le_of_ble_eq_true rfl)⟩ (fun x3 σ4 H locs hw hP hD hS => ?_)
    obtain ⟨o5, hw⟩ := hw
    refine z_if_eq (tgt := 288) hx hb o5 dX11_next_232 (by decide) (fun k6 => ?_) (fun k6 => ?_)
    · replace hw := hw.1 k6
      refine lv_aload_n hx hb dX11_next_288 rfl (lv_at hl 0 rfl) ?_
      refine lv_aload_n hx hb dX11_next_289 rfl (lv_at hl 0 rfl) ?_
      refine zgR0_10 hx hb hg hown hK hP q1625 dX11_next_290 ?_
      refine lv_ldcw hx hb hown (hg _ q1907) dX11_next_293 ?_
      refine g_nrm (y := Int32.ofInt 65535) (by decide) ?_
      obtain ⟨o7, hw⟩ := hw
      refine z_icmp_le (tgt := 304) hx hb o7 (by decide) dX11_next_296 (by decide) (fun k8 => ?_) (fun k8 => ?_)
      · replace hw := hw.1 k8
        refine lv_iconst (v := Int32.ofInt 2) hx hb dX11_next_304 (by decide) ?_
        exact j305 2 σ4 _ _ _ hP hD hS (lv_sub hl [] rfl) hw
      · replace hw := hw.2 k8
        refine lv_bipush (v := Int32.ofInt 9) hx hb dX11_next_299 (by decide) ?_
        refine lv_goto (tgt := 305) hx hb dX11_next_301 (by decide) ?_
        exact j305 9 σ4 _ _ _ hP hD hS (lv_sub hl [] rfl) hw
    · replace hw := hw.2 k6
      refine lv_aload_n hx hb dX11_next_235 rfl (lv_at hl 0 rfl) ?_
      refine lv_aload_n hx hb dX11_next_236 rfl (lv_at hl 0 rfl) ?_
      refine zgR0_10 hx hb hg hown hK hP q1625 dX11_next_237 ?_
      refine lv_ldcw hx hb hown (hg _ q1906) dX11_next_240 ?_
      refine g_nrm (y := Int32.ofInt 100000) (by decide) ?_
      obtain ⟨o9, hw⟩ := hw
      refine z_icmp_le (tgt := 253) hx hb o9 (by decide) dX11_next_243 (by decide) (fun k10 => ?_) (fun k10 => ?_)
      · replace hw := hw.1 k10
        refine lv_bipush (v := Int32.ofInt 10) hx hb dX11_next_253 (by decide) ?_
        refine lv_aload_n hx hb dX11_next_255 rfl (lv_at hl 0 rfl) ?_
        refine zgR0_10 hx hb hg hown hK hP q1625 dX11_next_256 ?_
        refine z_imul hx hb dX11_next_259 ?_
        refine lv_aload_n hx hb dX11_next_260 rfl (lv_at hl 0 rfl) ?_
        refine lv_aload_n hx hb dX11_next_261 rfl (lv_at hl 0 rfl) ?_
        refine zgR0_5 hx hb hg hown hK hP q1620 dX11_next_262 ?_
        refine z_Vi (n := 1) (As := [.int (Int32.ofInt (zI σ4 0 5))]) (rest := [.int (Int32.ofInt (10 * (zI σ4 0 10))), .ref (ad 0 1000)]) hx hb hml hg hown hK hP hD hS hA (kX11_charAt l D dA ad (zI σ4 0 5) σ4 _ _ hw) (zoR0) rfl q1899 q160 q1896 q1898 q80 (by decide +kernel) ⟨(Nat.le_of_ble_eq_true rfl), (Nat.le_of_ble_eq_true rfl)⟩ rfl hl.1 rfl (Nat.le_of_ble_eq_true rfl) dX11_next_265 ⟨(Nat.le_of_ble_eq_true rfl), (Nat.le_of_ble_eq_true rfl)⟩ (fun x11 σ12 H locs hw hP hD hS => ?_)
        refine z_iadd hx hb dX11_next_268 ?_
        refine lv_bipush (v := Int32.ofInt 48) hx hb dX11_next_269 (by decide) ?_
        refine z_isub hx hb dX11_next_271 ?_
        exact j272 (((10 * (zI σ4 0 10)) + x11) - 48) σ12 _ _ _ hP hD hS (lv_sub hl [0] rfl) hw
      · replace hw := hw.2 k10
        refine lv_aload_n hx hb dX11_next_246 rfl (lv_at hl 0 rfl) ?_
        refine zgR0_10 hx hb hg hown hK hP q1625 dX11_next_247 ?_
        refine lv_goto (tgt := 272) hx hb dX11_next_250 (by decide) ?_
        exact j272 (zI σ4 0 10) σ4 _ _ _ hP hD hS (lv_sub hl [0] rfl) hw
  have j221 : ∀ (σ : ZS), ∀ (H : Heap) (locs : List Loc) (ls : Array Slot), va_P D vwC (zR dA ad σ) H → va_D A (zR dA ad σ) → va_S A s.heap H locs → lv_has ls 4 [(0, .ref (ad 0 1000))] → wpX11_next_221 σ Q → W p l e (gR 2 0 0) s m #[.ref (ad 0 1000)] below meth c H locs 0 0 QQ (F0 m 221 ls []) := by
    intro σ H locs ls hP hD hS hl hw
    exact hw (fun σ => ∀ (H : Heap) (locs : List Loc) (ls : Array Slot), va_P D vwC (zR dA ad σ) H → va_D A (zR dA ad σ) → va_S A s.heap H locs → lv_has ls 4 [(0, .ref (ad 0 1000))] → W p l e (gR 2 0 0) s m #[.ref (ad 0 1000)] below meth c H locs 0 0 QQ (F0 m 221 ls [])) (b221 (fun σ => ∀ (H : Heap) (locs : List Loc) (ls : Array Slot), va_P D vwC (zR dA ad σ) H → va_D A (zR dA ad σ) → va_S A s.heap H locs → lv_has ls 4 [(0, .ref (ad 0 1000))] → W p l e (gR 2 0 0) s m #[.ref (ad 0 1000)] below meth c H locs 0 0 QQ (F0 m 221 ls [])) (fun σ h => h)) _ _ _ hP hD hS hl
  have b172 : ∀ (K172 : Int → ZS → Prop), (∀ (v3 : Int) (σ : ZS), K172 v3 σ → ∀ (H : Heap) (locs : List Loc) (ls : Array Slot), va_P D vwC (zR dA ad σ) H → va_D A (zR dA ad σ) → va_S A s.heap H locs → lv_has ls 4 [(0, .ref (ad 0 1000)), (3, .int (Int32.ofInt v3))] → W p l e (gR 2 0 0) s m #[.ref (ad 0 1000)] below meth c H locs 0 0 QQ (F0 m 172 ls [])) → ∀ (v3 : Int) (σ : ZS), wpbX11_next_172 K172 v3 σ Q → ∀ (H : Heap) (locs : List Loc) (ls : Array Slot), va_P D vwC (zR dA ad σ) H → va_D A (zR dA ad σ) → va_S A s.heap H locs → lv_has ls 4 [(0, .ref (ad 0 1000)), (3, .int (Int32.ofInt v3))] → W p l e (gR 2 0 0) s m #[.ref (ad 0 1000)] below meth c H locs 0 0 QQ (F0 m 172 ls []) := by
    intro K172 hK172
    have j197 : ∀ (v3 : Int) (σ : ZS), ∀ (H : Heap) (locs : List Loc) (ls : Array Slot), va_P D vwC (zR dA ad σ) H → va_D A (zR dA ad σ) → va_S A s.heap H locs → lv_has ls 4 [(0, .ref (ad 0 1000)), (3, .int (Int32.ofInt v3))] → wpX11_next_197 K172 v3 σ Q → W p l e (gR 2 0 0) s m #[.ref (ad 0 1000)] below meth c H locs 0 0 QQ (F0 m 197 ls []) := by
      intro v3 σ H locs ls hP hD hS hl hw
      unfold wpX11_next_197 at hw
      refine lv_iinc (v := Int32.ofInt (v3 + 1)) (lv' := [(3, .int (Int32.ofInt (v3 + 1))), (0, .ref (ad 0 1000))]) hx hb dX11_next_197 hl (k := 1) rfl (Int32.ofInt_add _ _).symm (by decide) rfl (fun ls hl => ?_)
      refine lv_goto (tgt := 172) hx hb dX11_next_200 (by decide) ?_
      exact hK172 (v3 + 1) σ hw _ _ _ hP hD hS (lv_sub hl [1, 0] rfl)
    intro v3 σ hw H locs ls hP hD hS hl
    unfold wpbX11_next_172 at hw
    refine lv_iload_n hx hb dX11_next_172 rfl (lv_at hl 1 rfl) ?_
    refine lv_bipush (v := Int32.ofInt 48) hx hb dX11_next_173 (by decide) ?_
    obtain ⟨o13, hw⟩ := hw
    refine z_icmp_ge (tgt := 203) hx hb o13 (by decide) dX11_next_175 (by decide) (fun k14 => ?_) (fun k14 => ?_)
    · replace hw := hw.1 k14
      refine lv_goto (tgt := 365) hx hb dX11_next_203 (by decide) ?_
      exact j365 σ _ _ _ hP hD hS (lv_sub hl [] rfl) hw
    · replace hw := hw.2 k14
      refine lv_aload_n hx hb dX11_next_178 rfl (lv_at hl 0 rfl) ?_
      refine zgR0_11 hx hb hg hown hK hP q1626 dX11_next_179 ?_
      refine lv_iload_n hx hb dX11_next_182 rfl (lv_at hl 1 rfl) ?_
      obtain ⟨o15, hw⟩ := hw
      refine zlR0_11 hx hb o15 hK hP dX11_next_183 ?_
      refine lv_aload_n hx hb dX11_next_184 rfl (lv_at hl 0 rfl) ?_
      refine zgR0_8 hx hb hg hown hK hP q1623 dX11_next_185 ?_
      obtain ⟨o16, hw⟩ := hw
      obtain ⟨o17, hw⟩ := hw
      refine z_lc_ne (tgt := 197) hx hb o16 o17 dX11_next_188 dX11_next_189 (by decide) (fun k18 => ?_) (fun k18 => ?_)
      · replace hw := hw.1 k18
        exact j197 v3 σ _ _ _ hP hD hS (lv_sub hl [0, 1] rfl) hw
      · replace hw := hw.2 k18
        refine lv_aload_n hx hb dX11_next_192 rfl (lv_at hl 0 rfl) ?_
        refine lv_iload_n hx hb dX11_next_193 rfl (lv_at hl 1 rfl) ?_
        refine zpR0_9 (v := v3) hx hb hg hown hK hP hD hS q1624 dX11_next_194 (fun H locs hP hD hS => ?_)
        exact j197 v3 (zsI σ 0 9 v3) _ _ _ hP hD hS (lv_sub hl [0, 1] rfl) hw
  have j172 : ∀ (v3 : Int) (σ : ZS), ∀ (H : Heap) (locs : List Loc) (ls : Array Slot), va_P D vwC (zR dA ad σ) H → va_D A (zR dA ad σ) → va_S A s.heap H locs → lv_has ls 4 [(0, .ref (ad 0 1000)), (3, .int (Int32.ofInt v3))] → wpX11_next_172 v3 σ Q → W p l e (gR 2 0 0) s m #[.ref (ad 0 1000)] below meth c H locs 0 0 QQ (F0 m 172 ls []) := by
    intro v3 σ H locs ls hP hD hS hl hw
    exact hw (fun v3 σ => ∀ (H : Heap) (locs : List Loc) (ls : Array Slot), va_P D vwC (zR dA ad σ) H → va_D A (zR dA ad σ) → va_S A s.heap H locs → lv_has ls 4 [(0, .ref (ad 0 1000)), (3, .int (Int32.ofInt v3))] → W p l e (gR 2 0 0) s m #[.ref (ad 0 1000)] below meth c H locs 0 0 QQ (F0 m 172 ls [])) (b172 (fun v3 σ => ∀ (H : Heap) (locs : List Loc) (ls : Array Slot), va_P D vwC (zR dA ad σ) H → va_D A (zR dA ad σ) → va_S A s.heap H locs → lv_has ls 4 [(0, .ref (ad 0 1000)), (3, .int (Int32.ofInt v3))] → W p l e (gR 2 0 0) s m #[.ref (ad 0 1000)] below meth c H locs 0 0 QQ (F0 m 172 ls [])) (fun v3 σ h => h)) _ _ _ hP hD hS hl
  have j162 : ∀ (s1 : Int) (σ : ZS), ∀ (H : Heap) (locs : List Loc) (ls : Array Slot), va_P D vwC (zR dA ad σ) H → va_D A (zR dA ad σ) → va_S A s.heap H locs → lv_has ls 4 [(0, .ref (ad 0 1000))] → wpX11_next_162 s1 σ Q → W p l e (gR 2 0 0) s m #[.ref (ad 0 1000)] below meth c H locs 0 0 QQ (F0 m 162 ls [.int (Int32.ofInt s1), .ref (ad 0 1000)]) := by
    intro s1 σ H locs ls hP hD hS hl hw
    unfold wpX11_next_162 at hw
    refine zpR0_7 (v := s1) hx hb hg hown hK hP hD hS q1622 dX11_next_162 (fun H locs hP hD hS => ?_)
    refine lv_aload_n hx hb dX11_next_165 rfl (lv_at hl 0 rfl) ?_
    refine lv_iconst (v := Int32.ofInt (-1)) hx hb dX11_next_166 (by decide) ?_
    refine zpR0_9 (v := (-1)) hx hb hg hown hK hP hD hS q1624 dX11_next_167 (fun H locs hP hD hS => ?_)
    refine lv_iconst (v := Int32.ofInt 0) hx hb dX11_next_170 (by decide) ?_
    refine lv_istore_n (lv' := [(3, .int (Int32.ofInt 0)), (0, .ref (ad 0 1000))]) hx hb dX11_next_171 rfl hl (by decide) rfl (fun ls hl => ?_)
    exact j172 0 (zsI (zsI σ 0 7 s1) 0 9 (-1)) _ _ _ hP hD hS (lv_sub hl [1, 0] rfl) hw
  have b78 : ∀ (K78 : Int → ZS → Prop), (∀ (v2 : Int) (σ : ZS), K78 v2 σ → ∀ (H : Heap) (locs : List Loc) (ls : Array Slot), va_P D vwC (zR dA ad σ) H → va_D A (zR dA ad σ) → va_S A s.heap H locs → lv_has ls 4 [(0, .ref (ad 0 1000)), (2, .int (Int32.ofInt v2))] → W p l e (gR 2 0 0) s m #[.ref (ad 0 1000)] below meth c H locs 0 0 QQ (F0 m 78 ls [])) → ∀ (v2 : Int) (σ : ZS), wpbX11_next_78 K78 v2 σ Q → ∀ (H : Heap) (locs : List Loc) (ls : Array Slot), va_P D vwC (zR dA ad σ) H → va_D A (zR dA ad σ) → va_S A s.heap H locs → lv_has ls 4 [(0, .ref (ad 0 1000)), (2, .int (Int32.ofInt v2))] → W p l e (gR 2 0 0) s m #[.ref (ad 0 1000)] below meth c H locs 0 0 QQ (F0 m 78 ls []) := by
    intro K78 hK78
    have j133 : ∀ (v2 : Int) (σ : ZS), ∀ (H : Heap) (locs : List Loc) (ls : Array Slot), va_P D vwC (zR dA ad σ) H → va_D A (zR dA ad σ) → va_S A s.heap H locs → lv_has ls 4 [(0, .ref (ad 0 1000)), (2, .int (Int32.ofInt v2))] → wpX11_next_133 K78 v2 σ Q → W p l e (gR 2 0 0) s m #[.ref (ad 0 1000)] below meth c H locs 0 0 QQ (F0 m 133 ls []) := by
      intro v2 σ H locs ls hP hD hS hl hw
      unfold wpX11_next_133 at hw
      refine lv_iinc (v := Int32.ofInt (v2 + 1)) (lv' := [(2, .int (Int32.ofInt (v2 + 1))), (0, .ref (ad 0 1000))]) hx hb dX11_next_133 hl (k := 1) rfl (Int32.ofInt_add _ _).symm (by decide) rfl (fun ls hl => ?_)
      refine lv_aload_n hx hb dX11_next_136 rfl (lv_at hl 1 rfl) ?_
      refine lv_dup hx hb dX11_next_137 rfl ?_
      refine zgR0_5 hx hb hg hown hK hP q1620 dX11_next_138 ?_
      refine lv_iconst (v := Int32.ofInt 1) hx hb dX11_next_141 (by decide) ?_
      refine z_iadd hx hb dX11_next_142 ?_
      refine zpR0_5 (v := ((zI σ 0 5) + 1)) hx hb hg hown hK hP hD hS q1620 dX11_next_143 (fun H locs hP hD hS => ?_)
      refine lv_goto (tgt := 78) hx hb dX11_next_146 (by decide) ?_
      exact hK78 (v2 + 1) (zsI σ 0 5 ((zI σ 0 5) + 1)) hw _ _ _ hP hD hS (lv_sub hl [1, 0] rfl)
    have j106 : ∀ (v2 : Int) (σ : ZS), ∀ (H : Heap) (locs : List Loc) (ls : Array Slot), va_P D vwC (zR dA ad σ) H → va_D A (zR dA ad σ) → va_S A s.heap H locs → lv_has ls 4 [(0, .ref (ad 0 1000)), (2, .int (Int32.ofInt v2))] → wpX11_next_106 K78 v2 σ Q → W p l e (gR 2 0 0) s m #[.ref (ad 0 1000)] below meth c H locs 0 0 QQ (F0 m 106 ls []) := by
      intro v2 σ H locs ls hP hD hS hl hw
      unfold wpX11_next_106 at hw
      refine lv_iload_n hx hb dX11_next_106 rfl (lv_at hl 1 rfl) ?_
      refine lv_bipush (v := Int32.ofInt 7) hx hb dX11_next_107 (by decide) ?_
      obtain ⟨o19, hw⟩ := hw
      refine z_icmp_ge (tgt := 133) hx hb o19 (by decide) dX11_next_109 (by decide) (fun k20 => ?_) (fun k20 => ?_)
      · replace hw := hw.1 k20
        exact j133 v2 σ _ _ _ hP hD hS (lv_sub hl [0, 1] rfl) hw
      · replace hw := hw.2 k20
        refine lv_aload_n hx hb dX11_next_112 rfl (lv_at hl 0 rfl) ?_
        refine lv_aload_n hx hb dX11_next_113 rfl (lv_at hl 0 rfl) ?_
        refine zgR0_8 hx hb hg hown hK hP q1623 dX11_next_114 ?_
        refine lv_bipush (v := Int32.ofInt 8) hx hb dX11_next_117 (by decide) ?_
        refine z_lshlV (v := (zI σ 0 8) * 256) hx hb (zn_lshl 8 (by decide) (by decide)) dX11_next_119 ?_
        refine lv_aload_n hx hb dX11_next_120 rfl (lv_at hl 0 rfl) ?_
        refine lv_aload_n hx hb dX11_next_121 rfl (lv_at hl 0 rfl) ?_
        refine zgR0_5 hx hb hg hown hK hP q1620 dX11_next_122 ?_
        refine z_Vi (n := 1) (As := [.int (Int32.ofInt (zI σ 0 5))]) (rest := [.long (Int64.ofInt ((zI σ 0 8) * 256)), .ref (ad 0 1000)]) hx hb hml hg hown hK hP hD hS hA (kX11_charAt l D dA ad (zI σ 0 5) σ _ _ hw) (zoR0) rfl q1899 q160 q1896 q1898 q80 (by decide +kernel) ⟨(Nat.le_of_ble_eq_true rfl), (Nat.le_of_ble_eq_true rfl)⟩ rfl hl.1 rfl (Nat.le_of_ble_eq_true rfl) dX11_next_125 ⟨(Nat.le_of_ble_eq_true rfl), (Nat.le_of_ble_eq_true rfl)⟩ (fun x21 σ22 H locs hw hP hD hS => ?_)
        obtain ⟨o23, hw⟩ := hw
        refine z_i2l hx hb o23 dX11_next_128 ?_
        refine z_lor hx hb dX11_next_129 ?_
        refine zpR0_8 (v := (zlor ((zI σ 0 8) * 256) x21)) hx hb hg hown hK hP hD hS q1623 dX11_next_130 (fun H locs hP hD hS => ?_)
        exact j133 v2 (zsI σ22 0 8 (zlor ((zI σ 0 8) * 256) x21)) _ _ _ hP hD hS (lv_sub hl [0, 1] rfl) hw
    intro v2 σ hw H locs ls hP hD hS hl
    unfold wpbX11_next_78 at hw
    refine lv_aload_n hx hb dX11_next_78 rfl (lv_at hl 0 rfl) ?_
    refine lv_aload_n hx hb dX11_next_79 rfl (lv_at hl 0 rfl) ?_
    refine zgR0_5 hx hb hg hown hK hP q1620 dX11_next_80 ?_
    refine z_Vi (n := 1) (As := [.int (Int32.ofInt (zI σ 0 5))]) (rest := []) hx hb hml hg hown hK hP hD hS hA (kX11_charAt l D dA ad (zI σ 0 5) σ _ _ hw) (zoR0) rfl q1899 q160 q1896 q1898 q80 (by decide +kernel) ⟨(Nat.le_of_ble_eq_true rfl), (Nat.le_of_ble_eq_true rfl)⟩ rfl hl.1 rfl (Nat.le_of_ble_eq_true rfl) dX11_next_83 ⟨(Nat.le_of_ble_eq_true rfl), (Nat.le_of_ble_eq_true rfl)⟩ (fun x24 σ25 H locs hw hP hD hS => ?_)
    refine z_Si (n := 1) (As := [.int (Int32.ofInt x24)]) (rest := []) hx hb hml hg hown hK hP hD hS hA (kX11_letter l D dA ad x24 σ25 _ _ hw) q1902 q160 q1900 q1901 (by decide +kernel) ⟨(Nat.le_of_ble_eq_true rfl), (Nat.le_of_ble_eq_true rfl)⟩ rfl hl.1 rfl (Nat.le_of_ble_eq_true rfl) dX11_next_86 ⟨(Nat.le_of_ble_eq_true rfl), (Nat.le_of_ble_eq_true rfl)⟩ (fun x26 σ27 H locs hw hP hD hS => ?_)
    obtain ⟨o28, hw⟩ := hw
    refine z_if_ne (tgt := 106) hx hb o28 dX11_next_89 (by decide) (fun k29 => ?_) (fun k29 => ?_)
    · replace hw := hw.1 k29
      exact j106 v2 σ27 _ _ _ hP hD hS (lv_sub hl [0, 1] rfl) hw
    · replace hw := hw.2 k29
      refine lv_aload_n hx hb dX11_next_92 rfl (lv_at hl 0 rfl) ?_
      refine lv_aload_n hx hb dX11_next_93 rfl (lv_at hl 0 rfl) ?_
      refine zgR0_5 hx hb hg hown hK hP q1620 dX11_next_94 ?_
      refine z_Vi (n := 1) (As := [.int (Int32.ofInt (zI σ27 0 5))]) (rest := []) hx hb hml hg hown hK hP hD hS hA (kX11_charAt l D dA ad (zI σ27 0 5) σ27 _ _ hw) (zoR0) rfl q1899 q160 q1896 q1898 q80 (by decide +kernel) ⟨(Nat.le_of_ble_eq_true rfl), (Nat.le_of_ble_eq_true rfl)⟩ rfl hl.1 rfl (Nat.le_of_ble_eq_true rfl) dX11_next_97 ⟨(Nat.le_of_ble_eq_true rfl), (Nat.le_of_ble_eq_true rfl)⟩ (fun x30 σ31 H locs hw hP hD hS => ?_)
      refine z_Si (n := 1) (As := [.int (Int32.ofInt x30)]) (rest := []) hx hb hml hg hown hK hP hD hS hA (kX11_digit l D dA ad x30 σ31 _ _ hw) q1905 q160 q1903 q1904 (by decide +kernel) ⟨(Nat.le_of_ble_eq_true rfl), (Nat.le_of_ble_eq_true rfl)⟩ rfl hl.1 rfl (Nat.le_of_ble_eq_true rfl) dX11_next_100 ⟨(Nat.le_of_ble_eq_true rfl), (Nat.le_of_ble_eq_true rfl)⟩ (fun x32 σ33 H locs hw hP hD hS => ?_)
      obtain ⟨o34, hw⟩ := hw
      refine z_if_eq (tgt := 149) hx hb o34 dX11_next_103 (by decide) (fun k35 => ?_) (fun k35 => ?_)
      · replace hw := hw.1 k35
        refine lv_aload_n hx hb dX11_next_149 rfl (lv_at hl 0 rfl) ?_
        refine lv_iload_n hx hb dX11_next_150 rfl (lv_at hl 1 rfl) ?_
        refine lv_bipush (v := Int32.ofInt 6) hx hb dX11_next_151 (by decide) ?_
        obtain ⟨o36, hw⟩ := hw
        refine z_icmp_le (tgt := 161) hx hb o36 (by decide) dX11_next_153 (by decide) (fun k37 => ?_) (fun k37 => ?_)
        · replace hw := hw.1 k37
          refine lv_iconst (v := Int32.ofInt 1) hx hb dX11_next_161 (by decide) ?_
          exact j162 1 σ33 _ _ _ hP hD hS (lv_sub hl [0] rfl) hw
        · replace hw := hw.2 k37
          refine lv_bipush (v := Int32.ofInt 9) hx hb dX11_next_156 (by decide) ?_
          refine lv_goto (tgt := 162) hx hb dX11_next_158 (by decide) ?_
          exact j162 9 σ33 _ _ _ hP hD hS (lv_sub hl [0] rfl) hw
      · replace hw := hw.2 k35
        exact j106 v2 σ33 _ _ _ hP hD hS (lv_sub hl [0, 1] rfl) hw
  have j78 : ∀ (v2 : Int) (σ : ZS), ∀ (H : Heap) (locs : List Loc) (ls : Array Slot), va_P D vwC (zR dA ad σ) H → va_D A (zR dA ad σ) → va_S A s.heap H locs → lv_has ls 4 [(0, .ref (ad 0 1000)), (2, .int (Int32.ofInt v2))] → wpX11_next_78 v2 σ Q → W p l e (gR 2 0 0) s m #[.ref (ad 0 1000)] below meth c H locs 0 0 QQ (F0 m 78 ls []) := by
    intro v2 σ H locs ls hP hD hS hl hw
    exact hw (fun v2 σ => ∀ (H : Heap) (locs : List Loc) (ls : Array Slot), va_P D vwC (zR dA ad σ) H → va_D A (zR dA ad σ) → va_S A s.heap H locs → lv_has ls 4 [(0, .ref (ad 0 1000)), (2, .int (Int32.ofInt v2))] → W p l e (gR 2 0 0) s m #[.ref (ad 0 1000)] below meth c H locs 0 0 QQ (F0 m 78 ls [])) (b78 (fun v2 σ => ∀ (H : Heap) (locs : List Loc) (ls : Array Slot), va_P D vwC (zR dA ad σ) H → va_D A (zR dA ad σ) → va_S A s.heap H locs → lv_has ls 4 [(0, .ref (ad 0 1000)), (2, .int (Int32.ofInt v2))] → W p l e (gR 2 0 0) s m #[.ref (ad 0 1000)] below meth c H locs 0 0 QQ (F0 m 78 ls [])) (fun v2 σ h => h)) _ _ _ hP hD hS hl
  have b0 : ∀ (K0 : ZS → Prop), (∀ (σ : ZS), K0 σ → ∀ (H : Heap) (locs : List Loc) (ls : Array Slot), va_P D vwC (zR dA ad σ) H → va_D A (zR dA ad σ) → va_S A s.heap H locs → lv_has ls 4 [(0, .ref (ad 0 1000))] → W p l e (gR 2 0 0) s m #[.ref (ad 0 1000)] below meth c H locs 0 0 QQ (F0 m 0 ls [])) → ∀ (σ : ZS), wpbX11_next_0 K0 σ Q → ∀ (H : Heap) (locs : List Loc) (ls : Array Slot), va_P D vwC (zR dA ad σ) H → va_D A (zR dA ad σ) → va_S A s.heap H locs → lv_has ls 4 [(0, .ref (ad 0 1000))] → W p l e (gR 2 0 0) s m #[.ref (ad 0 1000)] below meth c H locs 0 0 QQ (F0 m 0 ls []) := by
    intro K0 hK0
    intro σ hw H locs ls hP hD hS hl
    unfold wpbX11_next_0 at hw
    refine lv_aload_n hx hb dX11_next_0 rfl (lv_at hl 0 rfl) ?_
    refine lv_aload_n hx hb dX11_next_1 rfl (lv_at hl 0 rfl) ?_
    refine zgR0_5 hx hb hg hown hK hP q1620 dX11_next_2 ?_
    refine z_Vi (n := 1) (As := [.int (Int32.ofInt (zI σ 0 5))]) (rest := []) hx hb hml hg hown hK hP hD hS hA (kX11_charAt l D dA ad (zI σ 0 5) σ _ _ hw) (zoR0) rfl q1899 q160 q1896 q1898 q80 (by decide +kernel) ⟨(Nat.le_of_ble_eq_true rfl), (Nat.le_of_ble_eq_true rfl)⟩ rfl hl.1 rfl (Nat.le_of_ble_eq_true rfl) dX11_next_5 ⟨(Nat.le_of_ble_eq_true rfl), (Nat.le_of_ble_eq_true rfl)⟩ (fun x38 σ39 H locs hw hP hD hS => ?_)
    refine lv_bipush (v := Int32.ofInt 32) hx hb dX11_next_8 (by decide) ?_
    obtain ⟨o40, hw⟩ := hw
    refine z_icmp_ne (tgt := 26) hx hb o40 (by decide) dX11_next_10 (by decide) (fun k41 => ?_) (fun k41 => ?_)
    · replace hw := hw.1 k41
      refine lv_aload_n hx hb dX11_next_26 rfl (lv_at hl 0 rfl) ?_
      refine lv_aload_n hx hb dX11_next_27 rfl (lv_at hl 0 rfl) ?_
      refine zgR0_5 hx hb hg hown hK hP q1620 dX11_next_28 ?_
      refine zpR0_6 (v := (zI σ39 0 5)) hx hb hg hown hK hP hD hS q1621 dX11_next_31 (fun H locs hP hD hS => ?_)
      refine lv_aload_n hx hb dX11_next_34 rfl (lv_at hl 0 rfl) ?_
      refine lv_aload_n hx hb dX11_next_35 rfl (lv_at hl 0 rfl) ?_
      refine zgR0_5 hx hb hg hown hK hP q1620 dX11_next_36 ?_
      refine g_nrm (y := Int32.ofInt (zI σ39 0 5)) rfl ?_
      refine z_Vi (n := 1) (As := [.int (Int32.ofInt (zI σ39 0 5))]) (rest := []) hx hb hml hg hown hK hP hD hS hA (kX11_charAt l D dA ad (zI σ39 0 5) (zsI σ39 0 6 (zI σ39 0 5)) _ _ hw) (zoR0) rfl q1899 q160 q1896 q1898 q80 (by decide +kernel) ⟨(Nat.le_of_ble_eq_true rfl), (Nat.le_of_ble_eq_true rfl)⟩ rfl hl.1 rfl (Nat.le_of_ble_eq_true rfl) dX11_next_39 ⟨(Nat.le_of_ble_eq_true rfl), (Nat.le_of_ble_eq_true rfl)⟩ (fun x42 σ43 H locs hw hP hD hS => ?_)
      refine lv_istore_n (lv' := [(1, .int (Int32.ofInt x42)), (0, .ref (ad 0 1000))]) hx hb dX11_next_42 rfl hl (by decide) rfl (fun ls hl => ?_)
      refine lv_aload_n hx hb dX11_next_43 rfl (lv_at hl 1 rfl) ?_
      refine lv_iload_n hx hb dX11_next_44 rfl (lv_at hl 0 rfl) ?_
      refine zpR0_7 (v := x42) hx hb hg hown hK hP hD hS q1622 dX11_next_45 (fun H locs hP hD hS => ?_)
      refine lv_iload_n hx hb dX11_next_48 rfl (lv_at hl 0 rfl) ?_
      obtain ⟨o44, hw⟩ := hw
      refine z_if_ne (tgt := 53) hx hb o44 dX11_next_49 (by decide) (fun k45 => ?_) (fun k45 => ?_)
      · replace hw := hw.1 k45
        refine lv_aload_n hx hb dX11_next_53 rfl (lv_at hl 1 rfl) ?_
        refine lv_dup hx hb dX11_next_54 rfl ?_
        refine zgR0_5 hx hb hg hown hK hP q1620 dX11_next_55 ?_
        refine g_nrm (y := Int32.ofInt (zI σ43 0 5)) rfl ?_
        refine lv_iconst (v := Int32.ofInt 1) hx hb dX11_next_58 (by decide) ?_
        refine z_iadd hx hb dX11_next_59 ?_
        refine zpR0_5 (v := ((zI σ43 0 5) + 1)) hx hb hg hown hK hP hD hS q1620 dX11_next_60 (fun H locs hP hD hS => ?_)
        refine lv_iload_n hx hb dX11_next_63 rfl (lv_at hl 0 rfl) ?_
        refine z_Si (n := 1) (As := [.int (Int32.ofInt x42)]) (rest := []) hx hb hml hg hown hK hP hD hS hA (kX11_letter l D dA ad x42 (zsI (zsI σ43 0 7 x42) 0 5 ((zI σ43 0 5) + 1)) _ _ hw) q1902 q160 q1900 q1901 (by decide +kernel) ⟨(Nat.le_of_ble_eq_true rfl), (Nat.le_of_ble_eq_true rfl)⟩ rfl hl.1 rfl (Nat.le_of_ble_eq_true rfl) dX11_next_64 ⟨(Nat.le_of_ble_eq_true rfl), (Nat.le_of_ble_eq_true rfl)⟩ (fun x46 σ47 H locs hw hP hD hS => ?_)
        obtain ⟨o48, hw⟩ := hw
        refine z_if_eq (tgt := 206) hx hb o48 dX11_next_67 (by decide) (fun k49 => ?_) (fun k49 => ?_)
        · replace hw := hw.1 k49
          refine lv_iload_n hx hb dX11_next_206 rfl (lv_at hl 0 rfl) ?_
          refine z_Si (n := 1) (As := [.int (Int32.ofInt x42)]) (rest := []) hx hb hml hg hown hK hP hD hS hA (kX11_digit l D dA ad x42 σ47 _ _ hw) q1905 q160 q1903 q1904 (by decide +kernel) ⟨(Nat.le_of_ble_eq_true rfl), (Nat.le_of_ble_eq_true rfl)⟩ rfl hl.1 rfl (Nat.le_of_ble_eq_true rfl) dX11_next_207 ⟨(Nat.le_of_ble_eq_true rfl), (Nat.le_of_ble_eq_true rfl)⟩ (fun x50 σ51 H locs hw hP hD hS => ?_)
          obtain ⟨o52, hw⟩ := hw
          refine z_if_eq (tgt := 311) hx hb o52 dX11_next_210 (by decide) (fun k53 => ?_) (fun k53 => ?_)
          · replace hw := hw.1 k53
            refine lv_iload_n hx hb dX11_next_311 rfl (lv_at hl 0 rfl) ?_
            refine lv_bipush (v := Int32.ofInt 58) hx hb dX11_next_312 (by decide) ?_
            refine z_icmp_eq (tgt := 365) hx hb o44 (by decide) dX11_next_314 (by decide) (fun k54 => ?_) (fun k54 => ?_)
            · replace hw := hw.1 k54
              exact j365 σ51 _ _ _ hP hD hS (lv_sub hl [] rfl) hw
            · replace hw := hw.2 k54
              refine lv_iload_n hx hb dX11_next_317 rfl (lv_at hl 0 rfl) ?_
              refine lv_bipush (v := Int32.ofInt 59) hx hb dX11_next_318 (by decide) ?_
              refine z_icmp_eq (tgt := 365) hx hb o44 (by decide) dX11_next_320 (by decide) (fun k55 => ?_) (fun k55 => ?_)
              · replace hw := hw.1 k55
                exact j365 σ51 _ _ _ hP hD hS (lv_sub hl [] rfl) hw
              · replace hw := hw.2 k55
                refine lv_iload_n hx hb dX11_next_323 rfl (lv_at hl 0 rfl) ?_
                refine lv_bipush (v := Int32.ofInt 44) hx hb dX11_next_324 (by decide) ?_
                refine z_icmp_eq (tgt := 365) hx hb o44 (by decide) dX11_next_326 (by decide) (fun k56 => ?_) (fun k56 => ?_)
                · replace hw := hw.1 k56
                  exact j365 σ51 _ _ _ hP hD hS (lv_sub hl [] rfl) hw
                · replace hw := hw.2 k56
                  refine lv_iload_n hx hb dX11_next_329 rfl (lv_at hl 0 rfl) ?_
                  refine lv_bipush (v := Int32.ofInt 91) hx hb dX11_next_330 (by decide) ?_
                  refine z_icmp_eq (tgt := 365) hx hb o44 (by decide) dX11_next_332 (by decide) (fun k57 => ?_) (fun k57 => ?_)
                  · replace hw := hw.1 k57
                    exact j365 σ51 _ _ _ hP hD hS (lv_sub hl [] rfl) hw
                  · replace hw := hw.2 k57
                    refine lv_iload_n hx hb dX11_next_335 rfl (lv_at hl 0 rfl) ?_
                    refine lv_bipush (v := Int32.ofInt 93) hx hb dX11_next_336 (by decide) ?_
                    refine z_icmp_eq (tgt := 365) hx hb o44 (by decide) dX11_next_338 (by decide) (fun k58 => ?_) (fun k58 => ?_)
                    · replace hw := hw.1 k58
                      exact j365 σ51 _ _ _ hP hD hS (lv_sub hl [] rfl) hw
                    · replace hw := hw.2 k58
                      refine lv_iload_n hx hb dX11_next_341 rfl (lv_at hl 0 rfl) ?_
                      refine lv_bipush (v := Int32.ofInt 43) hx hb dX11_next_342 (by decide) ?_
                      refine z_icmp_eq (tgt := 365) hx hb o44 (by decide) dX11_next_344 (by decide) (fun k59 => ?_) (fun k59 => ?_)
                      · replace hw := hw.1 k59
                        exact j365 σ51 _ _ _ hP hD hS (lv_sub hl [] rfl) hw
                      · replace hw := hw.2 k59
                        refine lv_iload_n hx hb dX11_next_347 rfl (lv_at hl 0 rfl) ?_
                        refine lv_bipush (v := Int32.ofInt 45) hx hb dX11_next_348 (by decide) ?_
                        refine z_icmp_eq (tgt := 365) hx hb o44 (by decide) dX11_next_350 (by decide) (fun k60 => ?_) (fun k60 => ?_)
                        · replace hw := hw.1 k60
                          exact j365 σ51 _ _ _ hP hD hS (lv_sub hl [] rfl) hw
                        · replace hw := hw.2 k60
                          refine lv_iload_n hx hb dX11_next_353 rfl (lv_at hl 0 rfl) ?_
                          refine lv_bipush (v := Int32.ofInt 64) hx hb dX11_next_354 (by decide) ?_
                          refine z_icmp_eq (tgt := 365) hx hb o44 (by decide) dX11_next_356 (by decide) (fun k61 => ?_) (fun k61 => ?_)
                          · replace hw := hw.1 k61
                            exact j365 σ51 _ _ _ hP hD hS (lv_sub hl [] rfl) hw
                          · replace hw := hw.2 k61
                            refine lv_aload_n hx hb dX11_next_359 rfl (lv_at hl 1 rfl) ?_
                            refine lv_bipush (v := Int32.ofInt 9) hx hb dX11_next_360 (by decide) ?_
                            refine zpR0_7 (v := 9) hx hb hg hown hK hP hD hS q1622 dX11_next_362 (fun H locs hP hD hS => ?_)
                            exact j365 (zsI σ51 0 7 9) _ _ _ hP hD hS (lv_sub hl [] rfl) hw
          · replace hw := hw.2 k53
            refine lv_aload_n hx hb dX11_next_213 rfl (lv_at hl 1 rfl) ?_
            refine lv_iload_n hx hb dX11_next_214 rfl (lv_at hl 0 rfl) ?_
            refine lv_bipush (v := Int32.ofInt 48) hx hb dX11_next_215 (by decide) ?_
            refine z_isub hx hb dX11_next_217 ?_
            refine zpR0_10 (v := (x42 - 48)) hx hb hg hown hK hP hD hS q1625 dX11_next_218 (fun H locs hP hD hS => ?_)
            exact j221 (zsI σ51 0 10 (x42 - 48)) _ _ _ hP hD hS (lv_sub hl [1] rfl) hw
        · replace hw := hw.2 k49
          refine lv_aload_n hx hb dX11_next_70 rfl (lv_at hl 1 rfl) ?_
          refine lv_iload_n hx hb dX11_next_71 rfl (lv_at hl 0 rfl) ?_
          refine z_i2l hx hb o44 dX11_next_72 ?_
          refine zpR0_8 (v := x42) hx hb hg hown hK hP hD hS q1623 dX11_next_73 (fun H locs hP hD hS => ?_)
          refine lv_iconst (v := Int32.ofInt 1) hx hb dX11_next_76 (by decide) ?_
          refine lv_istore_n (lv' := [(2, .int (Int32.ofInt 1)), (1, .int (Int32.ofInt x42)), (0, .ref (ad 0 1000))]) hx hb dX11_next_77 rfl hl (by decide) rfl (fun ls hl => ?_)
          exact j78 1 (zsI σ47 0 8 x42) _ _ _ hP hD hS (lv_sub hl [2, 0] rfl) hw
      · replace hw := hw.2 k45
        exact hret (zsI σ43 0 7 x42) _ _ _ _ hw hP hD hS dX11_next_52
    · replace hw := hw.2 k41
      refine lv_aload_n hx hb dX11_next_13 rfl (lv_at hl 0 rfl) ?_
      refine lv_dup hx hb dX11_next_14 rfl ?_
      refine zgR0_5 hx hb hg hown hK hP q1620 dX11_next_15 ?_
      refine lv_iconst (v := Int32.ofInt 1) hx hb dX11_next_18 (by decide) ?_
      refine z_iadd hx hb dX11_next_19 ?_
      refine zpR0_5 (v := ((zI σ39 0 5) + 1)) hx hb hg hown hK hP hD hS q1620 dX11_next_20 (fun H locs hP hD hS => ?_)
      refine lv_goto (tgt := 0) hx hb dX11_next_23 (by decide) ?_
      exact hK0 (zsI σ39 0 5 ((zI σ39 0 5) + 1)) hw _ _ _ hP hD hS (lv_sub hl [0] rfl)
  have j0 : ∀ (σ : ZS), ∀ (H : Heap) (locs : List Loc) (ls : Array Slot), va_P D vwC (zR dA ad σ) H → va_D A (zR dA ad σ) → va_S A s.heap H locs → lv_has ls 4 [(0, .ref (ad 0 1000))] → wpX11_next_0 σ Q → W p l e (gR 2 0 0) s m #[.ref (ad 0 1000)] below meth c H locs 0 0 QQ (F0 m 0 ls []) := by
    intro σ H locs ls hP hD hS hl hw
    exact hw (fun σ => ∀ (H : Heap) (locs : List Loc) (ls : Array Slot), va_P D vwC (zR dA ad σ) H → va_D A (zR dA ad σ) → va_S A s.heap H locs → lv_has ls 4 [(0, .ref (ad 0 1000))] → W p l e (gR 2 0 0) s m #[.ref (ad 0 1000)] below meth c H locs 0 0 QQ (F0 m 0 ls [])) (b0 (fun σ => ∀ (H : Heap) (locs : List Loc) (ls : Array Slot), va_P D vwC (zR dA ad σ) H → va_D A (zR dA ad σ) → va_S A s.heap H locs → lv_has ls 4 [(0, .ref (ad 0 1000))] → W p l e (gR 2 0 0) s m #[.ref (ad 0 1000)] below meth c H locs 0 0 QQ (F0 m 0 ls [])) (fun σ h => h)) _ _ _ hP hD hS hl
  unfold wpX11_next at hw
  exact j0 σ _ _ _ hP hD hS (lv_sub hl [0] rfl) hw
def wpX11_fault (σ : ZS) (Q : Int → ZS → Prop) : Prop := Q 0 (zsI (zsI σ 0 3 1) 0 4 (zI σ 0 6))
set_option maxHeartbeats 4000000 in
set_option maxRecDepth 100000 in
theorem kX11_fault (l : Launch) (D : va_G) (dA : Nat → ClassId) (ad : Int → Nat → Nat) (σ : ZS) (Q : Int → ZS → Prop) (sz : Nat) (hw : wpX11_fault σ Q) : Met l yX11_fault (gws yX11_fault cX11_fault 1 (some .boolean)) (gR 1 0 0) (gPre D dA [.ref (ad 0 1000)] (zR dA ad σ) sz) (va_Qi (zQi Q) (gAt D dA (va_A (zR dA ad σ) sz) (zR dA ad)) (va_A (zR dA ad σ) sz)) 0 0 (va_A (zR dA ad σ) sz) := by
  refine Met.ofW (cc := cX11_fault) (maxL := 1) (ret := (some .boolean)) (by decide) rfl ?_
  intro p e s m args below meth c s₁ B hml hv
  obtain ⟨rfl, hsz, hP, hK, hD0⟩ := hv
  have hx := B.exec
  have hb := B.bytes
  have hr := B.returns
  have hts := atoms_spec (ws := gws yX11_fault cX11_fault 1 (some .boolean)) B.pre
  have hg : ∀ w ∈ gw, w.before _ s = true := fun w h => hts w (List.mem_cons_of_mem _ h)
  have hown : s.vm.findClass RX11 = some m.cls := findClass_of_methodNamed B.named
  have hlocks := B.notSynchronized
  subst hsz
  have hD := hD0.self (sz := s.heap.size)
  generalize hAe : va_A (zR dA ad σ) s.heap.size = A at hD ⊢
  have hA : ∀ q : Nat, s.heap.size ≤ q → A q := fun q h => by rw [← hAe]; exact Or.inr h
  have hS : va_S A s.heap s.heap [] := va_S.rf
  have hl := lv_entry ([.ref (ad 0 1000)]) (n := 1) (Nat.le_of_ble_eq_true rfl)
  rw [lg_entry_eq]
  generalize (lg_sl ([.ref (ad 0 1000)]) ++ List.replicate (1 - (lg_sl ([.ref (ad 0 1000)])).length) Slot.unset).toArray = ls at hl ⊢
  have hl : lv_has ls 1 [(0, .ref (ad 0 1000))] := hl
  have hret : ∀ (v : Int) (σ : ZS) (H : Heap) (locs : List Loc) (ls : Array Slot) (pc : Nat), (0 ≤ v ∧ v ≤ 1) → Q v σ → va_P D vwC (zR dA ad σ) H → va_D A (zR dA ad σ) → va_S A s.heap H locs → decode cX11_fault pc = .ok (.ireturn, 1) → W p l e (gR 1 0 0) s m #[.ref (ad 0 1000)] below meth c H locs 0 0 (MQ below (va_Qi (zQi Q) (gAt D dA A (zR dA ad)) A) #[.ref (ad 0 1000)] s 0 0 A) (F0 m pc ls [.int (Int32.ofInt v)]) := fun v σ H locs ls pc hv hw hP hD hS hd => g_iret hx hb hr (z_nb hv) hlocks hK σ hP hD hS ⟨v, rfl, hw⟩ (Nat.le_of_ble_eq_true rfl) (Nat.le_of_ble_eq_true rfl) hd
  generalize MQ below (va_Qi (zQi Q) (gAt D dA A (zR dA ad)) A) #[.ref (ad 0 1000)] s 0 0 A = QQ at hret ⊢
  unfold wpX11_fault at hw
  refine lv_aload_n hx hb dX11_fault_0 rfl (lv_at hl 0 rfl) ?_
  refine lv_iconst (v := Int32.ofInt 1) hx hb dX11_fault_1 (by decide) ?_
  refine zpR0_3 (v := 1) hx hb hg hown hK hP hD hS q1618 dX11_fault_2 (fun H locs hP hD hS => ?_)
  refine lv_aload_n hx hb dX11_fault_5 rfl (lv_at hl 0 rfl) ?_
  refine lv_aload_n hx hb dX11_fault_6 rfl (lv_at hl 0 rfl) ?_
  refine zgR0_6 hx hb hg hown hK hP q1621 dX11_fault_7 ?_
  refine g_nrm (y := Int32.ofInt (zI σ 0 6)) rfl ?_
  refine zpR0_4 (v := (zI σ 0 6)) hx hb hg hown hK hP hD hS q1619 dX11_fault_10 (fun H locs hP hD hS => ?_)
  refine lv_iconst (v := Int32.ofInt 0) hx hb dX11_fault_13 (by decide) ?_
  exact hret 0 (zsI (zsI σ 0 3 1) 0 4 (zI σ 0 6)) _ _ _ _ (by decide) hw hP hD hS dX11_fault_14
def wpX11_take (a1 : Int) (σ : ZS) (Q : Int → ZS → Prop) : Prop := (-2147483648 ≤ (zI σ 0 7) ∧ (zI σ 0 7) ≤ 2147483647) ∧ (-2147483648 ≤ a1 ∧ a1 ≤ 2147483647) ∧ ((zI σ 0 7) = a1 → wpX11_next σ (fun (σ5 : ZS) => Q 1 σ5)) ∧ (¬ (zI σ 0 7) = a1 → wpX11_fault σ (fun (x6 : Int) (σ7 : ZS) => (0 ≤ x6 ∧ x6 ≤ 1) ∧ Q x6 σ7))
set_option maxHeartbeats 4000000 in
set_option maxRecDepth 100000 in
theorem kX11_take (l : Launch) (D : va_G) (dA : Nat → ClassId) (ad : Int → Nat → Nat) (a1 : Int) (σ : ZS) (Q : Int → ZS → Prop) (sz : Nat) (hw : wpX11_take a1 σ Q) : Met l yX11_take (gws yX11_take cX11_take 2 (some .boolean)) (gR 3 0 0) (gPre D dA [.ref (ad 0 1000), .int (Int32.ofInt a1)] (zR dA ad σ) sz) (va_Qi (zQi Q) (gAt D dA (va_A (zR dA ad σ) sz) (zR dA ad)) (va_A (zR dA ad σ) sz)) 0 0 (va_A (zR dA ad σ) sz) := by
  refine Met.ofW (cc := cX11_take) (maxL := 2) (ret := (some .boolean)) (by decide) rfl ?_
  intro p e s m args below meth c s₁ B hml hv
  obtain ⟨rfl, hsz, hP, hK, hD0⟩ := hv
  have hx := B.exec
  have hb := B.bytes
  have hr := B.returns
  have hts := atoms_spec (ws := gws yX11_take cX11_take 2 (some .boolean)) B.pre
  have hg : ∀ w ∈ gw, w.before _ s = true := fun w h => hts w (List.mem_cons_of_mem _ h)
  have hown : s.vm.findClass RX11 = some m.cls := findClass_of_methodNamed B.named
  have hlocks := B.notSynchronized
  subst hsz
  have hD := hD0.self (sz := s.heap.size)
  generalize hAe : va_A (zR dA ad σ) s.heap.size = A at hD ⊢
  have hA : ∀ q : Nat, s.heap.size ≤ q → A q := fun q h => by rw [← hAe]; exact Or.inr h
  have hS : va_S A s.heap s.heap [] := va_S.rf
  have hl := lv_entry ([.ref (ad 0 1000), .int (Int32.ofInt a1)]) (n := 2) (Nat.le_of_ble_eq_true rfl)
  rw [lg_entry_eq]
  generalize (lg_sl ([.ref (ad 0 1000), .int (Int32.ofInt a1)]) ++ List.replicate (2 - (lg_sl ([.ref (ad 0 1000), .int (Int32.ofInt a1)])).length) Slot.unset).toArray = ls at hl ⊢
  have hl : lv_has ls 2 [(0, .ref (ad 0 1000)), (1, .int (Int32.ofInt a1))] := hl
  have hret : ∀ (v : Int) (σ : ZS) (H : Heap) (locs : List Loc) (ls : Array Slot) (pc : Nat), (0 ≤ v ∧ v ≤ 1) → Q v σ → va_P D vwC (zR dA ad σ) H → va_D A (zR dA ad σ) → va_S A s.heap H locs → decode cX11_take pc = .ok (.ireturn, 1) → W p l e (gR 3 0 0) s m #[.ref (ad 0 1000), .int (Int32.ofInt a1)] below meth c H locs 0 0 (MQ below (va_Qi (zQi Q) (gAt D dA A (zR dA ad)) A) #[.ref (ad 0 1000), .int (Int32.ofInt a1)] s 0 0 A) (F0 m pc ls [.int (Int32.ofInt v)]) := fun v σ H locs ls pc hv hw hP hD hS hd => g_iret hx hb hr (z_nb hv) hlocks hK σ hP hD hS ⟨v, rfl, hw⟩ (Nat.le_of_ble_eq_true rfl) (Nat.le_of_ble_eq_true rfl) hd
  generalize MQ below (va_Qi (zQi Q) (gAt D dA A (zR dA ad)) A) #[.ref (ad 0 1000), .int (Int32.ofInt a1)] s 0 0 A = QQ at hret ⊢
  unfold wpX11_take at hw
  refine lv_aload_n hx hb dX11_take_0 rfl (lv_at hl 0 rfl) ?_
  refine zgR0_7 hx hb hg hown hK hP q1622 dX11_take_1 ?_
  refine lv_iload_n hx hb dX11_take_4 rfl (lv_at hl 1 rfl) ?_
  obtain ⟨o1, hw⟩ := hw
  obtain ⟨o2, hw⟩ := hw
  refine z_icmp_eq (tgt := 13) hx hb o1 o2 dX11_take_5 (by decide) (fun k3 => ?_) (fun k3 => ?_)
  · replace hw := hw.1 k3
    refine lv_aload_n hx hb dX11_take_13 rfl (lv_at hl 0 rfl) ?_
    refine z_Vv (n := 0) (As := []) (rest := []) hx hb hml hg hown hK hP hD hS hA (kX11_next l D dA ad σ _ _ hw) (zoR0) rfl q1895 q160 q1892 q1894 q79 (by decide +kernel) ⟨(Nat.le_of_ble_eq_true rfl), (Nat.le_of_ble_eq_true rfl)⟩ rfl hl.1 rfl (Nat.le_of_ble_eq_true rfl) dX11_take_14 ⟨(Nat.le_of_ble_eq_true rfl), (Nat.le_of_ble_eq_true rfl)⟩ (fun σ5 H locs hw hP hD hS => ?_)
    refine lv_iconst (v := Int32.ofInt 1) hx hb dX11_take_17 (by decide) ?_
    exact hret 1 σ5 _ _ _ _ (by decide) hw hP hD hS dX11_take_18
  · replace hw := hw.2 k3
    refine lv_aload_n hx hb dX11_take_8 rfl (lv_at hl 0 rfl) ?_
    refine z_Vi (n := 0) (As := []) (rest := []) hx hb hml hg hown hK hP hD hS hA (kX11_fault l D dA ad σ _ _ hw) (zoR0) rfl q1919 q160 q1916 q1918 q83 (by decide +kernel) ⟨(Nat.le_of_ble_eq_true rfl), (Nat.le_of_ble_eq_true rfl)⟩ rfl hl.1 rfl (Nat.le_of_ble_eq_true rfl) dX11_take_9 ⟨(Nat.le_of_ble_eq_true rfl), (Nat.le_of_ble_eq_true rfl)⟩ (fun x6 σ7 H locs hw hP hD hS => ?_)
    obtain ⟨o8, hw⟩ := hw
    exact hret x6 σ7 _ _ _ _ o8 hw hP hD hS dX11_take_12
def wpX11_isName_20 (s0 : Int) (σ : ZS) (Q : Int → ZS → Prop) : Prop := (0 ≤ s0 ∧ s0 ≤ 1) ∧ Q s0 σ
def wpX11_isName_19 (σ : ZS) (Q : Int → ZS → Prop) : Prop := wpX11_isName_20 0 σ Q
def wpX11_isName (σ : ZS) (Q : Int → ZS → Prop) : Prop := (-2147483648 ≤ (zI σ 0 7) ∧ (zI σ 0 7) ≤ 2147483647) ∧ (¬ (zI σ 0 7) = 1 → wpX11_isName_19 σ Q) ∧ ((zI σ 0 7) = 1 → (-2147483648 ≤ (zI σ 0 9) ∧ (zI σ 0 9) ≤ 2147483647) ∧ (0 ≤ (zI σ 0 9) → wpX11_isName_19 σ Q) ∧ (¬ 0 ≤ (zI σ 0 9) → wpX11_isName_20 1 σ Q))
set_option maxHeartbeats 4000000 in
set_option maxRecDepth 100000 in
theorem kX11_isName (l : Launch) (D : va_G) (dA : Nat → ClassId) (ad : Int → Nat → Nat) (σ : ZS) (Q : Int → ZS → Prop) (sz : Nat) (hw : wpX11_isName σ Q) : Met l yX11_isName (gws yX11_isName cX11_isName 1 (some .boolean)) (gR 1 0 0) (gPre D dA [.ref (ad 0 1000)] (zR dA ad σ) sz) (va_Qi (zQi Q) (gAt D dA (va_A (zR dA ad σ) sz) (zR dA ad)) (va_A (zR dA ad σ) sz)) 0 0 (va_A (zR dA ad σ) sz) := by
  refine Met.ofW (cc := cX11_isName) (maxL := 1) (ret := (some .boolean)) (by decide) rfl ?_
  intro p e s m args below meth c s₁ B hml hv
  obtain ⟨rfl, hsz, hP, hK, hD0⟩ := hv
  have hx := B.exec
  have hb := B.bytes
  have hr := B.returns
  have hts := atoms_spec (ws := gws yX11_isName cX11_isName 1 (some .boolean)) B.pre
  have hg : ∀ w ∈ gw, w.before _ s = true := fun w h => hts w (List.mem_cons_of_mem _ h)
  have hown : s.vm.findClass RX11 = some m.cls := findClass_of_methodNamed B.named
  have hlocks := B.notSynchronized
  subst hsz
  have hD := hD0.self (sz := s.heap.size)
  generalize hAe : va_A (zR dA ad σ) s.heap.size = A at hD ⊢
  have hA : ∀ q : Nat, s.heap.size ≤ q → A q := fun q h => by rw [← hAe]; exact Or.inr h
  have hS : va_S A s.heap s.heap [] := va_S.rf
  have hl := lv_entry ([.ref (ad 0 1000)]) (n := 1) (Nat.le_of_ble_eq_true rfl)
  rw [lg_entry_eq]
  generalize (lg_sl ([.ref (ad 0 1000)]) ++ List.replicate (1 - (lg_sl ([.ref (ad 0 1000)])).length) Slot.unset).toArray = ls at hl ⊢
  have hl : lv_has ls 1 [(0, .ref (ad 0 1000))] := hl
  have hret : ∀ (v : Int) (σ : ZS) (H : Heap) (locs : List Loc) (ls : Array Slot) (pc : Nat), (0 ≤ v ∧ v ≤ 1) → Q v σ → va_P D vwC (zR dA ad σ) H → va_D A (zR dA ad σ) → va_S A s.heap H locs → decode cX11_isName pc = .ok (.ireturn, 1) → W p l e (gR 1 0 0) s m #[.ref (ad 0 1000)] below meth c H locs 0 0 (MQ below (va_Qi (zQi Q) (gAt D dA A (zR dA ad)) A) #[.ref (ad 0 1000)] s 0 0 A) (F0 m pc ls [.int (Int32.ofInt v)]) := fun v σ H locs ls pc hv hw hP hD hS hd => g_iret hx hb hr (z_nb hv) hlocks hK σ hP hD hS ⟨v, rfl, hw⟩ (Nat.le_of_ble_eq_true rfl) (Nat.le_of_ble_eq_true rfl) hd
  generalize MQ below (va_Qi (zQi Q) (gAt D dA A (zR dA ad)) A) #[.ref (ad 0 1000)] s 0 0 A = QQ at hret ⊢
  have j20 : ∀ (s0 : Int) (σ : ZS), ∀ (H : Heap) (locs : List Loc) (ls : Array Slot), va_P D vwC (zR dA ad σ) H → va_D A (zR dA ad σ) → va_S A s.heap H locs → lv_has ls 1 [] → wpX11_isName_20 s0 σ Q → W p l e (gR 1 0 0) s m #[.ref (ad 0 1000)] below meth c H locs 0 0 QQ (F0 m 20 ls [.int (Int32.ofInt s0)]) := by
    intro s0 σ H locs ls hP hD hS hl hw
    unfold wpX11_isName_20 at hw
    obtain ⟨o1, hw⟩ := hw
    exact hret s0 σ _ _ _ _ o1 hw hP hD hS dX11_isName_20
  have j19 : ∀ (σ : ZS), ∀ (H : Heap) (locs : List Loc) (ls : Array Slot), va_P D vwC (zR dA ad σ) H → va_D A (zR dA ad σ) → va_S A s.heap H locs → lv_has ls 1 [] → wpX11_isName_19 σ Q → W p l e (gR 1 0 0) s m #[.ref (ad 0 1000)] below meth c H locs 0 0 QQ (F0 m 19 ls []) := by
    intro σ H locs ls hP hD hS hl hw
    unfold wpX11_isName_19 at hw
    refine lv_iconst (v := Int32.ofInt 0) hx hb dX11_isName_19 (by decide) ?_
    exact j20 0 σ _ _ _ hP hD hS (lv_sub hl [] rfl) hw
  unfold wpX11_isName at hw
  refine lv_aload_n hx hb dX11_isName_0 rfl (lv_at hl 0 rfl) ?_
  refine zgR0_7 hx hb hg hown hK hP q1622 dX11_isName_1 ?_
  refine lv_iconst (v := Int32.ofInt 1) hx hb dX11_isName_4 (by decide) ?_
  obtain ⟨o2, hw⟩ := hw
  refine z_icmp_ne (tgt := 19) hx hb o2 (by decide) dX11_isName_5 (by decide) (fun k3 => ?_) (fun k3 => ?_)
  · replace hw := hw.1 k3
    exact j19 σ _ _ _ hP hD hS (lv_sub hl [] rfl) hw
  · replace hw := hw.2 k3
    refine lv_aload_n hx hb dX11_isName_8 rfl (lv_at hl 0 rfl) ?_
    refine zgR0_9 hx hb hg hown hK hP q1624 dX11_isName_9 ?_
    obtain ⟨o4, hw⟩ := hw
    refine z_if_ge (tgt := 19) hx hb o4 dX11_isName_12 (by decide) (fun k5 => ?_) (fun k5 => ?_)
    · replace hw := hw.1 k5
      exact j19 σ _ _ _ hP hD hS (lv_sub hl [] rfl) hw
    · replace hw := hw.2 k5
      refine lv_iconst (v := Int32.ofInt 1) hx hb dX11_isName_15 (by decide) ?_
      refine lv_goto (tgt := 20) hx hb dX11_isName_16 (by decide) ?_
      exact j20 1 σ _ _ _ hP hD hS (lv_sub hl [] rfl) hw
def wpX11_isWord_29 (s0 : Int) (σ : ZS) (Q : Int → ZS → Prop) : Prop := (0 ≤ s0 ∧ s0 ≤ 1) ∧ Q s0 σ
def wpX11_isWord_28 (σ : ZS) (Q : Int → ZS → Prop) : Prop := wpX11_isWord_29 0 σ Q
def wpX11_isWord (a1 a2 : Int) (σ : ZS) (Q : Int → ZS → Prop) : Prop := (-2147483648 ≤ (zI σ 0 7) ∧ (zI σ 0 7) ≤ 2147483647) ∧ (¬ (zI σ 0 7) = 1 → wpX11_isWord_28 σ Q) ∧ ((zI σ 0 7) = 1 → (-2147483648 ≤ (zI σ 0 9) ∧ (zI σ 0 9) ≤ 2147483647) ∧ (-2147483648 ≤ a1 ∧ a1 ≤ 2147483647) ∧ ((zI σ 0 9) < a1 → wpX11_isWord_28 σ Q) ∧ (¬ (zI σ 0 9) < a1 → (-2147483648 ≤ a2 ∧ a2 ≤ 2147483647) ∧ (a2 < (zI σ 0 9) → wpX11_isWord_28 σ Q) ∧ (¬ a2 < (zI σ 0 9) → wpX11_isWord_29 1 σ Q)))
set_option maxHeartbeats 4000000 in
set_option maxRecDepth 100000 in
theorem kX11_isWord (l : Launch) (D : va_G) (dA : Nat → ClassId) (ad : Int → Nat → Nat) (a1 a2 : Int) (σ : ZS) (Q : Int → ZS → Prop) (sz : Nat) (hw : wpX11_isWord a1 a2 σ Q) : Met l yX11_isWord (gws yX11_isWord cX11_isWord 3 (some .boolean)) (gR 1 0 0) (gPre D dA [.ref (ad 0 1000), .int (Int32.ofInt a1), .int (Int32.ofInt a2)] (zR dA ad σ) sz) (va_Qi (zQi Q) (gAt D dA (va_A (zR dA ad σ) sz) (zR dA ad)) (va_A (zR dA ad σ) sz)) 0 0 (va_A (zR dA ad σ) sz) := by
  refine Met.ofW (cc := cX11_isWord) (maxL := 3) (ret := (some .boolean)) (by decide) rfl ?_
  intro p e s m args below meth c s₁ B hml hv
  obtain ⟨rfl, hsz, hP, hK, hD0⟩ := hv
  have hx := B.exec
  have hb := B.bytes
  have hr := B.returns
  have hts := atoms_spec (ws := gws yX11_isWord cX11_isWord 3 (some .boolean)) B.pre
  have hg : ∀ w ∈ gw, w.before _ s = true := fun w h => hts w (List.mem_cons_of_mem _ h)
  have hown : s.vm.findClass RX11 = some m.cls := findClass_of_methodNamed B.named
  have hlocks := B.notSynchronized
  subst hsz
  have hD := hD0.self (sz := s.heap.size)
  generalize hAe : va_A (zR dA ad σ) s.heap.size = A at hD ⊢
  have hA : ∀ q : Nat, s.heap.size ≤ q → A q := fun q h => by rw [← hAe]; exact Or.inr h
  have hS : va_S A s.heap s.heap [] := va_S.rf
  have hl := lv_entry ([.ref (ad 0 1000), .int (Int32.ofInt a1), .int (Int32.ofInt a2)]) (n := 3) (Nat.le_of_ble_eq_true rfl)
  rw [lg_entry_eq]
  generalize (lg_sl ([.ref (ad 0 1000), .int (Int32.ofInt a1), .int (Int32.ofInt a2)]) ++ List.replicate (3 - (lg_sl ([.ref (ad 0 1000), .int (Int32.ofInt a1), .int (Int32.ofInt a2)])).length) Slot.unset).toArray = ls at hl ⊢
  have hl : lv_has ls 3 [(0, .ref (ad 0 1000)), (1, .int (Int32.ofInt a1)), (2, .int (Int32.ofInt a2))] := hl
  have hret : ∀ (v : Int) (σ : ZS) (H : Heap) (locs : List Loc) (ls : Array Slot) (pc : Nat), (0 ≤ v ∧ v ≤ 1) → Q v σ → va_P D vwC (zR dA ad σ) H → va_D A (zR dA ad σ) → va_S A s.heap H locs → decode cX11_isWord pc = .ok (.ireturn, 1) → W p l e (gR 1 0 0) s m #[.ref (ad 0 1000), .int (Int32.ofInt a1), .int (Int32.ofInt a2)] below meth c H locs 0 0 (MQ below (va_Qi (zQi Q) (gAt D dA A (zR dA ad)) A) #[.ref (ad 0 1000), .int (Int32.ofInt a1), .int (Int32.ofInt a2)] s 0 0 A) (F0 m pc ls [.int (Int32.ofInt v)]) := fun v σ H locs ls pc hv hw hP hD hS hd => g_iret hx hb hr (z_nb hv) hlocks hK σ hP hD hS ⟨v, rfl, hw⟩ (Nat.le_of_ble_eq_true rfl) (Nat.le_of_ble_eq_true rfl) hd
  generalize MQ below (va_Qi (zQi Q) (gAt D dA A (zR dA ad)) A) #[.ref (ad 0 1000), .int (Int32.ofInt a1), .int (Int32.ofInt a2)] s 0 0 A = QQ at hret ⊢
  have j29 : ∀ (s0 : Int) (σ : ZS), ∀ (H : Heap) (locs : List Loc) (ls : Array Slot), va_P D vwC (zR dA ad σ) H → va_D A (zR dA ad σ) → va_S A s.heap H locs → lv_has ls 3 [] → wpX11_isWord_29 s0 σ Q → W p l e (gR 1 0 0) s m #[.ref (ad 0 1000), .int (Int32.ofInt a1), .int (Int32.ofInt a2)] below meth c H locs 0 0 QQ (F0 m 29 ls [.int (Int32.ofInt s0)]) := by
    intro s0 σ H locs ls hP hD hS hl hw
    unfold wpX11_isWord_29 at hw
    obtain ⟨o1, hw⟩ := hw
    exact hret s0 σ _ _ _ _ o1 hw hP hD hS dX11_isWord_29
  have j28 : ∀ (σ : ZS), ∀ (H : Heap) (locs : List Loc) (ls : Array Slot), va_P D vwC (zR dA ad σ) H → va_D A (zR dA ad σ) → va_S A s.heap H locs → lv_has ls 3 [] → wpX11_isWord_28 σ Q → W p l e (gR 1 0 0) s m #[.ref (ad 0 1000), .int (Int32.ofInt a1), .int (Int32.ofInt a2)] below meth c H locs 0 0 QQ (F0 m 28 ls []) := by
    intro σ H locs ls hP hD hS hl hw
    unfold wpX11_isWord_28 at hw
    refine lv_iconst (v := Int32.ofInt 0) hx hb dX11_isWord_28 (by decide) ?_
    exact j29 0 σ _ _ _ hP hD hS (lv_sub hl [] rfl) hw
  unfold wpX11_isWord at hw
  refine lv_aload_n hx hb dX11_isWord_0 rfl (lv_at hl 0 rfl) ?_
  refine zgR0_7 hx hb hg hown hK hP q1622 dX11_isWord_1 ?_
  refine lv_iconst (v := Int32.ofInt 1) hx hb dX11_isWord_4 (by decide) ?_
  obtain ⟨o2, hw⟩ := hw
  refine z_icmp_ne (tgt := 28) hx hb o2 (by decide) dX11_isWord_5 (by decide) (fun k3 => ?_) (fun k3 => ?_)
  · replace hw := hw.1 k3
    exact j28 σ _ _ _ hP hD hS (lv_sub hl [] rfl) hw
  · replace hw := hw.2 k3
    refine lv_aload_n hx hb dX11_isWord_8 rfl (lv_at hl 0 rfl) ?_
    refine zgR0_9 hx hb hg hown hK hP q1624 dX11_isWord_9 ?_
    refine lv_iload_n hx hb dX11_isWord_12 rfl (lv_at hl 1 rfl) ?_
    obtain ⟨o4, hw⟩ := hw
    obtain ⟨o5, hw⟩ := hw
    refine z_icmp_lt (tgt := 28) hx hb o4 o5 dX11_isWord_13 (by decide) (fun k6 => ?_) (fun k6 => ?_)
    · replace hw := hw.1 k6
      exact j28 σ _ _ _ hP hD hS (lv_sub hl [] rfl) hw
    · replace hw := hw.2 k6
      refine lv_aload_n hx hb dX11_isWord_16 rfl (lv_at hl 0 rfl) ?_
      refine zgR0_9 hx hb hg hown hK hP q1624 dX11_isWord_17 ?_
      refine lv_iload_n hx hb dX11_isWord_20 rfl (lv_at hl 2 rfl) ?_
      obtain ⟨o7, hw⟩ := hw
      refine z_icmp_gt (tgt := 28) hx hb o4 o7 dX11_isWord_21 (by decide) (fun k8 => ?_) (fun k8 => ?_)
      · replace hw := hw.1 k8
        exact j28 σ _ _ _ hP hD hS (lv_sub hl [] rfl) hw
      · replace hw := hw.2 k8
        refine lv_iconst (v := Int32.ofInt 1) hx hb dX11_isWord_24 (by decide) ?_
        refine lv_goto (tgt := 29) hx hb dX11_isWord_25 (by decide) ?_
        exact j29 1 σ _ _ _ hP hD hS (lv_sub hl [] rfl) hw
def wpX11_wrongAt_20 (σ : ZS) (Q : ZS → Prop) : Prop := Q σ
def wpX11_wrongAt_15 (v1 : Int) (σ : ZS) (Q : ZS → Prop) : Prop := wpX11_wrongAt_20 (zsI σ 0 18 v1) Q
def wpX11_wrongAt (a1 : Int) (σ : ZS) (Q : ZS → Prop) : Prop := (-2147483648 ≤ (zI σ 0 18) ∧ (zI σ 0 18) ≤ 2147483647) ∧ ((zI σ 0 18) < 0 → wpX11_wrongAt_15 a1 σ Q) ∧ (¬ (zI σ 0 18) < 0 → (-2147483648 ≤ a1 ∧ a1 ≤ 2147483647) ∧ ((zI σ 0 18) ≤ a1 → wpX11_wrongAt_20 σ Q) ∧ (¬ (zI σ 0 18) ≤ a1 → wpX11_wrongAt_15 a1 σ Q))
set_option maxHeartbeats 4000000 in
set_option maxRecDepth 100000 in
theorem kX11_wrongAt (l : Launch) (D : va_G) (dA : Nat → ClassId) (ad : Int → Nat → Nat) (a1 : Int) (σ : ZS) (Q : ZS → Prop) (sz : Nat) (hw : wpX11_wrongAt a1 σ Q) : Met l yX11_wrongAt (gws yX11_wrongAt cX11_wrongAt 2 none) (gR 1 0 0) (gPre D dA [.ref (ad 0 1000), .int (Int32.ofInt a1)] (zR dA ad σ) sz) (va_Qv Q (gAt D dA (va_A (zR dA ad σ) sz) (zR dA ad)) (va_A (zR dA ad σ) sz)) 0 0 (va_A (zR dA ad σ) sz) := by
  refine Met.ofW (cc := cX11_wrongAt) (maxL := 2) (ret := none) (by decide) rfl ?_
  intro p e s m args below meth c s₁ B hml hv
  obtain ⟨rfl, hsz, hP, hK, hD0⟩ := hv
  have hx := B.exec
  have hb := B.bytes
  have hr := B.returns
  have hts := atoms_spec (ws := gws yX11_wrongAt cX11_wrongAt 2 none) B.pre
  have hg : ∀ w ∈ gw, w.before _ s = true := fun w h => hts w (List.mem_cons_of_mem _ h)
  have hown : s.vm.findClass RX11 = some m.cls := findClass_of_methodNamed B.named
  have hlocks := B.notSynchronized
  subst hsz
  have hD := hD0.self (sz := s.heap.size)
  generalize hAe : va_A (zR dA ad σ) s.heap.size = A at hD ⊢
  have hA : ∀ q : Nat, s.heap.size ≤ q → A q := fun q h => by rw [← hAe]; exact Or.inr h
  have hS : va_S A s.heap s.heap [] := va_S.rf
  have hl := lv_entry ([.ref (ad 0 1000), .int (Int32.ofInt a1)]) (n := 2) (Nat.le_of_ble_eq_true rfl)
  rw [lg_entry_eq]
  generalize (lg_sl ([.ref (ad 0 1000), .int (Int32.ofInt a1)]) ++ List.replicate (2 - (lg_sl ([.ref (ad 0 1000), .int (Int32.ofInt a1)])).length) Slot.unset).toArray = ls at hl ⊢
  have hl : lv_has ls 2 [(0, .ref (ad 0 1000)), (1, .int (Int32.ofInt a1))] := hl
  have hret : ∀ (σ : ZS) (H : Heap) (locs : List Loc) (ls : Array Slot) (pc : Nat), Q σ → va_P D vwC (zR dA ad σ) H → va_D A (zR dA ad σ) → va_S A s.heap H locs → decode cX11_wrongAt pc = .ok (.return_, 1) → W p l e (gR 1 0 0) s m #[.ref (ad 0 1000), .int (Int32.ofInt a1)] below meth c H locs 0 0 (MQ below (va_Qv Q (gAt D dA A (zR dA ad)) A) #[.ref (ad 0 1000), .int (Int32.ofInt a1)] s 0 0 A) (F0 m pc ls []) := fun σ H locs ls pc hw hP hD hS hd => g_vret hx hb hr hlocks hK σ hP hD hS hw (Nat.le_of_ble_eq_true rfl) (Nat.le_of_ble_eq_true rfl) hd
  generalize MQ below (va_Qv Q (gAt D dA A (zR dA ad)) A) #[.ref (ad 0 1000), .int (Int32.ofInt a1)] s 0 0 A = QQ at hret ⊢
  have j20 : ∀ (σ : ZS), ∀ (H : Heap) (locs : List Loc) (ls : Array Slot), va_P D vwC (zR dA ad σ) H → va_D A (zR dA ad σ) → va_S A s.heap H locs → lv_has ls 2 [] → wpX11_wrongAt_20 σ Q → W p l e (gR 1 0 0) s m #[.ref (ad 0 1000), .int (Int32.ofInt a1)] below meth c H locs 0 0 QQ (F0 m 20 ls []) := by
    intro σ H locs ls hP hD hS hl hw
    unfold wpX11_wrongAt_20 at hw
    exact hret σ _ _ _ _ hw hP hD hS dX11_wrongAt_20
  have j15 : ∀ (v1 : Int) (σ : ZS), ∀ (H : Heap) (locs : List Loc) (ls : Array Slot), va_P D vwC (zR dA ad σ) H → va_D A (zR dA ad σ) → va_S A s.heap H locs → lv_has ls 2 [(0, .ref (ad 0 1000)), (1, .int (Int32.ofInt v1))] → wpX11_wrongAt_15 v1 σ Q → W p l e (gR 1 0 0) s m #[.ref (ad 0 1000), .int (Int32.ofInt a1)] below meth c H locs 0 0 QQ (F0 m 15 ls []) := by
    intro v1 σ H locs ls hP hD hS hl hw
    unfold wpX11_wrongAt_15 at hw
    refine lv_aload_n hx hb dX11_wrongAt_15 rfl (lv_at hl 0 rfl) ?_
    refine lv_iload_n hx hb dX11_wrongAt_16 rfl (lv_at hl 1 rfl) ?_
    refine zpR0_18 (v := v1) hx hb hg hown hK hP hD hS q1633 dX11_wrongAt_17 (fun H locs hP hD hS => ?_)
    exact j20 (zsI σ 0 18 v1) _ _ _ hP hD hS (lv_sub hl [] rfl) hw
  unfold wpX11_wrongAt at hw
  refine lv_aload_n hx hb dX11_wrongAt_0 rfl (lv_at hl 0 rfl) ?_
  refine zgR0_18 hx hb hg hown hK hP q1633 dX11_wrongAt_1 ?_
  obtain ⟨o1, hw⟩ := hw
  refine z_if_lt (tgt := 15) hx hb o1 dX11_wrongAt_4 (by decide) (fun k2 => ?_) (fun k2 => ?_)
  · replace hw := hw.1 k2
    exact j15 a1 σ _ _ _ hP hD hS (lv_sub hl [0, 1] rfl) hw
  · replace hw := hw.2 k2
    refine lv_iload_n hx hb dX11_wrongAt_7 rfl (lv_at hl 1 rfl) ?_
    refine lv_aload_n hx hb dX11_wrongAt_8 rfl (lv_at hl 0 rfl) ?_
    refine zgR0_18 hx hb hg hown hK hP q1633 dX11_wrongAt_9 ?_
    obtain ⟨o3, hw⟩ := hw
    refine z_icmp_ge (tgt := 20) hx hb o3 o1 dX11_wrongAt_12 (by decide) (fun k4 => ?_) (fun k4 => ?_)
    · replace hw := hw.1 k4
      exact j20 σ _ _ _ hP hD hS (lv_sub hl [] rfl) hw
    · replace hw := hw.2 k4
      exact j15 a1 σ _ _ _ hP hD hS (lv_sub hl [0, 1] rfl) hw
def wpX11_name_82 (v1 : Int) (σ : ZS) (Q : Int → ZS → Prop) : Prop := Q v1 σ
def wpX11_name_30 (v1 : Int) (σ : ZS) (Q : Int → ZS → Prop) : Prop := (-2147483648 ≤ v1 ∧ v1 ≤ 2147483647) ∧ (-2147483648 ≤ (zI σ 0 17) ∧ (zI σ 0 17) ≤ 2147483647) ∧ (¬ v1 = (zI σ 0 17) → wpX11_name_82 v1 σ Q) ∧ (v1 = (zI σ 0 17) → (0 ≤ v1 ∧ v1 < 240) ∧ (-2147483648 ≤ ((zI σ 0 17) + 1) ∧ ((zI σ 0 17) + 1) ≤ 2147483647) ∧ (((zI σ 0 17) + 1) ≤ 24 → wpX11_name_82 v1 (zsI (zsA (zsA σ 0 12 v1 (zI σ 0 8)) 0 13 v1 0) 0 17 ((zI σ 0 17) + 1)) Q) ∧ (¬ ((zI σ 0 17) + 1) ≤ 24 → wpX11_wrongAt (zI σ 0 6) (zsI (zsA (zsA σ 0 12 v1 (zI σ 0 8)) 0 13 v1 0) 0 17 ((zI σ 0 17) + 1)) (fun (σ8 : ZS) => wpX11_name_82 v1 σ8 Q)))
def wpbX11_name_2 (K2 : Int → ZS → Prop) (v1 : Int) (σ : ZS) (Q : Int → ZS → Prop) : Prop := (-2147483648 ≤ v1 ∧ v1 ≤ 2147483647) ∧ (-2147483648 ≤ (zI σ 0 17) ∧ (zI σ 0 17) ≤ 2147483647) ∧ ((zI σ 0 17) ≤ v1 → wpX11_name_30 v1 σ Q) ∧ (¬ (zI σ 0 17) ≤ v1 → (0 ≤ v1 ∧ v1 < 240) ∧ (-9223372036854775808 ≤ (zA σ 0 12 v1) ∧ (zA σ 0 12 v1) ≤ 9223372036854775807) ∧ (-9223372036854775808 ≤ (zI σ 0 8) ∧ (zI σ 0 8) ≤ 9223372036854775807) ∧ ((zA σ 0 12 v1) = (zI σ 0 8) → wpX11_name_30 v1 σ Q) ∧ (¬ (zA σ 0 12 v1) = (zI σ 0 8) → K2 (v1 + 1) σ))
def wpX11_name_2 (v1 : Int) (σ : ZS) (Q : Int → ZS → Prop) : Prop := lfp1 (fun K2 v1 σ => wpbX11_name_2 K2 v1 σ Q) v1 σ
def wpX11_name (σ : ZS) (Q : Int → ZS → Prop) : Prop := wpX11_name_2 0 σ Q
set_option maxHeartbeats 4000000 in
set_option maxRecDepth 100000 in
theorem kX11_name (l : Launch) (D : va_G) (dA : Nat → ClassId) (ad : Int → Nat → Nat) (σ : ZS) (Q : Int → ZS → Prop) (sz : Nat) (hw : wpX11_name σ Q) : Met l yX11_name (gws yX11_name cX11_name 2 (some .int)) (gR 2 0 0) (gPre D dA [.ref (ad 0 1000)] (zR dA ad σ) sz) (va_Qi (zQi Q) (gAt D dA (va_A (zR dA ad σ) sz) (zR dA ad)) (va_A (zR dA ad σ) sz)) 0 0 (va_A (zR dA ad σ) sz) := by
  refine Met.ofW (cc := cX11_name) (maxL := 2) (ret := (some .int)) (by decide) rfl ?_
  intro p e s m args below meth c s₁ B hml hv
  obtain ⟨rfl, hsz, hP, hK, hD0⟩ := hv
  have hx := B.exec
  have hb := B.bytes
  have hr := B.returns
  have hts := atoms_spec (ws := gws yX11_name cX11_name 2 (some .int)) B.pre
  have hg : ∀ w ∈ gw, w.before _ s = true := fun w h => hts w (List.mem_cons_of_mem _ h)
  have hown : s.vm.findClass RX11 = some m.cls := findClass_of_methodNamed B.named
  have hlocks := B.notSynchronized
  subst hsz
  have hD := hD0.self (sz := s.heap.size)
  generalize hAe : va_A (zR dA ad σ) s.heap.size = A at hD ⊢
  have hA : ∀ q : Nat, s.heap.size ≤ q → A q := fun q h => by rw [← hAe]; exact Or.inr h
  have hS : va_S A s.heap s.heap [] := va_S.rf
  have hl := lv_entry ([.ref (ad 0 1000)]) (n := 2) (Nat.le_of_ble_eq_true rfl)
  rw [lg_entry_eq]
  generalize (lg_sl ([.ref (ad 0 1000)]) ++ List.replicate (2 - (lg_sl ([.ref (ad 0 1000)])).length) Slot.unset).toArray = ls at hl ⊢
  have hl : lv_has ls 2 [(0, .ref (ad 0 1000))] := hl
  have hret : ∀ (v : Int) (σ : ZS) (H : Heap) (locs : List Loc) (ls : Array Slot) (pc : Nat), Q v σ → va_P D vwC (zR dA ad σ) H → va_D A (zR dA ad σ) → va_S A s.heap H locs → decode cX11_name pc = .ok (.ireturn, 1) → W p l e (gR 2 0 0) s m #[.ref (ad 0 1000)] below meth c H locs 0 0 (MQ below (va_Qi (zQi Q) (gAt D dA A (zR dA ad)) A) #[.ref (ad 0 1000)] s 0 0 A) (F0 m pc ls [.int (Int32.ofInt v)]) := fun v σ H locs ls pc hw hP hD hS hd => g_iret hx hb hr rfl hlocks hK σ hP hD hS ⟨v, rfl, hw⟩ (Nat.le_of_ble_eq_true rfl) (Nat.le_of_ble_eq_true rfl) hd
  generalize MQ below (va_Qi (zQi Q) (gAt D dA A (zR dA ad)) A) #[.ref (ad 0 1000)] s 0 0 A = QQ at hret ⊢
  have j82 : ∀ (v1 : Int) (σ : ZS), ∀ (H : Heap) (locs : List Loc) (ls : Array Slot), va_P D vwC (zR dA ad σ) H → va_D A (zR dA ad σ) → va_S A s.heap H locs → lv_has ls 2 [(1, .int (Int32.ofInt v1))] → wpX11_name_82 v1 σ Q → W p l e (gR 2 0 0) s m #[.ref (ad 0 1000)] below meth c H locs 0 0 QQ (F0 m 82 ls []) := by
    intro v1 σ H locs ls hP hD hS hl hw
    unfold wpX11_name_82 at hw
    refine lv_iload_n hx hb dX11_name_82 rfl (lv_at hl 0 rfl) ?_
    exact hret v1 σ _ _ _ _ hw hP hD hS dX11_name_83
  have j30 : ∀ (v1 : Int) (σ : ZS), ∀ (H : Heap) (locs : List Loc) (ls : Array Slot), va_P D vwC (zR dA ad σ) H → va_D A (zR dA ad σ) → va_S A s.heap H locs → lv_has ls 2 [(0, .ref (ad 0 1000)), (1, .int (Int32.ofInt v1))] → wpX11_name_30 v1 σ Q → W p l e (gR 2 0 0) s m #[.ref (ad 0 1000)] below meth c H locs 0 0 QQ (F0 m 30 ls []) := by
    intro v1 σ H locs ls hP hD hS hl hw
    unfold wpX11_name_30 at hw
    refine lv_iload_n hx hb dX11_name_30 rfl (lv_at hl 1 rfl) ?_
    refine lv_aload_n hx hb dX11_name_31 rfl (lv_at hl 0 rfl) ?_
    refine zgR0_17 hx hb hg hown hK hP q1632 dX11_name_32 ?_
    obtain ⟨o1, hw⟩ := hw
    obtain ⟨o2, hw⟩ := hw
    refine z_icmp_ne (tgt := 82) hx hb o1 o2 dX11_name_35 (by decide) (fun k3 => ?_) (fun k3 => ?_)
    · replace hw := hw.1 k3
      exact j82 v1 σ _ _ _ hP hD hS (lv_sub hl [1] rfl) hw
    · replace hw := hw.2 k3
      refine lv_aload_n hx hb dX11_name_38 rfl (lv_at hl 0 rfl) ?_
      refine zgR0_12 hx hb hg hown hK hP q1627 dX11_name_39 ?_
      refine lv_iload_n hx hb dX11_name_42 rfl (lv_at hl 1 rfl) ?_
      refine lv_aload_n hx hb dX11_name_43 rfl (lv_at hl 0 rfl) ?_
      refine zgR0_8 hx hb hg hown hK hP q1623 dX11_name_44 ?_
      obtain ⟨o4, hw⟩ := hw
      refine zsR0_12 (v := (zI σ 0 8)) hx hb o4 hK hP hD hS dX11_name_47 (fun H locs hP hD hS => ?_)
      refine lv_aload_n hx hb dX11_name_48 rfl (lv_at hl 0 rfl) ?_
      refine zgR0_13 hx hb hg hown hK hP q1628 dX11_name_49 ?_
      refine lv_iload_n hx hb dX11_name_52 rfl (lv_at hl 1 rfl) ?_
      refine lv_iconst (v := Int32.ofInt 0) hx hb dX11_name_53 (by decide) ?_
      refine zsR0_13 (v := 0) hx hb o4 hK hP hD hS dX11_name_54 (fun H locs hP hD hS => ?_)
      refine lv_aload_n hx hb dX11_name_55 rfl (lv_at hl 0 rfl) ?_
      refine lv_dup hx hb dX11_name_56 rfl ?_
      refine zgR0_17 hx hb hg hown hK hP q1632 dX11_name_57 ?_
      refine g_nrm (y := Int32.ofInt (zI σ 0 17)) rfl ?_
      refine lv_iconst (v := Int32.ofInt 1) hx hb dX11_name_60 (by decide) ?_
      refine z_iadd hx hb dX11_name_61 ?_
      refine zpR0_17 (v := ((zI σ 0 17) + 1)) hx hb hg hown hK hP hD hS q1632 dX11_name_62 (fun H locs hP hD hS => ?_)
      refine lv_aload_n hx hb dX11_name_65 rfl (lv_at hl 0 rfl) ?_
      refine zgR0_17 hx hb hg hown hK hP q1632 dX11_name_66 ?_
      refine g_nrm (y := Int32.ofInt ((zI σ 0 17) + 1)) rfl ?_
      refine lv_bipush (v := Int32.ofInt 24) hx hb dX11_name_69 (by decide) ?_
      obtain ⟨o5, hw⟩ := hw
      refine z_icmp_le (tgt := 82) hx hb o5 (by decide) dX11_name_71 (by decide) (fun k6 => ?_) (fun k6 => ?_)
      · replace hw := hw.1 k6
        exact j82 v1 (zsI (zsA (zsA σ 0 12 v1 (zI σ 0 8)) 0 13 v1 0) 0 17 ((zI σ 0 17) + 1)) _ _ _ hP hD hS (lv_sub hl [1] rfl) hw
      · replace hw := hw.2 k6
        refine lv_aload_n hx hb dX11_name_74 rfl (lv_at hl 0 rfl) ?_
        refine lv_aload_n hx hb dX11_name_75 rfl (lv_at hl 0 rfl) ?_
        refine zgR0_6 hx hb hg hown hK hP q1621 dX11_name_76 ?_
        refine g_nrm (y := Int32.ofInt (zI σ 0 6)) rfl ?_
        refine z_Vv (n := 1) (As := [.int (Int32.ofInt (zI σ 0 6))]) (rest := []) hx hb hml hg hown hK hP hD hS hA (kX11_wrongAt l D dA ad (zI σ 0 6) (zsI (zsA (zsA σ 0 12 v1 (zI σ 0 8)) 0 13 v1 0) 0 17 ((zI σ 0 17) + 1)) _ _ hw) (zoR0) rfl q1927 q160 q1924 q1926 q85 (by decide +kernel) ⟨(Nat.le_of_ble_eq_true rfl), (Nat.le_of_ble_eq_true rfl)⟩ rfl hl.1 rfl (Nat.le_of_ble_eq_true rfl) dX11_name_79 ⟨(Nat.le_of_ble_eq_true rfl), (Nat.le_of_ble_eq_true rfl)⟩ (fun σ8 H locs hw hP hD hS => ?_)
        exact j82 v1 σ8 _ _ _ hP hD hS (lv_sub hl [1] rfl) hw
  have b2 : ∀ (K2 : Int → ZS → Prop), (∀ (v1 : Int) (σ : ZS), K2 v1 σ → ∀ (H : Heap) (locs : List Loc) (ls : Array Slot), va_P D vwC (zR dA ad σ) H → va_D A (zR dA ad σ) → va_S A s.heap H locs → lv_has ls 2 [(0, .ref (ad 0 1000)), (1, .int (Int32.ofInt v1))] → W p l e (gR 2 0 0) s m #[.ref (ad 0 1000)] below meth c H locs 0 0 QQ (F0 m 2 ls [])) → ∀ (v1 : Int) (σ : ZS), wpbX11_name_2 K2 v1 σ Q → ∀ (H : Heap) (locs : List Loc) (ls : Array Slot), va_P D vwC (zR dA ad σ) H → va_D A (zR dA ad σ) → va_S A s.heap H locs → lv_has ls 2 [(0, .ref (ad 0 1000)), (1, .int (Int32.ofInt v1))] → W p l e (gR 2 0 0) s m #[.ref (ad 0 1000)] below meth c H locs 0 0 QQ (F0 m 2 ls []) := by
    intro K2 hK2
    intro v1 σ hw H locs ls hP hD hS hl
    unfold wpbX11_name_2 at hw
    refine lv_iload_n hx hb dX11_name_2 rfl (lv_at hl 1 rfl) ?_
    refine lv_aload_n hx hb dX11_name_3 rfl (lv_at hl 0 rfl) ?_
    refine zgR0_17 hx hb hg hown hK hP q1632 dX11_name_4 ?_
    obtain ⟨o9, hw⟩ := hw
    obtain ⟨o10, hw⟩ := hw
    refine z_icmp_ge (tgt := 30) hx hb o9 o10 dX11_name_7 (by decide) (fun k11 => ?_) (fun k11 => ?_)
    · replace hw := hw.1 k11
      exact j30 v1 σ _ _ _ hP hD hS (lv_sub hl [0, 1] rfl) hw
    · replace hw := hw.2 k11
      refine lv_aload_n hx hb dX11_name_10 rfl (lv_at hl 0 rfl) ?_
      refine zgR0_12 hx hb hg hown hK hP q1627 dX11_name_11 ?_
      refine lv_iload_n hx hb dX11_name_14 rfl (lv_at hl 1 rfl) ?_
      obtain ⟨o12, hw⟩ := hw
      refine zlR0_12 hx hb o12 hK hP dX11_name_15 ?_
      refine lv_aload_n hx hb dX11_name_16 rfl (lv_at hl 0 rfl) ?_
      refine zgR0_8 hx hb hg hown hK hP q1623 dX11_name_17 ?_
      obtain ⟨o13, hw⟩ := hw
      obtain ⟨o14, hw⟩ := hw
      refine z_lc_eq (tgt := 30) hx hb o13 o14 dX11_name_20 dX11_name_21 (by decide) (fun k15 => ?_) (fun k15 => ?_)
      · replace hw := hw.1 k15
        exact j30 v1 σ _ _ _ hP hD hS (lv_sub hl [0, 1] rfl) hw
      · replace hw := hw.2 k15
        refine lv_iinc (v := Int32.ofInt (v1 + 1)) (lv' := [(1, .int (Int32.ofInt (v1 + 1))), (0, .ref (ad 0 1000))]) hx hb dX11_name_24 hl (k := 1) rfl (Int32.ofInt_add _ _).symm (by decide) rfl (fun ls hl => ?_)
        refine lv_goto (tgt := 2) hx hb dX11_name_27 (by decide) ?_
        exact hK2 (v1 + 1) σ hw _ _ _ hP hD hS (lv_sub hl [1, 0] rfl)
  have j2 : ∀ (v1 : Int) (σ : ZS), ∀ (H : Heap) (locs : List Loc) (ls : Array Slot), va_P D vwC (zR dA ad σ) H → va_D A (zR dA ad σ) → va_S A s.heap H locs → lv_has ls 2 [(0, .ref (ad 0 1000)), (1, .int (Int32.ofInt v1))] → wpX11_name_2 v1 σ Q → W p l e (gR 2 0 0) s m #[.ref (ad 0 1000)] below meth c H locs 0 0 QQ (F0 m 2 ls []) := by
    intro v1 σ H locs ls hP hD hS hl hw
    exact hw (fun v1 σ => ∀ (H : Heap) (locs : List Loc) (ls : Array Slot), va_P D vwC (zR dA ad σ) H → va_D A (zR dA ad σ) → va_S A s.heap H locs → lv_has ls 2 [(0, .ref (ad 0 1000)), (1, .int (Int32.ofInt v1))] → W p l e (gR 2 0 0) s m #[.ref (ad 0 1000)] below meth c H locs 0 0 QQ (F0 m 2 ls [])) (b2 (fun v1 σ => ∀ (H : Heap) (locs : List Loc) (ls : Array Slot), va_P D vwC (zR dA ad σ) H → va_D A (zR dA ad σ) → va_S A s.heap H locs → lv_has ls 2 [(0, .ref (ad 0 1000)), (1, .int (Int32.ofInt v1))] → W p l e (gR 2 0 0) s m #[.ref (ad 0 1000)] below meth c H locs 0 0 QQ (F0 m 2 ls [])) (fun v1 σ h => h)) _ _ _ hP hD hS hl
  unfold wpX11_name at hw
  refine lv_iconst (v := Int32.ofInt 0) hx hb dX11_name_0 (by decide) ?_
  refine lv_istore_n (lv' := [(1, .int (Int32.ofInt 0)), (0, .ref (ad 0 1000))]) hx hb dX11_name_1 rfl hl (by decide) rfl (fun ls hl => ?_)
  exact j2 0 σ _ _ _ hP hD hS (lv_sub hl [1, 0] rfl) hw
def wpX11_use (a1 a2 a3 : Int) (σ : ZS) (Q : ZS → Prop) : Prop := (0 ≤ (zI σ 0 23) ∧ (zI σ 0 23) < 480) ∧ Q (zsI (zsA (zsA (zsA (zsA σ 0 19 (zI σ 0 23) a1) 0 20 (zI σ 0 23) a2) 0 21 (zI σ 0 23) a3) 0 22 (zI σ 0 23) (zI σ 0 32)) 0 23 ((zI σ 0 23) + 1))
set_option maxHeartbeats 4000000 in
set_option maxRecDepth 100000 in
theorem kX11_use (l : Launch) (D : va_G) (dA : Nat → ClassId) (ad : Int → Nat → Nat) (a1 a2 a3 : Int) (σ : ZS) (Q : ZS → Prop) (sz : Nat) (hw : wpX11_use a1 a2 a3 σ Q) : Met l yX11_use (gws yX11_use cX11_use 4 none) (gR 1 0 0) (gPre D dA [.ref (ad 0 1000), .int (Int32.ofInt a1), .int (Int32.ofInt a2), .int (Int32.ofInt a3)] (zR dA ad σ) sz) (va_Qv Q (gAt D dA (va_A (zR dA ad σ) sz) (zR dA ad)) (va_A (zR dA ad σ) sz)) 0 0 (va_A (zR dA ad σ) sz) := by
  refine Met.ofW (cc := cX11_use) (maxL := 4) (ret := none) (by decide) rfl ?_
  intro p e s m args below meth c s₁ B hml hv
  obtain ⟨rfl, hsz, hP, hK, hD0⟩ := hv
  have hx := B.exec
  have hb := B.bytes
  have hr := B.returns
  have hts := atoms_spec (ws := gws yX11_use cX11_use 4 none) B.pre
  have hg : ∀ w ∈ gw, w.before _ s = true := fun w h => hts w (List.mem_cons_of_mem _ h)
  have hown : s.vm.findClass RX11 = some m.cls := findClass_of_methodNamed B.named
  have hlocks := B.notSynchronized
  subst hsz
  have hD := hD0.self (sz := s.heap.size)
  generalize hAe : va_A (zR dA ad σ) s.heap.size = A at hD ⊢
  have hA : ∀ q : Nat, s.heap.size ≤ q → A q := fun q h => by rw [← hAe]; exact Or.inr h
  have hS : va_S A s.heap s.heap [] := va_S.rf
  have hl := lv_entry ([.ref (ad 0 1000), .int (Int32.ofInt a1), .int (Int32.ofInt a2), .int (Int32.ofInt a3)]) (n := 4) (Nat.le_of_ble_eq_true rfl)
  rw [lg_entry_eq]
  generalize (lg_sl ([.ref (ad 0 1000), .int (Int32.ofInt a1), .int (Int32.ofInt a2), .int (Int32.ofInt a3)]) ++ List.replicate (4 - (lg_sl ([.ref (ad 0 1000), .int (Int32.ofInt a1), .int (Int32.ofInt a2), .int (Int32.ofInt a3)])).length) Slot.unset).toArray = ls at hl ⊢
  have hl : lv_has ls 4 [(0, .ref (ad 0 1000)), (1, .int (Int32.ofInt a1)), (2, .int (Int32.ofInt a2)), (3, .int (Int32.ofInt a3))] := hl
  have hret : ∀ (σ : ZS) (H : Heap) (locs : List Loc) (ls : Array Slot) (pc : Nat), Q σ → va_P D vwC (zR dA ad σ) H → va_D A (zR dA ad σ) → va_S A s.heap H locs → decode cX11_use pc = .ok (.return_, 1) → W p l e (gR 1 0 0) s m #[.ref (ad 0 1000), .int (Int32.ofInt a1), .int (Int32.ofInt a2), .int (Int32.ofInt a3)] below meth c H locs 0 0 (MQ below (va_Qv Q (gAt D dA A (zR dA ad)) A) #[.ref (ad 0 1000), .int (Int32.ofInt a1), .int (Int32.ofInt a2), .int (Int32.ofInt a3)] s 0 0 A) (F0 m pc ls []) := fun σ H locs ls pc hw hP hD hS hd => g_vret hx hb hr hlocks hK σ hP hD hS hw (Nat.le_of_ble_eq_true rfl) (Nat.le_of_ble_eq_true rfl) hd
  generalize MQ below (va_Qv Q (gAt D dA A (zR dA ad)) A) #[.ref (ad 0 1000), .int (Int32.ofInt a1), .int (Int32.ofInt a2), .int (Int32.ofInt a3)] s 0 0 A = QQ at hret ⊢
  unfold wpX11_use at hw
  refine lv_aload_n hx hb dX11_use_0 rfl (lv_at hl 0 rfl) ?_
  refine zgR0_19 hx hb hg hown hK hP q1634 dX11_use_1 ?_
  refine lv_aload_n hx hb dX11_use_4 rfl (lv_at hl 0 rfl) ?_
  refine zgR0_23 hx hb hg hown hK hP q1638 dX11_use_5 ?_
  refine lv_iload_n hx hb dX11_use_8 rfl (lv_at hl 1 rfl) ?_
  obtain ⟨o1, hw⟩ := hw
  refine zsR0_19 (v := a1) hx hb o1 hK hP hD hS dX11_use_9 (fun H locs hP hD hS => ?_)
  refine lv_aload_n hx hb dX11_use_10 rfl (lv_at hl 0 rfl) ?_
  refine zgR0_20 hx hb hg hown hK hP q1635 dX11_use_11 ?_
  refine lv_aload_n hx hb dX11_use_14 rfl (lv_at hl 0 rfl) ?_
  refine zgR0_23 hx hb hg hown hK hP q1638 dX11_use_15 ?_
  refine g_nrm (y := Int32.ofInt (zI σ 0 23)) rfl ?_
  refine lv_iload_n hx hb dX11_use_18 rfl (lv_at hl 2 rfl) ?_
  refine zsR0_20 (v := a2) hx hb o1 hK hP hD hS dX11_use_19 (fun H locs hP hD hS => ?_)
  refine lv_aload_n hx hb dX11_use_20 rfl (lv_at hl 0 rfl) ?_
  refine zgR0_21 hx hb hg hown hK hP q1636 dX11_use_21 ?_
  refine lv_aload_n hx hb dX11_use_24 rfl (lv_at hl 0 rfl) ?_
  refine zgR0_23 hx hb hg hown hK hP q1638 dX11_use_25 ?_
  refine g_nrm (y := Int32.ofInt (zI σ 0 23)) rfl ?_
  refine lv_iload_n hx hb dX11_use_28 rfl (lv_at hl 3 rfl) ?_
  refine zsR0_21 (v := a3) hx hb o1 hK hP hD hS dX11_use_29 (fun H locs hP hD hS => ?_)
  refine lv_aload_n hx hb dX11_use_30 rfl (lv_at hl 0 rfl) ?_
  refine zgR0_22 hx hb hg hown hK hP q1637 dX11_use_31 ?_
  refine lv_aload_n hx hb dX11_use_34 rfl (lv_at hl 0 rfl) ?_
  refine zgR0_23 hx hb hg hown hK hP q1638 dX11_use_35 ?_
  refine g_nrm (y := Int32.ofInt (zI σ 0 23)) rfl ?_
  refine lv_aload_n hx hb dX11_use_38 rfl (lv_at hl 0 rfl) ?_
  refine zgR0_32 hx hb hg hown hK hP q1647 dX11_use_39 ?_
  refine g_nrm (y := Int32.ofInt (zI σ 0 32)) rfl ?_
  refine zsR0_22 (v := (zI σ 0 32)) hx hb o1 hK hP hD hS dX11_use_42 (fun H locs hP hD hS => ?_)
  refine lv_aload_n hx hb dX11_use_43 rfl (lv_at hl 0 rfl) ?_
  refine lv_dup hx hb dX11_use_44 rfl ?_
  refine zgR0_23 hx hb hg hown hK hP q1638 dX11_use_45 ?_
  refine g_nrm (y := Int32.ofInt (zI σ 0 23)) rfl ?_
  refine lv_iconst (v := Int32.ofInt 1) hx hb dX11_use_48 (by decide) ?_
  refine z_iadd hx hb dX11_use_49 ?_
  refine zpR0_23 (v := ((zI σ 0 23) + 1)) hx hb hg hown hK hP hD hS q1638 dX11_use_50 (fun H locs hP hD hS => ?_)
  exact hret (zsI (zsA (zsA (zsA (zsA σ 0 19 (zI σ 0 23) a1) 0 20 (zI σ 0 23) a2) 0 21 (zI σ 0 23) a3) 0 22 (zI σ 0 23) (zI σ 0 32)) 0 23 ((zI σ 0 23) + 1)) _ _ _ _ hw hP hD hS dX11_use_53
def wpX11_piece (a1 a2 a3 a4 : Int) (σ : ZS) (Q : ZS → Prop) : Prop := (0 ≤ (zI σ 0 31) ∧ (zI σ 0 31) < 1200) ∧ Q (zsI (zsA (zsA (zsA (zsA (zsA (zsA σ 0 24 (zI σ 0 31) a1) 0 25 (zI σ 0 31) a2) 0 26 (zI σ 0 31) a3) 0 27 (zI σ 0 31) a4) 0 28 (zI σ 0 31) (zI σ 0 32)) 0 30 (zI σ 0 31) 0) 0 31 ((zI σ 0 31) + 1))
set_option maxHeartbeats 4000000 in
set_option maxRecDepth 100000 in
theorem kX11_piece (l : Launch) (D : va_G) (dA : Nat → ClassId) (ad : Int → Nat → Nat) (a1 a2 a3 a4 : Int) (σ : ZS) (Q : ZS → Prop) (sz : Nat) (hw : wpX11_piece a1 a2 a3 a4 σ Q) : Met l yX11_piece (gws yX11_piece cX11_piece 5 none) (gR 1 0 0) (gPre D dA [.ref (ad 0 1000), .int (Int32.ofInt a1), .int (Int32.ofInt a2), .int (Int32.ofInt a3), .int (Int32.ofInt a4)] (zR dA ad σ) sz) (va_Qv Q (gAt D dA (va_A (zR dA ad σ) sz) (zR dA ad)) (va_A (zR dA ad σ) sz)) 0 0 (va_A (zR dA ad σ) sz) := by
  refine Met.ofW (cc := cX11_piece) (maxL := 5) (ret := none) (by decide) rfl ?_
  intro p e s m args below meth c s₁ B hml hv
  obtain ⟨rfl, hsz, hP, hK, hD0⟩ := hv
  have hx := B.exec
  have hb := B.bytes
  have hr := B.returns
  have hts := atoms_spec (ws := gws yX11_piece cX11_piece 5 none) B.pre
  have hg : ∀ w ∈ gw, w.before _ s = true := fun w h => hts w (List.mem_cons_of_mem _ h)
  have hown : s.vm.findClass RX11 = some m.cls := findClass_of_methodNamed B.named
  have hlocks := B.notSynchronized
  subst hsz
  have hD := hD0.self (sz := s.heap.size)
  generalize hAe : va_A (zR dA ad σ) s.heap.size = A at hD ⊢
  have hA : ∀ q : Nat, s.heap.size ≤ q → A q := fun q h => by rw [← hAe]; exact Or.inr h
  have hS : va_S A s.heap s.heap [] := va_S.rf
  have hl := lv_entry ([.ref (ad 0 1000), .int (Int32.ofInt a1), .int (Int32.ofInt a2), .int (Int32.ofInt a3), .int (Int32.ofInt a4)]) (n := 5) (Nat.le_of_ble_eq_true rfl)
  rw [lg_entry_eq]
  generalize (lg_sl ([.ref (ad 0 1000), .int (Int32.ofInt a1), .int (Int32.ofInt a2), .int (Int32.ofInt a3), .int (Int32.ofInt a4)]) ++ List.replicate (5 - (lg_sl ([.ref (ad 0 1000), .int (Int32.ofInt a1), .int (Int32.ofInt a2), .int (Int32.ofInt a3), .int (Int32.ofInt a4)])).length) Slot.unset).toArray = ls at hl ⊢
  have hl : lv_has ls 5 [(0, .ref (ad 0 1000)), (1, .int (Int32.ofInt a1)), (2, .int (Int32.ofInt a2)), (3, .int (Int32.ofInt a3)), (4, .int (Int32.ofInt a4))] := hl
  have hret : ∀ (σ : ZS) (H : Heap) (locs : List Loc) (ls : Array Slot) (pc : Nat), Q σ → va_P D vwC (zR dA ad σ) H → va_D A (zR dA ad σ) → va_S A s.heap H locs → decode cX11_piece pc = .ok (.return_, 1) → W p l e (gR 1 0 0) s m #[.ref (ad 0 1000), .int (Int32.ofInt a1), .int (Int32.ofInt a2), .int (Int32.ofInt a3), .int (Int32.ofInt a4)] below meth c H locs 0 0 (MQ below (va_Qv Q (gAt D dA A (zR dA ad)) A) #[.ref (ad 0 1000), .int (Int32.ofInt a1), .int (Int32.ofInt a2), .int (Int32.ofInt a3), .int (Int32.ofInt a4)] s 0 0 A) (F0 m pc ls []) := fun σ H locs ls pc hw hP hD hS hd => g_vret hx hb hr hlocks hK σ hP hD hS hw (Nat.le_of_ble_eq_true rfl) (Nat.le_of_ble_eq_true rfl) hd
  generalize MQ below (va_Qv Q (gAt D dA A (zR dA ad)) A) #[.ref (ad 0 1000), .int (Int32.ofInt a1), .int (Int32.ofInt a2), .int (Int32.ofInt a3), .int (Int32.ofInt a4)] s 0 0 A = QQ at hret ⊢
  unfold wpX11_piece at hw
  refine lv_aload_n hx hb dX11_piece_0 rfl (lv_at hl 0 rfl) ?_
  refine zgR0_24 hx hb hg hown hK hP q1639 dX11_piece_1 ?_
  refine lv_aload_n hx hb dX11_piece_4 rfl (lv_at hl 0 rfl) ?_
  refine zgR0_31 hx hb hg hown hK hP q1646 dX11_piece_5 ?_
  refine lv_iload_n hx hb dX11_piece_8 rfl (lv_at hl 1 rfl) ?_
  obtain ⟨o1, hw⟩ := hw
  refine zsR0_24 (v := a1) hx hb o1 hK hP hD hS dX11_piece_9 (fun H locs hP hD hS => ?_)
  refine lv_aload_n hx hb dX11_piece_10 rfl (lv_at hl 0 rfl) ?_
  refine zgR0_25 hx hb hg hown hK hP q1640 dX11_piece_11 ?_
  refine lv_aload_n hx hb dX11_piece_14 rfl (lv_at hl 0 rfl) ?_
  refine zgR0_31 hx hb hg hown hK hP q1646 dX11_piece_15 ?_
  refine g_nrm (y := Int32.ofInt (zI σ 0 31)) rfl ?_
  refine lv_iload_n hx hb dX11_piece_18 rfl (lv_at hl 2 rfl) ?_
  refine zsR0_25 (v := a2) hx hb o1 hK hP hD hS dX11_piece_19 (fun H locs hP hD hS => ?_)
  refine lv_aload_n hx hb dX11_piece_20 rfl (lv_at hl 0 rfl) ?_
  refine zgR0_26 hx hb hg hown hK hP q1641 dX11_piece_21 ?_
  refine lv_aload_n hx hb dX11_piece_24 rfl (lv_at hl 0 rfl) ?_
  refine zgR0_31 hx hb hg hown hK hP q1646 dX11_piece_25 ?_
  refine g_nrm (y := Int32.ofInt (zI σ 0 31)) rfl ?_
  refine lv_iload_n hx hb dX11_piece_28 rfl (lv_at hl 3 rfl) ?_
  refine zsR0_26 (v := a3) hx hb o1 hK hP hD hS dX11_piece_29 (fun H locs hP hD hS => ?_)
  refine lv_aload_n hx hb dX11_piece_30 rfl (lv_at hl 0 rfl) ?_
  refine zgR0_27 hx hb hg hown hK hP q1642 dX11_piece_31 ?_
  refine lv_aload_n hx hb dX11_piece_34 rfl (lv_at hl 0 rfl) ?_
  refine zgR0_31 hx hb hg hown hK hP q1646 dX11_piece_35 ?_
  refine g_nrm (y := Int32.ofInt (zI σ 0 31)) rfl ?_
  refine lv_iload hx hb dX11_piece_38 (lv_at hl 4 rfl) ?_
  refine zsR0_27 (v := a4) hx hb o1 hK hP hD hS dX11_piece_40 (fun H locs hP hD hS => ?_)
  refine lv_aload_n hx hb dX11_piece_41 rfl (lv_at hl 0 rfl) ?_
  refine zgR0_28 hx hb hg hown hK hP q1643 dX11_piece_42 ?_
  refine lv_aload_n hx hb dX11_piece_45 rfl (lv_at hl 0 rfl) ?_
  refine zgR0_31 hx hb hg hown hK hP q1646 dX11_piece_46 ?_
  refine g_nrm (y := Int32.ofInt (zI σ 0 31)) rfl ?_
  refine lv_aload_n hx hb dX11_piece_49 rfl (lv_at hl 0 rfl) ?_
  refine zgR0_32 hx hb hg hown hK hP q1647 dX11_piece_50 ?_
  refine g_nrm (y := Int32.ofInt (zI σ 0 32)) rfl ?_
  refine zsR0_28 (v := (zI σ 0 32)) hx hb o1 hK hP hD hS dX11_piece_53 (fun H locs hP hD hS => ?_)
  refine lv_aload_n hx hb dX11_piece_54 rfl (lv_at hl 0 rfl) ?_
  refine zgR0_30 hx hb hg hown hK hP q1645 dX11_piece_55 ?_
  refine lv_aload_n hx hb dX11_piece_58 rfl (lv_at hl 0 rfl) ?_
  refine zgR0_31 hx hb hg hown hK hP q1646 dX11_piece_59 ?_
  refine g_nrm (y := Int32.ofInt (zI σ 0 31)) rfl ?_
  refine lv_iconst (v := Int32.ofInt 0) hx hb dX11_piece_62 (by decide) ?_
  refine zsR0_30 (v := 0) hx hb o1 (by decide) hK hP hD hS dX11_piece_63 (fun H locs hP hD hS => ?_)
  refine lv_aload_n hx hb dX11_piece_64 rfl (lv_at hl 0 rfl) ?_
  refine lv_dup hx hb dX11_piece_65 rfl ?_
  refine zgR0_31 hx hb hg hown hK hP q1646 dX11_piece_66 ?_
  refine g_nrm (y := Int32.ofInt (zI σ 0 31)) rfl ?_
  refine lv_iconst (v := Int32.ofInt 1) hx hb dX11_piece_69 (by decide) ?_
  refine z_iadd hx hb dX11_piece_70 ?_
  refine zpR0_31 (v := ((zI σ 0 31) + 1)) hx hb hg hown hK hP hD hS q1646 dX11_piece_71 (fun H locs hP hD hS => ?_)
  exact hret (zsI (zsA (zsA (zsA (zsA (zsA (zsA σ 0 24 (zI σ 0 31) a1) 0 25 (zI σ 0 31) a2) 0 26 (zI σ 0 31) a3) 0 27 (zI σ 0 31) a4) 0 28 (zI σ 0 31) (zI σ 0 32)) 0 30 (zI σ 0 31) 0) 0 31 ((zI σ 0 31) + 1)) _ _ _ _ hw hP hD hS dX11_piece_74
def wpX11_octet (a1 : Int) (σ : ZS) (Q : ZS → Prop) : Prop := wpX11_piece 0 a1 0 0 σ (fun (σ2 : ZS) => Q σ2)
set_option maxHeartbeats 4000000 in
set_option maxRecDepth 100000 in
theorem kX11_octet (l : Launch) (D : va_G) (dA : Nat → ClassId) (ad : Int → Nat → Nat) (a1 : Int) (σ : ZS) (Q : ZS → Prop) (sz : Nat) (hw : wpX11_octet a1 σ Q) : Met l yX11_octet (gws yX11_octet cX11_octet 2 none) (gR 2 0 0) (gPre D dA [.ref (ad 0 1000), .int (Int32.ofInt a1)] (zR dA ad σ) sz) (va_Qv Q (gAt D dA (va_A (zR dA ad σ) sz) (zR dA ad)) (va_A (zR dA ad σ) sz)) 0 0 (va_A (zR dA ad σ) sz) := by
  refine Met.ofW (cc := cX11_octet) (maxL := 2) (ret := none) (by decide) rfl ?_
  intro p e s m args below meth c s₁ B hml hv
  obtain ⟨rfl, hsz, hP, hK, hD0⟩ := hv
  have hx := B.exec
  have hb := B.bytes
  have hr := B.returns
  have hts := atoms_spec (ws := gws yX11_octet cX11_octet 2 none) B.pre
  have hg : ∀ w ∈ gw, w.before _ s = true := fun w h => hts w (List.mem_cons_of_mem _ h)
  have hown : s.vm.findClass RX11 = some m.cls := findClass_of_methodNamed B.named
  have hlocks := B.notSynchronized
  subst hsz
  have hD := hD0.self (sz := s.heap.size)
  generalize hAe : va_A (zR dA ad σ) s.heap.size = A at hD ⊢
  have hA : ∀ q : Nat, s.heap.size ≤ q → A q := fun q h => by rw [← hAe]; exact Or.inr h
  have hS : va_S A s.heap s.heap [] := va_S.rf
  have hl := lv_entry ([.ref (ad 0 1000), .int (Int32.ofInt a1)]) (n := 2) (Nat.le_of_ble_eq_true rfl)
  rw [lg_entry_eq]
  generalize (lg_sl ([.ref (ad 0 1000), .int (Int32.ofInt a1)]) ++ List.replicate (2 - (lg_sl ([.ref (ad 0 1000), .int (Int32.ofInt a1)])).length) Slot.unset).toArray = ls at hl ⊢
  have hl : lv_has ls 2 [(0, .ref (ad 0 1000)), (1, .int (Int32.ofInt a1))] := hl
  have hret : ∀ (σ : ZS) (H : Heap) (locs : List Loc) (ls : Array Slot) (pc : Nat), Q σ → va_P D vwC (zR dA ad σ) H → va_D A (zR dA ad σ) → va_S A s.heap H locs → decode cX11_octet pc = .ok (.return_, 1) → W p l e (gR 2 0 0) s m #[.ref (ad 0 1000), .int (Int32.ofInt a1)] below meth c H locs 0 0 (MQ below (va_Qv Q (gAt D dA A (zR dA ad)) A) #[.ref (ad 0 1000), .int (Int32.ofInt a1)] s 0 0 A) (F0 m pc ls []) := fun σ H locs ls pc hw hP hD hS hd => g_vret hx hb hr hlocks hK σ hP hD hS hw (Nat.le_of_ble_eq_true rfl) (Nat.le_of_ble_eq_true rfl) hd
  generalize MQ below (va_Qv Q (gAt D dA A (zR dA ad)) A) #[.ref (ad 0 1000), .int (Int32.ofInt a1)] s 0 0 A = QQ at hret ⊢
  unfold wpX11_octet at hw
  refine lv_aload_n hx hb dX11_octet_0 rfl (lv_at hl 0 rfl) ?_
  refine lv_iconst (v := Int32.ofInt 0) hx hb dX11_octet_1 (by decide) ?_
  refine lv_iload_n hx hb dX11_octet_2 rfl (lv_at hl 1 rfl) ?_
  refine lv_iconst (v := Int32.ofInt 0) hx hb dX11_octet_3 (by decide) ?_
  refine lv_iconst (v := Int32.ofInt 0) hx hb dX11_octet_4 (by decide) ?_
  refine z_Vv (n := 4) (As := [.int (Int32.ofInt 0), .int (Int32.ofInt a1), .int (Int32.ofInt 0), .int (Int32.ofInt 0)]) (rest := []) hx hb hml hg hown hK hP hD hS hA (kX11_piece l D dA ad 0 a1 0 0 σ _ _ hw) (zoR0) rfl q1939 q160 q1936 q1938 q88 (by decide +kernel) ⟨(Nat.le_of_ble_eq_true rfl), (Nat.le_of_ble_eq_true rfl)⟩ rfl hl.1 rfl (Nat.le_of_ble_eq_true rfl) dX11_octet_5 ⟨(Nat.le_of_ble_eq_true rfl), (Nat.le_of_ble_eq_true rfl)⟩ (fun σ2 H locs hw hP hD hS => ?_)
  exact hret σ2 _ _ _ _ hw hP hD hS dX11_octet_8
