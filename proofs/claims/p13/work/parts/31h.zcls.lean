theorem q47 : Cond.selects RX3 yX3_placeOf yX3_placeOf ∈ gw := gw_in (i := 47) (by decide +kernel) rfl
theorem q48 : Cond.selects RX3 yX3_solve yX3_solve ∈ gw := gw_in (i := 48) (by decide +kernel) rfl
theorem q49 : Cond.selects RX3 yX3_publicOffset yX3_publicOffset ∈ gw := gw_in (i := 49) (by decide +kernel) rfl
theorem q50 : Cond.selects RX4 yX4_word yX4_word ∈ gw := gw_in (i := 50) (by decide +kernel) rfl
theorem q51 : Cond.selects RX4 yX4_putWord yX4_putWord ∈ gw := gw_in (i := 51) (by decide +kernel) rfl
theorem q158 : Cond.initialized RX1 ∈ gw := gw_in (i := 158) (by decide +kernel) rfl
theorem q159 : Cond.initialized RX4 ∈ gw := gw_in (i := 159) (by decide +kernel) rfl
theorem q179 : Cond.initialized RJ10 ∈ gw := gw_in (i := 179) (by decide +kernel) rfl
theorem q413 : Cond.fieldLink RX3 116 "SegmentBench$ObjectModule" "segmentStart" "[I" ∈ gw := gw_in (i := 413) (by decide +kernel) rfl
theorem q416 : Cond.fieldLink RX3 113 "SegmentBench$ObjectModule" "bytes" "[I" ∈ gw := gw_in (i := 416) (by decide +kernel) rfl
theorem q428 : Cond.fieldLink RX3 142 "SegmentBench$ObjectModule" "fixupPlace" "[I" ∈ gw := gw_in (i := 428) (by decide +kernel) rfl
theorem q441 : Cond.fieldLink RX3 99 "SegmentBench$ObjectModule" "publicOffset" "[I" ∈ gw := gw_in (i := 441) (by decide +kernel) rfl
theorem q514 : Cond.fieldLink RX4 60 "SegmentBench$Image" "size" "I" ∈ gw := gw_in (i := 514) (by decide +kernel) rfl
theorem q517 : Cond.fieldLink RX4 65 "SegmentBench$Image" "bytes" "[I" ∈ gw := gw_in (i := 517) (by decide +kernel) rfl
theorem q519 : Cond.fieldLink RX3 119 "SegmentBench$Image" "bytes" "[I" ∈ gw := gw_in (i := 519) (by decide +kernel) rfl
theorem q521 : Cond.fieldLink RX4 68 "SegmentBench$Image" "relocations" "I" ∈ gw := gw_in (i := 521) (by decide +kernel) rfl
theorem q523 : Cond.fieldLink RX1 28 "SegmentBench$Image" "relocation" "[I" ∈ gw := gw_in (i := 523) (by decide +kernel) rfl
theorem q524 : Cond.fieldLink RX4 71 "SegmentBench$Image" "relocation" "[I" ∈ gw := gw_in (i := 524) (by decide +kernel) rfl
theorem q526 : Cond.fieldLink RX4 82 "SegmentBench$Image" "mainParagraph" "I" ∈ gw := gw_in (i := 526) (by decide +kernel) rfl
theorem q527 : Cond.fieldLink RX3 134 "SegmentBench$Image" "mainParagraph" "I" ∈ gw := gw_in (i := 527) (by decide +kernel) rfl
theorem q529 : Cond.fieldLink RX4 85 "SegmentBench$Image" "mainOffset" "I" ∈ gw := gw_in (i := 529) (by decide +kernel) rfl
theorem q530 : Cond.fieldLink RX3 139 "SegmentBench$Image" "mainOffset" "I" ∈ gw := gw_in (i := 530) (by decide +kernel) rfl
theorem q552 : Cond.fieldLink RX4 9 "SegmentBench$Machine" "cells" "[I" ∈ gw := gw_in (i := 552) (by decide +kernel) rfl
theorem q554 : Cond.fieldLink RX4 13 "SegmentBench$Machine" "general" "[I" ∈ gw := gw_in (i := 554) (by decide +kernel) rfl
theorem q556 : Cond.fieldLink RX4 16 "SegmentBench$Machine" "segment" "[I" ∈ gw := gw_in (i := 556) (by decide +kernel) rfl
theorem q558 : Cond.fieldLink RX4 26 "SegmentBench$Machine" "ip" "I" ∈ gw := gw_in (i := 558) (by decide +kernel) rfl
theorem q560 : Cond.fieldLink RX4 30 "SegmentBench$Machine" "carry" "I" ∈ gw := gw_in (i := 560) (by decide +kernel) rfl
theorem q562 : Cond.fieldLink RX4 33 "SegmentBench$Machine" "zero" "I" ∈ gw := gw_in (i := 562) (by decide +kernel) rfl
theorem q564 : Cond.fieldLink RX4 36 "SegmentBench$Machine" "sign" "I" ∈ gw := gw_in (i := 564) (by decide +kernel) rfl
theorem q566 : Cond.fieldLink RX4 22 "SegmentBench$Machine" "halted" "Z" ∈ gw := gw_in (i := 566) (by decide +kernel) rfl
theorem q568 : Cond.fieldLink RX4 39 "SegmentBench$Machine" "done" "I" ∈ gw := gw_in (i := 568) (by decide +kernel) rfl
theorem q570 : Cond.fieldLink RX4 42 "SegmentBench$Machine" "ints" "I" ∈ gw := gw_in (i := 570) (by decide +kernel) rfl
theorem q1333 : Cond.methodLink RX3 108 yX1_begin ∈ gw := gw_in (i := 1333) (by decide +kernel) rfl
theorem q1334 : Cond.instanceMethod yX1_begin ∈ gw := gw_in (i := 1334) (by decide +kernel) rfl
theorem q1335 : Cond.selects RX1 yX1_begin yX1_begin ∈ gw := gw_in (i := 1335) (by decide +kernel) rfl
theorem q1336 : Cond.code yX1_begin cX1_begin 2 none ∈ gw := gw_in (i := 1336) (by decide +kernel) rfl
theorem q1338 : Cond.methodLink RX3 120 yX3_placeOf ∈ gw := gw_in (i := 1338) (by decide +kernel) rfl
theorem q1340 : Cond.instanceMethod yX3_placeOf ∈ gw := gw_in (i := 1340) (by decide +kernel) rfl
theorem q1341 : Cond.code yX3_placeOf cX3_placeOf 2 (some .int) ∈ gw := gw_in (i := 1341) (by decide +kernel) rfl
theorem q1342 : Cond.methodLink RX3 124 arraycopyName ∈ gw := gw_in (i := 1342) (by decide +kernel) rfl
theorem q1343 : Cond.static arraycopyName ∈ gw := gw_in (i := 1343) (by decide +kernel) rfl
theorem q1344 : Cond.native arraycopyName ∈ gw := gw_in (i := 1344) (by decide +kernel) rfl
theorem q1345 : Cond.methodLink RX3 130 yX3_solve ∈ gw := gw_in (i := 1345) (by decide +kernel) rfl
theorem q1347 : Cond.instanceMethod yX3_solve ∈ gw := gw_in (i := 1347) (by decide +kernel) rfl
theorem q1348 : Cond.code yX3_solve cX3_solve 11 none ∈ gw := gw_in (i := 1348) (by decide +kernel) rfl
theorem q1349 : Cond.methodLink RX3 145 yX1_addWord ∈ gw := gw_in (i := 1349) (by decide +kernel) rfl
theorem q1350 : Cond.instanceMethod yX1_addWord ∈ gw := gw_in (i := 1350) (by decide +kernel) rfl
theorem q1351 : Cond.selects RX1 yX1_addWord yX1_addWord ∈ gw := gw_in (i := 1351) (by decide +kernel) rfl
theorem q1352 : Cond.code yX1_addWord cX1_addWord 4 none ∈ gw := gw_in (i := 1352) (by decide +kernel) rfl
theorem q1353 : Cond.methodLink RX3 148 yX1_addRelocation ∈ gw := gw_in (i := 1353) (by decide +kernel) rfl
theorem q1354 : Cond.instanceMethod yX1_addRelocation ∈ gw := gw_in (i := 1354) (by decide +kernel) rfl
theorem q1355 : Cond.selects RX1 yX1_addRelocation yX1_addRelocation ∈ gw := gw_in (i := 1355) (by decide +kernel) rfl
theorem q1356 : Cond.code yX1_addRelocation cX1_addRelocation 2 none ∈ gw := gw_in (i := 1356) (by decide +kernel) rfl
theorem q1357 : Cond.methodLink RX3 137 yX3_publicOffset ∈ gw := gw_in (i := 1357) (by decide +kernel) rfl
theorem q1359 : Cond.instanceMethod yX3_publicOffset ∈ gw := gw_in (i := 1359) (by decide +kernel) rfl
theorem q1360 : Cond.code yX3_publicOffset cX3_publicOffset 4 (some .int) ∈ gw := gw_in (i := 1360) (by decide +kernel) rfl
theorem q1374 : Cond.methodLink RX4 54 yJ7_fill_53178 ∈ gw := gw_in (i := 1374) (by decide +kernel) rfl
theorem q1375 : Cond.methodLink RX4 74 yX4_word ∈ gw := gw_in (i := 1375) (by decide +kernel) rfl
theorem q1377 : Cond.instanceMethod yX4_word ∈ gw := gw_in (i := 1377) (by decide +kernel) rfl
theorem q1378 : Cond.code yX4_word cX4_word 2 (some .int) ∈ gw := gw_in (i := 1378) (by decide +kernel) rfl
theorem q1379 : Cond.methodLink RX4 78 yX4_putWord ∈ gw := gw_in (i := 1379) (by decide +kernel) rfl
theorem q1381 : Cond.instanceMethod yX4_putWord ∈ gw := gw_in (i := 1381) (by decide +kernel) rfl
theorem q1382 : Cond.code yX4_putWord cX4_putWord 3 none ∈ gw := gw_in (i := 1382) (by decide +kernel) rfl
theorem q1400 : Cond.constant RX4 95 (65535) ∈ gw := gw_in (i := 1400) (by decide +kernel) rfl
theorem dX3_placeOf_0 : decode cX3_placeOf 0 = .ok (.aload_n 0, 1) := by decide +kernel
theorem dX3_placeOf_1 : decode cX3_placeOf 1 = .ok (.getfield 23, 3) := by decide +kernel
theorem dX3_placeOf_4 : decode cX3_placeOf 4 = .ok (.aload_n 0, 1) := by decide +kernel
theorem dX3_placeOf_5 : decode cX3_placeOf 5 = .ok (.getfield 30, 3) := by decide +kernel
theorem dX3_placeOf_8 : decode cX3_placeOf 8 = .ok (.iload_n 1, 1) := by decide +kernel
theorem dX3_placeOf_9 : decode cX3_placeOf 9 = .ok (.iaload, 1) := by decide +kernel
theorem dX3_placeOf_10 : decode cX3_placeOf 10 = .ok (.iaload, 1) := by decide +kernel
theorem dX3_placeOf_11 : decode cX3_placeOf 11 = .ok (.aload_n 0, 1) := by decide +kernel
theorem dX3_placeOf_12 : decode cX3_placeOf 12 = .ok (.getfield 33, 3) := by decide +kernel
theorem dX3_placeOf_15 : decode cX3_placeOf 15 = .ok (.iload_n 1, 1) := by decide +kernel
theorem dX3_placeOf_16 : decode cX3_placeOf 16 = .ok (.iaload, 1) := by decide +kernel
theorem dX3_placeOf_17 : decode cX3_placeOf 17 = .ok (.iadd, 1) := by decide +kernel
theorem dX3_placeOf_18 : decode cX3_placeOf 18 = .ok (.ireturn, 1) := by decide +kernel
theorem dX1_addWord_0 : decode cX1_addWord 0 = .ok (.iload_n 1, 1) := by decide +kernel
theorem dX1_addWord_1 : decode cX1_addWord 1 = .ok (.ifCond .lt 61, 3) := by decide +kernel
theorem dX1_addWord_4 : decode cX1_addWord 4 = .ok (.iload_n 1, 1) := by decide +kernel
theorem dX1_addWord_5 : decode cX1_addWord 5 = .ok (.iconst 1, 1) := by decide +kernel
theorem dX1_addWord_6 : decode cX1_addWord 6 = .ok (.iadd, 1) := by decide +kernel
theorem dX1_addWord_7 : decode cX1_addWord 7 = .ok (.sipush 1200, 3) := by decide +kernel
theorem dX1_addWord_10 : decode cX1_addWord 10 = .ok (.if_icmp .ge 52, 3) := by decide +kernel
theorem dX1_addWord_13 : decode cX1_addWord 13 = .ok (.aload_n 0, 1) := by decide +kernel
theorem dX1_addWord_14 : decode cX1_addWord 14 = .ok (.getfield 21, 3) := by decide +kernel
theorem dX1_addWord_17 : decode cX1_addWord 17 = .ok (.iload_n 1, 1) := by decide +kernel
theorem dX1_addWord_18 : decode cX1_addWord 18 = .ok (.iaload, 1) := by decide +kernel
theorem dX1_addWord_19 : decode cX1_addWord 19 = .ok (.sipush 256, 3) := by decide +kernel
theorem dX1_addWord_22 : decode cX1_addWord 22 = .ok (.aload_n 0, 1) := by decide +kernel
theorem dX1_addWord_23 : decode cX1_addWord 23 = .ok (.getfield 21, 3) := by decide +kernel
theorem dX1_addWord_26 : decode cX1_addWord 26 = .ok (.iload_n 1, 1) := by decide +kernel
theorem dX1_addWord_27 : decode cX1_addWord 27 = .ok (.iconst 1, 1) := by decide +kernel
theorem dX1_addWord_28 : decode cX1_addWord 28 = .ok (.iadd, 1) := by decide +kernel
theorem dX1_addWord_29 : decode cX1_addWord 29 = .ok (.iaload, 1) := by decide +kernel
theorem dX1_addWord_30 : decode cX1_addWord 30 = .ok (.imul, 1) := by decide +kernel
theorem dX1_addWord_31 : decode cX1_addWord 31 = .ok (.iadd, 1) := by decide +kernel
theorem dX1_addWord_32 : decode cX1_addWord 32 = .ok (.iload_n 2, 1) := by decide +kernel
theorem dX1_addWord_33 : decode cX1_addWord 33 = .ok (.iadd, 1) := by decide +kernel
theorem dX1_addWord_34 : decode cX1_addWord 34 = .ok (.istore_n 3, 1) := by decide +kernel
theorem dX1_addWord_35 : decode cX1_addWord 35 = .ok (.aload_n 0, 1) := by decide +kernel
theorem dX1_addWord_36 : decode cX1_addWord 36 = .ok (.getfield 21, 3) := by decide +kernel
theorem dX1_addWord_39 : decode cX1_addWord 39 = .ok (.iload_n 1, 1) := by decide +kernel
theorem dX1_addWord_40 : decode cX1_addWord 40 = .ok (.iload_n 3, 1) := by decide +kernel
theorem dX1_addWord_41 : decode cX1_addWord 41 = .ok (.sipush 255, 3) := by decide +kernel
theorem dX1_addWord_44 : decode cX1_addWord 44 = .ok (.iand, 1) := by decide +kernel
theorem dX1_addWord_45 : decode cX1_addWord 45 = .ok (.iastore, 1) := by decide +kernel
theorem dX1_addWord_46 : decode cX1_addWord 46 = .ok (.aload_n 0, 1) := by decide +kernel
theorem dX1_addWord_47 : decode cX1_addWord 47 = .ok (.getfield 21, 3) := by decide +kernel
theorem dX1_addWord_50 : decode cX1_addWord 50 = .ok (.iload_n 1, 1) := by decide +kernel
theorem dX1_addWord_51 : decode cX1_addWord 51 = .ok (.iconst 1, 1) := by decide +kernel
theorem dX1_addWord_52 : decode cX1_addWord 52 = .ok (.iadd, 1) := by decide +kernel
theorem dX1_addWord_53 : decode cX1_addWord 53 = .ok (.iload_n 3, 1) := by decide +kernel
theorem dX1_addWord_54 : decode cX1_addWord 54 = .ok (.bipush 8, 2) := by decide +kernel
theorem dX1_addWord_56 : decode cX1_addWord 56 = .ok (.ishr, 1) := by decide +kernel
theorem dX1_addWord_57 : decode cX1_addWord 57 = .ok (.sipush 255, 3) := by decide +kernel
theorem dX1_addWord_60 : decode cX1_addWord 60 = .ok (.iand, 1) := by decide +kernel
theorem dX1_addWord_61 : decode cX1_addWord 61 = .ok (.iastore, 1) := by decide +kernel
theorem dX1_addWord_62 : decode cX1_addWord 62 = .ok (.return_, 1) := by decide +kernel
theorem dX1_addRelocation_0 : decode cX1_addRelocation 0 = .ok (.aload_n 0, 1) := by decide +kernel
theorem dX1_addRelocation_1 : decode cX1_addRelocation 1 = .ok (.getfield 25, 3) := by decide +kernel
theorem dX1_addRelocation_4 : decode cX1_addRelocation 4 = .ok (.sipush 600, 3) := by decide +kernel
theorem dX1_addRelocation_7 : decode cX1_addRelocation 7 = .ok (.if_icmp .ge 23, 3) := by decide +kernel
theorem dX1_addRelocation_10 : decode cX1_addRelocation 10 = .ok (.aload_n 0, 1) := by decide +kernel
theorem dX1_addRelocation_11 : decode cX1_addRelocation 11 = .ok (.getfield 28, 3) := by decide +kernel
theorem dX1_addRelocation_14 : decode cX1_addRelocation 14 = .ok (.aload_n 0, 1) := by decide +kernel
theorem dX1_addRelocation_15 : decode cX1_addRelocation 15 = .ok (.getfield 25, 3) := by decide +kernel
theorem dX1_addRelocation_18 : decode cX1_addRelocation 18 = .ok (.iload_n 1, 1) := by decide +kernel
theorem dX1_addRelocation_19 : decode cX1_addRelocation 19 = .ok (.iastore, 1) := by decide +kernel
theorem dX1_addRelocation_20 : decode cX1_addRelocation 20 = .ok (.aload_n 0, 1) := by decide +kernel
theorem dX1_addRelocation_21 : decode cX1_addRelocation 21 = .ok (.dup, 1) := by decide +kernel
theorem dX1_addRelocation_22 : decode cX1_addRelocation 22 = .ok (.getfield 25, 3) := by decide +kernel
theorem dX1_addRelocation_25 : decode cX1_addRelocation 25 = .ok (.iconst 1, 1) := by decide +kernel
theorem dX1_addRelocation_26 : decode cX1_addRelocation 26 = .ok (.iadd, 1) := by decide +kernel
theorem dX1_addRelocation_27 : decode cX1_addRelocation 27 = .ok (.putfield 25, 3) := by decide +kernel
theorem dX1_addRelocation_30 : decode cX1_addRelocation 30 = .ok (.return_, 1) := by decide +kernel
theorem dX3_publicOffset_0 : decode cX3_publicOffset 0 = .ok (.aload_n 0, 1) := by decide +kernel
theorem dX3_publicOffset_1 : decode cX3_publicOffset 1 = .ok (.lload_n 1, 1) := by decide +kernel
theorem dX3_publicOffset_2 : decode cX3_publicOffset 2 = .ok (.iconst 3, 1) := by decide +kernel
theorem dX3_publicOffset_3 : decode cX3_publicOffset 3 = .ok (.invokevirtual 48, 3) := by decide +kernel
theorem dX3_publicOffset_6 : decode cX3_publicOffset 6 = .ok (.istore_n 3, 1) := by decide +kernel
theorem dX3_publicOffset_7 : decode cX3_publicOffset 7 = .ok (.iload_n 3, 1) := by decide +kernel
theorem dX3_publicOffset_8 : decode cX3_publicOffset 8 = .ok (.ifCond .ge 5, 3) := by decide +kernel
theorem dX3_publicOffset_13 : decode cX3_publicOffset 13 = .ok (.aload_n 0, 1) := by decide +kernel
theorem dX3_publicOffset_14 : decode cX3_publicOffset 14 = .ok (.getfield 33, 3) := by decide +kernel
theorem dX3_publicOffset_17 : decode cX3_publicOffset 17 = .ok (.aload_n 0, 1) := by decide +kernel
theorem dX3_publicOffset_18 : decode cX3_publicOffset 18 = .ok (.lload_n 1, 1) := by decide +kernel
theorem dX3_publicOffset_19 : decode cX3_publicOffset 19 = .ok (.invokevirtual 96, 3) := by decide +kernel
theorem dX3_publicOffset_22 : decode cX3_publicOffset 22 = .ok (.iaload, 1) := by decide +kernel
theorem dX3_publicOffset_23 : decode cX3_publicOffset 23 = .ok (.aload_n 0, 1) := by decide +kernel
theorem dX3_publicOffset_24 : decode cX3_publicOffset 24 = .ok (.getfield 9, 3) := by decide +kernel
theorem dX3_publicOffset_27 : decode cX3_publicOffset 27 = .ok (.iload_n 3, 1) := by decide +kernel
theorem dX3_publicOffset_28 : decode cX3_publicOffset 28 = .ok (.aaload, 1) := by decide +kernel
theorem dX3_publicOffset_29 : decode cX3_publicOffset 29 = .ok (.getfield 99, 3) := by decide +kernel
theorem dX3_publicOffset_32 : decode cX3_publicOffset 32 = .ok (.aload_n 0, 1) := by decide +kernel
theorem dX3_publicOffset_33 : decode cX3_publicOffset 33 = .ok (.getfield 9, 3) := by decide +kernel
theorem dX3_publicOffset_36 : decode cX3_publicOffset 36 = .ok (.iload_n 3, 1) := by decide +kernel
theorem dX3_publicOffset_37 : decode cX3_publicOffset 37 = .ok (.aaload, 1) := by decide +kernel
theorem dX3_publicOffset_38 : decode cX3_publicOffset 38 = .ok (.lload_n 1, 1) := by decide +kernel
theorem dX3_publicOffset_39 : decode cX3_publicOffset 39 = .ok (.invokevirtual 42, 3) := by decide +kernel
theorem dX3_publicOffset_42 : decode cX3_publicOffset 42 = .ok (.iaload, 1) := by decide +kernel
theorem dX3_publicOffset_43 : decode cX3_publicOffset 43 = .ok (.iadd, 1) := by decide +kernel
theorem dX3_publicOffset_44 : decode cX3_publicOffset 44 = .ok (.ireturn, 1) := by decide +kernel
theorem dX3_publicOffset_11 : decode cX3_publicOffset 11 = .ok (.iconst 0, 1) := by decide +kernel
theorem dX3_publicOffset_12 : decode cX3_publicOffset 12 = .ok (.ireturn, 1) := by decide +kernel
theorem dX3_solve_0 : decode cX3_solve 0 = .ok (.aload_n 0, 1) := by decide +kernel
theorem dX3_solve_1 : decode cX3_solve 1 = .ok (.getfield 9, 3) := by decide +kernel
theorem dX3_solve_4 : decode cX3_solve 4 = .ok (.iload_n 2, 1) := by decide +kernel
theorem dX3_solve_5 : decode cX3_solve 5 = .ok (.aaload, 1) := by decide +kernel
theorem dX3_solve_6 : decode cX3_solve 6 = .ok (.astore 4, 2) := by decide +kernel
theorem dX3_solve_8 : decode cX3_solve 8 = .ok (.aload 4, 2) := by decide +kernel
theorem dX3_solve_10 : decode cX3_solve 10 = .ok (.getfield 61, 3) := by decide +kernel
theorem dX3_solve_13 : decode cX3_solve 13 = .ok (.iload_n 3, 1) := by decide +kernel
theorem dX3_solve_14 : decode cX3_solve 14 = .ok (.iaload, 1) := by decide +kernel
theorem dX3_solve_15 : decode cX3_solve 15 = .ok (.ifCond .ge 7, 3) := by decide +kernel
theorem dX3_solve_22 : decode cX3_solve 22 = .ok (.iconst 0, 1) := by decide +kernel
theorem dX3_solve_18 : decode cX3_solve 18 = .ok (.iconst 1, 1) := by decide +kernel
theorem dX3_solve_19 : decode cX3_solve 19 = .ok (.goto 4, 3) := by decide +kernel
theorem dX3_solve_23 : decode cX3_solve 23 = .ok (.istore 5, 2) := by decide +kernel
theorem dX3_solve_25 : decode cX3_solve 25 = .ok (.aload 4, 2) := by decide +kernel
theorem dX3_solve_27 : decode cX3_solve 27 = .ok (.getfield 64, 3) := by decide +kernel
theorem dX3_solve_30 : decode cX3_solve 30 = .ok (.iload_n 3, 1) := by decide +kernel
theorem dX3_solve_31 : decode cX3_solve 31 = .ok (.laload, 1) := by decide +kernel
theorem dX3_solve_32 : decode cX3_solve 32 = .ok (.lstore 6, 2) := by decide +kernel
theorem dX3_solve_34 : decode cX3_solve 34 = .ok (.iload_n 2, 1) := by decide +kernel
theorem dX3_solve_35 : decode cX3_solve 35 = .ok (.aload 4, 2) := by decide +kernel
theorem dX3_solve_37 : decode cX3_solve 37 = .ok (.getfield 105, 3) := by decide +kernel
theorem dX3_solve_40 : decode cX3_solve 40 = .ok (.iload_n 3, 1) := by decide +kernel
theorem dX3_solve_41 : decode cX3_solve 41 = .ok (.iaload, 1) := by decide +kernel
theorem dX3_solve_42 : decode cX3_solve 42 = .ok (.invokestatic 87, 3) := by decide +kernel
theorem dX3_solve_45 : decode cX3_solve 45 = .ok (.istore 8, 2) := by decide +kernel
theorem dX3_solve_47 : decode cX3_solve 47 = .ok (.iload 5, 2) := by decide +kernel
theorem dX3_solve_49 : decode cX3_solve 49 = .ok (.ifCond .eq 12, 3) := by decide +kernel
theorem dX3_solve_61 : decode cX3_solve 61 = .ok (.iload_n 2, 1) := by decide +kernel
theorem dX3_solve_62 : decode cX3_solve 62 = .ok (.aload 4, 2) := by decide +kernel
theorem dX3_solve_64 : decode cX3_solve 64 = .ok (.getfield 61, 3) := by decide +kernel
theorem dX3_solve_67 : decode cX3_solve 67 = .ok (.iload_n 3, 1) := by decide +kernel
theorem dX3_solve_68 : decode cX3_solve 68 = .ok (.iaload, 1) := by decide +kernel
theorem dX3_solve_69 : decode cX3_solve 69 = .ok (.invokestatic 87, 3) := by decide +kernel
theorem dX3_solve_52 : decode cX3_solve 52 = .ok (.aload_n 0, 1) := by decide +kernel
theorem dX3_solve_53 : decode cX3_solve 53 = .ok (.lload 6, 2) := by decide +kernel
theorem dX3_solve_55 : decode cX3_solve 55 = .ok (.invokevirtual 96, 3) := by decide +kernel
theorem dX3_solve_58 : decode cX3_solve 58 = .ok (.goto 14, 3) := by decide +kernel
theorem dX3_solve_72 : decode cX3_solve 72 = .ok (.istore 9, 2) := by decide +kernel
theorem dX3_solve_74 : decode cX3_solve 74 = .ok (.aload_n 0, 1) := by decide +kernel
theorem dX3_solve_75 : decode cX3_solve 75 = .ok (.iload 8, 2) := by decide +kernel
theorem dX3_solve_77 : decode cX3_solve 77 = .ok (.invokevirtual 120, 3) := by decide +kernel
theorem dX3_solve_80 : decode cX3_solve 80 = .ok (.aload 4, 2) := by decide +kernel
theorem dX3_solve_82 : decode cX3_solve 82 = .ok (.getfield 142, 3) := by decide +kernel
theorem dX3_solve_85 : decode cX3_solve 85 = .ok (.iload_n 3, 1) := by decide +kernel
theorem dX3_solve_86 : decode cX3_solve 86 = .ok (.iaload, 1) := by decide +kernel
theorem dX3_solve_87 : decode cX3_solve 87 = .ok (.iadd, 1) := by decide +kernel
theorem dX3_solve_88 : decode cX3_solve 88 = .ok (.istore 10, 2) := by decide +kernel
theorem dX3_solve_90 : decode cX3_solve 90 = .ok (.aload 4, 2) := by decide +kernel
theorem dX3_solve_92 : decode cX3_solve 92 = .ok (.getfield 102, 3) := by decide +kernel
theorem dX3_solve_95 : decode cX3_solve 95 = .ok (.iload_n 3, 1) := by decide +kernel
theorem dX3_solve_96 : decode cX3_solve 96 = .ok (.iaload, 1) := by decide +kernel
theorem dX3_solve_97 : decode cX3_solve 97 = .ok (.iconst 1, 1) := by decide +kernel
theorem dX3_solve_98 : decode cX3_solve 98 = .ok (.if_icmp .ne 33, 3) := by decide +kernel
theorem dX3_solve_131 : decode cX3_solve 131 = .ok (.aload 4, 2) := by decide +kernel
theorem dX3_solve_133 : decode cX3_solve 133 = .ok (.getfield 102, 3) := by decide +kernel
theorem dX3_solve_136 : decode cX3_solve 136 = .ok (.iload_n 3, 1) := by decide +kernel
theorem dX3_solve_137 : decode cX3_solve 137 = .ok (.iaload, 1) := by decide +kernel
theorem dX3_solve_138 : decode cX3_solve 138 = .ok (.iconst 2, 1) := by decide +kernel
theorem dX3_solve_139 : decode cX3_solve 139 = .ok (.if_icmp .ne 36, 3) := by decide +kernel
theorem dX3_solve_175 : decode cX3_solve 175 = .ok (.aload_n 1, 1) := by decide +kernel
theorem dX3_solve_176 : decode cX3_solve 176 = .ok (.iload 10, 2) := by decide +kernel
theorem dX3_solve_178 : decode cX3_solve 178 = .ok (.iload 5, 2) := by decide +kernel
theorem dX3_solve_180 : decode cX3_solve 180 = .ok (.ifCond .eq 12, 3) := by decide +kernel
theorem dX3_solve_192 : decode cX3_solve 192 = .ok (.aload_n 0, 1) := by decide +kernel
theorem dX3_solve_193 : decode cX3_solve 193 = .ok (.getfield 33, 3) := by decide +kernel
theorem dX3_solve_196 : decode cX3_solve 196 = .ok (.iload 9, 2) := by decide +kernel
theorem dX3_solve_198 : decode cX3_solve 198 = .ok (.iaload, 1) := by decide +kernel
theorem dX3_solve_183 : decode cX3_solve 183 = .ok (.aload_n 0, 1) := by decide +kernel
theorem dX3_solve_184 : decode cX3_solve 184 = .ok (.lload 6, 2) := by decide +kernel
theorem dX3_solve_186 : decode cX3_solve 186 = .ok (.invokevirtual 137, 3) := by decide +kernel
theorem dX3_solve_189 : decode cX3_solve 189 = .ok (.goto 10, 3) := by decide +kernel
theorem dX3_solve_142 : decode cX3_solve 142 = .ok (.aload_n 1, 1) := by decide +kernel
theorem dX3_solve_143 : decode cX3_solve 143 = .ok (.iload 10, 2) := by decide +kernel
theorem dX3_solve_145 : decode cX3_solve 145 = .ok (.aload_n 0, 1) := by decide +kernel
theorem dX3_solve_146 : decode cX3_solve 146 = .ok (.lload 6, 2) := by decide +kernel
theorem dX3_solve_148 : decode cX3_solve 148 = .ok (.invokevirtual 137, 3) := by decide +kernel
theorem dX3_solve_151 : decode cX3_solve 151 = .ok (.aload_n 0, 1) := by decide +kernel
theorem dX3_solve_152 : decode cX3_solve 152 = .ok (.getfield 33, 3) := by decide +kernel
theorem dX3_solve_155 : decode cX3_solve 155 = .ok (.iload 8, 2) := by decide +kernel
theorem dX3_solve_157 : decode cX3_solve 157 = .ok (.iaload, 1) := by decide +kernel
theorem dX3_solve_158 : decode cX3_solve 158 = .ok (.aload 4, 2) := by decide +kernel
theorem dX3_solve_160 : decode cX3_solve 160 = .ok (.getfield 142, 3) := by decide +kernel
theorem dX3_solve_163 : decode cX3_solve 163 = .ok (.iload_n 3, 1) := by decide +kernel
theorem dX3_solve_164 : decode cX3_solve 164 = .ok (.iaload, 1) := by decide +kernel
theorem dX3_solve_165 : decode cX3_solve 165 = .ok (.iadd, 1) := by decide +kernel
theorem dX3_solve_166 : decode cX3_solve 166 = .ok (.iconst 2, 1) := by decide +kernel
theorem dX3_solve_167 : decode cX3_solve 167 = .ok (.iadd, 1) := by decide +kernel
theorem dX3_solve_168 : decode cX3_solve 168 = .ok (.isub, 1) := by decide +kernel
theorem dX3_solve_169 : decode cX3_solve 169 = .ok (.invokevirtual 145, 3) := by decide +kernel
theorem dX3_solve_172 : decode cX3_solve 172 = .ok (.goto 30, 3) := by decide +kernel
theorem dX3_solve_101 : decode cX3_solve 101 = .ok (.aload_n 1, 1) := by decide +kernel
theorem dX3_solve_102 : decode cX3_solve 102 = .ok (.iload 10, 2) := by decide +kernel
theorem dX3_solve_104 : decode cX3_solve 104 = .ok (.aload_n 0, 1) := by decide +kernel
theorem dX3_solve_105 : decode cX3_solve 105 = .ok (.getfield 23, 3) := by decide +kernel
theorem dX3_solve_108 : decode cX3_solve 108 = .ok (.aload_n 0, 1) := by decide +kernel
theorem dX3_solve_109 : decode cX3_solve 109 = .ok (.getfield 30, 3) := by decide +kernel
theorem dX3_solve_112 : decode cX3_solve 112 = .ok (.iload 9, 2) := by decide +kernel
theorem dX3_solve_114 : decode cX3_solve 114 = .ok (.iaload, 1) := by decide +kernel
theorem dX3_solve_115 : decode cX3_solve 115 = .ok (.iaload, 1) := by decide +kernel
theorem dX3_solve_116 : decode cX3_solve 116 = .ok (.bipush 16, 2) := by decide +kernel
theorem dX3_solve_118 : decode cX3_solve 118 = .ok (.idiv, 1) := by decide +kernel
theorem dX3_solve_119 : decode cX3_solve 119 = .ok (.invokevirtual 145, 3) := by decide +kernel
theorem dX3_solve_122 : decode cX3_solve 122 = .ok (.aload_n 1, 1) := by decide +kernel
theorem dX3_solve_123 : decode cX3_solve 123 = .ok (.iload 10, 2) := by decide +kernel
theorem dX3_solve_125 : decode cX3_solve 125 = .ok (.invokevirtual 148, 3) := by decide +kernel
theorem dX3_solve_128 : decode cX3_solve 128 = .ok (.goto 74, 3) := by decide +kernel
theorem dX3_solve_199 : decode cX3_solve 199 = .ok (.invokevirtual 145, 3) := by decide +kernel
theorem dX3_solve_202 : decode cX3_solve 202 = .ok (.return_, 1) := by decide +kernel
theorem dX3_write_0 : decode cX3_write 0 = .ok (.aload_n 1, 1) := by decide +kernel
theorem dX3_write_1 : decode cX3_write 1 = .ok (.iload_n 2, 1) := by decide +kernel
theorem dX3_write_2 : decode cX3_write 2 = .ok (.invokevirtual 108, 3) := by decide +kernel
theorem dX3_write_5 : decode cX3_write 5 = .ok (.iconst 0, 1) := by decide +kernel
theorem dX3_write_6 : decode cX3_write 6 = .ok (.istore_n 3, 1) := by decide +kernel
theorem dX3_write_7 : decode cX3_write 7 = .ok (.iload_n 3, 1) := by decide +kernel
theorem dX3_write_8 : decode cX3_write 8 = .ok (.iconst 3, 1) := by decide +kernel
theorem dX3_write_9 : decode cX3_write 9 = .ok (.if_icmp .ge 78, 3) := by decide +kernel
theorem dX3_write_87 : decode cX3_write 87 = .ok (.iconst 0, 1) := by decide +kernel
theorem dX3_write_88 : decode cX3_write 88 = .ok (.istore_n 3, 1) := by decide +kernel
theorem dX3_write_12 : decode cX3_write 12 = .ok (.iconst 0, 1) := by decide +kernel
theorem dX3_write_13 : decode cX3_write 13 = .ok (.istore 4, 2) := by decide +kernel
theorem dX3_write_89 : decode cX3_write 89 = .ok (.iload_n 3, 1) := by decide +kernel
theorem dX3_write_90 : decode cX3_write 90 = .ok (.iconst 3, 1) := by decide +kernel
theorem dX3_write_91 : decode cX3_write 91 = .ok (.if_icmp .ge 40, 3) := by decide +kernel
theorem dX3_write_131 : decode cX3_write 131 = .ok (.aload_n 1, 1) := by decide +kernel
theorem dX3_write_132 : decode cX3_write 132 = .ok (.aload_n 0, 1) := by decide +kernel
theorem dX3_write_133 : decode cX3_write 133 = .ok (.getfield 23, 3) := by decide +kernel
theorem dX3_write_136 : decode cX3_write 136 = .ok (.aload_n 0, 1) := by decide +kernel
theorem dX3_write_137 : decode cX3_write 137 = .ok (.getfield 30, 3) := by decide +kernel
theorem dX3_write_140 : decode cX3_write 140 = .ok (.aload_n 0, 1) := by decide +kernel
theorem dX3_write_141 : decode cX3_write 141 = .ok (.ldc2_w 46, 3) := by decide +kernel
theorem dX3_write_144 : decode cX3_write 144 = .ok (.invokevirtual 96, 3) := by decide +kernel
theorem dX3_write_147 : decode cX3_write 147 = .ok (.iaload, 1) := by decide +kernel
theorem dX3_write_148 : decode cX3_write 148 = .ok (.iaload, 1) := by decide +kernel
theorem dX3_write_149 : decode cX3_write 149 = .ok (.bipush 16, 2) := by decide +kernel
theorem dX3_write_151 : decode cX3_write 151 = .ok (.idiv, 1) := by decide +kernel
theorem dX3_write_152 : decode cX3_write 152 = .ok (.putfield 134, 3) := by decide +kernel
theorem dX3_write_155 : decode cX3_write 155 = .ok (.aload_n 1, 1) := by decide +kernel
theorem dX3_write_156 : decode cX3_write 156 = .ok (.aload_n 0, 1) := by decide +kernel
theorem dX3_write_157 : decode cX3_write 157 = .ok (.ldc2_w 46, 3) := by decide +kernel
theorem dX3_write_160 : decode cX3_write 160 = .ok (.invokevirtual 137, 3) := by decide +kernel
theorem dX3_write_163 : decode cX3_write 163 = .ok (.putfield 139, 3) := by decide +kernel
theorem dX3_write_166 : decode cX3_write 166 = .ok (.return_, 1) := by decide +kernel
theorem dX3_write_94 : decode cX3_write 94 = .ok (.iconst 0, 1) := by decide +kernel
theorem dX3_write_95 : decode cX3_write 95 = .ok (.istore 4, 2) := by decide +kernel
theorem dX3_write_15 : decode cX3_write 15 = .ok (.iload 4, 2) := by decide +kernel
theorem dX3_write_17 : decode cX3_write 17 = .ok (.aload_n 0, 1) := by decide +kernel
theorem dX3_write_18 : decode cX3_write 18 = .ok (.getfield 9, 3) := by decide +kernel
theorem dX3_write_21 : decode cX3_write 21 = .ok (.iload_n 3, 1) := by decide +kernel
theorem dX3_write_22 : decode cX3_write 22 = .ok (.aaload, 1) := by decide +kernel
theorem dX3_write_23 : decode cX3_write 23 = .ok (.getfield 67, 3) := by decide +kernel
theorem dX3_write_26 : decode cX3_write 26 = .ok (.if_icmp .ge 55, 3) := by decide +kernel
theorem dX3_write_81 : decode cX3_write 81 = .ok (.iinc 3 1, 3) := by decide +kernel
theorem dX3_write_84 : decode cX3_write 84 = .ok (.goto (-77), 3) := by decide +kernel
theorem dX3_write_29 : decode cX3_write 29 = .ok (.aload_n 0, 1) := by decide +kernel
theorem dX3_write_30 : decode cX3_write 30 = .ok (.getfield 9, 3) := by decide +kernel
theorem dX3_write_33 : decode cX3_write 33 = .ok (.iload_n 3, 1) := by decide +kernel
theorem dX3_write_34 : decode cX3_write 34 = .ok (.aaload, 1) := by decide +kernel
theorem dX3_write_35 : decode cX3_write 35 = .ok (.astore 5, 2) := by decide +kernel
theorem dX3_write_37 : decode cX3_write 37 = .ok (.aload 5, 2) := by decide +kernel
theorem dX3_write_39 : decode cX3_write 39 = .ok (.getfield 113, 3) := by decide +kernel
theorem dX3_write_42 : decode cX3_write 42 = .ok (.aload 5, 2) := by decide +kernel
theorem dX3_write_44 : decode cX3_write 44 = .ok (.getfield 116, 3) := by decide +kernel
theorem dX3_write_47 : decode cX3_write 47 = .ok (.iload 4, 2) := by decide +kernel
theorem dX3_write_49 : decode cX3_write 49 = .ok (.iaload, 1) := by decide +kernel
theorem dX3_write_50 : decode cX3_write 50 = .ok (.aload_n 1, 1) := by decide +kernel
theorem dX3_write_51 : decode cX3_write 51 = .ok (.getfield 119, 3) := by decide +kernel
theorem dX3_write_54 : decode cX3_write 54 = .ok (.aload_n 0, 1) := by decide +kernel
theorem dX3_write_55 : decode cX3_write 55 = .ok (.iload_n 3, 1) := by decide +kernel
theorem dX3_write_56 : decode cX3_write 56 = .ok (.iload 4, 2) := by decide +kernel
theorem dX3_write_58 : decode cX3_write 58 = .ok (.invokestatic 87, 3) := by decide +kernel
theorem dX3_write_61 : decode cX3_write 61 = .ok (.invokevirtual 120, 3) := by decide +kernel
theorem dX3_write_64 : decode cX3_write 64 = .ok (.aload 5, 2) := by decide +kernel
theorem dX3_write_66 : decode cX3_write 66 = .ok (.getfield 90, 3) := by decide +kernel
theorem dX3_write_69 : decode cX3_write 69 = .ok (.iload 4, 2) := by decide +kernel
theorem dX3_write_71 : decode cX3_write 71 = .ok (.iaload, 1) := by decide +kernel
theorem dX3_write_72 : decode cX3_write 72 = .ok (.invokestatic 124, 3) := by decide +kernel
theorem dX3_write_75 : decode cX3_write 75 = .ok (.iinc 4 1, 3) := by decide +kernel
theorem dX3_write_78 : decode cX3_write 78 = .ok (.goto (-63), 3) := by decide +kernel
theorem dX3_write_97 : decode cX3_write 97 = .ok (.iload 4, 2) := by decide +kernel
theorem dX3_write_99 : decode cX3_write 99 = .ok (.aload_n 0, 1) := by decide +kernel
theorem dX3_write_100 : decode cX3_write 100 = .ok (.getfield 9, 3) := by decide +kernel
theorem dX3_write_103 : decode cX3_write 103 = .ok (.iload_n 3, 1) := by decide +kernel
theorem dX3_write_104 : decode cX3_write 104 = .ok (.aaload, 1) := by decide +kernel
theorem dX3_write_105 : decode cX3_write 105 = .ok (.getfield 58, 3) := by decide +kernel
theorem dX3_write_108 : decode cX3_write 108 = .ok (.if_icmp .ge 17, 3) := by decide +kernel
theorem dX3_write_125 : decode cX3_write 125 = .ok (.iinc 3 1, 3) := by decide +kernel
theorem dX3_write_128 : decode cX3_write 128 = .ok (.goto (-39), 3) := by decide +kernel
theorem dX3_write_111 : decode cX3_write 111 = .ok (.aload_n 0, 1) := by decide +kernel
theorem dX3_write_112 : decode cX3_write 112 = .ok (.aload_n 1, 1) := by decide +kernel
theorem dX3_write_113 : decode cX3_write 113 = .ok (.iload_n 3, 1) := by decide +kernel
theorem dX3_write_114 : decode cX3_write 114 = .ok (.iload 4, 2) := by decide +kernel
theorem dX3_write_116 : decode cX3_write 116 = .ok (.invokevirtual 130, 3) := by decide +kernel
theorem dX3_write_119 : decode cX3_write 119 = .ok (.iinc 4 1, 3) := by decide +kernel
theorem dX3_write_122 : decode cX3_write 122 = .ok (.goto (-25), 3) := by decide +kernel
theorem dX4_word_0 : decode cX4_word 0 = .ok (.aload_n 0, 1) := by decide +kernel
theorem dX4_word_1 : decode cX4_word 1 = .ok (.getfield 9, 3) := by decide +kernel
theorem dX4_word_4 : decode cX4_word 4 = .ok (.iload_n 1, 1) := by decide +kernel
theorem dX4_word_5 : decode cX4_word 5 = .ok (.sipush 4095, 3) := by decide +kernel
theorem dX4_word_8 : decode cX4_word 8 = .ok (.iand, 1) := by decide +kernel
theorem dX4_word_9 : decode cX4_word 9 = .ok (.iaload, 1) := by decide +kernel
theorem dX4_word_10 : decode cX4_word 10 = .ok (.sipush 256, 3) := by decide +kernel
theorem dX4_word_13 : decode cX4_word 13 = .ok (.aload_n 0, 1) := by decide +kernel
theorem dX4_word_14 : decode cX4_word 14 = .ok (.getfield 9, 3) := by decide +kernel
theorem dX4_word_17 : decode cX4_word 17 = .ok (.iload_n 1, 1) := by decide +kernel
theorem dX4_word_18 : decode cX4_word 18 = .ok (.iconst 1, 1) := by decide +kernel
theorem dX4_word_19 : decode cX4_word 19 = .ok (.iadd, 1) := by decide +kernel
theorem dX4_word_20 : decode cX4_word 20 = .ok (.sipush 4095, 3) := by decide +kernel
theorem dX4_word_23 : decode cX4_word 23 = .ok (.iand, 1) := by decide +kernel
theorem dX4_word_24 : decode cX4_word 24 = .ok (.iaload, 1) := by decide +kernel
theorem dX4_word_25 : decode cX4_word 25 = .ok (.imul, 1) := by decide +kernel
theorem dX4_word_26 : decode cX4_word 26 = .ok (.iadd, 1) := by decide +kernel
theorem dX4_word_27 : decode cX4_word 27 = .ok (.ireturn, 1) := by decide +kernel
theorem dX4_putWord_0 : decode cX4_putWord 0 = .ok (.aload_n 0, 1) := by decide +kernel
theorem dX4_putWord_1 : decode cX4_putWord 1 = .ok (.getfield 9, 3) := by decide +kernel
theorem dX4_putWord_4 : decode cX4_putWord 4 = .ok (.iload_n 1, 1) := by decide +kernel
theorem dX4_putWord_5 : decode cX4_putWord 5 = .ok (.sipush 4095, 3) := by decide +kernel
theorem dX4_putWord_8 : decode cX4_putWord 8 = .ok (.iand, 1) := by decide +kernel
theorem dX4_putWord_9 : decode cX4_putWord 9 = .ok (.iload_n 2, 1) := by decide +kernel
theorem dX4_putWord_10 : decode cX4_putWord 10 = .ok (.sipush 255, 3) := by decide +kernel
theorem dX4_putWord_13 : decode cX4_putWord 13 = .ok (.iand, 1) := by decide +kernel
theorem dX4_putWord_14 : decode cX4_putWord 14 = .ok (.iastore, 1) := by decide +kernel
theorem dX4_putWord_15 : decode cX4_putWord 15 = .ok (.aload_n 0, 1) := by decide +kernel
theorem dX4_putWord_16 : decode cX4_putWord 16 = .ok (.getfield 9, 3) := by decide +kernel
theorem dX4_putWord_19 : decode cX4_putWord 19 = .ok (.iload_n 1, 1) := by decide +kernel
theorem dX4_putWord_20 : decode cX4_putWord 20 = .ok (.iconst 1, 1) := by decide +kernel
theorem dX4_putWord_21 : decode cX4_putWord 21 = .ok (.iadd, 1) := by decide +kernel
theorem dX4_putWord_22 : decode cX4_putWord 22 = .ok (.sipush 4095, 3) := by decide +kernel
theorem dX4_putWord_25 : decode cX4_putWord 25 = .ok (.iand, 1) := by decide +kernel
theorem dX4_putWord_26 : decode cX4_putWord 26 = .ok (.iload_n 2, 1) := by decide +kernel
theorem dX4_putWord_27 : decode cX4_putWord 27 = .ok (.bipush 8, 2) := by decide +kernel
theorem dX4_putWord_29 : decode cX4_putWord 29 = .ok (.ishr, 1) := by decide +kernel
theorem dX4_putWord_30 : decode cX4_putWord 30 = .ok (.sipush 255, 3) := by decide +kernel
theorem dX4_putWord_33 : decode cX4_putWord 33 = .ok (.iand, 1) := by decide +kernel
theorem dX4_putWord_34 : decode cX4_putWord 34 = .ok (.iastore, 1) := by decide +kernel
theorem dX4_putWord_35 : decode cX4_putWord 35 = .ok (.return_, 1) := by decide +kernel
theorem dX4_start_0 : decode cX4_start 0 = .ok (.aload_n 0, 1) := by decide +kernel
theorem dX4_start_1 : decode cX4_start 1 = .ok (.getfield 9, 3) := by decide +kernel
theorem dX4_start_4 : decode cX4_start 4 = .ok (.iconst 0, 1) := by decide +kernel
theorem dX4_start_5 : decode cX4_start 5 = .ok (.invokestatic 54, 3) := by decide +kernel
theorem dX4_start_8 : decode cX4_start 8 = .ok (.bipush 16, 2) := by decide +kernel
theorem dX4_start_10 : decode cX4_start 10 = .ok (.iload_n 2, 1) := by decide +kernel
theorem dX4_start_11 : decode cX4_start 11 = .ok (.imul, 1) := by decide +kernel
theorem dX4_start_12 : decode cX4_start 12 = .ok (.istore_n 3, 1) := by decide +kernel
theorem dX4_start_13 : decode cX4_start 13 = .ok (.iconst 0, 1) := by decide +kernel
theorem dX4_start_14 : decode cX4_start 14 = .ok (.istore 4, 2) := by decide +kernel
theorem dX4_start_16 : decode cX4_start 16 = .ok (.iload 4, 2) := by decide +kernel
theorem dX4_start_18 : decode cX4_start 18 = .ok (.aload_n 1, 1) := by decide +kernel
theorem dX4_start_19 : decode cX4_start 19 = .ok (.getfield 60, 3) := by decide +kernel
theorem dX4_start_22 : decode cX4_start 22 = .ok (.if_icmp .ge 29, 3) := by decide +kernel
theorem dX4_start_51 : decode cX4_start 51 = .ok (.iconst 0, 1) := by decide +kernel
theorem dX4_start_52 : decode cX4_start 52 = .ok (.istore 4, 2) := by decide +kernel
theorem dX4_start_25 : decode cX4_start 25 = .ok (.aload_n 0, 1) := by decide +kernel
theorem dX4_start_26 : decode cX4_start 26 = .ok (.getfield 9, 3) := by decide +kernel
theorem dX4_start_29 : decode cX4_start 29 = .ok (.iload_n 3, 1) := by decide +kernel
theorem dX4_start_30 : decode cX4_start 30 = .ok (.iload 4, 2) := by decide +kernel
theorem dX4_start_32 : decode cX4_start 32 = .ok (.iadd, 1) := by decide +kernel
theorem dX4_start_33 : decode cX4_start 33 = .ok (.sipush 4095, 3) := by decide +kernel
theorem dX4_start_36 : decode cX4_start 36 = .ok (.iand, 1) := by decide +kernel
theorem dX4_start_37 : decode cX4_start 37 = .ok (.aload_n 1, 1) := by decide +kernel
theorem dX4_start_38 : decode cX4_start 38 = .ok (.getfield 65, 3) := by decide +kernel
theorem dX4_start_41 : decode cX4_start 41 = .ok (.iload 4, 2) := by decide +kernel
theorem dX4_start_43 : decode cX4_start 43 = .ok (.iaload, 1) := by decide +kernel
theorem dX4_start_44 : decode cX4_start 44 = .ok (.iastore, 1) := by decide +kernel
theorem dX4_start_45 : decode cX4_start 45 = .ok (.iinc 4 1, 3) := by decide +kernel
theorem dX4_start_48 : decode cX4_start 48 = .ok (.goto (-32), 3) := by decide +kernel
theorem dX4_start_54 : decode cX4_start 54 = .ok (.iload 4, 2) := by decide +kernel
theorem dX4_start_56 : decode cX4_start 56 = .ok (.aload_n 1, 1) := by decide +kernel
theorem dX4_start_57 : decode cX4_start 57 = .ok (.getfield 68, 3) := by decide +kernel
theorem dX4_start_60 : decode cX4_start 60 = .ok (.if_icmp .ge 34, 3) := by decide +kernel
theorem dX4_start_94 : decode cX4_start 94 = .ok (.aload_n 0, 1) := by decide +kernel
theorem dX4_start_95 : decode cX4_start 95 = .ok (.getfield 13, 3) := by decide +kernel
theorem dX4_start_98 : decode cX4_start 98 = .ok (.iconst 0, 1) := by decide +kernel
theorem dX4_start_99 : decode cX4_start 99 = .ok (.invokestatic 54, 3) := by decide +kernel
theorem dX4_start_102 : decode cX4_start 102 = .ok (.aload_n 0, 1) := by decide +kernel
theorem dX4_start_103 : decode cX4_start 103 = .ok (.getfield 16, 3) := by decide +kernel
theorem dX4_start_106 : decode cX4_start 106 = .ok (.iload_n 2, 1) := by decide +kernel
theorem dX4_start_107 : decode cX4_start 107 = .ok (.invokestatic 54, 3) := by decide +kernel
theorem dX4_start_110 : decode cX4_start 110 = .ok (.aload_n 0, 1) := by decide +kernel
theorem dX4_start_111 : decode cX4_start 111 = .ok (.getfield 16, 3) := by decide +kernel
theorem dX4_start_114 : decode cX4_start 114 = .ok (.iconst 1, 1) := by decide +kernel
theorem dX4_start_115 : decode cX4_start 115 = .ok (.iload_n 2, 1) := by decide +kernel
theorem dX4_start_116 : decode cX4_start 116 = .ok (.aload_n 1, 1) := by decide +kernel
theorem dX4_start_117 : decode cX4_start 117 = .ok (.getfield 82, 3) := by decide +kernel
theorem dX4_start_120 : decode cX4_start 120 = .ok (.iadd, 1) := by decide +kernel
theorem dX4_start_121 : decode cX4_start 121 = .ok (.iastore, 1) := by decide +kernel
theorem dX4_start_122 : decode cX4_start 122 = .ok (.aload_n 0, 1) := by decide +kernel
theorem dX4_start_123 : decode cX4_start 123 = .ok (.aload_n 1, 1) := by decide +kernel
theorem dX4_start_124 : decode cX4_start 124 = .ok (.getfield 85, 3) := by decide +kernel
theorem dX4_start_127 : decode cX4_start 127 = .ok (.putfield 26, 3) := by decide +kernel
theorem dX4_start_130 : decode cX4_start 130 = .ok (.aload_n 0, 1) := by decide +kernel
theorem dX4_start_131 : decode cX4_start 131 = .ok (.iconst 0, 1) := by decide +kernel
theorem dX4_start_132 : decode cX4_start 132 = .ok (.putfield 30, 3) := by decide +kernel
theorem dX4_start_135 : decode cX4_start 135 = .ok (.aload_n 0, 1) := by decide +kernel
theorem dX4_start_136 : decode cX4_start 136 = .ok (.iconst 0, 1) := by decide +kernel
theorem dX4_start_137 : decode cX4_start 137 = .ok (.putfield 33, 3) := by decide +kernel
theorem dX4_start_140 : decode cX4_start 140 = .ok (.aload_n 0, 1) := by decide +kernel
theorem dX4_start_141 : decode cX4_start 141 = .ok (.iconst 0, 1) := by decide +kernel
theorem dX4_start_142 : decode cX4_start 142 = .ok (.putfield 36, 3) := by decide +kernel
theorem dX4_start_145 : decode cX4_start 145 = .ok (.aload_n 0, 1) := by decide +kernel
theorem dX4_start_146 : decode cX4_start 146 = .ok (.iconst 0, 1) := by decide +kernel
theorem dX4_start_147 : decode cX4_start 147 = .ok (.putfield 22, 3) := by decide +kernel
theorem dX4_start_150 : decode cX4_start 150 = .ok (.aload_n 0, 1) := by decide +kernel
theorem dX4_start_151 : decode cX4_start 151 = .ok (.iconst 0, 1) := by decide +kernel
theorem dX4_start_152 : decode cX4_start 152 = .ok (.putfield 39, 3) := by decide +kernel
theorem dX4_start_155 : decode cX4_start 155 = .ok (.aload_n 0, 1) := by decide +kernel
theorem dX4_start_156 : decode cX4_start 156 = .ok (.iconst 0, 1) := by decide +kernel
theorem dX4_start_157 : decode cX4_start 157 = .ok (.putfield 42, 3) := by decide +kernel
theorem dX4_start_160 : decode cX4_start 160 = .ok (.return_, 1) := by decide +kernel
theorem dX4_start_63 : decode cX4_start 63 = .ok (.iload_n 3, 1) := by decide +kernel
theorem dX4_start_64 : decode cX4_start 64 = .ok (.aload_n 1, 1) := by decide +kernel
theorem dX4_start_65 : decode cX4_start 65 = .ok (.getfield 71, 3) := by decide +kernel
theorem dX4_start_68 : decode cX4_start 68 = .ok (.iload 4, 2) := by decide +kernel
theorem dX4_start_70 : decode cX4_start 70 = .ok (.iaload, 1) := by decide +kernel
theorem dX4_start_71 : decode cX4_start 71 = .ok (.iadd, 1) := by decide +kernel
theorem dX4_start_72 : decode cX4_start 72 = .ok (.istore 5, 2) := by decide +kernel
theorem dX4_start_74 : decode cX4_start 74 = .ok (.aload_n 0, 1) := by decide +kernel
theorem dX4_start_75 : decode cX4_start 75 = .ok (.iload 5, 2) := by decide +kernel
theorem dX4_start_77 : decode cX4_start 77 = .ok (.aload_n 0, 1) := by decide +kernel
theorem dX4_start_78 : decode cX4_start 78 = .ok (.iload 5, 2) := by decide +kernel
theorem dX4_start_80 : decode cX4_start 80 = .ok (.invokevirtual 74, 3) := by decide +kernel
theorem dX4_start_83 : decode cX4_start 83 = .ok (.iload_n 2, 1) := by decide +kernel
theorem dX4_start_84 : decode cX4_start 84 = .ok (.iadd, 1) := by decide +kernel
theorem dX4_start_85 : decode cX4_start 85 = .ok (.invokevirtual 78, 3) := by decide +kernel
theorem dX4_start_88 : decode cX4_start 88 = .ok (.iinc 4 1, 3) := by decide +kernel
theorem dX4_start_91 : decode cX4_start 91 = .ok (.goto (-37), 3) := by decide +kernel
theorem dX4_fetch_0 : decode cX4_fetch 0 = .ok (.aload_n 0, 1) := by decide +kernel
theorem dX4_fetch_1 : decode cX4_fetch 1 = .ok (.getfield 9, 3) := by decide +kernel
theorem dX4_fetch_4 : decode cX4_fetch 4 = .ok (.bipush 16, 2) := by decide +kernel
theorem dX4_fetch_6 : decode cX4_fetch 6 = .ok (.aload_n 0, 1) := by decide +kernel
theorem dX4_fetch_7 : decode cX4_fetch 7 = .ok (.getfield 16, 3) := by decide +kernel
theorem dX4_fetch_10 : decode cX4_fetch 10 = .ok (.iconst 1, 1) := by decide +kernel
theorem dX4_fetch_11 : decode cX4_fetch 11 = .ok (.iaload, 1) := by decide +kernel
theorem dX4_fetch_12 : decode cX4_fetch 12 = .ok (.imul, 1) := by decide +kernel
theorem dX4_fetch_13 : decode cX4_fetch 13 = .ok (.aload_n 0, 1) := by decide +kernel
theorem dX4_fetch_14 : decode cX4_fetch 14 = .ok (.getfield 26, 3) := by decide +kernel
theorem dX4_fetch_17 : decode cX4_fetch 17 = .ok (.iadd, 1) := by decide +kernel
theorem dX4_fetch_18 : decode cX4_fetch 18 = .ok (.sipush 4095, 3) := by decide +kernel
theorem dX4_fetch_21 : decode cX4_fetch 21 = .ok (.iand, 1) := by decide +kernel
theorem dX4_fetch_22 : decode cX4_fetch 22 = .ok (.iaload, 1) := by decide +kernel
theorem dX4_fetch_23 : decode cX4_fetch 23 = .ok (.istore_n 1, 1) := by decide +kernel
theorem dX4_fetch_24 : decode cX4_fetch 24 = .ok (.aload_n 0, 1) := by decide +kernel
theorem dX4_fetch_25 : decode cX4_fetch 25 = .ok (.aload_n 0, 1) := by decide +kernel
theorem dX4_fetch_26 : decode cX4_fetch 26 = .ok (.getfield 26, 3) := by decide +kernel
theorem dX4_fetch_29 : decode cX4_fetch 29 = .ok (.iconst 1, 1) := by decide +kernel
theorem dX4_fetch_30 : decode cX4_fetch 30 = .ok (.iadd, 1) := by decide +kernel
theorem dX4_fetch_31 : decode cX4_fetch 31 = .ok (.ldc 95, 2) := by decide +kernel
theorem dX4_fetch_33 : decode cX4_fetch 33 = .ok (.iand, 1) := by decide +kernel
theorem dX4_fetch_34 : decode cX4_fetch 34 = .ok (.putfield 26, 3) := by decide +kernel
theorem dX4_fetch_37 : decode cX4_fetch 37 = .ok (.iload_n 1, 1) := by decide +kernel
theorem dX4_fetch_38 : decode cX4_fetch 38 = .ok (.ireturn, 1) := by decide +kernel
theorem dX4_push_0 : decode cX4_push 0 = .ok (.aload_n 0, 1) := by decide +kernel
theorem dX4_push_1 : decode cX4_push 1 = .ok (.getfield 13, 3) := by decide +kernel
theorem dX4_push_4 : decode cX4_push 4 = .ok (.iconst 4, 1) := by decide +kernel
theorem dX4_push_5 : decode cX4_push 5 = .ok (.aload_n 0, 1) := by decide +kernel
theorem dX4_push_6 : decode cX4_push 6 = .ok (.getfield 13, 3) := by decide +kernel
theorem dX4_push_9 : decode cX4_push 9 = .ok (.iconst 4, 1) := by decide +kernel
theorem dX4_push_10 : decode cX4_push 10 = .ok (.iaload, 1) := by decide +kernel
theorem dX4_push_11 : decode cX4_push 11 = .ok (.iconst 2, 1) := by decide +kernel
theorem dX4_push_12 : decode cX4_push 12 = .ok (.isub, 1) := by decide +kernel
theorem dX4_push_13 : decode cX4_push 13 = .ok (.ldc 95, 2) := by decide +kernel
theorem dX4_push_15 : decode cX4_push 15 = .ok (.iand, 1) := by decide +kernel
theorem dX4_push_16 : decode cX4_push 16 = .ok (.iastore, 1) := by decide +kernel
theorem dX4_push_17 : decode cX4_push 17 = .ok (.aload_n 0, 1) := by decide +kernel
theorem dX4_push_18 : decode cX4_push 18 = .ok (.bipush 16, 2) := by decide +kernel
theorem dX4_push_20 : decode cX4_push 20 = .ok (.aload_n 0, 1) := by decide +kernel
theorem dX4_push_21 : decode cX4_push 21 = .ok (.getfield 16, 3) := by decide +kernel
theorem dX4_push_24 : decode cX4_push 24 = .ok (.iconst 2, 1) := by decide +kernel
theorem dX4_push_25 : decode cX4_push 25 = .ok (.iaload, 1) := by decide +kernel
theorem dX4_push_26 : decode cX4_push 26 = .ok (.imul, 1) := by decide +kernel
theorem dX4_push_27 : decode cX4_push 27 = .ok (.aload_n 0, 1) := by decide +kernel
theorem dX4_push_28 : decode cX4_push 28 = .ok (.getfield 13, 3) := by decide +kernel
theorem dX4_push_31 : decode cX4_push 31 = .ok (.iconst 4, 1) := by decide +kernel
theorem dX4_push_32 : decode cX4_push 32 = .ok (.iaload, 1) := by decide +kernel
theorem dX4_push_33 : decode cX4_push 33 = .ok (.iadd, 1) := by decide +kernel
theorem dX4_push_34 : decode cX4_push 34 = .ok (.iload_n 1, 1) := by decide +kernel
theorem dX4_push_35 : decode cX4_push 35 = .ok (.invokevirtual 78, 3) := by decide +kernel
theorem dX4_push_38 : decode cX4_push 38 = .ok (.return_, 1) := by decide +kernel
theorem dX4_pop_0 : decode cX4_pop 0 = .ok (.aload_n 0, 1) := by decide +kernel
theorem dX4_pop_1 : decode cX4_pop 1 = .ok (.bipush 16, 2) := by decide +kernel
theorem dX4_pop_3 : decode cX4_pop 3 = .ok (.aload_n 0, 1) := by decide +kernel
theorem dX4_pop_4 : decode cX4_pop 4 = .ok (.getfield 16, 3) := by decide +kernel
theorem dX4_pop_7 : decode cX4_pop 7 = .ok (.iconst 2, 1) := by decide +kernel
theorem dX4_pop_8 : decode cX4_pop 8 = .ok (.iaload, 1) := by decide +kernel
theorem dX4_pop_9 : decode cX4_pop 9 = .ok (.imul, 1) := by decide +kernel
theorem dX4_pop_10 : decode cX4_pop 10 = .ok (.aload_n 0, 1) := by decide +kernel
theorem dX4_pop_11 : decode cX4_pop 11 = .ok (.getfield 13, 3) := by decide +kernel
theorem dX4_pop_14 : decode cX4_pop 14 = .ok (.iconst 4, 1) := by decide +kernel
theorem dX4_pop_15 : decode cX4_pop 15 = .ok (.iaload, 1) := by decide +kernel
theorem dX4_pop_16 : decode cX4_pop 16 = .ok (.iadd, 1) := by decide +kernel
theorem dX4_pop_17 : decode cX4_pop 17 = .ok (.invokevirtual 74, 3) := by decide +kernel
theorem dX4_pop_20 : decode cX4_pop 20 = .ok (.istore_n 1, 1) := by decide +kernel
theorem dX4_pop_21 : decode cX4_pop 21 = .ok (.aload_n 0, 1) := by decide +kernel
theorem dX4_pop_22 : decode cX4_pop 22 = .ok (.getfield 13, 3) := by decide +kernel
theorem dX4_pop_25 : decode cX4_pop 25 = .ok (.iconst 4, 1) := by decide +kernel
theorem dX4_pop_26 : decode cX4_pop 26 = .ok (.aload_n 0, 1) := by decide +kernel
theorem dX4_pop_27 : decode cX4_pop 27 = .ok (.getfield 13, 3) := by decide +kernel
theorem dX4_pop_30 : decode cX4_pop 30 = .ok (.iconst 4, 1) := by decide +kernel
theorem dX4_pop_31 : decode cX4_pop 31 = .ok (.iaload, 1) := by decide +kernel
theorem dX4_pop_32 : decode cX4_pop 32 = .ok (.iconst 2, 1) := by decide +kernel
theorem dX4_pop_33 : decode cX4_pop 33 = .ok (.iadd, 1) := by decide +kernel
theorem dX4_pop_34 : decode cX4_pop 34 = .ok (.ldc 95, 2) := by decide +kernel
theorem dX4_pop_36 : decode cX4_pop 36 = .ok (.iand, 1) := by decide +kernel
theorem dX4_pop_37 : decode cX4_pop 37 = .ok (.iastore, 1) := by decide +kernel
theorem dX4_pop_38 : decode cX4_pop 38 = .ok (.iload_n 1, 1) := by decide +kernel
theorem dX4_pop_39 : decode cX4_pop 39 = .ok (.ireturn, 1) := by decide +kernel
theorem dX4_isArithmetic_0 : decode cX4_isArithmetic 0 = .ok (.iload_n 0, 1) := by decide +kernel
theorem dX4_isArithmetic_1 : decode cX4_isArithmetic 1 = .ok (.iconst 2, 1) := by decide +kernel
theorem dX4_isArithmetic_2 : decode cX4_isArithmetic 2 = .ok (.if_icmp .eq 12, 3) := by decide +kernel
theorem dX4_isArithmetic_5 : decode cX4_isArithmetic 5 = .ok (.iload_n 0, 1) := by decide +kernel
theorem dX4_isArithmetic_6 : decode cX4_isArithmetic 6 = .ok (.iconst 3, 1) := by decide +kernel
theorem dX4_isArithmetic_7 : decode cX4_isArithmetic 7 = .ok (.if_icmp .eq 7, 3) := by decide +kernel
theorem dX4_isArithmetic_10 : decode cX4_isArithmetic 10 = .ok (.iconst 1, 1) := by decide +kernel
theorem dX4_isArithmetic_11 : decode cX4_isArithmetic 11 = .ok (.goto 4, 3) := by decide +kernel
theorem dX4_isArithmetic_14 : decode cX4_isArithmetic 14 = .ok (.iconst 0, 1) := by decide +kernel
theorem dX4_isArithmetic_15 : decode cX4_isArithmetic 15 = .ok (.ireturn, 1) := by decide +kernel
theorem dX4_registerSum_0 : decode cX4_registerSum 0 = .ok (.iload_n 1, 1) := by decide +kernel
theorem dX4_registerSum_1 : decode cX4_registerSum 1 = .ok (.lookupswitch 41 #[(6, 27), (7, 34)], 27) := by decide +kernel
theorem dX4_registerSum_28 : decode cX4_registerSum 28 = .ok (.aload_n 0, 1) := by decide +kernel
theorem dX4_registerSum_29 : decode cX4_registerSum 29 = .ok (.getfield 13, 3) := by decide +kernel
theorem dX4_registerSum_32 : decode cX4_registerSum 32 = .ok (.iconst 5, 1) := by decide +kernel
theorem dX4_registerSum_33 : decode cX4_registerSum 33 = .ok (.iaload, 1) := by decide +kernel
theorem dX4_registerSum_34 : decode cX4_registerSum 34 = .ok (.ireturn, 1) := by decide +kernel
theorem dX4_registerSum_35 : decode cX4_registerSum 35 = .ok (.aload_n 0, 1) := by decide +kernel
theorem dX4_registerSum_36 : decode cX4_registerSum 36 = .ok (.getfield 13, 3) := by decide +kernel
theorem dX4_registerSum_39 : decode cX4_registerSum 39 = .ok (.iconst 3, 1) := by decide +kernel
theorem dX4_registerSum_40 : decode cX4_registerSum 40 = .ok (.iaload, 1) := by decide +kernel
theorem dX4_registerSum_41 : decode cX4_registerSum 41 = .ok (.ireturn, 1) := by decide +kernel
theorem dX4_registerSum_42 : decode cX4_registerSum 42 = .ok (.aload_n 0, 1) := by decide +kernel
theorem dX4_registerSum_43 : decode cX4_registerSum 43 = .ok (.getfield 13, 3) := by decide +kernel
theorem dX4_registerSum_46 : decode cX4_registerSum 46 = .ok (.bipush 6, 2) := by decide +kernel
theorem dX4_registerSum_48 : decode cX4_registerSum 48 = .ok (.iload_n 1, 1) := by decide +kernel
theorem dX4_registerSum_49 : decode cX4_registerSum 49 = .ok (.iconst 1, 1) := by decide +kernel
theorem dX4_registerSum_50 : decode cX4_registerSum 50 = .ok (.iand, 1) := by decide +kernel
theorem dX4_registerSum_51 : decode cX4_registerSum 51 = .ok (.iadd, 1) := by decide +kernel
theorem dX4_registerSum_52 : decode cX4_registerSum 52 = .ok (.iaload, 1) := by decide +kernel
theorem dX4_registerSum_53 : decode cX4_registerSum 53 = .ok (.istore_n 2, 1) := by decide +kernel
theorem dX4_registerSum_54 : decode cX4_registerSum 54 = .ok (.iload_n 1, 1) := by decide +kernel
theorem dX4_registerSum_55 : decode cX4_registerSum 55 = .ok (.iconst 4, 1) := by decide +kernel
theorem dX4_registerSum_56 : decode cX4_registerSum 56 = .ok (.if_icmp .lt 5, 3) := by decide +kernel
theorem dX4_registerSum_61 : decode cX4_registerSum 61 = .ok (.iload_n 2, 1) := by decide +kernel
theorem dX4_registerSum_62 : decode cX4_registerSum 62 = .ok (.aload_n 0, 1) := by decide +kernel
theorem dX4_registerSum_63 : decode cX4_registerSum 63 = .ok (.getfield 13, 3) := by decide +kernel
theorem dX4_registerSum_66 : decode cX4_registerSum 66 = .ok (.iload_n 1, 1) := by decide +kernel
theorem dX4_registerSum_67 : decode cX4_registerSum 67 = .ok (.iconst 2, 1) := by decide +kernel
theorem dX4_registerSum_68 : decode cX4_registerSum 68 = .ok (.if_icmp .ge 7, 3) := by decide +kernel
theorem dX4_registerSum_75 : decode cX4_registerSum 75 = .ok (.iconst 5, 1) := by decide +kernel
theorem dX4_registerSum_71 : decode cX4_registerSum 71 = .ok (.iconst 3, 1) := by decide +kernel
theorem dX4_registerSum_72 : decode cX4_registerSum 72 = .ok (.goto 4, 3) := by decide +kernel
theorem dX4_registerSum_59 : decode cX4_registerSum 59 = .ok (.iload_n 2, 1) := by decide +kernel
theorem dX4_registerSum_60 : decode cX4_registerSum 60 = .ok (.ireturn, 1) := by decide +kernel
theorem dX4_registerSum_76 : decode cX4_registerSum 76 = .ok (.iaload, 1) := by decide +kernel
theorem dX4_registerSum_77 : decode cX4_registerSum 77 = .ok (.iadd, 1) := by decide +kernel
theorem dX4_registerSum_78 : decode cX4_registerSum 78 = .ok (.ireturn, 1) := by decide +kernel
def wpX3_placeOf (a1 : Int) (σ : ZS) (Q : Int → ZS → Prop) : Prop := (0 ≤ a1 ∧ a1 < 72) ∧ (0 ≤ (zA σ 16 5 a1) ∧ (zA σ 16 5 a1) < 72) ∧ Q ((zA σ 16 3 (zA σ 16 5 a1)) + (zA σ 16 6 a1)) σ
set_option maxHeartbeats 4000000 in
set_option maxRecDepth 100000 in
theorem kX3_placeOf (l : Launch) (D : va_G) (dA : Nat → ClassId) (ad : Int → Nat → Nat) (a1 : Int) (σ : ZS) (Q : Int → ZS → Prop) (sz : Nat) (hw : wpX3_placeOf a1 σ Q) : Met l yX3_placeOf (gws yX3_placeOf cX3_placeOf 2 (some .int)) (gR 1 0 0) (gPre D dA [.ref (ad 16 1000), .int (Int32.ofInt a1)] (zC dA ad σ) sz) (va_Qi (zQi Q) (gAt D dA (va_A (zC dA ad σ) sz) (zC dA ad)) (va_A (zC dA ad σ) sz)) 0 0 (va_A (zC dA ad σ) sz) := by
  refine Met.ofW (cc := cX3_placeOf) (maxL := 2) (ret := (some .int)) (by decide) rfl ?_
  intro p e s m args below meth c s₁ B hml hv
  obtain ⟨rfl, hsz, hP, hK, hD0⟩ := hv
  have hx := B.exec
  have hb := B.bytes
  have hr := B.returns
  have hts := atoms_spec (ws := gws yX3_placeOf cX3_placeOf 2 (some .int)) B.pre
  have hg : ∀ w ∈ gw, w.before _ s = true := fun w h => hts w (List.mem_cons_of_mem _ h)
  have hown : s.vm.findClass RX3 = some m.cls := findClass_of_methodNamed B.named
  have hlocks := B.notSynchronized
  subst hsz
  have hD := hD0.self (sz := s.heap.size)
  generalize hAe : va_A (zC dA ad σ) s.heap.size = A at hD ⊢
  have hA : ∀ q : Nat, s.heap.size ≤ q → A q := fun q h => by rw [← hAe]; exact Or.inr h
  have hS : va_S A s.heap s.heap [] := va_S.rf
  have hl := lv_entry ([.ref (ad 16 1000), .int (Int32.ofInt a1)]) (n := 2) (Nat.le_of_ble_eq_true rfl)
  rw [lg_entry_eq]
  generalize (lg_sl ([.ref (ad 16 1000), .int (Int32.ofInt a1)]) ++ List.replicate (2 - (lg_sl ([.ref (ad 16 1000), .int (Int32.ofInt a1)])).length) Slot.unset).toArray = ls at hl ⊢
  have hl : lv_has ls 2 [(0, .ref (ad 16 1000)), (1, .int (Int32.ofInt a1))] := hl
  have hret : ∀ (v : Int) (σ : ZS) (H : Heap) (locs : List Loc) (ls : Array Slot) (pc : Nat), Q v σ → va_P D vwC (zC dA ad σ) H → va_D A (zC dA ad σ) → va_S A s.heap H locs → decode cX3_placeOf pc = .ok (.ireturn, 1) → W p l e (gR 1 0 0) s m #[.ref (ad 16 1000), .int (Int32.ofInt a1)] below meth c H locs 0 0 (MQ below (va_Qi (zQi Q) (gAt D dA A (zC dA ad)) A) #[.ref (ad 16 1000), .int (Int32.ofInt a1)] s 0 0 A) (F0 m pc ls [.int (Int32.ofInt v)]) := fun v σ H locs ls pc hw hP hD hS hd => g_iret hx hb hr rfl hlocks hK σ hP hD hS ⟨v, rfl, hw⟩ (Nat.le_of_ble_eq_true rfl) (Nat.le_of_ble_eq_true rfl) hd
  generalize MQ below (va_Qi (zQi Q) (gAt D dA A (zC dA ad)) A) #[.ref (ad 16 1000), .int (Int32.ofInt a1)] s 0 0 A = QQ at hret ⊢
  unfold wpX3_placeOf at hw
  refine lv_aload_n hx hb dX3_placeOf_0 rfl (lv_at hl 0 rfl) ?_
  refine zgC16_3 hx hb hg hown hK hP q486 dX3_placeOf_1 ?_
  refine lv_aload_n hx hb dX3_placeOf_4 rfl (lv_at hl 0 rfl) ?_
  refine zgC16_5 hx hb hg hown hK hP q488 dX3_placeOf_5 ?_
  refine lv_iload_n hx hb dX3_placeOf_8 rfl (lv_at hl 1 rfl) ?_
  obtain ⟨o1, hw⟩ := hw
  refine zlC16_5 hx hb o1 hK hP dX3_placeOf_9 ?_
  obtain ⟨o2, hw⟩ := hw
  refine zlC16_3 hx hb o2 hK hP dX3_placeOf_10 ?_
  refine lv_aload_n hx hb dX3_placeOf_11 rfl (lv_at hl 0 rfl) ?_
  refine zgC16_6 hx hb hg hown hK hP q489 dX3_placeOf_12 ?_
  refine lv_iload_n hx hb dX3_placeOf_15 rfl (lv_at hl 1 rfl) ?_
  refine zlC16_6 hx hb o1 hK hP dX3_placeOf_16 ?_
  refine z_iadd hx hb dX3_placeOf_17 ?_
  exact hret ((zA σ 16 3 (zA σ 16 5 a1)) + (zA σ 16 6 a1)) σ _ _ _ _ hw hP hD hS dX3_placeOf_18
def wpX1_addWord_62 (σ : ZS) (Q : ZS → Prop) : Prop := Q σ
def wpX1_addWord (a1 a2 : Int) (σ : ZS) (Q : ZS → Prop) : Prop := (-2147483648 ≤ a1 ∧ a1 ≤ 2147483647) ∧ (a1 < 0 → wpX1_addWord_62 σ Q) ∧ (¬ a1 < 0 → (-2147483648 ≤ (a1 + 1) ∧ (a1 + 1) ≤ 2147483647) ∧ (1200 ≤ (a1 + 1) → wpX1_addWord_62 σ Q) ∧ (¬ 1200 ≤ (a1 + 1) → (0 ≤ a1 ∧ a1 < 1200) ∧ (0 ≤ (a1 + 1) ∧ (a1 + 1) < 1200) ∧ (-2147483648 ≤ (((zA σ 17 2 a1) + (256 * (zA σ 17 2 (a1 + 1)))) + a2) ∧ (((zA σ 17 2 a1) + (256 * (zA σ 17 2 (a1 + 1)))) + a2) ≤ 2147483647) ∧ wpX1_addWord_62 (zsA (zsA σ 17 2 a1 ((((zA σ 17 2 a1) + (256 * (zA σ 17 2 (a1 + 1)))) + a2) % 256)) 17 2 (a1 + 1) (((((zA σ 17 2 a1) + (256 * (zA σ 17 2 (a1 + 1)))) + a2) / 256) % 256)) Q))
set_option maxHeartbeats 4000000 in
set_option maxRecDepth 100000 in
theorem kX1_addWord (l : Launch) (D : va_G) (dA : Nat → ClassId) (ad : Int → Nat → Nat) (a1 a2 : Int) (σ : ZS) (Q : ZS → Prop) (sz : Nat) (hw : wpX1_addWord a1 a2 σ Q) : Met l yX1_addWord (gws yX1_addWord cX1_addWord 4 none) (gR 1 0 0) (gPre D dA [.ref (ad 17 1000), .int (Int32.ofInt a1), .int (Int32.ofInt a2)] (zC dA ad σ) sz) (va_Qv Q (gAt D dA (va_A (zC dA ad σ) sz) (zC dA ad)) (va_A (zC dA ad σ) sz)) 0 0 (va_A (zC dA ad σ) sz) := by
  refine Met.ofW (cc := cX1_addWord) (maxL := 4) (ret := none) (by decide) rfl ?_
  intro p e s m args below meth c s₁ B hml hv
  obtain ⟨rfl, hsz, hP, hK, hD0⟩ := hv
  have hx := B.exec
  have hb := B.bytes
  have hr := B.returns
  have hts := atoms_spec (ws := gws yX1_addWord cX1_addWord 4 none) B.pre
  have hg : ∀ w ∈ gw, w.before _ s = true := fun w h => hts w (List.mem_cons_of_mem _ h)
  have hown : s.vm.findClass RX1 = some m.cls := findClass_of_methodNamed B.named
  have hlocks := B.notSynchronized
  subst hsz
  have hD := hD0.self (sz := s.heap.size)
  generalize hAe : va_A (zC dA ad σ) s.heap.size = A at hD ⊢
  have hA : ∀ q : Nat, s.heap.size ≤ q → A q := fun q h => by rw [← hAe]; exact Or.inr h
  have hS : va_S A s.heap s.heap [] := va_S.rf
  have hl := lv_entry ([.ref (ad 17 1000), .int (Int32.ofInt a1), .int (Int32.ofInt a2)]) (n := 4) (Nat.le_of_ble_eq_true rfl)
  rw [lg_entry_eq]
  generalize (lg_sl ([.ref (ad 17 1000), .int (Int32.ofInt a1), .int (Int32.ofInt a2)]) ++ List.replicate (4 - (lg_sl ([.ref (ad 17 1000), .int (Int32.ofInt a1), .int (Int32.ofInt a2)])).length) Slot.unset).toArray = ls at hl ⊢
  have hl : lv_has ls 4 [(0, .ref (ad 17 1000)), (1, .int (Int32.ofInt a1)), (2, .int (Int32.ofInt a2))] := hl
  have hret : ∀ (σ : ZS) (H : Heap) (locs : List Loc) (ls : Array Slot) (pc : Nat), Q σ → va_P D vwC (zC dA ad σ) H → va_D A (zC dA ad σ) → va_S A s.heap H locs → decode cX1_addWord pc = .ok (.return_, 1) → W p l e (gR 1 0 0) s m #[.ref (ad 17 1000), .int (Int32.ofInt a1), .int (Int32.ofInt a2)] below meth c H locs 0 0 (MQ below (va_Qv Q (gAt D dA A (zC dA ad)) A) #[.ref (ad 17 1000), .int (Int32.ofInt a1), .int (Int32.ofInt a2)] s 0 0 A) (F0 m pc ls []) := fun σ H locs ls pc hw hP hD hS hd => g_vret hx hb hr hlocks hK σ hP hD hS hw (Nat.le_of_ble_eq_true rfl) (Nat.le_of_ble_eq_true rfl) hd
  generalize MQ below (va_Qv Q (gAt D dA A (zC dA ad)) A) #[.ref (ad 17 1000), .int (Int32.ofInt a1), .int (Int32.ofInt a2)] s 0 0 A = QQ at hret ⊢
  have j62 : ∀ (σ : ZS), ∀ (H : Heap) (locs : List Loc) (ls : Array Slot), va_P D vwC (zC dA ad σ) H → va_D A (zC dA ad σ) → va_S A s.heap H locs → lv_has ls 4 [] → wpX1_addWord_62 σ Q → W p l e (gR 1 0 0) s m #[.ref (ad 17 1000), .int (Int32.ofInt a1), .int (Int32.ofInt a2)] below meth c H locs 0 0 QQ (F0 m 62 ls []) := by
    intro σ H locs ls hP hD hS hl hw
    unfold wpX1_addWord_62 at hw
    exact hret σ _ _ _ _ hw hP hD hS dX1_addWord_62
  unfold wpX1_addWord at hw
  refine lv_iload_n hx hb dX1_addWord_0 rfl (lv_at hl 1 rfl) ?_
  obtain ⟨o1, hw⟩ := hw
  refine z_if_lt (tgt := 62) hx hb o1 dX1_addWord_1 (by decide) (fun k2 => ?_) (fun k2 => ?_)
  · replace hw := hw.1 k2
    exact j62 σ _ _ _ hP hD hS (lv_sub hl [] rfl) hw
  · replace hw := hw.2 k2
    refine lv_iload_n hx hb dX1_addWord_4 rfl (lv_at hl 1 rfl) ?_
    refine lv_iconst (v := Int32.ofInt 1) hx hb dX1_addWord_5 (by decide) ?_
    refine z_iadd hx hb dX1_addWord_6 ?_
    refine lv_sipush (v := Int32.ofInt 1200) hx hb dX1_addWord_7 (by decide) ?_
    obtain ⟨o3, hw⟩ := hw
    refine z_icmp_ge (tgt := 62) hx hb o3 (by decide) dX1_addWord_10 (by decide) (fun k4 => ?_) (fun k4 => ?_)
    · replace hw := hw.1 k4
      exact j62 σ _ _ _ hP hD hS (lv_sub hl [] rfl) hw
    · replace hw := hw.2 k4
      refine lv_aload_n hx hb dX1_addWord_13 rfl (lv_at hl 0 rfl) ?_
      refine zgC17_2 hx hb hg hown hK hP q516 dX1_addWord_14 ?_
      refine lv_iload_n hx hb dX1_addWord_17 rfl (lv_at hl 1 rfl) ?_
      obtain ⟨o5, hw⟩ := hw
      refine zlC17_2 hx hb o5 hK hP dX1_addWord_18 ?_
      refine lv_sipush (v := Int32.ofInt 256) hx hb dX1_addWord_19 (by decide) ?_
      refine lv_aload_n hx hb dX1_addWord_22 rfl (lv_at hl 0 rfl) ?_
      refine zgC17_2 hx hb hg hown hK hP q516 dX1_addWord_23 ?_
      refine lv_iload_n hx hb dX1_addWord_26 rfl (lv_at hl 1 rfl) ?_
      refine lv_iconst (v := Int32.ofInt 1) hx hb dX1_addWord_27 (by decide) ?_
      refine z_iadd hx hb dX1_addWord_28 ?_
      obtain ⟨o6, hw⟩ := hw
      refine zlC17_2 hx hb o6 hK hP dX1_addWord_29 ?_
      refine z_imul hx hb dX1_addWord_30 ?_
      refine z_iadd hx hb dX1_addWord_31 ?_
      refine lv_iload_n hx hb dX1_addWord_32 rfl (lv_at hl 2 rfl) ?_
      refine z_iadd hx hb dX1_addWord_33 ?_
      refine lv_istore_n (lv' := [(3, .int (Int32.ofInt (((zA σ 17 2 a1) + (256 * (zA σ 17 2 (a1 + 1)))) + a2))), (0, .ref (ad 17 1000)), (1, .int (Int32.ofInt a1)), (2, .int (Int32.ofInt a2))]) hx hb dX1_addWord_34 rfl hl (by decide) rfl (fun ls hl => ?_)
      refine lv_aload_n hx hb dX1_addWord_35 rfl (lv_at hl 1 rfl) ?_
      refine zgC17_2 hx hb hg hown hK hP q516 dX1_addWord_36 ?_
      refine lv_iload_n hx hb dX1_addWord_39 rfl (lv_at hl 2 rfl) ?_
      refine lv_iload_n hx hb dX1_addWord_40 rfl (lv_at hl 0 rfl) ?_
      refine lv_sipush (v := Int32.ofInt 255) hx hb dX1_addWord_41 (by decide) ?_
      refine z_iandK (M := 256) hx hb 8 (by decide) (by decide) (by decide) dX1_addWord_44 ?_
      refine zsC17_2 (v := ((((zA σ 17 2 a1) + (256 * (zA σ 17 2 (a1 + 1)))) + a2) % 256)) hx hb o5 hK hP hD hS dX1_addWord_45 (fun H locs hP hD hS => ?_)
      refine lv_aload_n hx hb dX1_addWord_46 rfl (lv_at hl 1 rfl) ?_
      refine zgC17_2 hx hb hg hown hK hP q516 dX1_addWord_47 ?_
      refine lv_iload_n hx hb dX1_addWord_50 rfl (lv_at hl 2 rfl) ?_
      refine lv_iconst (v := Int32.ofInt 1) hx hb dX1_addWord_51 (by decide) ?_
      refine z_iadd hx hb dX1_addWord_52 ?_
      refine lv_iload_n hx hb dX1_addWord_53 rfl (lv_at hl 0 rfl) ?_
      refine lv_bipush (v := Int32.ofInt 8) hx hb dX1_addWord_54 (by decide) ?_
      obtain ⟨o7, hw⟩ := hw
      refine z_ishrK (M := 256) hx hb 8 (by decide) (by decide) (by decide) o7 dX1_addWord_56 ?_
      refine lv_sipush (v := Int32.ofInt 255) hx hb dX1_addWord_57 (by decide) ?_
      refine z_iandK (M := 256) hx hb 8 (by decide) (by decide) (by decide) dX1_addWord_60 ?_
      refine zsC17_2 (v := (((((zA σ 17 2 a1) + (256 * (zA σ 17 2 (a1 + 1)))) + a2) / 256) % 256)) hx hb o6 hK hP hD hS dX1_addWord_61 (fun H locs hP hD hS => ?_)
      exact j62 (zsA (zsA σ 17 2 a1 ((((zA σ 17 2 a1) + (256 * (zA σ 17 2 (a1 + 1)))) + a2) % 256)) 17 2 (a1 + 1) (((((zA σ 17 2 a1) + (256 * (zA σ 17 2 (a1 + 1)))) + a2) / 256) % 256)) _ _ _ hP hD hS (lv_sub hl [] rfl) hw
def wpX1_addRelocation_30 (σ : ZS) (Q : ZS → Prop) : Prop := Q σ
def wpX1_addRelocation (a1 : Int) (σ : ZS) (Q : ZS → Prop) : Prop := (-2147483648 ≤ (zI σ 17 3) ∧ (zI σ 17 3) ≤ 2147483647) ∧ (600 ≤ (zI σ 17 3) → wpX1_addRelocation_30 σ Q) ∧ (¬ 600 ≤ (zI σ 17 3) → (0 ≤ (zI σ 17 3) ∧ (zI σ 17 3) < 600) ∧ wpX1_addRelocation_30 (zsI (zsA σ 17 4 (zI σ 17 3) a1) 17 3 ((zI σ 17 3) + 1)) Q)
set_option maxHeartbeats 4000000 in
set_option maxRecDepth 100000 in
theorem kX1_addRelocation (l : Launch) (D : va_G) (dA : Nat → ClassId) (ad : Int → Nat → Nat) (a1 : Int) (σ : ZS) (Q : ZS → Prop) (sz : Nat) (hw : wpX1_addRelocation a1 σ Q) : Met l yX1_addRelocation (gws yX1_addRelocation cX1_addRelocation 2 none) (gR 1 0 0) (gPre D dA [.ref (ad 17 1000), .int (Int32.ofInt a1)] (zC dA ad σ) sz) (va_Qv Q (gAt D dA (va_A (zC dA ad σ) sz) (zC dA ad)) (va_A (zC dA ad σ) sz)) 0 0 (va_A (zC dA ad σ) sz) := by
  refine Met.ofW (cc := cX1_addRelocation) (maxL := 2) (ret := none) (by decide) rfl ?_
  intro p e s m args below meth c s₁ B hml hv
  obtain ⟨rfl, hsz, hP, hK, hD0⟩ := hv
  have hx := B.exec
  have hb := B.bytes
  have hr := B.returns
  have hts := atoms_spec (ws := gws yX1_addRelocation cX1_addRelocation 2 none) B.pre
  have hg : ∀ w ∈ gw, w.before _ s = true := fun w h => hts w (List.mem_cons_of_mem _ h)
  have hown : s.vm.findClass RX1 = some m.cls := findClass_of_methodNamed B.named
  have hlocks := B.notSynchronized
  subst hsz
  have hD := hD0.self (sz := s.heap.size)
  generalize hAe : va_A (zC dA ad σ) s.heap.size = A at hD ⊢
  have hA : ∀ q : Nat, s.heap.size ≤ q → A q := fun q h => by rw [← hAe]; exact Or.inr h
  have hS : va_S A s.heap s.heap [] := va_S.rf
  have hl := lv_entry ([.ref (ad 17 1000), .int (Int32.ofInt a1)]) (n := 2) (Nat.le_of_ble_eq_true rfl)
  rw [lg_entry_eq]
  generalize (lg_sl ([.ref (ad 17 1000), .int (Int32.ofInt a1)]) ++ List.replicate (2 - (lg_sl ([.ref (ad 17 1000), .int (Int32.ofInt a1)])).length) Slot.unset).toArray = ls at hl ⊢
  have hl : lv_has ls 2 [(0, .ref (ad 17 1000)), (1, .int (Int32.ofInt a1))] := hl
  have hret : ∀ (σ : ZS) (H : Heap) (locs : List Loc) (ls : Array Slot) (pc : Nat), Q σ → va_P D vwC (zC dA ad σ) H → va_D A (zC dA ad σ) → va_S A s.heap H locs → decode cX1_addRelocation pc = .ok (.return_, 1) → W p l e (gR 1 0 0) s m #[.ref (ad 17 1000), .int (Int32.ofInt a1)] below meth c H locs 0 0 (MQ below (va_Qv Q (gAt D dA A (zC dA ad)) A) #[.ref (ad 17 1000), .int (Int32.ofInt a1)] s 0 0 A) (F0 m pc ls []) := fun σ H locs ls pc hw hP hD hS hd => g_vret hx hb hr hlocks hK σ hP hD hS hw (Nat.le_of_ble_eq_true rfl) (Nat.le_of_ble_eq_true rfl) hd
  generalize MQ below (va_Qv Q (gAt D dA A (zC dA ad)) A) #[.ref (ad 17 1000), .int (Int32.ofInt a1)] s 0 0 A = QQ at hret ⊢
  have j30 : ∀ (σ : ZS), ∀ (H : Heap) (locs : List Loc) (ls : Array Slot), va_P D vwC (zC dA ad σ) H → va_D A (zC dA ad σ) → va_S A s.heap H locs → lv_has ls 2 [] → wpX1_addRelocation_30 σ Q → W p l e (gR 1 0 0) s m #[.ref (ad 17 1000), .int (Int32.ofInt a1)] below meth c H locs 0 0 QQ (F0 m 30 ls []) := by
    intro σ H locs ls hP hD hS hl hw
    unfold wpX1_addRelocation_30 at hw
    exact hret σ _ _ _ _ hw hP hD hS dX1_addRelocation_30
  unfold wpX1_addRelocation at hw
  refine lv_aload_n hx hb dX1_addRelocation_0 rfl (lv_at hl 0 rfl) ?_
  refine zgC17_3 hx hb hg hown hK hP q520 dX1_addRelocation_1 ?_
  refine lv_sipush (v := Int32.ofInt 600) hx hb dX1_addRelocation_4 (by decide) ?_
  obtain ⟨o1, hw⟩ := hw
  refine z_icmp_ge (tgt := 30) hx hb o1 (by decide) dX1_addRelocation_7 (by decide) (fun k2 => ?_) (fun k2 => ?_)
  · replace hw := hw.1 k2
    exact j30 σ _ _ _ hP hD hS (lv_sub hl [] rfl) hw
  · replace hw := hw.2 k2
    refine lv_aload_n hx hb dX1_addRelocation_10 rfl (lv_at hl 0 rfl) ?_
    refine zgC17_4 hx hb hg hown hK hP q523 dX1_addRelocation_11 ?_
    refine lv_aload_n hx hb dX1_addRelocation_14 rfl (lv_at hl 0 rfl) ?_
    refine zgC17_3 hx hb hg hown hK hP q520 dX1_addRelocation_15 ?_
    refine lv_iload_n hx hb dX1_addRelocation_18 rfl (lv_at hl 1 rfl) ?_
    obtain ⟨o3, hw⟩ := hw
    refine zsC17_4 (v := a1) hx hb o3 hK hP hD hS dX1_addRelocation_19 (fun H locs hP hD hS => ?_)
    refine lv_aload_n hx hb dX1_addRelocation_20 rfl (lv_at hl 0 rfl) ?_
    refine lv_dup hx hb dX1_addRelocation_21 rfl ?_
    refine zgC17_3 hx hb hg hown hK hP q520 dX1_addRelocation_22 ?_
    refine g_nrm (y := Int32.ofInt (zI σ 17 3)) rfl ?_
    refine lv_iconst (v := Int32.ofInt 1) hx hb dX1_addRelocation_25 (by decide) ?_
    refine z_iadd hx hb dX1_addRelocation_26 ?_
    refine zpC17_3 (v := ((zI σ 17 3) + 1)) hx hb hg hown hK hP hD hS q520 dX1_addRelocation_27 (fun H locs hP hD hS => ?_)
    exact j30 (zsI (zsA σ 17 4 (zI σ 17 3) a1) 17 3 ((zI σ 17 3) + 1)) _ _ _ hP hD hS (lv_sub hl [] rfl) hw
def wpX3_publicOffset (a1 : Int) (σ : ZS) (Q : Int → ZS → Prop) : Prop := wpX3_publicModule a1 3 σ (fun (x1 : Int) (σ2 : ZS) => (-2147483648 ≤ x1 ∧ x1 ≤ 2147483647) ∧ (0 ≤ x1 → wpX3_publicPart a1 σ2 (fun (x5 : Int) (σ6 : ZS) => (0 ≤ x5 ∧ x5 < 72) ∧ (0 ≤ x1 ∧ x1 < 3) ∧ wpX6_publicNumber x1 a1 σ6 (fun (x9 : Int) (σ10 : ZS) => (0 ≤ x9 ∧ x9 < 24) ∧ Q ((zA σ6 16 6 x5) + (zA σ10 x1 16 x9)) σ10))) ∧ (¬ 0 ≤ x1 → Q 0 σ2))
set_option maxHeartbeats 4000000 in
set_option maxRecDepth 100000 in
theorem kX3_publicOffset (l : Launch) (D : va_G) (dA : Nat → ClassId) (ad : Int → Nat → Nat) (a1 : Int) (σ : ZS) (Q : Int → ZS → Prop) (sz : Nat) (hw : wpX3_publicOffset a1 σ Q) : Met l yX3_publicOffset (gws yX3_publicOffset cX3_publicOffset 4 (some .int)) (gR 4 0 0) (gPre D dA [.ref (ad 16 1000), .long (Int64.ofInt a1)] (zC dA ad σ) sz) (va_Qi (zQi Q) (gAt D dA (va_A (zC dA ad σ) sz) (zC dA ad)) (va_A (zC dA ad σ) sz)) 0 0 (va_A (zC dA ad σ) sz) := by
  refine Met.ofW (cc := cX3_publicOffset) (maxL := 4) (ret := (some .int)) (by decide) rfl ?_
  intro p e s m args below meth c s₁ B hml hv
  obtain ⟨rfl, hsz, hP, hK, hD0⟩ := hv
  have hx := B.exec
  have hb := B.bytes
  have hr := B.returns
  have hts := atoms_spec (ws := gws yX3_publicOffset cX3_publicOffset 4 (some .int)) B.pre
  have hg : ∀ w ∈ gw, w.before _ s = true := fun w h => hts w (List.mem_cons_of_mem _ h)
  have hown : s.vm.findClass RX3 = some m.cls := findClass_of_methodNamed B.named
  have hlocks := B.notSynchronized
  subst hsz
  have hD := hD0.self (sz := s.heap.size)
  generalize hAe : va_A (zC dA ad σ) s.heap.size = A at hD ⊢
  have hA : ∀ q : Nat, s.heap.size ≤ q → A q := fun q h => by rw [← hAe]; exact Or.inr h
  have hS : va_S A s.heap s.heap [] := va_S.rf
  have hl := lv_entry ([.ref (ad 16 1000), .long (Int64.ofInt a1)]) (n := 4) (Nat.le_of_ble_eq_true rfl)
  rw [lg_entry_eq]
  generalize (lg_sl ([.ref (ad 16 1000), .long (Int64.ofInt a1)]) ++ List.replicate (4 - (lg_sl ([.ref (ad 16 1000), .long (Int64.ofInt a1)])).length) Slot.unset).toArray = ls at hl ⊢
  have hl : lv_has ls 4 [(0, .ref (ad 16 1000)), (1, .long (Int64.ofInt a1))] := hl
  have hret : ∀ (v : Int) (σ : ZS) (H : Heap) (locs : List Loc) (ls : Array Slot) (pc : Nat), Q v σ → va_P D vwC (zC dA ad σ) H → va_D A (zC dA ad σ) → va_S A s.heap H locs → decode cX3_publicOffset pc = .ok (.ireturn, 1) → W p l e (gR 4 0 0) s m #[.ref (ad 16 1000), .long (Int64.ofInt a1)] below meth c H locs 0 0 (MQ below (va_Qi (zQi Q) (gAt D dA A (zC dA ad)) A) #[.ref (ad 16 1000), .long (Int64.ofInt a1)] s 0 0 A) (F0 m pc ls [.int (Int32.ofInt v)]) := fun v σ H locs ls pc hw hP hD hS hd => g_iret hx hb hr rfl hlocks hK σ hP hD hS ⟨v, rfl, hw⟩ (Nat.le_of_ble_eq_true rfl) (Nat.le_of_ble_eq_true rfl) hd
  generalize MQ below (va_Qi (zQi Q) (gAt D dA A (zC dA ad)) A) #[.ref (ad 16 1000), .long (Int64.ofInt a1)] s 0 0 A = QQ at hret ⊢
  unfold wpX3_publicOffset at hw
  refine lv_aload_n hx hb dX3_publicOffset_0 rfl (lv_at hl 0 rfl) ?_
  refine lv_lload_n hx hb dX3_publicOffset_1 rfl (lv_at hl 1 rfl) ?_
  refine lv_iconst (v := Int32.ofInt 3) hx hb dX3_publicOffset_2 (by decide) ?_
  refine z_Vi (n := 2) (As := [.long (Int64.ofInt a1), .int (Int32.ofInt 3)]) (rest := []) hx hb hml hg hown hK hP hD hS hA (kX3_publicModule l D dA ad a1 3 σ _ _ hw) (zoC16) rfl q1287 q157 q1284 q1286 q43 (by decide +kernel) ⟨(Nat.le_of_ble_eq_true rfl), (Nat.le_of_ble_eq_true rfl)⟩ rfl hl.1 rfl (Nat.le_of_ble_eq_true rfl) dX3_publicOffset_3 ⟨(Nat.le_of_ble_eq_true rfl), (Nat.le_of_ble_eq_true rfl)⟩ (fun x1 σ2 H locs hw hP hD hS => ?_)
  refine lv_istore_n (lv' := [(3, .int (Int32.ofInt x1)), (0, .ref (ad 16 1000)), (1, .long (Int64.ofInt a1))]) hx hb dX3_publicOffset_6 rfl hl (by decide) rfl (fun ls hl => ?_)
  refine lv_iload_n hx hb dX3_publicOffset_7 rfl (lv_at hl 0 rfl) ?_
  obtain ⟨o3, hw⟩ := hw
  refine z_if_ge (tgt := 13) hx hb o3 dX3_publicOffset_8 (by decide) (fun k4 => ?_) (fun k4 => ?_)
  · replace hw := hw.1 k4
    refine lv_aload_n hx hb dX3_publicOffset_13 rfl (lv_at hl 1 rfl) ?_
    refine zgC16_6 hx hb hg hown hK hP q489 dX3_publicOffset_14 ?_
    refine lv_aload_n hx hb dX3_publicOffset_17 rfl (lv_at hl 1 rfl) ?_
    refine lv_lload_n hx hb dX3_publicOffset_18 rfl (lv_at hl 2 rfl) ?_
    refine z_Vi (n := 1) (As := [.long (Int64.ofInt a1)]) (rest := [.ref (ad 16 6)]) hx hb hml hg hown hK hP hD hS hA (kX3_publicPart l D dA ad a1 σ2 _ _ hw) (zoC16) rfl q1327 q157 q1324 q1326 q46 (by decide +kernel) ⟨(Nat.le_of_ble_eq_true rfl), (Nat.le_of_ble_eq_true rfl)⟩ rfl hl.1 rfl (Nat.le_of_ble_eq_true rfl) dX3_publicOffset_19 ⟨(Nat.le_of_ble_eq_true rfl), (Nat.le_of_ble_eq_true rfl)⟩ (fun x5 σ6 H locs hw hP hD hS => ?_)
    obtain ⟨o7, hw⟩ := hw
    refine zlC16_6 hx hb o7 hK hP dX3_publicOffset_22 ?_
    refine lv_aload_n hx hb dX3_publicOffset_23 rfl (lv_at hl 1 rfl) ?_
    refine zgC16_0 hx hb hg hown hK hP q483 dX3_publicOffset_24 ?_
    refine lv_iload_n hx hb dX3_publicOffset_27 rfl (lv_at hl 0 rfl) ?_
    obtain ⟨o8, hw⟩ := hw
    refine zlC10_8 hx hb o8 hK hP dX3_publicOffset_28 ?_
    refine zgCM_16 hx hb hg hown (by clear hw; omega) hK hP q441 dX3_publicOffset_29 ?_
    refine lv_aload_n hx hb dX3_publicOffset_32 rfl (lv_at hl 1 rfl) ?_
    refine zgC16_0 hx hb hg hown hK hP q483 dX3_publicOffset_33 ?_
    refine lv_iload_n hx hb dX3_publicOffset_36 rfl (lv_at hl 0 rfl) ?_
    refine zlC10_8 hx hb o8 hK hP dX3_publicOffset_37 ?_
    refine lv_lload_n hx hb dX3_publicOffset_38 rfl (lv_at hl 2 rfl) ?_
    refine z_Vi (n := 1) (As := [.long (Int64.ofInt a1)]) (rest := [.ref (ad x1 16), .int (Int32.ofInt (zA σ6 16 6 x5))]) hx hb hml hg hown hK hP hD hS hA (kX6_publicNumber l D dA ad x1 a1 σ6 _ _ hw) (zoCM (by clear hw; omega)) rfl q1210 q156 q1288 q1208 q1209 (by decide +kernel) ⟨(Nat.le_of_ble_eq_true rfl), (Nat.le_of_ble_eq_true rfl)⟩ rfl hl.1 rfl (Nat.le_of_ble_eq_true rfl) dX3_publicOffset_39 ⟨(Nat.le_of_ble_eq_true rfl), (Nat.le_of_ble_eq_true rfl)⟩ (fun x9 σ10 H locs hw hP hD hS => ?_)
    obtain ⟨o11, hw⟩ := hw
    refine zlCM_16 hx hb (by clear hw; omega) o11 hK hP dX3_publicOffset_42 ?_
    refine z_iadd hx hb dX3_publicOffset_43 ?_
    exact hret ((zA σ6 16 6 x5) + (zA σ10 x1 16 x9)) σ10 _ _ _ _ hw hP hD hS dX3_publicOffset_44
  · replace hw := hw.2 k4
    refine lv_iconst (v := Int32.ofInt 0) hx hb dX3_publicOffset_11 (by decide) ?_
    exact hret 0 σ2 _ _ _ _ hw hP hD hS dX3_publicOffset_12
def wpX3_solve_202 (σ : ZS) (Q : ZS → Prop) : Prop := Q σ
def wpX3_solve_199 (s2 s1 : Int) (σ : ZS) (Q : ZS → Prop) : Prop := wpX1_addWord s1 s2 σ (fun (σ2 : ZS) => wpX3_solve_202 σ2 Q)
def wpX3_solve_72 (v3 v4 v5 v6 v8 s0 : Int) (σ : ZS) (Q : ZS → Prop) : Prop := wpX3_placeOf v8 σ (fun (x3 : Int) (σ4 : ZS) => (0 ≤ v4 ∧ v4 ≤ 2) ∧ (0 ≤ v3 ∧ v3 < 200) ∧ (-2147483648 ≤ (zA σ4 v4 8 v3) ∧ (zA σ4 v4 8 v3) ≤ 2147483647) ∧ (¬ (zA σ4 v4 8 v3) = 1 → (¬ (zA σ4 v4 8 v3) = 2 → (-2147483648 ≤ v5 ∧ v5 ≤ 2147483647) ∧ (v5 = 0 → (0 ≤ s0 ∧ s0 < 72) ∧ wpX3_solve_199 (zA σ4 16 6 s0) (x3 + (zA σ4 v4 10 v3)) σ4 Q) ∧ (¬ v5 = 0 → wpX3_publicOffset v6 σ4 (fun (x13 : Int) (σ14 : ZS) => wpX3_solve_199 x13 (x3 + (zA σ4 v4 10 v3)) σ14 Q))) ∧ ((zA σ4 v4 8 v3) = 2 → wpX3_publicOffset v6 σ4 (fun (x15 : Int) (σ16 : ZS) => (0 ≤ v8 ∧ v8 < 72) ∧ wpX1_addWord (x3 + (zA σ4 v4 10 v3)) (x15 - (((zA σ16 16 6 v8) + (zA σ16 v4 10 v3)) + 2)) σ16 (fun (σ19 : ZS) => wpX3_solve_202 σ19 Q)))) ∧ ((zA σ4 v4 8 v3) = 1 → (0 ≤ s0 ∧ s0 < 72) ∧ (0 ≤ (zA σ4 16 5 s0) ∧ (zA σ4 16 5 s0) < 72) ∧ (0 ≤ (zA σ4 16 3 (zA σ4 16 5 s0)) ∧ (zA σ4 16 3 (zA σ4 16 5 s0)) ≤ 2147483647) ∧ wpX1_addWord (x3 + (zA σ4 v4 10 v3)) ((zA σ4 16 3 (zA σ4 16 5 s0)) / 16) σ4 (fun (σ24 : ZS) => wpX1_addRelocation (x3 + (zA σ4 v4 10 v3)) σ24 (fun (σ26 : ZS) => wpX3_solve_202 σ26 Q))))
def wpX3_solve_23 (v2 v3 v4 s0 : Int) (σ : ZS) (Q : ZS → Prop) : Prop := (0 ≤ v4 ∧ v4 ≤ 2) ∧ (0 ≤ v3 ∧ v3 < 200) ∧ wpX3_part v2 (zA σ v4 9 v3) σ (fun (x29 : Int) (σ30 : ZS) => (-2147483648 ≤ s0 ∧ s0 ≤ 2147483647) ∧ (s0 = 0 → wpX3_part v2 (zA σ30 v4 11 v3) σ30 (fun (x33 : Int) (σ34 : ZS) => wpX3_solve_72 v3 v4 s0 (zA σ v4 12 v3) x29 x33 σ34 Q)) ∧ (¬ s0 = 0 → wpX3_publicPart (zA σ v4 12 v3) σ30 (fun (x35 : Int) (σ36 : ZS) => wpX3_solve_72 v3 v4 s0 (zA σ v4 12 v3) x29 x35 σ36 Q)))
def wpX3_solve (a2 a3 : Int) (σ : ZS) (Q : ZS → Prop) : Prop := (0 ≤ a2 ∧ a2 < 3) ∧ (0 ≤ a3 ∧ a3 < 200) ∧ (-2147483648 ≤ (zA σ a2 11 a3) ∧ (zA σ a2 11 a3) ≤ 2147483647) ∧ (0 ≤ (zA σ a2 11 a3) → wpX3_solve_23 a2 a3 a2 0 σ Q) ∧ (¬ 0 ≤ (zA σ a2 11 a3) → wpX3_solve_23 a2 a3 a2 1 σ Q)
set_option maxHeartbeats 4000000 in
set_option maxRecDepth 100000 in
theorem kX3_solve (l : Launch) (D : va_G) (dA : Nat → ClassId) (ad : Int → Nat → Nat) (a2 a3 : Int) (σ : ZS) (Q : ZS → Prop) (sz : Nat) (hw : wpX3_solve a2 a3 σ Q) : Met l yX3_solve (gws yX3_solve cX3_solve 11 none) (gR 5 0 0) (gPre D dA [.ref (ad 16 1000), .ref (ad 17 1000), .int (Int32.ofInt a2), .int (Int32.ofInt a3)] (zC dA ad σ) sz) (va_Qv Q (gAt D dA (va_A (zC dA ad σ) sz) (zC dA ad)) (va_A (zC dA ad σ) sz)) 0 0 (va_A (zC dA ad σ) sz) := by
  refine Met.ofW (cc := cX3_solve) (maxL := 11) (ret := none) (by decide) rfl ?_
  intro p e s m args below meth c s₁ B hml hv
  obtain ⟨rfl, hsz, hP, hK, hD0⟩ := hv
  have hx := B.exec
  have hb := B.bytes
  have hr := B.returns
  have hts := atoms_spec (ws := gws yX3_solve cX3_solve 11 none) B.pre
  have hg : ∀ w ∈ gw, w.before _ s = true := fun w h => hts w (List.mem_cons_of_mem _ h)
  have hown : s.vm.findClass RX3 = some m.cls := findClass_of_methodNamed B.named
  have hlocks := B.notSynchronized
  subst hsz
  have hD := hD0.self (sz := s.heap.size)
  generalize hAe : va_A (zC dA ad σ) s.heap.size = A at hD ⊢
  have hA : ∀ q : Nat, s.heap.size ≤ q → A q := fun q h => by rw [← hAe]; exact Or.inr h
  have hS : va_S A s.heap s.heap [] := va_S.rf
  have hl := lv_entry ([.ref (ad 16 1000), .ref (ad 17 1000), .int (Int32.ofInt a2), .int (Int32.ofInt a3)]) (n := 11) (Nat.le_of_ble_eq_true rfl)
  rw [lg_entry_eq]
  generalize (lg_sl ([.ref (ad 16 1000), .ref (ad 17 1000), .int (Int32.ofInt a2), .int (Int32.ofInt a3)]) ++ List.replicate (11 - (lg_sl ([.ref (ad 16 1000), .ref (ad 17 1000), .int (Int32.ofInt a2), .int (Int32.ofInt a3)])).length) Slot.unset).toArray = ls at hl ⊢
  have hl : lv_has ls 11 [(0, .ref (ad 16 1000)), (1, .ref (ad 17 1000)), (2, .int (Int32.ofInt a2)), (3, .int (Int32.ofInt a3))] := hl
  have hret : ∀ (σ : ZS) (H : Heap) (locs : List Loc) (ls : Array Slot) (pc : Nat), Q σ → va_P D vwC (zC dA ad σ) H → va_D A (zC dA ad σ) → va_S A s.heap H locs → decode cX3_solve pc = .ok (.return_, 1) → W p l e (gR 5 0 0) s m #[.ref (ad 16 1000), .ref (ad 17 1000), .int (Int32.ofInt a2), .int (Int32.ofInt a3)] below meth c H locs 0 0 (MQ below (va_Qv Q (gAt D dA A (zC dA ad)) A) #[.ref (ad 16 1000), .ref (ad 17 1000), .int (Int32.ofInt a2), .int (Int32.ofInt a3)] s 0 0 A) (F0 m pc ls []) := fun σ H locs ls pc hw hP hD hS hd => g_vret hx hb hr hlocks hK σ hP hD hS hw (Nat.le_of_ble_eq_true rfl) (Nat.le_of_ble_eq_true rfl) hd
  generalize MQ below (va_Qv Q (gAt D dA A (zC dA ad)) A) #[.ref (ad 16 1000), .ref (ad 17 1000), .int (Int32.ofInt a2), .int (Int32.ofInt a3)] s 0 0 A = QQ at hret ⊢
  have j202 : ∀ (σ : ZS), ∀ (H : Heap) (locs : List Loc) (ls : Array Slot), va_P D vwC (zC dA ad σ) H → va_D A (zC dA ad σ) → va_S A s.heap H locs → lv_has ls 11 [] → wpX3_solve_202 σ Q → W p l e (gR 5 0 0) s m #[.ref (ad 16 1000), .ref (ad 17 1000), .int (Int32.ofInt a2), .int (Int32.ofInt a3)] below meth c H locs 0 0 QQ (F0 m 202 ls []) := by
    intro σ H locs ls hP hD hS hl hw
    unfold wpX3_solve_202 at hw
    exact hret σ _ _ _ _ hw hP hD hS dX3_solve_202
  have j199 : ∀ (s2 s1 : Int) (σ : ZS), ∀ (H : Heap) (locs : List Loc) (ls : Array Slot), va_P D vwC (zC dA ad σ) H → va_D A (zC dA ad σ) → va_S A s.heap H locs → lv_has ls 11 [] → wpX3_solve_199 s2 s1 σ Q → W p l e (gR 5 0 0) s m #[.ref (ad 16 1000), .ref (ad 17 1000), .int (Int32.ofInt a2), .int (Int32.ofInt a3)] below meth c H locs 0 0 QQ (F0 m 199 ls [.int (Int32.ofInt s2), .int (Int32.ofInt s1), .ref (ad 17 1000)]) := by
    intro s2 s1 σ H locs ls hP hD hS hl hw
    unfold wpX3_solve_199 at hw
    refine z_Vv (n := 2) (As := [.int (Int32.ofInt s1), .int (Int32.ofInt s2)]) (rest := []) hx hb hml hg hown hK hP hD hS hA (kX1_addWord l D dA ad s1 s2 σ _ _ hw) (zoC17) rfl q1352 q158 q1349 q1350 q1351 (by decide +kernel) ⟨(Nat.le_of_ble_eq_true rfl), (Nat.le_of_ble_eq_true rfl)⟩ rfl hl.1 rfl (Nat.le_of_ble_eq_true rfl) dX3_solve_199 ⟨(Nat.le_of_ble_eq_true rfl), (Nat.le_of_ble_eq_true rfl)⟩ (fun σ2 H locs hw hP hD hS => ?_)
    exact j202 σ2 _ _ _ hP hD hS (lv_sub hl [] rfl) hw
  have j72 : ∀ (v3 v4 v5 v6 v8 s0 : Int) (σ : ZS), ∀ (H : Heap) (locs : List Loc) (ls : Array Slot), va_P D vwC (zC dA ad σ) H → va_D A (zC dA ad σ) → va_S A s.heap H locs → lv_has ls 11 [(0, .ref (ad 16 1000)), (1, .ref (ad 17 1000)), (3, .int (Int32.ofInt v3)), (4, .ref (ad v4 1000)), (5, .int (Int32.ofInt v5)), (6, .long (Int64.ofInt v6)), (8, .int (Int32.ofInt v8))] → wpX3_solve_72 v3 v4 v5 v6 v8 s0 σ Q → W p l e (gR 5 0 0) s m #[.ref (ad 16 1000), .ref (ad 17 1000), .int (Int32.ofInt a2), .int (Int32.ofInt a3)] below meth c H locs 0 0 QQ (F0 m 72 ls [.int (Int32.ofInt s0)]) := by
    intro v3 v4 v5 v6 v8 s0 σ H locs ls hP hD hS hl hw
    unfold wpX3_solve_72 at hw
    refine lv_istore (lv' := [(9, .int (Int32.ofInt s0)), (0, .ref (ad 16 1000)), (1, .ref (ad 17 1000)), (3, .int (Int32.ofInt v3)), (4, .ref (ad v4 1000)), (5, .int (Int32.ofInt v5)), (6, .long (Int64.ofInt v6)), (8, .int (Int32.ofInt v8))]) hx hb dX3_solve_72 hl (by decide) rfl (fun ls hl => ?_)
    refine lv_aload_n hx hb dX3_solve_74 rfl (lv_at hl 1 rfl) ?_
    refine lv_iload hx hb dX3_solve_75 (lv_at hl 7 rfl) ?_
    refine z_Vi (n := 1) (As := [.int (Int32.ofInt v8)]) (rest := []) hx hb hml hg hown hK hP hD hS hA (kX3_placeOf l D dA ad v8 σ _ _ hw) (zoC16) rfl q1341 q157 q1338 q1340 q47 (by decide +kernel) ⟨(Nat.le_of_ble_eq_true rfl), (Nat.le_of_ble_eq_true rfl)⟩ rfl hl.1 rfl (Nat.le_of_ble_eq_true rfl) dX3_solve_77 ⟨(Nat.le_of_ble_eq_true rfl), (Nat.le_of_ble_eq_true rfl)⟩ (fun x3 σ4 H locs hw hP hD hS => ?_)
    refine lv_aload hx hb dX3_solve_80 (lv_at hl 4 rfl) ?_
    obtain ⟨o5, hw⟩ := hw
    refine zgCM_10 hx hb hg hown o5 hK hP q428 dX3_solve_82 ?_
    refine lv_iload_n hx hb dX3_solve_85 rfl (lv_at hl 3 rfl) ?_
    obtain ⟨o6, hw⟩ := hw
    refine zlCM_10 hx hb o5 o6 hK hP dX3_solve_86 ?_
    refine z_iadd hx hb dX3_solve_87 ?_
    refine lv_istore (lv' := [(10, .int (Int32.ofInt (x3 + (zA σ4 v4 10 v3)))), (9, .int (Int32.ofInt s0)), (0, .ref (ad 16 1000)), (1, .ref (ad 17 1000)), (3, .int (Int32.ofInt v3)), (4, .ref (ad v4 1000)), (5, .int (Int32.ofInt v5)), (6, .long (Int64.ofInt v6)), (8, .int (Int32.ofInt v8))]) hx hb dX3_solve_88 hl (by decide) rfl (fun ls hl => ?_)
    refine lv_aload hx hb dX3_solve_90 (lv_at hl 5 rfl) ?_
    refine zgCM_8 hx hb hg hown o5 hK hP q422 dX3_solve_92 ?_
    refine lv_iload_n hx hb dX3_solve_95 rfl (lv_at hl 4 rfl) ?_
    refine zlCM_8 hx hb o5 o6 hK hP dX3_solve_96 ?_
    refine lv_iconst (v := Int32.ofInt 1) hx hb dX3_solve_97 (by decide) ?_
    obtain ⟨o7, hw⟩ := hw
    refine z_icmp_ne (tgt := 131) hx hb o7 (by decide) dX3_solve_98 (by decide) (fun k8 => ?_) (fun k8 => ?_)
    · replace hw := hw.1 k8
      refine lv_aload hx hb dX3_solve_131 (lv_at hl 5 rfl) ?_
      refine zgCM_8 hx hb hg hown o5 hK hP q422 dX3_solve_133 ?_
      refine lv_iload_n hx hb dX3_solve_136 rfl (lv_at hl 4 rfl) ?_
      refine zlCM_8 hx hb o5 o6 hK hP dX3_solve_137 ?_
      refine lv_iconst (v := Int32.ofInt 2) hx hb dX3_solve_138 (by decide) ?_
      refine z_icmp_ne (tgt := 175) hx hb o7 (by decide) dX3_solve_139 (by decide) (fun k9 => ?_) (fun k9 => ?_)
      · replace hw := hw.1 k9
        refine lv_aload_n hx hb dX3_solve_175 rfl (lv_at hl 3 rfl) ?_
        refine lv_iload hx hb dX3_solve_176 (lv_at hl 0 rfl) ?_
        refine lv_iload hx hb dX3_solve_178 (lv_at hl 6 rfl) ?_
        obtain ⟨o10, hw⟩ := hw
        refine z_if_eq (tgt := 192) hx hb o10 dX3_solve_180 (by decide) (fun k11 => ?_) (fun k11 => ?_)
        · replace hw := hw.1 k11
          refine lv_aload_n hx hb dX3_solve_192 rfl (lv_at hl 2 rfl) ?_
          refine zgC16_6 hx hb hg hown hK hP q489 dX3_solve_193 ?_
          refine lv_iload hx hb dX3_solve_196 (lv_at hl 1 rfl) ?_
          obtain ⟨o12, hw⟩ := hw
          refine zlC16_6 hx hb o12 hK hP dX3_solve_198 ?_
          exact j199 (zA σ4 16 6 s0) (x3 + (zA σ4 v4 10 v3)) σ4 _ _ _ hP hD hS (lv_sub hl [] rfl) hw
        · replace hw := hw.2 k11
          refine lv_aload_n hx hb dX3_solve_183 rfl (lv_at hl 2 rfl) ?_
          refine lv_lload hx hb dX3_solve_184 (lv_at hl 7 rfl) ?_
          refine z_Vi (n := 1) (As := [.long (Int64.ofInt v6)]) (rest := [.int (Int32.ofInt (x3 + (zA σ4 v4 10 v3))), .ref (ad 17 1000)]) hx hb hml hg hown hK hP hD hS hA (kX3_publicOffset l D dA ad v6 σ4 _ _ hw) (zoC16) rfl q1360 q157 q1357 q1359 q49 (by decide +kernel) ⟨(Nat.le_of_ble_eq_true rfl), (Nat.le_of_ble_eq_true rfl)⟩ rfl hl.1 rfl (Nat.le_of_ble_eq_true rfl) dX3_solve_186 ⟨(Nat.le_of_ble_eq_true rfl), (Nat.le_of_ble_eq_true rfl)⟩ (fun x13 σ14 H locs hw hP hD hS => ?_)
          refine lv_goto (tgt := 199) hx hb dX3_solve_189 (by decide) ?_
          exact j199 x13 (x3 + (zA σ4 v4 10 v3)) σ14 _ _ _ hP hD hS (lv_sub hl [] rfl) hw
      · replace hw := hw.2 k9
        refine lv_aload_n hx hb dX3_solve_142 rfl (lv_at hl 3 rfl) ?_
        refine lv_iload hx hb dX3_solve_143 (lv_at hl 0 rfl) ?_
        refine lv_aload_n hx hb dX3_solve_145 rfl (lv_at hl 2 rfl) ?_
        refine lv_lload hx hb dX3_solve_146 (lv_at hl 7 rfl) ?_
        refine z_Vi (n := 1) (As := [.long (Int64.ofInt v6)]) (rest := [.int (Int32.ofInt (x3 + (zA σ4 v4 10 v3))), .ref (ad 17 1000)]) hx hb hml hg hown hK hP hD hS hA (kX3_publicOffset l D dA ad v6 σ4 _ _ hw) (zoC16) rfl q1360 q157 q1357 q1359 q49 (by decide +kernel) ⟨(Nat.le_of_ble_eq_true rfl), (Nat.le_of_ble_eq_true rfl)⟩ rfl hl.1 rfl (Nat.le_of_ble_eq_true rfl) dX3_solve_148 ⟨(Nat.le_of_ble_eq_true rfl), (Nat.le_of_ble_eq_true rfl)⟩ (fun x15 σ16 H locs hw hP hD hS => ?_)
        refine lv_aload_n hx hb dX3_solve_151 rfl (lv_at hl 2 rfl) ?_
        refine zgC16_6 hx hb hg hown hK hP q489 dX3_solve_152 ?_
        refine lv_iload hx hb dX3_solve_155 (lv_at hl 8 rfl) ?_
        obtain ⟨o17, hw⟩ := hw
        refine zlC16_6 hx hb o17 hK hP dX3_solve_157 ?_
        refine lv_aload hx hb dX3_solve_158 (lv_at hl 5 rfl) ?_
        refine zgCM_10 hx hb hg hown o5 hK hP q428 dX3_solve_160 ?_
        refine lv_iload_n hx hb dX3_solve_163 rfl (lv_at hl 4 rfl) ?_
        refine zlCM_10 hx hb o5 o6 hK hP dX3_solve_164 ?_
        refine z_iadd hx hb dX3_solve_165 ?_
        refine lv_iconst (v := Int32.ofInt 2) hx hb dX3_solve_166 (by decide) ?_
        refine z_iadd hx hb dX3_solve_167 ?_
        refine z_isub hx hb dX3_solve_168 ?_
        refine z_Vv (n := 2) (As := [.int (Int32.ofInt (x3 + (zA σ4 v4 10 v3))), .int (Int32.ofInt (x15 - (((zA σ16 16 6 v8) + (zA σ16 v4 10 v3)) + 2)))]) (rest := []) hx hb hml hg hown hK hP hD hS hA (kX1_addWord l D dA ad (x3 + (zA σ4 v4 10 v3)) (x15 - (((zA σ16 16 6 v8) + (zA σ16 v4 10 v3)) + 2)) σ16 _ _ hw) (zoC17) rfl q1352 q158 q1349 q1350 q1351 (by decide +kernel) ⟨(Nat.le_of_ble_eq_true rfl), (Nat.le_of_ble_eq_true rfl)⟩ rfl hl.1 rfl (Nat.le_of_ble_eq_true rfl) dX3_solve_169 ⟨(Nat.le_of_ble_eq_true rfl), (Nat.le_of_ble_eq_true rfl)⟩ (fun σ19 H locs hw hP hD hS => ?_)
        refine lv_goto (tgt := 202) hx hb dX3_solve_172 (by decide) ?_
        exact j202 σ19 _ _ _ hP hD hS (lv_sub hl [] rfl) hw
    · replace hw := hw.2 k8
      refine lv_aload_n hx hb dX3_solve_101 rfl (lv_at hl 3 rfl) ?_
      refine lv_iload hx hb dX3_solve_102 (lv_at hl 0 rfl) ?_
      refine lv_aload_n hx hb dX3_solve_104 rfl (lv_at hl 2 rfl) ?_
      refine zgC16_3 hx hb hg hown hK hP q486 dX3_solve_105 ?_
      refine lv_aload_n hx hb dX3_solve_108 rfl (lv_at hl 2 rfl) ?_
      refine zgC16_5 hx hb hg hown hK hP q488 dX3_solve_109 ?_
      refine lv_iload hx hb dX3_solve_112 (lv_at hl 1 rfl) ?_
      obtain ⟨o20, hw⟩ := hw
      refine zlC16_5 hx hb o20 hK hP dX3_solve_114 ?_
      obtain ⟨o21, hw⟩ := hw
      refine zlC16_3 hx hb o21 hK hP dX3_solve_115 ?_
      refine lv_bipush (v := Int32.ofInt 16) hx hb dX3_solve_116 (by decide) ?_
      obtain ⟨o22, hw⟩ := hw
      refine z_idiv hx hb o22 (by decide) dX3_solve_118 ?_
      refine z_Vv (n := 2) (As := [.int (Int32.ofInt (x3 + (zA σ4 v4 10 v3))), .int (Int32.ofInt ((zA σ4 16 3 (zA σ4 16 5 s0)) / 16))]) (rest := []) hx hb hml hg hown hK hP hD hS hA (kX1_addWord l D dA ad (x3 + (zA σ4 v4 10 v3)) ((zA σ4 16 3 (zA σ4 16 5 s0)) / 16) σ4 _ _ hw) (zoC17) rfl q1352 q158 q1349 q1350 q1351 (by decide +kernel) ⟨(Nat.le_of_ble_eq_true rfl), (Nat.le_of_ble_eq_true rfl)⟩ rfl hl.1 rfl (Nat.le_of_ble_eq_true rfl) dX3_solve_119 ⟨(Nat.le_of_ble_eq_true rfl), (Nat.le_of_ble_eq_true rfl)⟩ (fun σ24 H locs hw hP hD hS => ?_)
      refine lv_aload_n hx hb dX3_solve_122 rfl (lv_at hl 3 rfl) ?_
      refine lv_iload hx hb dX3_solve_123 (lv_at hl 0 rfl) ?_
      refine z_Vv (n := 1) (As := [.int (Int32.ofInt (x3 + (zA σ4 v4 10 v3)))]) (rest := []) hx hb hml hg hown hK hP hD hS hA (kX1_addRelocation l D dA ad (x3 + (zA σ4 v4 10 v3)) σ24 _ _ hw) (zoC17) rfl q1356 q158 q1353 q1354 q1355 (by decide +kernel) ⟨(Nat.le_of_ble_eq_true rfl), (Nat.le_of_ble_eq_true rfl)⟩ rfl hl.1 rfl (Nat.le_of_ble_eq_true rfl) dX3_solve_125 ⟨(Nat.le_of_ble_eq_true rfl), (Nat.le_of_ble_eq_true rfl)⟩ (fun σ26 H locs hw hP hD hS => ?_)
      refine lv_goto (tgt := 202) hx hb dX3_solve_128 (by decide) ?_
      exact j202 σ26 _ _ _ hP hD hS (lv_sub hl [] rfl) hw
  have j23 : ∀ (v2 v3 v4 s0 : Int) (σ : ZS), ∀ (H : Heap) (locs : List Loc) (ls : Array Slot), va_P D vwC (zC dA ad σ) H → va_D A (zC dA ad σ) → va_S A s.heap H locs → lv_has ls 11 [(0, .ref (ad 16 1000)), (1, .ref (ad 17 1000)), (2, .int (Int32.ofInt v2)), (3, .int (Int32.ofInt v3)), (4, .ref (ad v4 1000))] → wpX3_solve_23 v2 v3 v4 s0 σ Q → W p l e (gR 5 0 0) s m #[.ref (ad 16 1000), .ref (ad 17 1000), .int (Int32.ofInt a2), .int (Int32.ofInt a3)] below meth c H locs 0 0 QQ (F0 m 23 ls [.int (Int32.ofInt s0)]) := by
    intro v2 v3 v4 s0 σ H locs ls hP hD hS hl hw
    unfold wpX3_solve_23 at hw
    refine lv_istore (lv' := [(5, .int (Int32.ofInt s0)), (0, .ref (ad 16 1000)), (1, .ref (ad 17 1000)), (2, .int (Int32.ofInt v2)), (3, .int (Int32.ofInt v3)), (4, .ref (ad v4 1000))]) hx hb dX3_solve_23 hl (by decide) rfl (fun ls hl => ?_)
    refine lv_aload hx hb dX3_solve_25 (lv_at hl 5 rfl) ?_
    obtain ⟨o27, hw⟩ := hw
    refine zgCM_12 hx hb hg hown o27 hK hP q433 dX3_solve_27 ?_
    refine lv_iload_n hx hb dX3_solve_30 rfl (lv_at hl 4 rfl) ?_
    obtain ⟨o28, hw⟩ := hw
    refine zlCM_12 hx hb o27 o28 hK hP dX3_solve_31 ?_
    refine lv_lstore (lv' := [(6, .long (Int64.ofInt (zA σ v4 12 v3))), (5, .int (Int32.ofInt s0)), (0, .ref (ad 16 1000)), (1, .ref (ad 17 1000)), (2, .int (Int32.ofInt v2)), (3, .int (Int32.ofInt v3)), (4, .ref (ad v4 1000))]) hx hb dX3_solve_32 hl (by decide) rfl (fun ls hl => ?_)
    refine lv_iload_n hx hb dX3_solve_34 rfl (lv_at hl 4 rfl) ?_
    refine lv_aload hx hb dX3_solve_35 (lv_at hl 6 rfl) ?_
    refine zgCM_9 hx hb hg hown o27 hK hP q425 dX3_solve_37 ?_
    refine lv_iload_n hx hb dX3_solve_40 rfl (lv_at hl 5 rfl) ?_
    refine zlCM_9 hx hb o27 o28 hK hP dX3_solve_41 ?_
    refine z_Si (n := 2) (As := [.int (Int32.ofInt v2), .int (Int32.ofInt (zA σ v4 9 v3))]) (rest := []) hx hb hml hg hown hK hP hD hS hA (kX3_part l D dA ad v2 (zA σ v4 9 v3) σ _ _ hw) q1318 q157 q1316 q1317 (by decide +kernel) ⟨(Nat.le_of_ble_eq_true rfl), (Nat.le_of_ble_eq_true rfl)⟩ rfl hl.1 rfl (Nat.le_of_ble_eq_true rfl) dX3_solve_42 ⟨(Nat.le_of_ble_eq_true rfl), (Nat.le_of_ble_eq_true rfl)⟩ (fun x29 σ30 H locs hw hP hD hS => ?_)
    refine lv_istore (lv' := [(8, .int (Int32.ofInt x29)), (6, .long (Int64.ofInt (zA σ v4 12 v3))), (5, .int (Int32.ofInt s0)), (0, .ref (ad 16 1000)), (1, .ref (ad 17 1000)), (2, .int (Int32.ofInt v2)), (3, .int (Int32.ofInt v3)), (4, .ref (ad v4 1000))]) hx hb dX3_solve_45 hl (by decide) rfl (fun ls hl => ?_)
    refine lv_iload hx hb dX3_solve_47 (lv_at hl 2 rfl) ?_
    obtain ⟨o31, hw⟩ := hw
    refine z_if_eq (tgt := 61) hx hb o31 dX3_solve_49 (by decide) (fun k32 => ?_) (fun k32 => ?_)
    · replace hw := hw.1 k32
      refine lv_iload_n hx hb dX3_solve_61 rfl (lv_at hl 5 rfl) ?_
      refine lv_aload hx hb dX3_solve_62 (lv_at hl 7 rfl) ?_
      refine zgCM_11 hx hb hg hown o27 hK hP q430 dX3_solve_64 ?_
      refine lv_iload_n hx hb dX3_solve_67 rfl (lv_at hl 6 rfl) ?_
      refine zlCM_11 hx hb o27 o28 hK hP dX3_solve_68 ?_
      refine z_Si (n := 2) (As := [.int (Int32.ofInt v2), .int (Int32.ofInt (zA σ30 v4 11 v3))]) (rest := []) hx hb hml hg hown hK hP hD hS hA (kX3_part l D dA ad v2 (zA σ30 v4 11 v3) σ30 _ _ hw) q1318 q157 q1316 q1317 (by decide +kernel) ⟨(Nat.le_of_ble_eq_true rfl), (Nat.le_of_ble_eq_true rfl)⟩ rfl hl.1 rfl (Nat.le_of_ble_eq_true rfl) dX3_solve_69 ⟨(Nat.le_of_ble_eq_true rfl), (Nat.le_of_ble_eq_true rfl)⟩ (fun x33 σ34 H locs hw hP hD hS => ?_)
      exact j72 v3 v4 s0 (zA σ v4 12 v3) x29 x33 σ34 _ _ _ hP hD hS (lv_sub hl [3, 4, 6, 7, 2, 1, 0] rfl) hw
    · replace hw := hw.2 k32
      refine lv_aload_n hx hb dX3_solve_52 rfl (lv_at hl 3 rfl) ?_
      refine lv_lload hx hb dX3_solve_53 (lv_at hl 1 rfl) ?_
      refine z_Vi (n := 1) (As := [.long (Int64.ofInt (zA σ v4 12 v3))]) (rest := []) hx hb hml hg hown hK hP hD hS hA (kX3_publicPart l D dA ad (zA σ v4 12 v3) σ30 _ _ hw) (zoC16) rfl q1327 q157 q1324 q1326 q46 (by decide +kernel) ⟨(Nat.le_of_ble_eq_true rfl), (Nat.le_of_ble_eq_true rfl)⟩ rfl hl.1 rfl (Nat.le_of_ble_eq_true rfl) dX3_solve_55 ⟨(Nat.le_of_ble_eq_true rfl), (Nat.le_of_ble_eq_true rfl)⟩ (fun x35 σ36 H locs hw hP hD hS => ?_)
      refine lv_goto (tgt := 72) hx hb dX3_solve_58 (by decide) ?_
      exact j72 v3 v4 s0 (zA σ v4 12 v3) x29 x35 σ36 _ _ _ hP hD hS (lv_sub hl [3, 4, 6, 7, 2, 1, 0] rfl) hw
  unfold wpX3_solve at hw
  refine lv_aload_n hx hb dX3_solve_0 rfl (lv_at hl 0 rfl) ?_
  refine zgC16_0 hx hb hg hown hK hP q483 dX3_solve_1 ?_
  refine lv_iload_n hx hb dX3_solve_4 rfl (lv_at hl 2 rfl) ?_
  obtain ⟨o37, hw⟩ := hw
  refine zlC10_8 hx hb o37 hK hP dX3_solve_5 ?_
  refine lv_astore (lv' := [(4, .ref (ad a2 1000)), (0, .ref (ad 16 1000)), (1, .ref (ad 17 1000)), (2, .int (Int32.ofInt a2)), (3, .int (Int32.ofInt a3))]) hx hb dX3_solve_6 hl (by decide) rfl (fun ls hl => ?_)
  refine lv_aload hx hb dX3_solve_8 (lv_at hl 0 rfl) ?_
  refine zgCM_11 hx hb hg hown (by clear hw; omega) hK hP q430 dX3_solve_10 ?_
  refine lv_iload_n hx hb dX3_solve_13 rfl (lv_at hl 4 rfl) ?_
  obtain ⟨o38, hw⟩ := hw
  refine zlCM_11 hx hb (by clear hw; omega) o38 hK hP dX3_solve_14 ?_
  obtain ⟨o39, hw⟩ := hw
  refine z_if_ge (tgt := 22) hx hb o39 dX3_solve_15 (by decide) (fun k40 => ?_) (fun k40 => ?_)
  · replace hw := hw.1 k40
    refine lv_iconst (v := Int32.ofInt 0) hx hb dX3_solve_22 (by decide) ?_
    exact j23 a2 a3 a2 0 σ _ _ _ hP hD hS (lv_sub hl [1, 2, 3, 4, 0] rfl) hw
  · replace hw := hw.2 k40
    refine lv_iconst (v := Int32.ofInt 1) hx hb dX3_solve_18 (by decide) ?_
    refine lv_goto (tgt := 23) hx hb dX3_solve_19 (by decide) ?_
    exact j23 a2 a3 a2 1 σ _ _ _ hP hD hS (lv_sub hl [1, 2, 3, 4, 0] rfl) hw
def wpbX3_write_97 (K89 : Int → ZS → Prop) (K97 : Int → ZS → Prop) (v3 v4 : Int) (σ : ZS) (Q : ZS → Prop) : Prop := (0 ≤ v3 ∧ v3 < 3) ∧ (-2147483648 ≤ v4 ∧ v4 ≤ 2147483647) ∧ (-2147483648 ≤ (zI σ v3 7) ∧ (zI σ v3 7) ≤ 2147483647) ∧ ((zI σ v3 7) ≤ v4 → K89 (v3 + 1) σ) ∧ (¬ (zI σ v3 7) ≤ v4 → wpX3_solve v3 v4 σ (fun (σ6 : ZS) => K97 (v4 + 1) σ6))
def wpX3_write_97 (K89 : Int → ZS → Prop) (v3 v4 : Int) (σ : ZS) (Q : ZS → Prop) : Prop := lfp1 (fun K97 v4 σ => wpbX3_write_97 K89 K97 v3 v4 σ Q) v4 σ
def wpbX3_write_89 (K89 : Int → ZS → Prop) (v3 : Int) (σ : ZS) (Q : ZS → Prop) : Prop := (-2147483648 ≤ v3 ∧ v3 ≤ 2147483647) ∧ (3 ≤ v3 → wpX3_publicPart 230192366 σ (fun (x9 : Int) (σ10 : ZS) => (0 ≤ x9 ∧ x9 < 72) ∧ (0 ≤ (zA σ10 16 5 x9) ∧ (zA σ10 16 5 x9) < 72) ∧ (0 ≤ (zA σ10 16 3 (zA σ10 16 5 x9)) ∧ (zA σ10 16 3 (zA σ10 16 5 x9)) ≤ 2147483647) ∧ wpX3_publicOffset 230192366 (zsI σ10 17 5 ((zA σ10 16 3 (zA σ10 16 5 x9)) / 16)) (fun (x14 : Int) (σ15 : ZS) => Q (zsI σ15 17 6 x14)))) ∧ (¬ 3 ≤ v3 → wpX3_write_97 K89 v3 0 σ Q)
def wpX3_write_89 (v3 : Int) (σ : ZS) (Q : ZS → Prop) : Prop := lfp1 (fun K89 v3 σ => wpbX3_write_89 K89 v3 σ Q) v3 σ
def wpbX3_write_15 (K7 : Int → ZS → Prop) (K15 : Int → ZS → Prop) (v3 v4 : Int) (σ : ZS) (Q : ZS → Prop) : Prop := (0 ≤ v3 ∧ v3 < 3) ∧ (-2147483648 ≤ v4 ∧ v4 ≤ 2147483647) ∧ (-2147483648 ≤ (zI σ v3 1) ∧ (zI σ v3 1) ≤ 2147483647) ∧ ((zI σ v3 1) ≤ v4 → K7 (v3 + 1) σ) ∧ (¬ (zI σ v3 1) ≤ v4 → (0 ≤ v4 ∧ v4 < 24) ∧ wpX3_part v3 v4 σ (fun (x21 : Int) (σ22 : ZS) => wpX3_placeOf x21 σ22 (fun (x23 : Int) (σ24 : ZS) => (0 ≤ (zA σ v3 5 v4) ∧ 0 ≤ x23 ∧ 0 ≤ (zA σ24 v3 4 v4) ∧ (zA σ v3 5 v4) + (zA σ24 v3 4 v4) ≤ 400 ∧ x23 + (zA σ24 v3 4 v4) ≤ 1200) ∧ K15 (v4 + 1) (zsF σ24 17 2 (zcpy (zA σ24 v3 6) (zA σ24 17 2) (zA σ v3 5 v4) x23 (zA σ24 v3 4 v4))))))
def wpX3_write_15 (K7 : Int → ZS → Prop) (v3 v4 : Int) (σ : ZS) (Q : ZS → Prop) : Prop := lfp1 (fun K15 v4 σ => wpbX3_write_15 K7 K15 v3 v4 σ Q) v4 σ
def wpbX3_write_7 (K7 : Int → ZS → Prop) (v3 : Int) (σ : ZS) (Q : ZS → Prop) : Prop := (-2147483648 ≤ v3 ∧ v3 ≤ 2147483647) ∧ (3 ≤ v3 → wpX3_write_89 0 σ Q) ∧ (¬ 3 ≤ v3 → wpX3_write_15 K7 v3 0 σ Q)
def wpX3_write_7 (v3 : Int) (σ : ZS) (Q : ZS → Prop) : Prop := lfp1 (fun K7 v3 σ => wpbX3_write_7 K7 v3 σ Q) v3 σ
def wpX3_write (a2 : Int) (σ : ZS) (Q : ZS → Prop) : Prop := wpX1_begin a2 σ (fun (σ29 : ZS) => wpX3_write_7 0 σ29 Q)
set_option maxHeartbeats 4000000 in
set_option maxRecDepth 100000 in
theorem kX3_write (l : Launch) (D : va_G) (dA : Nat → ClassId) (ad : Int → Nat → Nat) (a2 : Int) (σ : ZS) (Q : ZS → Prop) (sz : Nat) (hw : wpX3_write a2 σ Q) : Met l yX3_write (gws yX3_write cX3_write 6 none) (gR 6 0 0) (gPre D dA [.ref (ad 16 1000), .ref (ad 17 1000), .int (Int32.ofInt a2)] (zC dA ad σ) sz) (va_Qv Q (gAt D dA (va_A (zC dA ad σ) sz) (zC dA ad)) (va_A (zC dA ad σ) sz)) 0 0 (va_A (zC dA ad σ) sz) := by
  refine Met.ofW (cc := cX3_write) (maxL := 6) (ret := none) (by decide) rfl ?_
  intro p e s m args below meth c s₁ B hml hv
  obtain ⟨rfl, hsz, hP, hK, hD0⟩ := hv
  have hx := B.exec
  have hb := B.bytes
  have hr := B.returns
  have hts := atoms_spec (ws := gws yX3_write cX3_write 6 none) B.pre
  have hg : ∀ w ∈ gw, w.before _ s = true := fun w h => hts w (List.mem_cons_of_mem _ h)
  have hown : s.vm.findClass RX3 = some m.cls := findClass_of_methodNamed B.named
  have hlocks := B.notSynchronized
  subst hsz
  have hD := hD0.self (sz := s.heap.size)
  generalize hAe : va_A (zC dA ad σ) s.heap.size = A at hD ⊢
  have hA : ∀ q : Nat, s.heap.size ≤ q → A q := fun q h => by rw [← hAe]; exact Or.inr h
  have hS : va_S A s.heap s.heap [] := va_S.rf
  have hl := lv_entry ([.ref (ad 16 1000), .ref (ad 17 1000), .int (Int32.ofInt a2)]) (n := 6) (Nat.le_of_ble_eq_true rfl)
  rw [lg_entry_eq]
  generalize (lg_sl ([.ref (ad 16 1000), .ref (ad 17 1000), .int (Int32.ofInt a2)]) ++ List.replicate (6 - (lg_sl ([.ref (ad 16 1000), .ref (ad 17 1000), .int (Int32.ofInt a2)])).length) Slot.unset).toArray = ls at hl ⊢
  have hl : lv_has ls 6 [(0, .ref (ad 16 1000)), (1, .ref (ad 17 1000)), (2, .int (Int32.ofInt a2))] := hl
  have hret : ∀ (σ : ZS) (H : Heap) (locs : List Loc) (ls : Array Slot) (pc : Nat), Q σ → va_P D vwC (zC dA ad σ) H → va_D A (zC dA ad σ) → va_S A s.heap H locs → decode cX3_write pc = .ok (.return_, 1) → W p l e (gR 6 0 0) s m #[.ref (ad 16 1000), .ref (ad 17 1000), .int (Int32.ofInt a2)] below meth c H locs 0 0 (MQ below (va_Qv Q (gAt D dA A (zC dA ad)) A) #[.ref (ad 16 1000), .ref (ad 17 1000), .int (Int32.ofInt a2)] s 0 0 A) (F0 m pc ls []) := fun σ H locs ls pc hw hP hD hS hd => g_vret hx hb hr hlocks hK σ hP hD hS hw (Nat.le_of_ble_eq_true rfl) (Nat.le_of_ble_eq_true rfl) hd
  generalize MQ below (va_Qv Q (gAt D dA A (zC dA ad)) A) #[.ref (ad 16 1000), .ref (ad 17 1000), .int (Int32.ofInt a2)] s 0 0 A = QQ at hret ⊢
  have b89 : ∀ (K89 : Int → ZS → Prop), (∀ (v3 : Int) (σ : ZS), K89 v3 σ → ∀ (H : Heap) (locs : List Loc) (ls : Array Slot), va_P D vwC (zC dA ad σ) H → va_D A (zC dA ad σ) → va_S A s.heap H locs → lv_has ls 6 [(0, .ref (ad 16 1000)), (1, .ref (ad 17 1000)), (3, .int (Int32.ofInt v3))] → W p l e (gR 6 0 0) s m #[.ref (ad 16 1000), .ref (ad 17 1000), .int (Int32.ofInt a2)] below meth c H locs 0 0 QQ (F0 m 89 ls [])) → ∀ (v3 : Int) (σ : ZS), wpbX3_write_89 K89 v3 σ Q → ∀ (H : Heap) (locs : List Loc) (ls : Array Slot), va_P D vwC (zC dA ad σ) H → va_D A (zC dA ad σ) → va_S A s.heap H locs → lv_has ls 6 [(0, .ref (ad 16 1000)), (1, .ref (ad 17 1000)), (3, .int (Int32.ofInt v3))] → W p l e (gR 6 0 0) s m #[.ref (ad 16 1000), .ref (ad 17 1000), .int (Int32.ofInt a2)] below meth c H locs 0 0 QQ (F0 m 89 ls []) := by
    intro K89 hK89
    have b97 : ∀ (v3 : Int) (K97 : Int → ZS → Prop), (∀ (v4 : Int) (σ : ZS), K97 v4 σ → ∀ (H : Heap) (locs : List Loc) (ls : Array Slot), va_P D vwC (zC dA ad σ) H → va_D A (zC dA ad σ) → va_S A s.heap H locs → lv_has ls 6 [(0, .ref (ad 16 1000)), (1, .ref (ad 17 1000)), (3, .int (Int32.ofInt v3)), (4, .int (Int32.ofInt v4))] → W p l e (gR 6 0 0) s m #[.ref (ad 16 1000), .ref (ad 17 1000), .int (Int32.ofInt a2)] below meth c H locs 0 0 QQ (F0 m 97 ls [])) → ∀ (v4 : Int) (σ : ZS), wpbX3_write_97 K89 K97 v3 v4 σ Q → ∀ (H : Heap) (locs : List Loc) (ls : Array Slot), va_P D vwC (zC dA ad σ) H → va_D A (zC dA ad σ) → va_S A s.heap H locs → lv_has ls 6 [(0, .ref (ad 16 1000)), (1, .ref (ad 17 1000)), (3, .int (Int32.ofInt v3)), (4, .int (Int32.ofInt v4))] → W p l e (gR 6 0 0) s m #[.ref (ad 16 1000), .ref (ad 17 1000), .int (Int32.ofInt a2)] below meth c H locs 0 0 QQ (F0 m 97 ls []) := by
      intro v3 K97 hK97
      intro v4 σ hw H locs ls hP hD hS hl
      unfold wpbX3_write_97 at hw
      refine lv_iload hx hb dX3_write_97 (lv_at hl 3 rfl) ?_
      refine lv_aload_n hx hb dX3_write_99 rfl (lv_at hl 0 rfl) ?_
      refine zgC16_0 hx hb hg hown hK hP q483 dX3_write_100 ?_
      refine lv_iload_n hx hb dX3_write_103 rfl (lv_at hl 2 rfl) ?_
      obtain ⟨o1, hw⟩ := hw
      refine zlC10_8 hx hb o1 hK hP dX3_write_104 ?_
      refine zgCM_7 hx hb hg hown (by clear hw; omega) hK hP q418 dX3_write_105 ?_
      obtain ⟨o2, hw⟩ := hw
      obtain ⟨o3, hw⟩ := hw
      refine z_icmp_ge (tgt := 125) hx hb o2 o3 dX3_write_108 (by decide) (fun k4 => ?_) (fun k4 => ?_)
      · replace hw := hw.1 k4
        refine lv_iinc (v := Int32.ofInt (v3 + 1)) (lv' := [(3, .int (Int32.ofInt (v3 + 1))), (0, .ref (ad 16 1000)), (1, .ref (ad 17 1000)), (4, .int (Int32.ofInt v4))]) hx hb dX3_write_125 hl (k := 2) rfl (Int32.ofInt_add _ _).symm (by decide) rfl (fun ls hl => ?_)
        refine lv_goto (tgt := 89) hx hb dX3_write_128 (by decide) ?_
        exact hK89 (v3 + 1) σ hw _ _ _ hP hD hS (lv_sub hl [1, 2, 0] rfl)
      · replace hw := hw.2 k4
        refine lv_aload_n hx hb dX3_write_111 rfl (lv_at hl 0 rfl) ?_
        refine lv_aload_n hx hb dX3_write_112 rfl (lv_at hl 1 rfl) ?_
        refine lv_iload_n hx hb dX3_write_113 rfl (lv_at hl 2 rfl) ?_
        refine lv_iload hx hb dX3_write_114 (lv_at hl 3 rfl) ?_
        refine z_Vv (n := 3) (As := [.ref (ad 17 1000), .int (Int32.ofInt v3), .int (Int32.ofInt v4)]) (rest := []) hx hb hml hg hown hK hP hD hS hA (kX3_solve l D dA ad v3 v4 σ _ _ hw) (zoC16) rfl q1348 q157 q1345 q1347 q48 (by decide +kernel) ⟨(Nat.le_of_ble_eq_true rfl), (Nat.le_of_ble_eq_true rfl)⟩ rfl hl.1 rfl (Nat.le_of_ble_eq_true rfl) dX3_write_116 ⟨(Nat.le_of_ble_eq_true rfl), (Nat.le_of_ble_eq_true rfl)⟩ (fun σ6 H locs hw hP hD hS => ?_)
        refine lv_iinc (v := Int32.ofInt (v4 + 1)) (lv' := [(4, .int (Int32.ofInt (v4 + 1))), (0, .ref (ad 16 1000)), (1, .ref (ad 17 1000)), (3, .int (Int32.ofInt v3))]) hx hb dX3_write_119 hl (k := 3) rfl (Int32.ofInt_add _ _).symm (by decide) rfl (fun ls hl => ?_)
        refine lv_goto (tgt := 97) hx hb dX3_write_122 (by decide) ?_
        exact hK97 (v4 + 1) σ6 hw _ _ _ hP hD hS (lv_sub hl [1, 2, 3, 0] rfl)
    have j97 : ∀ (v3 v4 : Int) (σ : ZS), ∀ (H : Heap) (locs : List Loc) (ls : Array Slot), va_P D vwC (zC dA ad σ) H → va_D A (zC dA ad σ) → va_S A s.heap H locs → lv_has ls 6 [(0, .ref (ad 16 1000)), (1, .ref (ad 17 1000)), (3, .int (Int32.ofInt v3)), (4, .int (Int32.ofInt v4))] → wpX3_write_97 K89 v3 v4 σ Q → W p l e (gR 6 0 0) s m #[.ref (ad 16 1000), .ref (ad 17 1000), .int (Int32.ofInt a2)] below meth c H locs 0 0 QQ (F0 m 97 ls []) := by
      intro v3 v4 σ H locs ls hP hD hS hl hw
      exact hw (fun v4 σ => ∀ (H : Heap) (locs : List Loc) (ls : Array Slot), va_P D vwC (zC dA ad σ) H → va_D A (zC dA ad σ) → va_S A s.heap H locs → lv_has ls 6 [(0, .ref (ad 16 1000)), (1, .ref (ad 17 1000)), (3, .int (Int32.ofInt v3)), (4, .int (Int32.ofInt v4))] → W p l e (gR 6 0 0) s m #[.ref (ad 16 1000), .ref (ad 17 1000), .int (Int32.ofInt a2)] below meth c H locs 0 0 QQ (F0 m 97 ls [])) (b97 v3 (fun v4 σ => ∀ (H : Heap) (locs : List Loc) (ls : Array Slot), va_P D vwC (zC dA ad σ) H → va_D A (zC dA ad σ) → va_S A s.heap H locs → lv_has ls 6 [(0, .ref (ad 16 1000)), (1, .ref (ad 17 1000)), (3, .int (Int32.ofInt v3)), (4, .int (Int32.ofInt v4))] → W p l e (gR 6 0 0) s m #[.ref (ad 16 1000), .ref (ad 17 1000), .int (Int32.ofInt a2)] below meth c H locs 0 0 QQ (F0 m 97 ls [])) (fun v4 σ h => h)) _ _ _ hP hD hS hl
    intro v3 σ hw H locs ls hP hD hS hl
    unfold wpbX3_write_89 at hw
    refine lv_iload_n hx hb dX3_write_89 rfl (lv_at hl 2 rfl) ?_
    refine lv_iconst (v := Int32.ofInt 3) hx hb dX3_write_90 (by decide) ?_
    obtain ⟨o7, hw⟩ := hw
    refine z_icmp_ge (tgt := 131) hx hb o7 (by decide) dX3_write_91 (by decide) (fun k8 => ?_) (fun k8 => ?_)
    · replace hw := hw.1 k8
      refine lv_aload_n hx hb dX3_write_131 rfl (lv_at hl 1 rfl) ?_
      refine lv_aload_n hx hb dX3_write_132 rfl (lv_at hl 0 rfl) ?_
      refine zgC16_3 hx hb hg hown hK hP q486 dX3_write_133 ?_
      refine lv_aload_n hx hb dX3_write_136 rfl (lv_at hl 0 rfl) ?_
      refine zgC16_5 hx hb hg hown hK hP q488 dX3_write_137 ?_
      refine lv_aload_n hx hb dX3_write_140 rfl (lv_at hl 0 rfl) ?_
      refine lv_ldc2 hx hb hown (hg _ q1299) dX3_write_141 ?_
      refine g_nrmL (y := Int64.ofInt 230192366) (by decide) ?_
      refine z_Vi (n := 1) (As := [.long (Int64.ofInt 230192366)]) (rest := [.ref (ad 16 5), .ref (ad 16 3), .ref (ad 17 1000)]) hx hb hml hg hown hK hP hD hS hA (kX3_publicPart l D dA ad 230192366 σ _ _ hw) (zoC16) rfl q1327 q157 q1324 q1326 q46 (by decide +kernel) ⟨(Nat.le_of_ble_eq_true rfl), (Nat.le_of_ble_eq_true rfl)⟩ rfl hl.1 rfl (Nat.le_of_ble_eq_true rfl) dX3_write_144 ⟨(Nat.le_of_ble_eq_true rfl), (Nat.le_of_ble_eq_true rfl)⟩ (fun x9 σ10 H locs hw hP hD hS => ?_)
      obtain ⟨o11, hw⟩ := hw
      refine zlC16_5 hx hb o11 hK hP dX3_write_147 ?_
      obtain ⟨o12, hw⟩ := hw
      refine zlC16_3 hx hb o12 hK hP dX3_write_148 ?_
      refine lv_bipush (v := Int32.ofInt 16) hx hb dX3_write_149 (by decide) ?_
      obtain ⟨o13, hw⟩ := hw
      refine z_idiv hx hb o13 (by decide) dX3_write_151 ?_
      refine zpC17_5 (v := ((zA σ10 16 3 (zA σ10 16 5 x9)) / 16)) hx hb hg hown hK hP hD hS q527 dX3_write_152 (fun H locs hP hD hS => ?_)
      refine lv_aload_n hx hb dX3_write_155 rfl (lv_at hl 1 rfl) ?_
      refine lv_aload_n hx hb dX3_write_156 rfl (lv_at hl 0 rfl) ?_
      refine lv_ldc2 hx hb hown (hg _ q1299) dX3_write_157 ?_
      refine g_nrmL (y := Int64.ofInt 230192366) (by decide) ?_
      refine z_Vi (n := 1) (As := [.long (Int64.ofInt 230192366)]) (rest := [.ref (ad 17 1000)]) hx hb hml hg hown hK hP hD hS hA (kX3_publicOffset l D dA ad 230192366 (zsI σ10 17 5 ((zA σ10 16 3 (zA σ10 16 5 x9)) / 16)) _ _ hw) (zoC16) rfl q1360 q157 q1357 q1359 q49 (by decide +kernel) ⟨(Nat.le_of_ble_eq_true rfl), (Nat.le_of_ble_eq_true rfl)⟩ rfl hl.1 rfl (Nat.le_of_ble_eq_true rfl) dX3_write_160 ⟨(Nat.le_of_ble_eq_true rfl), (Nat.le_of_ble_eq_true rfl)⟩ (fun x14 σ15 H locs hw hP hD hS => ?_)
      refine zpC17_6 (v := x14) hx hb hg hown hK hP hD hS q530 dX3_write_163 (fun H locs hP hD hS => ?_)
      exact hret (zsI σ15 17 6 x14) _ _ _ _ hw hP hD hS dX3_write_166
    · replace hw := hw.2 k8
      refine lv_iconst (v := Int32.ofInt 0) hx hb dX3_write_94 (by decide) ?_
      refine lv_istore (lv' := [(4, .int (Int32.ofInt 0)), (0, .ref (ad 16 1000)), (1, .ref (ad 17 1000)), (3, .int (Int32.ofInt v3))]) hx hb dX3_write_95 hl (by decide) rfl (fun ls hl => ?_)
      exact j97 v3 0 σ _ _ _ hP hD hS (lv_sub hl [1, 2, 3, 0] rfl) hw
  have j89 : ∀ (v3 : Int) (σ : ZS), ∀ (H : Heap) (locs : List Loc) (ls : Array Slot), va_P D vwC (zC dA ad σ) H → va_D A (zC dA ad σ) → va_S A s.heap H locs → lv_has ls 6 [(0, .ref (ad 16 1000)), (1, .ref (ad 17 1000)), (3, .int (Int32.ofInt v3))] → wpX3_write_89 v3 σ Q → W p l e (gR 6 0 0) s m #[.ref (ad 16 1000), .ref (ad 17 1000), .int (Int32.ofInt a2)] below meth c H locs 0 0 QQ (F0 m 89 ls []) := by
    intro v3 σ H locs ls hP hD hS hl hw
    exact hw (fun v3 σ => ∀ (H : Heap) (locs : List Loc) (ls : Array Slot), va_P D vwC (zC dA ad σ) H → va_D A (zC dA ad σ) → va_S A s.heap H locs → lv_has ls 6 [(0, .ref (ad 16 1000)), (1, .ref (ad 17 1000)), (3, .int (Int32.ofInt v3))] → W p l e (gR 6 0 0) s m #[.ref (ad 16 1000), .ref (ad 17 1000), .int (Int32.ofInt a2)] below meth c H locs 0 0 QQ (F0 m 89 ls [])) (b89 (fun v3 σ => ∀ (H : Heap) (locs : List Loc) (ls : Array Slot), va_P D vwC (zC dA ad σ) H → va_D A (zC dA ad σ) → va_S A s.heap H locs → lv_has ls 6 [(0, .ref (ad 16 1000)), (1, .ref (ad 17 1000)), (3, .int (Int32.ofInt v3))] → W p l e (gR 6 0 0) s m #[.ref (ad 16 1000), .ref (ad 17 1000), .int (Int32.ofInt a2)] below meth c H locs 0 0 QQ (F0 m 89 ls [])) (fun v3 σ h => h)) _ _ _ hP hD hS hl
  have b7 : ∀ (K7 : Int → ZS → Prop), (∀ (v3 : Int) (σ : ZS), K7 v3 σ → ∀ (H : Heap) (locs : List Loc) (ls : Array Slot), va_P D vwC (zC dA ad σ) H → va_D A (zC dA ad σ) → va_S A s.heap H locs → lv_has ls 6 [(0, .ref (ad 16 1000)), (1, .ref (ad 17 1000)), (3, .int (Int32.ofInt v3))] → W p l e (gR 6 0 0) s m #[.ref (ad 16 1000), .ref (ad 17 1000), .int (Int32.ofInt a2)] below meth c H locs 0 0 QQ (F0 m 7 ls [])) → ∀ (v3 : Int) (σ : ZS), wpbX3_write_7 K7 v3 σ Q → ∀ (H : Heap) (locs : List Loc) (ls : Array Slot), va_P D vwC (zC dA ad σ) H → va_D A (zC dA ad σ) → va_S A s.heap H locs → lv_has ls 6 [(0, .ref (ad 16 1000)), (1, .ref (ad 17 1000)), (3, .int (Int32.ofInt v3))] → W p l e (gR 6 0 0) s m #[.ref (ad 16 1000), .ref (ad 17 1000), .int (Int32.ofInt a2)] below meth c H locs 0 0 QQ (F0 m 7 ls []) := by
    intro K7 hK7
    have b15 : ∀ (v3 : Int) (K15 : Int → ZS → Prop), (∀ (v4 : Int) (σ : ZS), K15 v4 σ → ∀ (H : Heap) (locs : List Loc) (ls : Array Slot), va_P D vwC (zC dA ad σ) H → va_D A (zC dA ad σ) → va_S A s.heap H locs → lv_has ls 6 [(0, .ref (ad 16 1000)), (1, .ref (ad 17 1000)), (3, .int (Int32.ofInt v3)), (4, .int (Int32.ofInt v4))] → W p l e (gR 6 0 0) s m #[.ref (ad 16 1000), .ref (ad 17 1000), .int (Int32.ofInt a2)] below meth c H locs 0 0 QQ (F0 m 15 ls [])) → ∀ (v4 : Int) (σ : ZS), wpbX3_write_15 K7 K15 v3 v4 σ Q → ∀ (H : Heap) (locs : List Loc) (ls : Array Slot), va_P D vwC (zC dA ad σ) H → va_D A (zC dA ad σ) → va_S A s.heap H locs → lv_has ls 6 [(0, .ref (ad 16 1000)), (1, .ref (ad 17 1000)), (3, .int (Int32.ofInt v3)), (4, .int (Int32.ofInt v4))] → W p l e (gR 6 0 0) s m #[.ref (ad 16 1000), .ref (ad 17 1000), .int (Int32.ofInt a2)] below meth c H locs 0 0 QQ (F0 m 15 ls []) := by
      intro v3 K15 hK15
      intro v4 σ hw H locs ls hP hD hS hl
      unfold wpbX3_write_15 at hw
      refine lv_iload hx hb dX3_write_15 (lv_at hl 3 rfl) ?_
      refine lv_aload_n hx hb dX3_write_17 rfl (lv_at hl 0 rfl) ?_
      refine zgC16_0 hx hb hg hown hK hP q483 dX3_write_18 ?_
      refine lv_iload_n hx hb dX3_write_21 rfl (lv_at hl 2 rfl) ?_
      obtain ⟨o16, hw⟩ := hw
      refine zlC10_8 hx hb o16 hK hP dX3_write_22 ?_
      refine zgCM_1 hx hb hg hown (by clear hw; omega) hK hP q402 dX3_write_23 ?_
      obtain ⟨o17, hw⟩ := hw
      obtain ⟨o18, hw⟩ := hw
      refine z_icmp_ge (tgt := 81) hx hb o17 o18 dX3_write_26 (by decide) (fun k19 => ?_) (fun k19 => ?_)
      · replace hw := hw.1 k19
        refine lv_iinc (v := Int32.ofInt (v3 + 1)) (lv' := [(3, .int (Int32.ofInt (v3 + 1))), (0, .ref (ad 16 1000)), (1, .ref (ad 17 1000)), (4, .int (Int32.ofInt v4))]) hx hb dX3_write_81 hl (k := 2) rfl (Int32.ofInt_add _ _).symm (by decide) rfl (fun ls hl => ?_)
        refine lv_goto (tgt := 7) hx hb dX3_write_84 (by decide) ?_
        exact hK7 (v3 + 1) σ hw _ _ _ hP hD hS (lv_sub hl [1, 2, 0] rfl)
      · replace hw := hw.2 k19
        refine lv_aload_n hx hb dX3_write_29 rfl (lv_at hl 0 rfl) ?_
        refine zgC16_0 hx hb hg hown hK hP q483 dX3_write_30 ?_
        refine lv_iload_n hx hb dX3_write_33 rfl (lv_at hl 2 rfl) ?_
        refine zlC10_8 hx hb o16 hK hP dX3_write_34 ?_
        refine lv_astore (lv' := [(5, .ref (ad v3 1000)), (0, .ref (ad 16 1000)), (1, .ref (ad 17 1000)), (3, .int (Int32.ofInt v3)), (4, .int (Int32.ofInt v4))]) hx hb dX3_write_35 hl (by decide) rfl (fun ls hl => ?_)
        refine lv_aload hx hb dX3_write_37 (lv_at hl 0 rfl) ?_
        refine zgCM_6 hx hb hg hown (by clear hw; omega) hK hP q416 dX3_write_39 ?_
        refine lv_aload hx hb dX3_write_42 (lv_at hl 0 rfl) ?_
        refine zgCM_5 hx hb hg hown (by clear hw; omega) hK hP q413 dX3_write_44 ?_
        refine lv_iload hx hb dX3_write_47 (lv_at hl 4 rfl) ?_
        obtain ⟨o20, hw⟩ := hw
        refine zlCM_5 hx hb (by clear hw; omega) o20 hK hP dX3_write_49 ?_
        refine lv_aload_n hx hb dX3_write_50 rfl (lv_at hl 2 rfl) ?_
        refine zgC17_2 hx hb hg hown hK hP q519 dX3_write_51 ?_
        refine lv_aload_n hx hb dX3_write_54 rfl (lv_at hl 1 rfl) ?_
        refine lv_iload_n hx hb dX3_write_55 rfl (lv_at hl 3 rfl) ?_
        refine lv_iload hx hb dX3_write_56 (lv_at hl 4 rfl) ?_
        refine z_Si (n := 2) (As := [.int (Int32.ofInt v3), .int (Int32.ofInt v4)]) (rest := [.ref (ad 16 1000), .ref (ad 17 2), .int (Int32.ofInt (zA σ v3 5 v4)), .ref (ad v3 6)]) hx hb hml hg hown hK hP hD hS hA (kX3_part l D dA ad v3 v4 σ _ _ hw) q1318 q157 q1316 q1317 (by decide +kernel) ⟨(Nat.le_of_ble_eq_true rfl), (Nat.le_of_ble_eq_true rfl)⟩ rfl hl.1 rfl (Nat.le_of_ble_eq_true rfl) dX3_write_58 ⟨(Nat.le_of_ble_eq_true rfl), (Nat.le_of_ble_eq_true rfl)⟩ (fun x21 σ22 H locs hw hP hD hS => ?_)
        refine z_Vi (n := 1) (As := [.int (Int32.ofInt x21)]) (rest := [.ref (ad 17 2), .int (Int32.ofInt (zA σ v3 5 v4)), .ref (ad v3 6)]) hx hb hml hg hown hK hP hD hS hA (kX3_placeOf l D dA ad x21 σ22 _ _ hw) (zoC16) rfl q1341 q157 q1338 q1340 q47 (by decide +kernel) ⟨(Nat.le_of_ble_eq_true rfl), (Nat.le_of_ble_eq_true rfl)⟩ rfl hl.1 rfl (Nat.le_of_ble_eq_true rfl) dX3_write_61 ⟨(Nat.le_of_ble_eq_true rfl), (Nat.le_of_ble_eq_true rfl)⟩ (fun x23 σ24 H locs hw hP hD hS => ?_)
        refine lv_aload hx hb dX3_write_64 (lv_at hl 0 rfl) ?_
        refine zgCM_4 hx hb hg hown (by clear hw; omega) hK hP q410 dX3_write_66 ?_
        refine lv_iload hx hb dX3_write_69 (lv_at hl 4 rfl) ?_
        refine zlCM_4 hx hb (by clear hw; omega) o20 hK hP dX3_write_71 ?_
        obtain ⟨o25, hw⟩ := hw
        refine z_copy (sp := (zA σ v3 5 v4)) (dp := x23) (n := (zA σ24 v3 4 v4)) (rest := []) hx hb hml hl.1 hg hown (by clear hw; omega) o25 hK hP hD hS q1342 q1344 q1343 ⟨(Nat.le_of_ble_eq_true rfl), (Nat.le_of_ble_eq_true rfl)⟩ q179 dX3_write_72 (fun H locs hP hD hS => ?_)
        refine lv_iinc (v := Int32.ofInt (v4 + 1)) (lv' := [(4, .int (Int32.ofInt (v4 + 1))), (5, .ref (ad v3 1000)), (0, .ref (ad 16 1000)), (1, .ref (ad 17 1000)), (3, .int (Int32.ofInt v3))]) hx hb dX3_write_75 hl (k := 4) rfl (Int32.ofInt_add _ _).symm (by decide) rfl (fun ls hl => ?_)
        refine lv_goto (tgt := 15) hx hb dX3_write_78 (by decide) ?_
        exact hK15 (v4 + 1) (zsF σ24 17 2 (zcpy (zA σ24 v3 6) (zA σ24 17 2) (zA σ v3 5 v4) x23 (zA σ24 v3 4 v4))) hw _ _ _ hP hD hS (lv_sub hl [2, 3, 4, 0] rfl)
    have j15 : ∀ (v3 v4 : Int) (σ : ZS), ∀ (H : Heap) (locs : List Loc) (ls : Array Slot), va_P D vwC (zC dA ad σ) H → va_D A (zC dA ad σ) → va_S A s.heap H locs → lv_has ls 6 [(0, .ref (ad 16 1000)), (1, .ref (ad 17 1000)), (3, .int (Int32.ofInt v3)), (4, .int (Int32.ofInt v4))] → wpX3_write_15 K7 v3 v4 σ Q → W p l e (gR 6 0 0) s m #[.ref (ad 16 1000), .ref (ad 17 1000), .int (Int32.ofInt a2)] below meth c H locs 0 0 QQ (F0 m 15 ls []) := by
      intro v3 v4 σ H locs ls hP hD hS hl hw
      exact hw (fun v4 σ => ∀ (H : Heap) (locs : List Loc) (ls : Array Slot), va_P D vwC (zC dA ad σ) H → va_D A (zC dA ad σ) → va_S A s.heap H locs → lv_has ls 6 [(0, .ref (ad 16 1000)), (1, .ref (ad 17 1000)), (3, .int (Int32.ofInt v3)), (4, .int (Int32.ofInt v4))] → W p l e (gR 6 0 0) s m #[.ref (ad 16 1000), .ref (ad 17 1000), .int (Int32.ofInt a2)] below meth c H locs 0 0 QQ (F0 m 15 ls [])) (b15 v3 (fun v4 σ => ∀ (H : Heap) (locs : List Loc) (ls : Array Slot), va_P D vwC (zC dA ad σ) H → va_D A (zC dA ad σ) → va_S A s.heap H locs → lv_has ls 6 [(0, .ref (ad 16 1000)), (1, .ref (ad 17 1000)), (3, .int (Int32.ofInt v3)), (4, .int (Int32.ofInt v4))] → W p l e (gR 6 0 0) s m #[.ref (ad 16 1000), .ref (ad 17 1000), .int (Int32.ofInt a2)] below meth c H locs 0 0 QQ (F0 m 15 ls [])) (fun v4 σ h => h)) _ _ _ hP hD hS hl
    intro v3 σ hw H locs ls hP hD hS hl
    unfold wpbX3_write_7 at hw
    refine lv_iload_n hx hb dX3_write_7 rfl (lv_at hl 2 rfl) ?_
    refine lv_iconst (v := Int32.ofInt 3) hx hb dX3_write_8 (by decide) ?_
    obtain ⟨o26, hw⟩ := hw
    refine z_icmp_ge (tgt := 87) hx hb o26 (by decide) dX3_write_9 (by decide) (fun k27 => ?_) (fun k27 => ?_)
    · replace hw := hw.1 k27
      refine lv_iconst (v := Int32.ofInt 0) hx hb dX3_write_87 (by decide) ?_
      refine lv_istore_n (lv' := [(3, .int (Int32.ofInt 0)), (0, .ref (ad 16 1000)), (1, .ref (ad 17 1000))]) hx hb dX3_write_88 rfl hl (by decide) rfl (fun ls hl => ?_)
      exact j89 0 σ _ _ _ hP hD hS (lv_sub hl [1, 2, 0] rfl) hw
    · replace hw := hw.2 k27
      refine lv_iconst (v := Int32.ofInt 0) hx hb dX3_write_12 (by decide) ?_
      refine lv_istore (lv' := [(4, .int (Int32.ofInt 0)), (0, .ref (ad 16 1000)), (1, .ref (ad 17 1000)), (3, .int (Int32.ofInt v3))]) hx hb dX3_write_13 hl (by decide) rfl (fun ls hl => ?_)
      exact j15 v3 0 σ _ _ _ hP hD hS (lv_sub hl [1, 2, 3, 0] rfl) hw
  have j7 : ∀ (v3 : Int) (σ : ZS), ∀ (H : Heap) (locs : List Loc) (ls : Array Slot), va_P D vwC (zC dA ad σ) H → va_D A (zC dA ad σ) → va_S A s.heap H locs → lv_has ls 6 [(0, .ref (ad 16 1000)), (1, .ref (ad 17 1000)), (3, .int (Int32.ofInt v3))] → wpX3_write_7 v3 σ Q → W p l e (gR 6 0 0) s m #[.ref (ad 16 1000), .ref (ad 17 1000), .int (Int32.ofInt a2)] below meth c H locs 0 0 QQ (F0 m 7 ls []) := by
    intro v3 σ H locs ls hP hD hS hl hw
    exact hw (fun v3 σ => ∀ (H : Heap) (locs : List Loc) (ls : Array Slot), va_P D vwC (zC dA ad σ) H → va_D A (zC dA ad σ) → va_S A s.heap H locs → lv_has ls 6 [(0, .ref (ad 16 1000)), (1, .ref (ad 17 1000)), (3, .int (Int32.ofInt v3))] → W p l e (gR 6 0 0) s m #[.ref (ad 16 1000), .ref (ad 17 1000), .int (Int32.ofInt a2)] below meth c H locs 0 0 QQ (F0 m 7 ls [])) (b7 (fun v3 σ => ∀ (H : Heap) (locs : List Loc) (ls : Array Slot), va_P D vwC (zC dA ad σ) H → va_D A (zC dA ad σ) → va_S A s.heap H locs → lv_has ls 6 [(0, .ref (ad 16 1000)), (1, .ref (ad 17 1000)), (3, .int (Int32.ofInt v3))] → W p l e (gR 6 0 0) s m #[.ref (ad 16 1000), .ref (ad 17 1000), .int (Int32.ofInt a2)] below meth c H locs 0 0 QQ (F0 m 7 ls [])) (fun v3 σ h => h)) _ _ _ hP hD hS hl
  unfold wpX3_write at hw
  refine lv_aload_n hx hb dX3_write_0 rfl (lv_at hl 1 rfl) ?_
  refine lv_iload_n hx hb dX3_write_1 rfl (lv_at hl 2 rfl) ?_
  refine z_Vv (n := 1) (As := [.int (Int32.ofInt a2)]) (rest := []) hx hb hml hg hown hK hP hD hS hA (kX1_begin l D dA ad a2 σ _ _ hw) (zoC17) rfl q1336 q158 q1333 q1334 q1335 (by decide +kernel) ⟨(Nat.le_of_ble_eq_true rfl), (Nat.le_of_ble_eq_true rfl)⟩ rfl hl.1 rfl (Nat.le_of_ble_eq_true rfl) dX3_write_2 ⟨(Nat.le_of_ble_eq_true rfl), (Nat.le_of_ble_eq_true rfl)⟩ (fun σ29 H locs hw hP hD hS => ?_)
  refine lv_iconst (v := Int32.ofInt 0) hx hb dX3_write_5 (by decide) ?_
  refine lv_istore_n (lv' := [(3, .int (Int32.ofInt 0)), (0, .ref (ad 16 1000)), (1, .ref (ad 17 1000)), (2, .int (Int32.ofInt a2))]) hx hb dX3_write_6 rfl hl (by decide) rfl (fun ls hl => ?_)
  exact j7 0 σ29 _ _ _ hP hD hS (lv_sub hl [1, 2, 0] rfl) hw
def wpX4_word (a1 : Int) (σ : ZS) (Q : Int → ZS → Prop) : Prop := Q ((zA σ 18 0 (a1 % 4096)) + (256 * (zA σ 18 0 ((a1 + 1) % 4096)))) σ
set_option maxHeartbeats 4000000 in
set_option maxRecDepth 100000 in
theorem kX4_word (l : Launch) (D : va_G) (dA : Nat → ClassId) (ad : Int → Nat → Nat) (a1 : Int) (σ : ZS) (Q : Int → ZS → Prop) (sz : Nat) (hw : wpX4_word a1 σ Q) : Met l yX4_word (gws yX4_word cX4_word 2 (some .int)) (gR 1 0 0) (gPre D dA [.ref (ad 18 1000), .int (Int32.ofInt a1)] (zC dA ad σ) sz) (va_Qi (zQi Q) (gAt D dA (va_A (zC dA ad σ) sz) (zC dA ad)) (va_A (zC dA ad σ) sz)) 0 0 (va_A (zC dA ad σ) sz) := by
  refine Met.ofW (cc := cX4_word) (maxL := 2) (ret := (some .int)) (by decide) rfl ?_
  intro p e s m args below meth c s₁ B hml hv
  obtain ⟨rfl, hsz, hP, hK, hD0⟩ := hv
  have hx := B.exec
  have hb := B.bytes
  have hr := B.returns
  have hts := atoms_spec (ws := gws yX4_word cX4_word 2 (some .int)) B.pre
  have hg : ∀ w ∈ gw, w.before _ s = true := fun w h => hts w (List.mem_cons_of_mem _ h)
  have hown : s.vm.findClass RX4 = some m.cls := findClass_of_methodNamed B.named
  have hlocks := B.notSynchronized
  subst hsz
  have hD := hD0.self (sz := s.heap.size)
  generalize hAe : va_A (zC dA ad σ) s.heap.size = A at hD ⊢
  have hA : ∀ q : Nat, s.heap.size ≤ q → A q := fun q h => by rw [← hAe]; exact Or.inr h
  have hS : va_S A s.heap s.heap [] := va_S.rf
  have hl := lv_entry ([.ref (ad 18 1000), .int (Int32.ofInt a1)]) (n := 2) (Nat.le_of_ble_eq_true rfl)
  rw [lg_entry_eq]
  generalize (lg_sl ([.ref (ad 18 1000), .int (Int32.ofInt a1)]) ++ List.replicate (2 - (lg_sl ([.ref (ad 18 1000), .int (Int32.ofInt a1)])).length) Slot.unset).toArray = ls at hl ⊢
  have hl : lv_has ls 2 [(0, .ref (ad 18 1000)), (1, .int (Int32.ofInt a1))] := hl
  have hret : ∀ (v : Int) (σ : ZS) (H : Heap) (locs : List Loc) (ls : Array Slot) (pc : Nat), Q v σ → va_P D vwC (zC dA ad σ) H → va_D A (zC dA ad σ) → va_S A s.heap H locs → decode cX4_word pc = .ok (.ireturn, 1) → W p l e (gR 1 0 0) s m #[.ref (ad 18 1000), .int (Int32.ofInt a1)] below meth c H locs 0 0 (MQ below (va_Qi (zQi Q) (gAt D dA A (zC dA ad)) A) #[.ref (ad 18 1000), .int (Int32.ofInt a1)] s 0 0 A) (F0 m pc ls [.int (Int32.ofInt v)]) := fun v σ H locs ls pc hw hP hD hS hd => g_iret hx hb hr rfl hlocks hK σ hP hD hS ⟨v, rfl, hw⟩ (Nat.le_of_ble_eq_true rfl) (Nat.le_of_ble_eq_true rfl) hd
  generalize MQ below (va_Qi (zQi Q) (gAt D dA A (zC dA ad)) A) #[.ref (ad 18 1000), .int (Int32.ofInt a1)] s 0 0 A = QQ at hret ⊢
  unfold wpX4_word at hw
  refine lv_aload_n hx hb dX4_word_0 rfl (lv_at hl 0 rfl) ?_
  refine zgC18_0 hx hb hg hown hK hP q552 dX4_word_1 ?_
  refine lv_iload_n hx hb dX4_word_4 rfl (lv_at hl 1 rfl) ?_
  refine lv_sipush (v := Int32.ofInt 4095) hx hb dX4_word_5 (by decide) ?_
  refine z_iandK (M := 4096) hx hb 12 (by decide) (by decide) (by decide) dX4_word_8 ?_
  refine zlC18_0 hx hb (by clear hw; omega) hK hP dX4_word_9 ?_
  refine lv_sipush (v := Int32.ofInt 256) hx hb dX4_word_10 (by decide) ?_
  refine lv_aload_n hx hb dX4_word_13 rfl (lv_at hl 0 rfl) ?_
  refine zgC18_0 hx hb hg hown hK hP q552 dX4_word_14 ?_
  refine lv_iload_n hx hb dX4_word_17 rfl (lv_at hl 1 rfl) ?_
  refine lv_iconst (v := Int32.ofInt 1) hx hb dX4_word_18 (by decide) ?_
  refine z_iadd hx hb dX4_word_19 ?_
  refine lv_sipush (v := Int32.ofInt 4095) hx hb dX4_word_20 (by decide) ?_
  refine z_iandK (M := 4096) hx hb 12 (by decide) (by decide) (by decide) dX4_word_23 ?_
  refine zlC18_0 hx hb (by clear hw; omega) hK hP dX4_word_24 ?_
  refine z_imul hx hb dX4_word_25 ?_
  refine z_iadd hx hb dX4_word_26 ?_
  exact hret ((zA σ 18 0 (a1 % 4096)) + (256 * (zA σ 18 0 ((a1 + 1) % 4096)))) σ _ _ _ _ hw hP hD hS dX4_word_27
def wpX4_putWord (a1 a2 : Int) (σ : ZS) (Q : ZS → Prop) : Prop := (-2147483648 ≤ a2 ∧ a2 ≤ 2147483647) ∧ Q (zsA (zsA σ 18 0 (a1 % 4096) (a2 % 256)) 18 0 ((a1 + 1) % 4096) ((a2 / 256) % 256))
set_option maxHeartbeats 4000000 in
set_option maxRecDepth 100000 in
theorem kX4_putWord (l : Launch) (D : va_G) (dA : Nat → ClassId) (ad : Int → Nat → Nat) (a1 a2 : Int) (σ : ZS) (Q : ZS → Prop) (sz : Nat) (hw : wpX4_putWord a1 a2 σ Q) : Met l yX4_putWord (gws yX4_putWord cX4_putWord 3 none) (gR 1 0 0) (gPre D dA [.ref (ad 18 1000), .int (Int32.ofInt a1), .int (Int32.ofInt a2)] (zC dA ad σ) sz) (va_Qv Q (gAt D dA (va_A (zC dA ad σ) sz) (zC dA ad)) (va_A (zC dA ad σ) sz)) 0 0 (va_A (zC dA ad σ) sz) := by
  refine Met.ofW (cc := cX4_putWord) (maxL := 3) (ret := none) (by decide) rfl ?_
  intro p e s m args below meth c s₁ B hml hv
  obtain ⟨rfl, hsz, hP, hK, hD0⟩ := hv
  have hx := B.exec
  have hb := B.bytes
  have hr := B.returns
  have hts := atoms_spec (ws := gws yX4_putWord cX4_putWord 3 none) B.pre
  have hg : ∀ w ∈ gw, w.before _ s = true := fun w h => hts w (List.mem_cons_of_mem _ h)
  have hown : s.vm.findClass RX4 = some m.cls := findClass_of_methodNamed B.named
  have hlocks := B.notSynchronized
  subst hsz
  have hD := hD0.self (sz := s.heap.size)
  generalize hAe : va_A (zC dA ad σ) s.heap.size = A at hD ⊢
  have hA : ∀ q : Nat, s.heap.size ≤ q → A q := fun q h => by rw [← hAe]; exact Or.inr h
  have hS : va_S A s.heap s.heap [] := va_S.rf
  have hl := lv_entry ([.ref (ad 18 1000), .int (Int32.ofInt a1), .int (Int32.ofInt a2)]) (n := 3) (Nat.le_of_ble_eq_true rfl)
  rw [lg_entry_eq]
  generalize (lg_sl ([.ref (ad 18 1000), .int (Int32.ofInt a1), .int (Int32.ofInt a2)]) ++ List.replicate (3 - (lg_sl ([.ref (ad 18 1000), .int (Int32.ofInt a1), .int (Int32.ofInt a2)])).length) Slot.unset).toArray = ls at hl ⊢
  have hl : lv_has ls 3 [(0, .ref (ad 18 1000)), (1, .int (Int32.ofInt a1)), (2, .int (Int32.ofInt a2))] := hl
  have hret : ∀ (σ : ZS) (H : Heap) (locs : List Loc) (ls : Array Slot) (pc : Nat), Q σ → va_P D vwC (zC dA ad σ) H → va_D A (zC dA ad σ) → va_S A s.heap H locs → decode cX4_putWord pc = .ok (.return_, 1) → W p l e (gR 1 0 0) s m #[.ref (ad 18 1000), .int (Int32.ofInt a1), .int (Int32.ofInt a2)] below meth c H locs 0 0 (MQ below (va_Qv Q (gAt D dA A (zC dA ad)) A) #[.ref (ad 18 1000), .int (Int32.ofInt a1), .int (Int32.ofInt a2)] s 0 0 A) (F0 m pc ls []) := fun σ H locs ls pc hw hP hD hS hd => g_vret hx hb hr hlocks hK σ hP hD hS hw (Nat.le_of_ble_eq_true rfl) (Nat.le_of_ble_eq_true rfl) hd
  generalize MQ below (va_Qv Q (gAt D dA A (zC dA ad)) A) #[.ref (ad 18 1000), .int (Int32.ofInt a1), .int (Int32.ofInt a2)] s 0 0 A = QQ at hret ⊢
  unfold wpX4_putWord at hw
  refine lv_aload_n hx hb dX4_putWord_0 rfl (lv_at hl 0 rfl) ?_
  refine zgC18_0 hx hb hg hown hK hP q552 dX4_putWord_1 ?_
  refine lv_iload_n hx hb dX4_putWord_4 rfl (lv_at hl 1 rfl) ?_
  refine lv_sipush (v := Int32.ofInt 4095) hx hb dX4_putWord_5 (by decide) ?_
  refine z_iandK (M := 4096) hx hb 12 (by decide) (by decide) (by decide) dX4_putWord_8 ?_
  refine lv_iload_n hx hb dX4_putWord_9 rfl (lv_at hl 2 rfl) ?_
  refine lv_sipush (v := Int32.ofInt 255) hx hb dX4_putWord_10 (by decide) ?_
  refine z_iandK (M := 256) hx hb 8 (by decide) (by decide) (by decide) dX4_putWord_13 ?_
  refine zsC18_0 (v := (a2 % 256)) hx hb (by clear hw; omega) hK hP hD hS dX4_putWord_14 (fun H locs hP hD hS => ?_)
  refine lv_aload_n hx hb dX4_putWord_15 rfl (lv_at hl 0 rfl) ?_
  refine zgC18_0 hx hb hg hown hK hP q552 dX4_putWord_16 ?_
  refine lv_iload_n hx hb dX4_putWord_19 rfl (lv_at hl 1 rfl) ?_
  refine lv_iconst (v := Int32.ofInt 1) hx hb dX4_putWord_20 (by decide) ?_
  refine z_iadd hx hb dX4_putWord_21 ?_
  refine lv_sipush (v := Int32.ofInt 4095) hx hb dX4_putWord_22 (by decide) ?_
  refine z_iandK (M := 4096) hx hb 12 (by decide) (by decide) (by decide) dX4_putWord_25 ?_
  refine lv_iload_n hx hb dX4_putWord_26 rfl (lv_at hl 2 rfl) ?_
  refine lv_bipush (v := Int32.ofInt 8) hx hb dX4_putWord_27 (by decide) ?_
  obtain ⟨o1, hw⟩ := hw
  refine z_ishrK (M := 256) hx hb 8 (by decide) (by decide) (by decide) o1 dX4_putWord_29 ?_
  refine lv_sipush (v := Int32.ofInt 255) hx hb dX4_putWord_30 (by decide) ?_
  refine z_iandK (M := 256) hx hb 8 (by decide) (by decide) (by decide) dX4_putWord_33 ?_
  refine zsC18_0 (v := ((a2 / 256) % 256)) hx hb (by clear hw; omega) hK hP hD hS dX4_putWord_34 (fun H locs hP hD hS => ?_)
  exact hret (zsA (zsA σ 18 0 (a1 % 4096) (a2 % 256)) 18 0 ((a1 + 1) % 4096) ((a2 / 256) % 256)) _ _ _ _ hw hP hD hS dX4_putWord_35
def wpbX4_start_54 (K54 : Int → ZS → Prop) (v2 v3 v4 : Int) (σ : ZS) (Q : ZS → Prop) : Prop := (-2147483648 ≤ v4 ∧ v4 ≤ 2147483647) ∧ (-2147483648 ≤ (zI σ 17 3) ∧ (zI σ 17 3) ≤ 2147483647) ∧ ((zI σ 17 3) ≤ v4 → wpJ7_fill_53178_18_1 0 σ (fun (σ5 : ZS) => wpJ7_fill_53178_18_2 v2 σ5 (fun (σ7 : ZS) => Q (zsI (zsI (zsI (zsI (zsI (zsI (zsI (zsA σ7 18 2 1 (v2 + (zI σ7 17 5))) 18 3 (zI σ7 17 6)) 18 4 0) 18 5 0) 18 6 0) 18 7 0) 18 8 0) 18 9 0)))) ∧ (¬ (zI σ 17 3) ≤ v4 → (0 ≤ v4 ∧ v4 < 600) ∧ wpX4_word (v3 + (zA σ 17 4 v4)) σ (fun (x9 : Int) (σ10 : ZS) => wpX4_putWord (v3 + (zA σ 17 4 v4)) (x9 + v2) σ10 (fun (σ12 : ZS) => K54 (v4 + 1) σ12)))
def wpX4_start_54 (v2 v3 v4 : Int) (σ : ZS) (Q : ZS → Prop) : Prop := lfp1 (fun K54 v4 σ => wpbX4_start_54 K54 v2 v3 v4 σ Q) v4 σ
def wpbX4_start_16 (K16 : Int → ZS → Prop) (v2 v3 v4 : Int) (σ : ZS) (Q : ZS → Prop) : Prop := (-2147483648 ≤ v4 ∧ v4 ≤ 2147483647) ∧ (-2147483648 ≤ (zI σ 17 1) ∧ (zI σ 17 1) ≤ 2147483647) ∧ ((zI σ 17 1) ≤ v4 → wpX4_start_54 v2 v3 0 σ Q) ∧ (¬ (zI σ 17 1) ≤ v4 → (0 ≤ v4 ∧ v4 < 1200) ∧ K16 (v4 + 1) (zsA σ 18 0 ((v3 + v4) % 4096) (zA σ 17 2 v4)))
def wpX4_start_16 (v2 v3 v4 : Int) (σ : ZS) (Q : ZS → Prop) : Prop := lfp1 (fun K16 v4 σ => wpbX4_start_16 K16 v2 v3 v4 σ Q) v4 σ
def wpX4_start (a2 : Int) (σ : ZS) (Q : ZS → Prop) : Prop := wpJ7_fill_53178_18_0 0 σ (fun (σ18 : ZS) => wpX4_start_16 a2 (16 * a2) 0 σ18 Q)
set_option maxHeartbeats 4000000 in
set_option maxRecDepth 100000 in
theorem kX4_start (l : Launch) (D : va_G) (dA : Nat → ClassId) (ad : Int → Nat → Nat) (a2 : Int) (σ : ZS) (Q : ZS → Prop) (sz : Nat) (hw : wpX4_start a2 σ Q) : Met l yX4_start (gws yX4_start cX4_start 6 none) (gR 2 0 0) (gPre D dA [.ref (ad 18 1000), .ref (ad 17 1000), .int (Int32.ofInt a2)] (zC dA ad σ) sz) (va_Qv Q (gAt D dA (va_A (zC dA ad σ) sz) (zC dA ad)) (va_A (zC dA ad σ) sz)) 0 0 (va_A (zC dA ad σ) sz) := by
  refine Met.ofW (cc := cX4_start) (maxL := 6) (ret := none) (by decide) rfl ?_
  intro p e s m args below meth c s₁ B hml hv
  obtain ⟨rfl, hsz, hP, hK, hD0⟩ := hv
  have hx := B.exec
  have hb := B.bytes
  have hr := B.returns
  have hts := atoms_spec (ws := gws yX4_start cX4_start 6 none) B.pre
  have hg : ∀ w ∈ gw, w.before _ s = true := fun w h => hts w (List.mem_cons_of_mem _ h)
  have hown : s.vm.findClass RX4 = some m.cls := findClass_of_methodNamed B.named
  have hlocks := B.notSynchronized
  subst hsz
  have hD := hD0.self (sz := s.heap.size)
  generalize hAe : va_A (zC dA ad σ) s.heap.size = A at hD ⊢
  have hA : ∀ q : Nat, s.heap.size ≤ q → A q := fun q h => by rw [← hAe]; exact Or.inr h
  have hS : va_S A s.heap s.heap [] := va_S.rf
  have hl := lv_entry ([.ref (ad 18 1000), .ref (ad 17 1000), .int (Int32.ofInt a2)]) (n := 6) (Nat.le_of_ble_eq_true rfl)
  rw [lg_entry_eq]
  generalize (lg_sl ([.ref (ad 18 1000), .ref (ad 17 1000), .int (Int32.ofInt a2)]) ++ List.replicate (6 - (lg_sl ([.ref (ad 18 1000), .ref (ad 17 1000), .int (Int32.ofInt a2)])).length) Slot.unset).toArray = ls at hl ⊢
  have hl : lv_has ls 6 [(0, .ref (ad 18 1000)), (1, .ref (ad 17 1000)), (2, .int (Int32.ofInt a2))] := hl
  have hret : ∀ (σ : ZS) (H : Heap) (locs : List Loc) (ls : Array Slot) (pc : Nat), Q σ → va_P D vwC (zC dA ad σ) H → va_D A (zC dA ad σ) → va_S A s.heap H locs → decode cX4_start pc = .ok (.return_, 1) → W p l e (gR 2 0 0) s m #[.ref (ad 18 1000), .ref (ad 17 1000), .int (Int32.ofInt a2)] below meth c H locs 0 0 (MQ below (va_Qv Q (gAt D dA A (zC dA ad)) A) #[.ref (ad 18 1000), .ref (ad 17 1000), .int (Int32.ofInt a2)] s 0 0 A) (F0 m pc ls []) := fun σ H locs ls pc hw hP hD hS hd => g_vret hx hb hr hlocks hK σ hP hD hS hw (Nat.le_of_ble_eq_true rfl) (Nat.le_of_ble_eq_true rfl) hd
  generalize MQ below (va_Qv Q (gAt D dA A (zC dA ad)) A) #[.ref (ad 18 1000), .ref (ad 17 1000), .int (Int32.ofInt a2)] s 0 0 A = QQ at hret ⊢
  have b54 : ∀ (v2 v3 : Int) (K54 : Int → ZS → Prop), (∀ (v4 : Int) (σ : ZS), K54 v4 σ → ∀ (H : Heap) (locs : List Loc) (ls : Array Slot), va_P D vwC (zC dA ad σ) H → va_D A (zC dA ad σ) → va_S A s.heap H locs → lv_has ls 6 [(0, .ref (ad 18 1000)), (1, .ref (ad 17 1000)), (2, .int (Int32.ofInt v2)), (3, .int (Int32.ofInt v3)), (4, .int (Int32.ofInt v4))] → W p l e (gR 2 0 0) s m #[.ref (ad 18 1000), .ref (ad 17 1000), .int (Int32.ofInt a2)] below meth c H locs 0 0 QQ (F0 m 54 ls [])) → ∀ (v4 : Int) (σ : ZS), wpbX4_start_54 K54 v2 v3 v4 σ Q → ∀ (H : Heap) (locs : List Loc) (ls : Array Slot), va_P D vwC (zC dA ad σ) H → va_D A (zC dA ad σ) → va_S A s.heap H locs → lv_has ls 6 [(0, .ref (ad 18 1000)), (1, .ref (ad 17 1000)), (2, .int (Int32.ofInt v2)), (3, .int (Int32.ofInt v3)), (4, .int (Int32.ofInt v4))] → W p l e (gR 2 0 0) s m #[.ref (ad 18 1000), .ref (ad 17 1000), .int (Int32.ofInt a2)] below meth c H locs 0 0 QQ (F0 m 54 ls []) := by
    intro v2 v3 K54 hK54
    intro v4 σ hw H locs ls hP hD hS hl
    unfold wpbX4_start_54 at hw
    refine lv_iload hx hb dX4_start_54 (lv_at hl 4 rfl) ?_
    refine lv_aload_n hx hb dX4_start_56 rfl (lv_at hl 1 rfl) ?_
    refine zgC17_3 hx hb hg hown hK hP q521 dX4_start_57 ?_
    obtain ⟨o1, hw⟩ := hw
    obtain ⟨o2, hw⟩ := hw
    refine z_icmp_ge (tgt := 94) hx hb o1 o2 dX4_start_60 (by decide) (fun k3 => ?_) (fun k3 => ?_)
    · replace hw := hw.1 k3
      refine lv_aload_n hx hb dX4_start_94 rfl (lv_at hl 0 rfl) ?_
      refine zgC18_1 hx hb hg hown hK hP q554 dX4_start_95 ?_
      refine lv_iconst (v := Int32.ofInt 0) hx hb dX4_start_98 (by decide) ?_
      refine z_Sv (n := 2) (As := [.ref (ad 18 1), .int (Int32.ofInt 0)]) (rest := []) hx hb hml hg hown hK hP hD hS hA (kJ7_fill_53178_18_1 l D dA ad 0 σ _ _ hw) q1164 q177 q1374 q1163 (by decide +kernel) ⟨(Nat.le_of_ble_eq_true rfl), (Nat.le_of_ble_eq_true rfl)⟩ rfl hl.1 rfl (Nat.le_of_ble_eq_true rfl) dX4_start_99 ⟨(Nat.le_of_ble_eq_true rfl), (Nat.le_of_ble_eq_true rfl)⟩ (fun σ5 H locs hw hP hD hS => ?_)
      refine lv_aload_n hx hb dX4_start_102 rfl (lv_at hl 0 rfl) ?_
      refine zgC18_2 hx hb hg hown hK hP q556 dX4_start_103 ?_
      refine lv_iload_n hx hb dX4_start_106 rfl (lv_at hl 2 rfl) ?_
      refine z_Sv (n := 2) (As := [.ref (ad 18 2), .int (Int32.ofInt v2)]) (rest := []) hx hb hml hg hown hK hP hD hS hA (kJ7_fill_53178_18_2 l D dA ad v2 σ5 _ _ hw) q1164 q177 q1374 q1163 (by decide +kernel) ⟨(Nat.le_of_ble_eq_true rfl), (Nat.le_of_ble_eq_true rfl)⟩ rfl hl.1 rfl (Nat.le_of_ble_eq_true rfl) dX4_start_107 ⟨(Nat.le_of_ble_eq_true rfl), (Nat.le_of_ble_eq_true rfl)⟩ (fun σ7 H locs hw hP hD hS => ?_)
      refine lv_aload_n hx hb dX4_start_110 rfl (lv_at hl 0 rfl) ?_
      refine zgC18_2 hx hb hg hown hK hP q556 dX4_start_111 ?_
      refine lv_iconst (v := Int32.ofInt 1) hx hb dX4_start_114 (by decide) ?_
      refine lv_iload_n hx hb dX4_start_115 rfl (lv_at hl 2 rfl) ?_
      refine lv_aload_n hx hb dX4_start_116 rfl (lv_at hl 1 rfl) ?_
      refine zgC17_5 hx hb hg hown hK hP q526 dX4_start_117 ?_
      refine z_iadd hx hb dX4_start_120 ?_
      refine zsC18_2 (v := (v2 + (zI σ7 17 5))) hx hb (by decide) hK hP hD hS dX4_start_121 (fun H locs hP hD hS => ?_)
      refine lv_aload_n hx hb dX4_start_122 rfl (lv_at hl 0 rfl) ?_
      refine lv_aload_n hx hb dX4_start_123 rfl (lv_at hl 1 rfl) ?_
      refine zgC17_6 hx hb hg hown hK hP q529 dX4_start_124 ?_
      refine g_nrm (y := Int32.ofInt (zI σ7 17 6)) rfl ?_
      refine zpC18_3 (v := (zI σ7 17 6)) hx hb hg hown hK hP hD hS q558 dX4_start_127 (fun H locs hP hD hS => ?_)
      refine lv_aload_n hx hb dX4_start_130 rfl (lv_at hl 0 rfl) ?_
      refine lv_iconst (v := Int32.ofInt 0) hx hb dX4_start_131 (by decide) ?_
      refine zpC18_4 (v := 0) hx hb hg hown hK hP hD hS q560 dX4_start_132 (fun H locs hP hD hS => ?_)
      refine lv_aload_n hx hb dX4_start_135 rfl (lv_at hl 0 rfl) ?_
      refine lv_iconst (v := Int32.ofInt 0) hx hb dX4_start_136 (by decide) ?_
      refine zpC18_5 (v := 0) hx hb hg hown hK hP hD hS q562 dX4_start_137 (fun H locs hP hD hS => ?_)
      refine lv_aload_n hx hb dX4_start_140 rfl (lv_at hl 0 rfl) ?_
      refine lv_iconst (v := Int32.ofInt 0) hx hb dX4_start_141 (by decide) ?_
      refine zpC18_6 (v := 0) hx hb hg hown hK hP hD hS q564 dX4_start_142 (fun H locs hP hD hS => ?_)
      refine lv_aload_n hx hb dX4_start_145 rfl (lv_at hl 0 rfl) ?_
      refine lv_iconst (v := Int32.ofInt 0) hx hb dX4_start_146 (by decide) ?_
      refine zpC18_7 (v := 0) hx hb hg hown (by decide) hK hP hD hS q566 dX4_start_147 (fun H locs hP hD hS => ?_)
      refine lv_aload_n hx hb dX4_start_150 rfl (lv_at hl 0 rfl) ?_
      refine lv_iconst (v := Int32.ofInt 0) hx hb dX4_start_151 (by decide) ?_
      refine zpC18_8 (v := 0) hx hb hg hown hK hP hD hS q568 dX4_start_152 (fun H locs hP hD hS => ?_)
      refine lv_aload_n hx hb dX4_start_155 rfl (lv_at hl 0 rfl) ?_
      refine lv_iconst (v := Int32.ofInt 0) hx hb dX4_start_156 (by decide) ?_
      refine zpC18_9 (v := 0) hx hb hg hown hK hP hD hS q570 dX4_start_157 (fun H locs hP hD hS => ?_)
      exact hret (zsI (zsI (zsI (zsI (zsI (zsI (zsI (zsA σ7 18 2 1 (v2 + (zI σ7 17 5))) 18 3 (zI σ7 17 6)) 18 4 0) 18 5 0) 18 6 0) 18 7 0) 18 8 0) 18 9 0) _ _ _ _ hw hP hD hS dX4_start_160
    · replace hw := hw.2 k3
      refine lv_iload_n hx hb dX4_start_63 rfl (lv_at hl 3 rfl) ?_
      refine lv_aload_n hx hb dX4_start_64 rfl (lv_at hl 1 rfl) ?_
      refine zgC17_4 hx hb hg hown hK hP q524 dX4_start_65 ?_
      refine lv_iload hx hb dX4_start_68 (lv_at hl 4 rfl) ?_
      obtain ⟨o8, hw⟩ := hw
      refine zlC17_4 hx hb o8 hK hP dX4_start_70 ?_
      refine z_iadd hx hb dX4_start_71 ?_
      refine lv_istore (lv' := [(5, .int (Int32.ofInt (v3 + (zA σ 17 4 v4)))), (0, .ref (ad 18 1000)), (1, .ref (ad 17 1000)), (2, .int (Int32.ofInt v2)), (3, .int (Int32.ofInt v3)), (4, .int (Int32.ofInt v4))]) hx hb dX4_start_72 hl (by decide) rfl (fun ls hl => ?_)
      refine lv_aload_n hx hb dX4_start_74 rfl (lv_at hl 1 rfl) ?_
      refine lv_iload hx hb dX4_start_75 (lv_at hl 0 rfl) ?_
      refine lv_aload_n hx hb dX4_start_77 rfl (lv_at hl 1 rfl) ?_
      refine lv_iload hx hb dX4_start_78 (lv_at hl 0 rfl) ?_
      refine z_Vi (n := 1) (As := [.int (Int32.ofInt (v3 + (zA σ 17 4 v4)))]) (rest := [.int (Int32.ofInt (v3 + (zA σ 17 4 v4))), .ref (ad 18 1000)]) hx hb hml hg hown hK hP hD hS hA (kX4_word l D dA ad (v3 + (zA σ 17 4 v4)) σ _ _ hw) (zoC18) rfl q1378 q159 q1375 q1377 q50 (by decide +kernel) ⟨(Nat.le_of_ble_eq_true rfl), (Nat.le_of_ble_eq_true rfl)⟩ rfl hl.1 rfl (Nat.le_of_ble_eq_true rfl) dX4_start_80 ⟨(Nat.le_of_ble_eq_true rfl), (Nat.le_of_ble_eq_true rfl)⟩ (fun x9 σ10 H locs hw hP hD hS => ?_)
      refine lv_iload_n hx hb dX4_start_83 rfl (lv_at hl 3 rfl) ?_
      refine z_iadd hx hb dX4_start_84 ?_
      refine z_Vv (n := 2) (As := [.int (Int32.ofInt (v3 + (zA σ 17 4 v4))), .int (Int32.ofInt (x9 + v2))]) (rest := []) hx hb hml hg hown hK hP hD hS hA (kX4_putWord l D dA ad (v3 + (zA σ 17 4 v4)) (x9 + v2) σ10 _ _ hw) (zoC18) rfl q1382 q159 q1379 q1381 q51 (by decide +kernel) ⟨(Nat.le_of_ble_eq_true rfl), (Nat.le_of_ble_eq_true rfl)⟩ rfl hl.1 rfl (Nat.le_of_ble_eq_true rfl) dX4_start_85 ⟨(Nat.le_of_ble_eq_true rfl), (Nat.le_of_ble_eq_true rfl)⟩ (fun σ12 H locs hw hP hD hS => ?_)
      refine lv_iinc (v := Int32.ofInt (v4 + 1)) (lv' := [(4, .int (Int32.ofInt (v4 + 1))), (5, .int (Int32.ofInt (v3 + (zA σ 17 4 v4)))), (0, .ref (ad 18 1000)), (1, .ref (ad 17 1000)), (2, .int (Int32.ofInt v2)), (3, .int (Int32.ofInt v3))]) hx hb dX4_start_88 hl (k := 5) rfl (Int32.ofInt_add _ _).symm (by decide) rfl (fun ls hl => ?_)
      refine lv_goto (tgt := 54) hx hb dX4_start_91 (by decide) ?_
      exact hK54 (v4 + 1) σ12 hw _ _ _ hP hD hS (lv_sub hl [2, 3, 4, 5, 0] rfl)
  have j54 : ∀ (v2 v3 v4 : Int) (σ : ZS), ∀ (H : Heap) (locs : List Loc) (ls : Array Slot), va_P D vwC (zC dA ad σ) H → va_D A (zC dA ad σ) → va_S A s.heap H locs → lv_has ls 6 [(0, .ref (ad 18 1000)), (1, .ref (ad 17 1000)), (2, .int (Int32.ofInt v2)), (3, .int (Int32.ofInt v3)), (4, .int (Int32.ofInt v4))] → wpX4_start_54 v2 v3 v4 σ Q → W p l e (gR 2 0 0) s m #[.ref (ad 18 1000), .ref (ad 17 1000), .int (Int32.ofInt a2)] below meth c H locs 0 0 QQ (F0 m 54 ls []) := by
    intro v2 v3 v4 σ H locs ls hP hD hS hl hw
    exact hw (fun v4 σ => ∀ (H : Heap) (locs : List Loc) (ls : Array Slot), va_P D vwC (zC dA ad σ) H → va_D A (zC dA ad σ) → va_S A s.heap H locs → lv_has ls 6 [(0, .ref (ad 18 1000)), (1, .ref (ad 17 1000)), (2, .int (Int32.ofInt v2)), (3, .int (Int32.ofInt v3)), (4, .int (Int32.ofInt v4))] → W p l e (gR 2 0 0) s m #[.ref (ad 18 1000), .ref (ad 17 1000), .int (Int32.ofInt a2)] below meth c H locs 0 0 QQ (F0 m 54 ls [])) (b54 v2 v3 (fun v4 σ => ∀ (H : Heap) (locs : List Loc) (ls : Array Slot), va_P D vwC (zC dA ad σ) H → va_D A (zC dA ad σ) → va_S A s.heap H locs → lv_has ls 6 [(0, .ref (ad 18 1000)), (1, .ref (ad 17 1000)), (2, .int (Int32.ofInt v2)), (3, .int (Int32.ofInt v3)), (4, .int (Int32.ofInt v4))] → W p l e (gR 2 0 0) s m #[.ref (ad 18 1000), .ref (ad 17 1000), .int (Int32.ofInt a2)] below meth c H locs 0 0 QQ (F0 m 54 ls [])) (fun v4 σ h => h)) _ _ _ hP hD hS hl
  have b16 : ∀ (v2 v3 : Int) (K16 : Int → ZS → Prop), (∀ (v4 : Int) (σ : ZS), K16 v4 σ → ∀ (H : Heap) (locs : List Loc) (ls : Array Slot), va_P D vwC (zC dA ad σ) H → va_D A (zC dA ad σ) → va_S A s.heap H locs → lv_has ls 6 [(0, .ref (ad 18 1000)), (1, .ref (ad 17 1000)), (2, .int (Int32.ofInt v2)), (3, .int (Int32.ofInt v3)), (4, .int (Int32.ofInt v4))] → W p l e (gR 2 0 0) s m #[.ref (ad 18 1000), .ref (ad 17 1000), .int (Int32.ofInt a2)] below meth c H locs 0 0 QQ (F0 m 16 ls [])) → ∀ (v4 : Int) (σ : ZS), wpbX4_start_16 K16 v2 v3 v4 σ Q → ∀ (H : Heap) (locs : List Loc) (ls : Array Slot), va_P D vwC (zC dA ad σ) H → va_D A (zC dA ad σ) → va_S A s.heap H locs → lv_has ls 6 [(0, .ref (ad 18 1000)), (1, .ref (ad 17 1000)), (2, .int (Int32.ofInt v2)), (3, .int (Int32.ofInt v3)), (4, .int (Int32.ofInt v4))] → W p l e (gR 2 0 0) s m #[.ref (ad 18 1000), .ref (ad 17 1000), .int (Int32.ofInt a2)] below meth c H locs 0 0 QQ (F0 m 16 ls []) := by
    intro v2 v3 K16 hK16
    intro v4 σ hw H locs ls hP hD hS hl
    unfold wpbX4_start_16 at hw
    refine lv_iload hx hb dX4_start_16 (lv_at hl 4 rfl) ?_
    refine lv_aload_n hx hb dX4_start_18 rfl (lv_at hl 1 rfl) ?_
    refine zgC17_1 hx hb hg hown hK hP q514 dX4_start_19 ?_
    obtain ⟨o13, hw⟩ := hw
    obtain ⟨o14, hw⟩ := hw
    refine z_icmp_ge (tgt := 51) hx hb o13 o14 dX4_start_22 (by decide) (fun k15 => ?_) (fun k15 => ?_)
    · replace hw := hw.1 k15
      refine lv_iconst (v := Int32.ofInt 0) hx hb dX4_start_51 (by decide) ?_
      refine lv_istore (lv' := [(4, .int (Int32.ofInt 0)), (0, .ref (ad 18 1000)), (1, .ref (ad 17 1000)), (2, .int (Int32.ofInt v2)), (3, .int (Int32.ofInt v3))]) hx hb dX4_start_52 hl (by decide) rfl (fun ls hl => ?_)
      exact j54 v2 v3 0 σ _ _ _ hP hD hS (lv_sub hl [1, 2, 3, 4, 0] rfl) hw
    · replace hw := hw.2 k15
      refine lv_aload_n hx hb dX4_start_25 rfl (lv_at hl 0 rfl) ?_
      refine zgC18_0 hx hb hg hown hK hP q552 dX4_start_26 ?_
      refine lv_iload_n hx hb dX4_start_29 rfl (lv_at hl 3 rfl) ?_
      refine lv_iload hx hb dX4_start_30 (lv_at hl 4 rfl) ?_
      refine z_iadd hx hb dX4_start_32 ?_
      refine lv_sipush (v := Int32.ofInt 4095) hx hb dX4_start_33 (by decide) ?_
      refine z_iandK (M := 4096) hx hb 12 (by decide) (by decide) (by decide) dX4_start_36 ?_
      refine lv_aload_n hx hb dX4_start_37 rfl (lv_at hl 1 rfl) ?_
      refine zgC17_2 hx hb hg hown hK hP q517 dX4_start_38 ?_
      refine lv_iload hx hb dX4_start_41 (lv_at hl 4 rfl) ?_
      obtain ⟨o16, hw⟩ := hw
      refine zlC17_2 hx hb o16 hK hP dX4_start_43 ?_
      refine zsC18_0 (v := (zA σ 17 2 v4)) hx hb (by clear hw; omega) hK hP hD hS dX4_start_44 (fun H locs hP hD hS => ?_)
      refine lv_iinc (v := Int32.ofInt (v4 + 1)) (lv' := [(4, .int (Int32.ofInt (v4 + 1))), (0, .ref (ad 18 1000)), (1, .ref (ad 17 1000)), (2, .int (Int32.ofInt v2)), (3, .int (Int32.ofInt v3))]) hx hb dX4_start_45 hl (k := 4) rfl (Int32.ofInt_add _ _).symm (by decide) rfl (fun ls hl => ?_)
      refine lv_goto (tgt := 16) hx hb dX4_start_48 (by decide) ?_
      exact hK16 (v4 + 1) (zsA σ 18 0 ((v3 + v4) % 4096) (zA σ 17 2 v4)) hw _ _ _ hP hD hS (lv_sub hl [1, 2, 3, 4, 0] rfl)
  have j16 : ∀ (v2 v3 v4 : Int) (σ : ZS), ∀ (H : Heap) (locs : List Loc) (ls : Array Slot), va_P D vwC (zC dA ad σ) H → va_D A (zC dA ad σ) → va_S A s.heap H locs → lv_has ls 6 [(0, .ref (ad 18 1000)), (1, .ref (ad 17 1000)), (2, .int (Int32.ofInt v2)), (3, .int (Int32.ofInt v3)), (4, .int (Int32.ofInt v4))] → wpX4_start_16 v2 v3 v4 σ Q → W p l e (gR 2 0 0) s m #[.ref (ad 18 1000), .ref (ad 17 1000), .int (Int32.ofInt a2)] below meth c H locs 0 0 QQ (F0 m 16 ls []) := by
    intro v2 v3 v4 σ H locs ls hP hD hS hl hw
    exact hw (fun v4 σ => ∀ (H : Heap) (locs : List Loc) (ls : Array Slot), va_P D vwC (zC dA ad σ) H → va_D A (zC dA ad σ) → va_S A s.heap H locs → lv_has ls 6 [(0, .ref (ad 18 1000)), (1, .ref (ad 17 1000)), (2, .int (Int32.ofInt v2)), (3, .int (Int32.ofInt v3)), (4, .int (Int32.ofInt v4))] → W p l e (gR 2 0 0) s m #[.ref (ad 18 1000), .ref (ad 17 1000), .int (Int32.ofInt a2)] below meth c H locs 0 0 QQ (F0 m 16 ls [])) (b16 v2 v3 (fun v4 σ => ∀ (H : Heap) (locs : List Loc) (ls : Array Slot), va_P D vwC (zC dA ad σ) H → va_D A (zC dA ad σ) → va_S A s.heap H locs → lv_has ls 6 [(0, .ref (ad 18 1000)), (1, .ref (ad 17 1000)), (2, .int (Int32.ofInt v2)), (3, .int (Int32.ofInt v3)), (4, .int (Int32.ofInt v4))] → W p l e (gR 2 0 0) s m #[.ref (ad 18 1000), .ref (ad 17 1000), .int (Int32.ofInt a2)] below meth c H locs 0 0 QQ (F0 m 16 ls [])) (fun v4 σ h => h)) _ _ _ hP hD hS hl
  unfold wpX4_start at hw
  refine lv_aload_n hx hb dX4_start_0 rfl (lv_at hl 0 rfl) ?_
  refine zgC18_0 hx hb hg hown hK hP q552 dX4_start_1 ?_
  refine lv_iconst (v := Int32.ofInt 0) hx hb dX4_start_4 (by decide) ?_
  refine z_Sv (n := 2) (As := [.ref (ad 18 0), .int (Int32.ofInt 0)]) (rest := []) hx hb hml hg hown hK hP hD hS hA (kJ7_fill_53178_18_0 l D dA ad 0 σ _ _ hw) q1164 q177 q1374 q1163 (by decide +kernel) ⟨(Nat.le_of_ble_eq_true rfl), (Nat.le_of_ble_eq_true rfl)⟩ rfl hl.1 rfl (Nat.le_of_ble_eq_true rfl) dX4_start_5 ⟨(Nat.le_of_ble_eq_true rfl), (Nat.le_of_ble_eq_true rfl)⟩ (fun σ18 H locs hw hP hD hS => ?_)
  refine lv_bipush (v := Int32.ofInt 16) hx hb dX4_start_8 (by decide) ?_
  refine lv_iload_n hx hb dX4_start_10 rfl (lv_at hl 2 rfl) ?_
  refine z_imul hx hb dX4_start_11 ?_
  refine lv_istore_n (lv' := [(3, .int (Int32.ofInt (16 * a2))), (0, .ref (ad 18 1000)), (1, .ref (ad 17 1000)), (2, .int (Int32.ofInt a2))]) hx hb dX4_start_12 rfl hl (by decide) rfl (fun ls hl => ?_)
  refine lv_iconst (v := Int32.ofInt 0) hx hb dX4_start_13 (by decide) ?_
  refine lv_istore (lv' := [(4, .int (Int32.ofInt 0)), (3, .int (Int32.ofInt (16 * a2))), (0, .ref (ad 18 1000)), (1, .ref (ad 17 1000)), (2, .int (Int32.ofInt a2))]) hx hb dX4_start_14 hl (by decide) rfl (fun ls hl => ?_)
  exact j16 a2 (16 * a2) 0 σ18 _ _ _ hP hD hS (lv_sub hl [2, 3, 4, 1, 0] rfl) hw
def wpX4_fetch (σ : ZS) (Q : Int → ZS → Prop) : Prop := Q (zA σ 18 0 (((16 * (zA σ 18 2 1)) + (zI σ 18 3)) % 4096)) (zsI σ 18 3 (((zI σ 18 3) + 1) % 65536))
set_option maxHeartbeats 4000000 in
set_option maxRecDepth 100000 in
theorem kX4_fetch (l : Launch) (D : va_G) (dA : Nat → ClassId) (ad : Int → Nat → Nat) (σ : ZS) (Q : Int → ZS → Prop) (sz : Nat) (hw : wpX4_fetch σ Q) : Met l yX4_fetch (gws yX4_fetch cX4_fetch 2 (some .int)) (gR 1 0 0) (gPre D dA [.ref (ad 18 1000)] (zC dA ad σ) sz) (va_Qi (zQi Q) (gAt D dA (va_A (zC dA ad σ) sz) (zC dA ad)) (va_A (zC dA ad σ) sz)) 0 0 (va_A (zC dA ad σ) sz) := by
  refine Met.ofW (cc := cX4_fetch) (maxL := 2) (ret := (some .int)) (by decide) rfl ?_
  intro p e s m args below meth c s₁ B hml hv
  obtain ⟨rfl, hsz, hP, hK, hD0⟩ := hv
  have hx := B.exec
  have hb := B.bytes
  have hr := B.returns
  have hts := atoms_spec (ws := gws yX4_fetch cX4_fetch 2 (some .int)) B.pre
  have hg : ∀ w ∈ gw, w.before _ s = true := fun w h => hts w (List.mem_cons_of_mem _ h)
  have hown : s.vm.findClass RX4 = some m.cls := findClass_of_methodNamed B.named
  have hlocks := B.notSynchronized
  subst hsz
  have hD := hD0.self (sz := s.heap.size)
  generalize hAe : va_A (zC dA ad σ) s.heap.size = A at hD ⊢
  have hA : ∀ q : Nat, s.heap.size ≤ q → A q := fun q h => by rw [← hAe]; exact Or.inr h
  have hS : va_S A s.heap s.heap [] := va_S.rf
  have hl := lv_entry ([.ref (ad 18 1000)]) (n := 2) (Nat.le_of_ble_eq_true rfl)
  rw [lg_entry_eq]
  generalize (lg_sl ([.ref (ad 18 1000)]) ++ List.replicate (2 - (lg_sl ([.ref (ad 18 1000)])).length) Slot.unset).toArray = ls at hl ⊢
  have hl : lv_has ls 2 [(0, .ref (ad 18 1000))] := hl
  have hret : ∀ (v : Int) (σ : ZS) (H : Heap) (locs : List Loc) (ls : Array Slot) (pc : Nat), Q v σ → va_P D vwC (zC dA ad σ) H → va_D A (zC dA ad σ) → va_S A s.heap H locs → decode cX4_fetch pc = .ok (.ireturn, 1) → W p l e (gR 1 0 0) s m #[.ref (ad 18 1000)] below meth c H locs 0 0 (MQ below (va_Qi (zQi Q) (gAt D dA A (zC dA ad)) A) #[.ref (ad 18 1000)] s 0 0 A) (F0 m pc ls [.int (Int32.ofInt v)]) := fun v σ H locs ls pc hw hP hD hS hd => g_iret hx hb hr rfl hlocks hK σ hP hD hS ⟨v, rfl, hw⟩ (Nat.le_of_ble_eq_true rfl) (Nat.le_of_ble_eq_true rfl) hd
  generalize MQ below (va_Qi (zQi Q) (gAt D dA A (zC dA ad)) A) #[.ref (ad 18 1000)] s 0 0 A = QQ at hret ⊢
  unfold wpX4_fetch at hw
  refine lv_aload_n hx hb dX4_fetch_0 rfl (lv_at hl 0 rfl) ?_
  refine zgC18_0 hx hb hg hown hK hP q552 dX4_fetch_1 ?_
  refine lv_bipush (v := Int32.ofInt 16) hx hb dX4_fetch_4 (by decide) ?_
  refine lv_aload_n hx hb dX4_fetch_6 rfl (lv_at hl 0 rfl) ?_
  refine zgC18_2 hx hb hg hown hK hP q556 dX4_fetch_7 ?_
  refine lv_iconst (v := Int32.ofInt 1) hx hb dX4_fetch_10 (by decide) ?_
  refine zlC18_2 hx hb (by decide) hK hP dX4_fetch_11 ?_
  refine z_imul hx hb dX4_fetch_12 ?_
  refine lv_aload_n hx hb dX4_fetch_13 rfl (lv_at hl 0 rfl) ?_
  refine zgC18_3 hx hb hg hown hK hP q558 dX4_fetch_14 ?_
  refine z_iadd hx hb dX4_fetch_17 ?_
  refine lv_sipush (v := Int32.ofInt 4095) hx hb dX4_fetch_18 (by decide) ?_
  refine z_iandK (M := 4096) hx hb 12 (by decide) (by decide) (by decide) dX4_fetch_21 ?_
  refine zlC18_0 hx hb (by clear hw; omega) hK hP dX4_fetch_22 ?_
  refine lv_istore_n (lv' := [(1, .int (Int32.ofInt (zA σ 18 0 (((16 * (zA σ 18 2 1)) + (zI σ 18 3)) % 4096)))), (0, .ref (ad 18 1000))]) hx hb dX4_fetch_23 rfl hl (by decide) rfl (fun ls hl => ?_)
  refine lv_aload_n hx hb dX4_fetch_24 rfl (lv_at hl 1 rfl) ?_
  refine lv_aload_n hx hb dX4_fetch_25 rfl (lv_at hl 1 rfl) ?_
  refine zgC18_3 hx hb hg hown hK hP q558 dX4_fetch_26 ?_
  refine lv_iconst (v := Int32.ofInt 1) hx hb dX4_fetch_29 (by decide) ?_
  refine z_iadd hx hb dX4_fetch_30 ?_
  refine lv_ldc hx hb hown (hg _ q1400) dX4_fetch_31 ?_
  refine g_nrm (y := Int32.ofInt 65535) (by decide) ?_
  refine z_iandK (M := 65536) hx hb 16 (by decide) (by decide) (by decide) dX4_fetch_33 ?_
  refine zpC18_3 (v := (((zI σ 18 3) + 1) % 65536)) hx hb hg hown hK hP hD hS q558 dX4_fetch_34 (fun H locs hP hD hS => ?_)
  refine lv_iload_n hx hb dX4_fetch_37 rfl (lv_at hl 0 rfl) ?_
  exact hret (zA σ 18 0 (((16 * (zA σ 18 2 1)) + (zI σ 18 3)) % 4096)) (zsI σ 18 3 (((zI σ 18 3) + 1) % 65536)) _ _ _ _ hw hP hD hS dX4_fetch_38
def wpX4_push (a1 : Int) (σ : ZS) (Q : ZS → Prop) : Prop := wpX4_putWord ((16 * (zA σ 18 2 2)) + (zA (zsA σ 18 1 4 (((zA σ 18 1 4) - 2) % 65536)) 18 1 4)) a1 (zsA σ 18 1 4 (((zA σ 18 1 4) - 2) % 65536)) (fun (σ2 : ZS) => Q σ2)
set_option maxHeartbeats 4000000 in
set_option maxRecDepth 100000 in
theorem kX4_push (l : Launch) (D : va_G) (dA : Nat → ClassId) (ad : Int → Nat → Nat) (a1 : Int) (σ : ZS) (Q : ZS → Prop) (sz : Nat) (hw : wpX4_push a1 σ Q) : Met l yX4_push (gws yX4_push cX4_push 2 none) (gR 2 0 0) (gPre D dA [.ref (ad 18 1000), .int (Int32.ofInt a1)] (zC dA ad σ) sz) (va_Qv Q (gAt D dA (va_A (zC dA ad σ) sz) (zC dA ad)) (va_A (zC dA ad σ) sz)) 0 0 (va_A (zC dA ad σ) sz) := by
  refine Met.ofW (cc := cX4_push) (maxL := 2) (ret := none) (by decide) rfl ?_
  intro p e s m args below meth c s₁ B hml hv
  obtain ⟨rfl, hsz, hP, hK, hD0⟩ := hv
  have hx := B.exec
  have hb := B.bytes
  have hr := B.returns
  have hts := atoms_spec (ws := gws yX4_push cX4_push 2 none) B.pre
  have hg : ∀ w ∈ gw, w.before _ s = true := fun w h => hts w (List.mem_cons_of_mem _ h)
  have hown : s.vm.findClass RX4 = some m.cls := findClass_of_methodNamed B.named
  have hlocks := B.notSynchronized
  subst hsz
  have hD := hD0.self (sz := s.heap.size)
  generalize hAe : va_A (zC dA ad σ) s.heap.size = A at hD ⊢
  have hA : ∀ q : Nat, s.heap.size ≤ q → A q := fun q h => by rw [← hAe]; exact Or.inr h
  have hS : va_S A s.heap s.heap [] := va_S.rf
  have hl := lv_entry ([.ref (ad 18 1000), .int (Int32.ofInt a1)]) (n := 2) (Nat.le_of_ble_eq_true rfl)
  rw [lg_entry_eq]
  generalize (lg_sl ([.ref (ad 18 1000), .int (Int32.ofInt a1)]) ++ List.replicate (2 - (lg_sl ([.ref (ad 18 1000), .int (Int32.ofInt a1)])).length) Slot.unset).toArray = ls at hl ⊢
  have hl : lv_has ls 2 [(0, .ref (ad 18 1000)), (1, .int (Int32.ofInt a1))] := hl
  have hret : ∀ (σ : ZS) (H : Heap) (locs : List Loc) (ls : Array Slot) (pc : Nat), Q σ → va_P D vwC (zC dA ad σ) H → va_D A (zC dA ad σ) → va_S A s.heap H locs → decode cX4_push pc = .ok (.return_, 1) → W p l e (gR 2 0 0) s m #[.ref (ad 18 1000), .int (Int32.ofInt a1)] below meth c H locs 0 0 (MQ below (va_Qv Q (gAt D dA A (zC dA ad)) A) #[.ref (ad 18 1000), .int (Int32.ofInt a1)] s 0 0 A) (F0 m pc ls []) := fun σ H locs ls pc hw hP hD hS hd => g_vret hx hb hr hlocks hK σ hP hD hS hw (Nat.le_of_ble_eq_true rfl) (Nat.le_of_ble_eq_true rfl) hd
  generalize MQ below (va_Qv Q (gAt D dA A (zC dA ad)) A) #[.ref (ad 18 1000), .int (Int32.ofInt a1)] s 0 0 A = QQ at hret ⊢
  unfold wpX4_push at hw
  refine lv_aload_n hx hb dX4_push_0 rfl (lv_at hl 0 rfl) ?_
  refine zgC18_1 hx hb hg hown hK hP q554 dX4_push_1 ?_
  refine lv_iconst (v := Int32.ofInt 4) hx hb dX4_push_4 (by decide) ?_
  refine lv_aload_n hx hb dX4_push_5 rfl (lv_at hl 0 rfl) ?_
  refine zgC18_1 hx hb hg hown hK hP q554 dX4_push_6 ?_
  refine lv_iconst (v := Int32.ofInt 4) hx hb dX4_push_9 (by decide) ?_
  refine zlC18_1 hx hb (by decide) hK hP dX4_push_10 ?_
  refine lv_iconst (v := Int32.ofInt 2) hx hb dX4_push_11 (by decide) ?_
  refine z_isub hx hb dX4_push_12 ?_
  refine lv_ldc hx hb hown (hg _ q1400) dX4_push_13 ?_
  refine g_nrm (y := Int32.ofInt 65535) (by decide) ?_
  refine z_iandK (M := 65536) hx hb 16 (by decide) (by decide) (by decide) dX4_push_15 ?_
  refine zsC18_1 (v := (((zA σ 18 1 4) - 2) % 65536)) hx hb (by decide) hK hP hD hS dX4_push_16 (fun H locs hP hD hS => ?_)
  refine lv_aload_n hx hb dX4_push_17 rfl (lv_at hl 0 rfl) ?_
  refine lv_bipush (v := Int32.ofInt 16) hx hb dX4_push_18 (by decide) ?_
  refine lv_aload_n hx hb dX4_push_20 rfl (lv_at hl 0 rfl) ?_
  refine zgC18_2 hx hb hg hown hK hP q556 dX4_push_21 ?_
  refine lv_iconst (v := Int32.ofInt 2) hx hb dX4_push_24 (by decide) ?_
  refine zlC18_2 hx hb (by decide) hK hP dX4_push_25 ?_
  refine g_nrm (y := Int32.ofInt (zA σ 18 2 2)) rfl ?_
  refine z_imul hx hb dX4_push_26 ?_
  refine lv_aload_n hx hb dX4_push_27 rfl (lv_at hl 0 rfl) ?_
  refine zgC18_1 hx hb hg hown hK hP q554 dX4_push_28 ?_
  refine lv_iconst (v := Int32.ofInt 4) hx hb dX4_push_31 (by decide) ?_
  refine zlC18_1 hx hb (by decide) hK hP dX4_push_32 ?_
  refine z_iadd hx hb dX4_push_33 ?_
  refine lv_iload_n hx hb dX4_push_34 rfl (lv_at hl 1 rfl) ?_
  refine z_Vv (n := 2) (As := [.int (Int32.ofInt ((16 * (zA σ 18 2 2)) + (zA (zsA σ 18 1 4 (((zA σ 18 1 4) - 2) % 65536)) 18 1 4))), .int (Int32.ofInt a1)]) (rest := []) hx hb hml hg hown hK hP hD hS hA (kX4_putWord l D dA ad ((16 * (zA σ 18 2 2)) + (zA (zsA σ 18 1 4 (((zA σ 18 1 4) - 2) % 65536)) 18 1 4)) a1 (zsA σ 18 1 4 (((zA σ 18 1 4) - 2) % 65536)) _ _ hw) (zoC18) rfl q1382 q159 q1379 q1381 q51 (by decide +kernel) ⟨(Nat.le_of_ble_eq_true rfl), (Nat.le_of_ble_eq_true rfl)⟩ rfl hl.1 rfl (Nat.le_of_ble_eq_true rfl) dX4_push_35 ⟨(Nat.le_of_ble_eq_true rfl), (Nat.le_of_ble_eq_true rfl)⟩ (fun σ2 H locs hw hP hD hS => ?_)
  exact hret σ2 _ _ _ _ hw hP hD hS dX4_push_38
def wpX4_pop (σ : ZS) (Q : Int → ZS → Prop) : Prop := wpX4_word ((16 * (zA σ 18 2 2)) + (zA σ 18 1 4)) σ (fun (x1 : Int) (σ2 : ZS) => Q x1 (zsA σ2 18 1 4 (((zA σ2 18 1 4) + 2) % 65536)))
set_option maxHeartbeats 4000000 in
set_option maxRecDepth 100000 in
theorem kX4_pop (l : Launch) (D : va_G) (dA : Nat → ClassId) (ad : Int → Nat → Nat) (σ : ZS) (Q : Int → ZS → Prop) (sz : Nat) (hw : wpX4_pop σ Q) : Met l yX4_pop (gws yX4_pop cX4_pop 2 (some .int)) (gR 2 0 0) (gPre D dA [.ref (ad 18 1000)] (zC dA ad σ) sz) (va_Qi (zQi Q) (gAt D dA (va_A (zC dA ad σ) sz) (zC dA ad)) (va_A (zC dA ad σ) sz)) 0 0 (va_A (zC dA ad σ) sz) := by
  refine Met.ofW (cc := cX4_pop) (maxL := 2) (ret := (some .int)) (by decide) rfl ?_
  intro p e s m args below meth c s₁ B hml hv
  obtain ⟨rfl, hsz, hP, hK, hD0⟩ := hv
  have hx := B.exec
  have hb := B.bytes
  have hr := B.returns
  have hts := atoms_spec (ws := gws yX4_pop cX4_pop 2 (some .int)) B.pre
  have hg : ∀ w ∈ gw, w.before _ s = true := fun w h => hts w (List.mem_cons_of_mem _ h)
  have hown : s.vm.findClass RX4 = some m.cls := findClass_of_methodNamed B.named
  have hlocks := B.notSynchronized
  subst hsz
  have hD := hD0.self (sz := s.heap.size)
  generalize hAe : va_A (zC dA ad σ) s.heap.size = A at hD ⊢
  have hA : ∀ q : Nat, s.heap.size ≤ q → A q := fun q h => by rw [← hAe]; exact Or.inr h
  have hS : va_S A s.heap s.heap [] := va_S.rf
  have hl := lv_entry ([.ref (ad 18 1000)]) (n := 2) (Nat.le_of_ble_eq_true rfl)
  rw [lg_entry_eq]
  generalize (lg_sl ([.ref (ad 18 1000)]) ++ List.replicate (2 - (lg_sl ([.ref (ad 18 1000)])).length) Slot.unset).toArray = ls at hl ⊢
  have hl : lv_has ls 2 [(0, .ref (ad 18 1000))] := hl
  have hret : ∀ (v : Int) (σ : ZS) (H : Heap) (locs : List Loc) (ls : Array Slot) (pc : Nat), Q v σ → va_P D vwC (zC dA ad σ) H → va_D A (zC dA ad σ) → va_S A s.heap H locs → decode cX4_pop pc = .ok (.ireturn, 1) → W p l e (gR 2 0 0) s m #[.ref (ad 18 1000)] below meth c H locs 0 0 (MQ below (va_Qi (zQi Q) (gAt D dA A (zC dA ad)) A) #[.ref (ad 18 1000)] s 0 0 A) (F0 m pc ls [.int (Int32.ofInt v)]) := fun v σ H locs ls pc hw hP hD hS hd => g_iret hx hb hr rfl hlocks hK σ hP hD hS ⟨v, rfl, hw⟩ (Nat.le_of_ble_eq_true rfl) (Nat.le_of_ble_eq_true rfl) hd
  generalize MQ below (va_Qi (zQi Q) (gAt D dA A (zC dA ad)) A) #[.ref (ad 18 1000)] s 0 0 A = QQ at hret ⊢
  unfold wpX4_pop at hw
  refine lv_aload_n hx hb dX4_pop_0 rfl (lv_at hl 0 rfl) ?_
  refine lv_bipush (v := Int32.ofInt 16) hx hb dX4_pop_1 (by decide) ?_
  refine lv_aload_n hx hb dX4_pop_3 rfl (lv_at hl 0 rfl) ?_
  refine zgC18_2 hx hb hg hown hK hP q556 dX4_pop_4 ?_
  refine lv_iconst (v := Int32.ofInt 2) hx hb dX4_pop_7 (by decide) ?_
  refine zlC18_2 hx hb (by decide) hK hP dX4_pop_8 ?_
  refine z_imul hx hb dX4_pop_9 ?_
  refine lv_aload_n hx hb dX4_pop_10 rfl (lv_at hl 0 rfl) ?_
  refine zgC18_1 hx hb hg hown hK hP q554 dX4_pop_11 ?_
  refine lv_iconst (v := Int32.ofInt 4) hx hb dX4_pop_14 (by decide) ?_
  refine zlC18_1 hx hb (by decide) hK hP dX4_pop_15 ?_
  refine z_iadd hx hb dX4_pop_16 ?_
  refine z_Vi (n := 1) (As := [.int (Int32.ofInt ((16 * (zA σ 18 2 2)) + (zA σ 18 1 4)))]) (rest := []) hx hb hml hg hown hK hP hD hS hA (kX4_word l D dA ad ((16 * (zA σ 18 2 2)) + (zA σ 18 1 4)) σ _ _ hw) (zoC18) rfl q1378 q159 q1375 q1377 q50 (by decide +kernel) ⟨(Nat.le_of_ble_eq_true rfl), (Nat.le_of_ble_eq_true rfl)⟩ rfl hl.1 rfl (Nat.le_of_ble_eq_true rfl) dX4_pop_17 ⟨(Nat.le_of_ble_eq_true rfl), (Nat.le_of_ble_eq_true rfl)⟩ (fun x1 σ2 H locs hw hP hD hS => ?_)
  refine lv_istore_n (lv' := [(1, .int (Int32.ofInt x1)), (0, .ref (ad 18 1000))]) hx hb dX4_pop_20 rfl hl (by decide) rfl (fun ls hl => ?_)
  refine lv_aload_n hx hb dX4_pop_21 rfl (lv_at hl 1 rfl) ?_
  refine zgC18_1 hx hb hg hown hK hP q554 dX4_pop_22 ?_
  refine lv_iconst (v := Int32.ofInt 4) hx hb dX4_pop_25 (by decide) ?_
  refine lv_aload_n hx hb dX4_pop_26 rfl (lv_at hl 1 rfl) ?_
  refine zgC18_1 hx hb hg hown hK hP q554 dX4_pop_27 ?_
  refine lv_iconst (v := Int32.ofInt 4) hx hb dX4_pop_30 (by decide) ?_
  refine zlC18_1 hx hb (by decide) hK hP dX4_pop_31 ?_
  refine lv_iconst (v := Int32.ofInt 2) hx hb dX4_pop_32 (by decide) ?_
  refine z_iadd hx hb dX4_pop_33 ?_
  refine lv_ldc hx hb hown (hg _ q1400) dX4_pop_34 ?_
  refine g_nrm (y := Int32.ofInt 65535) (by decide) ?_
  refine z_iandK (M := 65536) hx hb 16 (by decide) (by decide) (by decide) dX4_pop_36 ?_
  refine zsC18_1 (v := (((zA σ2 18 1 4) + 2) % 65536)) hx hb (by decide) hK hP hD hS dX4_pop_37 (fun H locs hP hD hS => ?_)
  refine lv_iload_n hx hb dX4_pop_38 rfl (lv_at hl 0 rfl) ?_
  exact hret x1 (zsA σ2 18 1 4 (((zA σ2 18 1 4) + 2) % 65536)) _ _ _ _ hw hP hD hS dX4_pop_39
def wpX4_isArithmetic_15 (s0 : Int) (σ : ZS) (Q : Int → ZS → Prop) : Prop := (0 ≤ s0 ∧ s0 ≤ 1) ∧ Q s0 σ
def wpX4_isArithmetic_14 (σ : ZS) (Q : Int → ZS → Prop) : Prop := wpX4_isArithmetic_15 0 σ Q
def wpX4_isArithmetic (a0 : Int) (σ : ZS) (Q : Int → ZS → Prop) : Prop := (-2147483648 ≤ a0 ∧ a0 ≤ 2147483647) ∧ (a0 = 2 → wpX4_isArithmetic_14 σ Q) ∧ (¬ a0 = 2 → (a0 = 3 → wpX4_isArithmetic_14 σ Q) ∧ (¬ a0 = 3 → wpX4_isArithmetic_15 1 σ Q))
set_option maxHeartbeats 4000000 in
set_option maxRecDepth 100000 in
theorem kX4_isArithmetic (l : Launch) (D : va_G) (dA : Nat → ClassId) (ad : Int → Nat → Nat) (a0 : Int) (σ : ZS) (Q : Int → ZS → Prop) (sz : Nat) (hw : wpX4_isArithmetic a0 σ Q) : Met l yX4_isArithmetic (gws yX4_isArithmetic cX4_isArithmetic 1 (some .boolean)) (gR 1 0 0) (gPre D dA [.int (Int32.ofInt a0)] (zC dA ad σ) sz) (va_Qi (zQi Q) (gAt D dA (va_A (zC dA ad σ) sz) (zC dA ad)) (va_A (zC dA ad σ) sz)) 0 0 (va_A (zC dA ad σ) sz) := by
  refine Met.ofW (cc := cX4_isArithmetic) (maxL := 1) (ret := (some .boolean)) (by decide) rfl ?_
  intro p e s m args below meth c s₁ B hml hv
  obtain ⟨rfl, hsz, hP, hK, hD0⟩ := hv
  have hx := B.exec
  have hb := B.bytes
  have hr := B.returns
  have hts := atoms_spec (ws := gws yX4_isArithmetic cX4_isArithmetic 1 (some .boolean)) B.pre
  have hg : ∀ w ∈ gw, w.before _ s = true := fun w h => hts w (List.mem_cons_of_mem _ h)
  have hown : s.vm.findClass RX4 = some m.cls := findClass_of_methodNamed B.named
  have hlocks := B.notSynchronized
  subst hsz
  have hD := hD0.self (sz := s.heap.size)
  generalize hAe : va_A (zC dA ad σ) s.heap.size = A at hD ⊢
  have hA : ∀ q : Nat, s.heap.size ≤ q → A q := fun q h => by rw [← hAe]; exact Or.inr h
  have hS : va_S A s.heap s.heap [] := va_S.rf
  have hl := lv_entry ([.int (Int32.ofInt a0)]) (n := 1) (Nat.le_of_ble_eq_true rfl)
  rw [lg_entry_eq]
  generalize (lg_sl ([.int (Int32.ofInt a0)]) ++ List.replicate (1 - (lg_sl ([.int (Int32.ofInt a0)])).length) Slot.unset).toArray = ls at hl ⊢
  have hl : lv_has ls 1 [(0, .int (Int32.ofInt a0))] := hl
  have hret : ∀ (v : Int) (σ : ZS) (H : Heap) (locs : List Loc) (ls : Array Slot) (pc : Nat), (0 ≤ v ∧ v ≤ 1) → Q v σ → va_P D vwC (zC dA ad σ) H → va_D A (zC dA ad σ) → va_S A s.heap H locs → decode cX4_isArithmetic pc = .ok (.ireturn, 1) → W p l e (gR 1 0 0) s m #[.int (Int32.ofInt a0)] below meth c H locs 0 0 (MQ below (va_Qi (zQi Q) (gAt D dA A (zC dA ad)) A) #[.int (Int32.ofInt a0)] s 0 0 A) (F0 m pc ls [.int (Int32.ofInt v)]) := fun v σ H locs ls pc hv hw hP hD hS hd => g_iret hx hb hr (z_nb hv) hlocks hK σ hP hD hS ⟨v, rfl, hw⟩ (Nat.le_of_ble_eq_true rfl) (Nat.le_of_ble_eq_true rfl) hd
  generalize MQ below (va_Qi (zQi Q) (gAt D dA A (zC dA ad)) A) #[.int (Int32.ofInt a0)] s 0 0 A = QQ at hret ⊢
  have j15 : ∀ (s0 : Int) (σ : ZS), ∀ (H : Heap) (locs : List Loc) (ls : Array Slot), va_P D vwC (zC dA ad σ) H → va_D A (zC dA ad σ) → va_S A s.heap H locs → lv_has ls 1 [] → wpX4_isArithmetic_15 s0 σ Q → W p l e (gR 1 0 0) s m #[.int (Int32.ofInt a0)] below meth c H locs 0 0 QQ (F0 m 15 ls [.int (Int32.ofInt s0)]) := by
    intro s0 σ H locs ls hP hD hS hl hw
    unfold wpX4_isArithmetic_15 at hw
    obtain ⟨o1, hw⟩ := hw
    exact hret s0 σ _ _ _ _ o1 hw hP hD hS dX4_isArithmetic_15
  have j14 : ∀ (σ : ZS), ∀ (H : Heap) (locs : List Loc) (ls : Array Slot), va_P D vwC (zC dA ad σ) H → va_D A (zC dA ad σ) → va_S A s.heap H locs → lv_has ls 1 [] → wpX4_isArithmetic_14 σ Q → W p l e (gR 1 0 0) s m #[.int (Int32.ofInt a0)] below meth c H locs 0 0 QQ (F0 m 14 ls []) := by
    intro σ H locs ls hP hD hS hl hw
    unfold wpX4_isArithmetic_14 at hw
    refine lv_iconst (v := Int32.ofInt 0) hx hb dX4_isArithmetic_14 (by decide) ?_
    exact j15 0 σ _ _ _ hP hD hS (lv_sub hl [] rfl) hw
  unfold wpX4_isArithmetic at hw
  refine lv_iload_n hx hb dX4_isArithmetic_0 rfl (lv_at hl 0 rfl) ?_
  refine lv_iconst (v := Int32.ofInt 2) hx hb dX4_isArithmetic_1 (by decide) ?_
  obtain ⟨o2, hw⟩ := hw
  refine z_icmp_eq (tgt := 14) hx hb o2 (by decide) dX4_isArithmetic_2 (by decide) (fun k3 => ?_) (fun k3 => ?_)
  · replace hw := hw.1 k3
    exact j14 σ _ _ _ hP hD hS (lv_sub hl [] rfl) hw
  · replace hw := hw.2 k3
    refine lv_iload_n hx hb dX4_isArithmetic_5 rfl (lv_at hl 0 rfl) ?_
    refine lv_iconst (v := Int32.ofInt 3) hx hb dX4_isArithmetic_6 (by decide) ?_
    refine z_icmp_eq (tgt := 14) hx hb o2 (by decide) dX4_isArithmetic_7 (by decide) (fun k4 => ?_) (fun k4 => ?_)
    · replace hw := hw.1 k4
      exact j14 σ _ _ _ hP hD hS (lv_sub hl [] rfl) hw
    · replace hw := hw.2 k4
      refine lv_iconst (v := Int32.ofInt 1) hx hb dX4_isArithmetic_10 (by decide) ?_
      refine lv_goto (tgt := 15) hx hb dX4_isArithmetic_11 (by decide) ?_
      exact j15 1 σ _ _ _ hP hD hS (lv_sub hl [] rfl) hw
def wpX4_registerSum_76 (s2 s0 : Int) (σ : ZS) (Q : Int → ZS → Prop) : Prop := (0 ≤ s2 ∧ s2 < 8) ∧ Q (s0 + (zA σ 18 1 s2)) σ
def wpX4_registerSum (a1 : Int) (σ : ZS) (Q : Int → ZS → Prop) : Prop := (-2147483648 ≤ a1 ∧ a1 ≤ 2147483647) ∧ (a1 = 6 → Q (zA σ 18 1 5) σ) ∧ (¬ a1 = 6 → (a1 = 7 → Q (zA σ 18 1 3) σ) ∧ (¬ a1 = 7 → (a1 < 4 → (2 ≤ a1 → wpX4_registerSum_76 5 (zA σ 18 1 (6 + (a1 % 2))) σ Q) ∧ (¬ 2 ≤ a1 → wpX4_registerSum_76 3 (zA σ 18 1 (6 + (a1 % 2))) σ Q)) ∧ (¬ a1 < 4 → Q (zA σ 18 1 (6 + (a1 % 2))) σ)))
set_option maxHeartbeats 4000000 in
set_option maxRecDepth 100000 in
theorem kX4_registerSum (l : Launch) (D : va_G) (dA : Nat → ClassId) (ad : Int → Nat → Nat) (a1 : Int) (σ : ZS) (Q : Int → ZS → Prop) (sz : Nat) (hw : wpX4_registerSum a1 σ Q) : Met l yX4_registerSum (gws yX4_registerSum cX4_registerSum 3 (some .int)) (gR 1 0 0) (gPre D dA [.ref (ad 18 1000), .int (Int32.ofInt a1)] (zC dA ad σ) sz) (va_Qi (zQi Q) (gAt D dA (va_A (zC dA ad σ) sz) (zC dA ad)) (va_A (zC dA ad σ) sz)) 0 0 (va_A (zC dA ad σ) sz) := by
  refine Met.ofW (cc := cX4_registerSum) (maxL := 3) (ret := (some .int)) (by decide) rfl ?_
  intro p e s m args below meth c s₁ B hml hv
  obtain ⟨rfl, hsz, hP, hK, hD0⟩ := hv
  have hx := B.exec
  have hb := B.bytes
  have hr := B.returns
  have hts := atoms_spec (ws := gws yX4_registerSum cX4_registerSum 3 (some .int)) B.pre
  have hg : ∀ w ∈ gw, w.before _ s = true := fun w h => hts w (List.mem_cons_of_mem _ h)
  have hown : s.vm.findClass RX4 = some m.cls := findClass_of_methodNamed B.named
  have hlocks := B.notSynchronized
  subst hsz
  have hD := hD0.self (sz := s.heap.size)
  generalize hAe : va_A (zC dA ad σ) s.heap.size = A at hD ⊢
  have hA : ∀ q : Nat, s.heap.size ≤ q → A q := fun q h => by rw [← hAe]; exact Or.inr h
  have hS : va_S A s.heap s.heap [] := va_S.rf
  have hl := lv_entry ([.ref (ad 18 1000), .int (Int32.ofInt a1)]) (n := 3) (Nat.le_of_ble_eq_true rfl)
  rw [lg_entry_eq]
  generalize (lg_sl ([.ref (ad 18 1000), .int (Int32.ofInt a1)]) ++ List.replicate (3 - (lg_sl ([.ref (ad 18 1000), .int (Int32.ofInt a1)])).length) Slot.unset).toArray = ls at hl ⊢
  have hl : lv_has ls 3 [(0, .ref (ad 18 1000)), (1, .int (Int32.ofInt a1))] := hl
  have hret : ∀ (v : Int) (σ : ZS) (H : Heap) (locs : List Loc) (ls : Array Slot) (pc : Nat), Q v σ → va_P D vwC (zC dA ad σ) H → va_D A (zC dA ad σ) → va_S A s.heap H locs → decode cX4_registerSum pc = .ok (.ireturn, 1) → W p l e (gR 1 0 0) s m #[.ref (ad 18 1000), .int (Int32.ofInt a1)] below meth c H locs 0 0 (MQ below (va_Qi (zQi Q) (gAt D dA A (zC dA ad)) A) #[.ref (ad 18 1000), .int (Int32.ofInt a1)] s 0 0 A) (F0 m pc ls [.int (Int32.ofInt v)]) := fun v σ H locs ls pc hw hP hD hS hd => g_iret hx hb hr rfl hlocks hK σ hP hD hS ⟨v, rfl, hw⟩ (Nat.le_of_ble_eq_true rfl) (Nat.le_of_ble_eq_true rfl) hd
  generalize MQ below (va_Qi (zQi Q) (gAt D dA A (zC dA ad)) A) #[.ref (ad 18 1000), .int (Int32.ofInt a1)] s 0 0 A = QQ at hret ⊢
  have j76 : ∀ (s2 s0 : Int) (σ : ZS), ∀ (H : Heap) (locs : List Loc) (ls : Array Slot), va_P D vwC (zC dA ad σ) H → va_D A (zC dA ad σ) → va_S A s.heap H locs → lv_has ls 3 [] → wpX4_registerSum_76 s2 s0 σ Q → W p l e (gR 1 0 0) s m #[.ref (ad 18 1000), .int (Int32.ofInt a1)] below meth c H locs 0 0 QQ (F0 m 76 ls [.int (Int32.ofInt s2), .ref (ad 18 1), .int (Int32.ofInt s0)]) := by
    intro s2 s0 σ H locs ls hP hD hS hl hw
    unfold wpX4_registerSum_76 at hw
    obtain ⟨o1, hw⟩ := hw
    refine zlC18_1 hx hb o1 hK hP dX4_registerSum_76 ?_
    refine z_iadd hx hb dX4_registerSum_77 ?_
    exact hret (s0 + (zA σ 18 1 s2)) σ _ _ _ _ hw hP hD hS dX4_registerSum_78
  unfold wpX4_registerSum at hw
  refine lv_iload_n hx hb dX4_registerSum_0 rfl (lv_at hl 1 rfl) ?_
  obtain ⟨o2, hw⟩ := hw
  have t3 := z_ti o2
  by_cases s4 : a1 = 6
  · replace hw := hw.1 s4
    refine lv_lookup (off := 27) (tgt := 28) hx hb dX4_registerSum_1 (by decide) (by rw [t3, s4]; rfl) (by decide) ?_
    refine lv_aload_n hx hb dX4_registerSum_28 rfl (lv_at hl 0 rfl) ?_
    refine zgC18_1 hx hb hg hown hK hP q554 dX4_registerSum_29 ?_
    refine lv_iconst (v := Int32.ofInt 5) hx hb dX4_registerSum_32 (by decide) ?_
    refine zlC18_1 hx hb (by decide) hK hP dX4_registerSum_33 ?_
    exact hret (zA σ 18 1 5) σ _ _ _ _ hw hP hD hS dX4_registerSum_34
  replace hw := hw.2 s4
  by_cases s5 : a1 = 7
  · replace hw := hw.1 s5
    refine lv_lookup (off := 34) (tgt := 35) hx hb dX4_registerSum_1 (by decide) (by rw [t3, s5]; rfl) (by decide) ?_
    refine lv_aload_n hx hb dX4_registerSum_35 rfl (lv_at hl 0 rfl) ?_
    refine zgC18_1 hx hb hg hown hK hP q554 dX4_registerSum_36 ?_
    refine lv_iconst (v := Int32.ofInt 3) hx hb dX4_registerSum_39 (by decide) ?_
    refine zlC18_1 hx hb (by decide) hK hP dX4_registerSum_40 ?_
    exact hret (zA σ 18 1 3) σ _ _ _ _ hw hP hD hS dX4_registerSum_41
  replace hw := hw.2 s5
  refine lv_lookup (off := 41) (tgt := 42) hx hb dX4_registerSum_1 (by decide) (by rw [t3]; exact (z_osw s4).trans ((z_osw s5).trans (rfl))) (by decide) ?_
  refine lv_aload_n hx hb dX4_registerSum_42 rfl (lv_at hl 0 rfl) ?_
  refine zgC18_1 hx hb hg hown hK hP q554 dX4_registerSum_43 ?_
  refine lv_bipush (v := Int32.ofInt 6) hx hb dX4_registerSum_46 (by decide) ?_
  refine lv_iload_n hx hb dX4_registerSum_48 rfl (lv_at hl 1 rfl) ?_
  refine lv_iconst (v := Int32.ofInt 1) hx hb dX4_registerSum_49 (by decide) ?_
  refine z_iandK (M := 2) hx hb 1 (by decide) (by decide) (by decide) dX4_registerSum_50 ?_
  refine z_iadd hx hb dX4_registerSum_51 ?_
  refine zlC18_1 hx hb (by clear hw; omega) hK hP dX4_registerSum_52 ?_
  refine lv_istore_n (lv' := [(2, .int (Int32.ofInt (zA σ 18 1 (6 + (a1 % 2))))), (0, .ref (ad 18 1000)), (1, .int (Int32.ofInt a1))]) hx hb dX4_registerSum_53 rfl hl (by decide) rfl (fun ls hl => ?_)
  refine lv_iload_n hx hb dX4_registerSum_54 rfl (lv_at hl 2 rfl) ?_
  refine lv_iconst (v := Int32.ofInt 4) hx hb dX4_registerSum_55 (by decide) ?_
  refine z_icmp_lt (tgt := 61) hx hb o2 (by decide) dX4_registerSum_56 (by decide) (fun k6 => ?_) (fun k6 => ?_)
  · replace hw := hw.1 k6
    refine lv_iload_n hx hb dX4_registerSum_61 rfl (lv_at hl 0 rfl) ?_
    refine lv_aload_n hx hb dX4_registerSum_62 rfl (lv_at hl 1 rfl) ?_
    refine zgC18_1 hx hb hg hown hK hP q554 dX4_registerSum_63 ?_
    refine lv_iload_n hx hb dX4_registerSum_66 rfl (lv_at hl 2 rfl) ?_
    refine lv_iconst (v := Int32.ofInt 2) hx hb dX4_registerSum_67 (by decide) ?_
    refine z_icmp_ge (tgt := 75) hx hb o2 (by decide) dX4_registerSum_68 (by decide) (fun k7 => ?_) (fun k7 => ?_)
    · replace hw := hw.1 k7
      refine lv_iconst (v := Int32.ofInt 5) hx hb dX4_registerSum_75 (by decide) ?_
      exact j76 5 (zA σ 18 1 (6 + (a1 % 2))) σ _ _ _ hP hD hS (lv_sub hl [] rfl) hw
    · replace hw := hw.2 k7
      refine lv_iconst (v := Int32.ofInt 3) hx hb dX4_registerSum_71 (by decide) ?_
      refine lv_goto (tgt := 76) hx hb dX4_registerSum_72 (by decide) ?_
      exact j76 3 (zA σ 18 1 (6 + (a1 % 2))) σ _ _ _ hP hD hS (lv_sub hl [] rfl) hw
  · replace hw := hw.2 k6
    refine lv_iload_n hx hb dX4_registerSum_59 rfl (lv_at hl 0 rfl) ?_
    exact hret (zA σ 18 1 (6 + (a1 % 2))) σ _ _ _ _ hw hP hD hS dX4_registerSum_60
