theorem q52 : Cond.selects RX4 yX4_fetch yX4_fetch ∈ gw := gw_in (i := 52) (by decide +kernel) rfl
theorem q55 : Cond.selects RX4 yX4_push yX4_push ∈ gw := gw_in (i := 55) (by decide +kernel) rfl
theorem q56 : Cond.selects RX4 yX4_pop yX4_pop ∈ gw := gw_in (i := 56) (by decide +kernel) rfl
theorem q57 : Cond.selects RX4 yX4_fetchM yX4_fetchM ∈ gw := gw_in (i := 57) (by decide +kernel) rfl
theorem q58 : Cond.selects RX4 yX4_registerSum yX4_registerSum ∈ gw := gw_in (i := 58) (by decide +kernel) rfl
theorem q59 : Cond.selects RX4 yX4_fetchWord yX4_fetchWord ∈ gw := gw_in (i := 59) (by decide +kernel) rfl
theorem q60 : Cond.selects RX4 yX4_fetchSigned yX4_fetchSigned ∈ gw := gw_in (i := 60) (by decide +kernel) rfl
theorem q61 : Cond.selects RX4 yX4_arithmeticOnM yX4_arithmeticOnM ∈ gw := gw_in (i := 61) (by decide +kernel) rfl
theorem q62 : Cond.selects RX4 yX4_readM yX4_readM ∈ gw := gw_in (i := 62) (by decide +kernel) rfl
theorem q63 : Cond.selects RX4 yX4_arithmetic yX4_arithmetic ∈ gw := gw_in (i := 63) (by decide +kernel) rfl
theorem q64 : Cond.selects RX4 yX4_judge yX4_judge ∈ gw := gw_in (i := 64) (by decide +kernel) rfl
theorem q65 : Cond.selects RX4 yX4_writeM yX4_writeM ∈ gw := gw_in (i := 65) (by decide +kernel) rfl
theorem q68 : Cond.selects RX4 yX4_jump yX4_jump ∈ gw := gw_in (i := 68) (by decide +kernel) rfl
theorem q574 : Cond.fieldLink RX4 45 "SegmentBench$Machine" "k" "I" ∈ gw := gw_in (i := 574) (by decide +kernel) rfl
theorem q575 : Cond.fieldLink RX4 48 "SegmentBench$Machine" "slot" "I" ∈ gw := gw_in (i := 575) (by decide +kernel) rfl
theorem q576 : Cond.fieldLink RX4 51 "SegmentBench$Machine" "address" "I" ∈ gw := gw_in (i := 576) (by decide +kernel) rfl
theorem q1396 : Cond.methodLink RX4 88 yX4_fetch ∈ gw := gw_in (i := 1396) (by decide +kernel) rfl
theorem q1398 : Cond.instanceMethod yX4_fetch ∈ gw := gw_in (i := 1398) (by decide +kernel) rfl
theorem q1399 : Cond.code yX4_fetch cX4_fetch 2 (some .int) ∈ gw := gw_in (i := 1399) (by decide +kernel) rfl
theorem q1409 : Cond.methodLink RX4 118 yX4_push ∈ gw := gw_in (i := 1409) (by decide +kernel) rfl
theorem q1411 : Cond.instanceMethod yX4_push ∈ gw := gw_in (i := 1411) (by decide +kernel) rfl
theorem q1412 : Cond.code yX4_push cX4_push 2 none ∈ gw := gw_in (i := 1412) (by decide +kernel) rfl
theorem q1413 : Cond.methodLink RX4 122 yX4_pop ∈ gw := gw_in (i := 1413) (by decide +kernel) rfl
theorem q1415 : Cond.instanceMethod yX4_pop ∈ gw := gw_in (i := 1415) (by decide +kernel) rfl
theorem q1416 : Cond.code yX4_pop cX4_pop 2 (some .int) ∈ gw := gw_in (i := 1416) (by decide +kernel) rfl
theorem q1417 : Cond.methodLink RX4 125 yX4_isArithmetic ∈ gw := gw_in (i := 1417) (by decide +kernel) rfl
theorem q1418 : Cond.static yX4_isArithmetic ∈ gw := gw_in (i := 1418) (by decide +kernel) rfl
theorem q1419 : Cond.code yX4_isArithmetic cX4_isArithmetic 1 (some .boolean) ∈ gw := gw_in (i := 1419) (by decide +kernel) rfl
theorem q1420 : Cond.methodLink RX4 109 yX4_fetchM ∈ gw := gw_in (i := 1420) (by decide +kernel) rfl
theorem q1422 : Cond.instanceMethod yX4_fetchM ∈ gw := gw_in (i := 1422) (by decide +kernel) rfl
theorem q1423 : Cond.code yX4_fetchM cX4_fetchM 7 none ∈ gw := gw_in (i := 1423) (by decide +kernel) rfl
theorem q1424 : Cond.methodLink RX4 167 yX4_registerSum ∈ gw := gw_in (i := 1424) (by decide +kernel) rfl
theorem q1426 : Cond.instanceMethod yX4_registerSum ∈ gw := gw_in (i := 1426) (by decide +kernel) rfl
theorem q1427 : Cond.code yX4_registerSum cX4_registerSum 3 (some .int) ∈ gw := gw_in (i := 1427) (by decide +kernel) rfl
theorem q1428 : Cond.methodLink RX4 106 yX4_fetchWord ∈ gw := gw_in (i := 1428) (by decide +kernel) rfl
theorem q1430 : Cond.instanceMethod yX4_fetchWord ∈ gw := gw_in (i := 1430) (by decide +kernel) rfl
theorem q1431 : Cond.code yX4_fetchWord cX4_fetchWord 2 (some .int) ∈ gw := gw_in (i := 1431) (by decide +kernel) rfl
theorem q1432 : Cond.methodLink RX4 142 yX4_fetchSigned ∈ gw := gw_in (i := 1432) (by decide +kernel) rfl
theorem q1434 : Cond.instanceMethod yX4_fetchSigned ∈ gw := gw_in (i := 1434) (by decide +kernel) rfl
theorem q1435 : Cond.code yX4_fetchSigned cX4_fetchSigned 1 (some .int) ∈ gw := gw_in (i := 1435) (by decide +kernel) rfl
theorem q1436 : Cond.methodLink RX4 129 yX4_arithmeticOnM ∈ gw := gw_in (i := 1436) (by decide +kernel) rfl
theorem q1438 : Cond.instanceMethod yX4_arithmeticOnM ∈ gw := gw_in (i := 1438) (by decide +kernel) rfl
theorem q1439 : Cond.code yX4_arithmeticOnM cX4_arithmeticOnM 4 none ∈ gw := gw_in (i := 1439) (by decide +kernel) rfl
theorem q1440 : Cond.methodLink RX4 132 yX4_readM ∈ gw := gw_in (i := 1440) (by decide +kernel) rfl
theorem q1442 : Cond.instanceMethod yX4_readM ∈ gw := gw_in (i := 1442) (by decide +kernel) rfl
theorem q1443 : Cond.code yX4_readM cX4_readM 1 (some .int) ∈ gw := gw_in (i := 1443) (by decide +kernel) rfl
theorem q1444 : Cond.methodLink RX4 135 yX4_arithmetic ∈ gw := gw_in (i := 1444) (by decide +kernel) rfl
theorem q1446 : Cond.instanceMethod yX4_arithmetic ∈ gw := gw_in (i := 1446) (by decide +kernel) rfl
theorem q1447 : Cond.code yX4_arithmetic cX4_arithmetic 5 (some .int) ∈ gw := gw_in (i := 1447) (by decide +kernel) rfl
theorem q1448 : Cond.methodLink RX4 139 yX4_judge ∈ gw := gw_in (i := 1448) (by decide +kernel) rfl
theorem q1450 : Cond.instanceMethod yX4_judge ∈ gw := gw_in (i := 1450) (by decide +kernel) rfl
theorem q1451 : Cond.code yX4_judge cX4_judge 2 none ∈ gw := gw_in (i := 1451) (by decide +kernel) rfl
theorem q1452 : Cond.methodLink RX4 148 yX4_writeM ∈ gw := gw_in (i := 1452) (by decide +kernel) rfl
theorem q1454 : Cond.instanceMethod yX4_writeM ∈ gw := gw_in (i := 1454) (by decide +kernel) rfl
theorem q1455 : Cond.code yX4_writeM cX4_writeM 2 none ∈ gw := gw_in (i := 1455) (by decide +kernel) rfl
theorem q1464 : Cond.methodLink RX4 145 yX4_jump ∈ gw := gw_in (i := 1464) (by decide +kernel) rfl
theorem q1466 : Cond.instanceMethod yX4_jump ∈ gw := gw_in (i := 1466) (by decide +kernel) rfl
theorem q1467 : Cond.code yX4_jump cX4_jump 2 none ∈ gw := gw_in (i := 1467) (by decide +kernel) rfl
theorem dX4_fetchWord_0 : decode cX4_fetchWord 0 = .ok (.aload_n 0, 1) := by decide +kernel
theorem dX4_fetchWord_1 : decode cX4_fetchWord 1 = .ok (.invokevirtual 88, 3) := by decide +kernel
theorem dX4_fetchWord_4 : decode cX4_fetchWord 4 = .ok (.istore_n 1, 1) := by decide +kernel
theorem dX4_fetchWord_5 : decode cX4_fetchWord 5 = .ok (.iload_n 1, 1) := by decide +kernel
theorem dX4_fetchWord_6 : decode cX4_fetchWord 6 = .ok (.sipush 256, 3) := by decide +kernel
theorem dX4_fetchWord_9 : decode cX4_fetchWord 9 = .ok (.aload_n 0, 1) := by decide +kernel
theorem dX4_fetchWord_10 : decode cX4_fetchWord 10 = .ok (.invokevirtual 88, 3) := by decide +kernel
theorem dX4_fetchWord_13 : decode cX4_fetchWord 13 = .ok (.imul, 1) := by decide +kernel
theorem dX4_fetchWord_14 : decode cX4_fetchWord 14 = .ok (.iadd, 1) := by decide +kernel
theorem dX4_fetchWord_15 : decode cX4_fetchWord 15 = .ok (.ireturn, 1) := by decide +kernel
theorem dX4_fetchSigned_0 : decode cX4_fetchSigned 0 = .ok (.aload_n 0, 1) := by decide +kernel
theorem dX4_fetchSigned_1 : decode cX4_fetchSigned 1 = .ok (.invokevirtual 88, 3) := by decide +kernel
theorem dX4_fetchSigned_4 : decode cX4_fetchSigned 4 = .ok (.i2b, 1) := by decide +kernel
theorem dX4_fetchSigned_5 : decode cX4_fetchSigned 5 = .ok (.ireturn, 1) := by decide +kernel
theorem dX4_fetchM_0 : decode cX4_fetchM 0 = .ok (.aload_n 0, 1) := by decide +kernel
theorem dX4_fetchM_1 : decode cX4_fetchM 1 = .ok (.invokevirtual 88, 3) := by decide +kernel
theorem dX4_fetchM_4 : decode cX4_fetchM 4 = .ok (.istore_n 1, 1) := by decide +kernel
theorem dX4_fetchM_5 : decode cX4_fetchM 5 = .ok (.iload_n 1, 1) := by decide +kernel
theorem dX4_fetchM_6 : decode cX4_fetchM 6 = .ok (.bipush 6, 2) := by decide +kernel
theorem dX4_fetchM_8 : decode cX4_fetchM 8 = .ok (.ishr, 1) := by decide +kernel
theorem dX4_fetchM_9 : decode cX4_fetchM 9 = .ok (.istore_n 2, 1) := by decide +kernel
theorem dX4_fetchM_10 : decode cX4_fetchM 10 = .ok (.iload_n 1, 1) := by decide +kernel
theorem dX4_fetchM_11 : decode cX4_fetchM 11 = .ok (.bipush 7, 2) := by decide +kernel
theorem dX4_fetchM_13 : decode cX4_fetchM 13 = .ok (.iand, 1) := by decide +kernel
theorem dX4_fetchM_14 : decode cX4_fetchM 14 = .ok (.istore_n 3, 1) := by decide +kernel
theorem dX4_fetchM_15 : decode cX4_fetchM 15 = .ok (.aload_n 0, 1) := by decide +kernel
theorem dX4_fetchM_16 : decode cX4_fetchM 16 = .ok (.iload_n 1, 1) := by decide +kernel
theorem dX4_fetchM_17 : decode cX4_fetchM 17 = .ok (.iconst 3, 1) := by decide +kernel
theorem dX4_fetchM_18 : decode cX4_fetchM 18 = .ok (.ishr, 1) := by decide +kernel
theorem dX4_fetchM_19 : decode cX4_fetchM 19 = .ok (.bipush 7, 2) := by decide +kernel
theorem dX4_fetchM_21 : decode cX4_fetchM 21 = .ok (.iand, 1) := by decide +kernel
theorem dX4_fetchM_22 : decode cX4_fetchM 22 = .ok (.putfield 45, 3) := by decide +kernel
theorem dX4_fetchM_25 : decode cX4_fetchM 25 = .ok (.aload_n 0, 1) := by decide +kernel
theorem dX4_fetchM_26 : decode cX4_fetchM 26 = .ok (.iload_n 2, 1) := by decide +kernel
theorem dX4_fetchM_27 : decode cX4_fetchM 27 = .ok (.iconst 3, 1) := by decide +kernel
theorem dX4_fetchM_28 : decode cX4_fetchM 28 = .ok (.if_icmp .ne 7, 3) := by decide +kernel
theorem dX4_fetchM_35 : decode cX4_fetchM 35 = .ok (.iconst (-1), 1) := by decide +kernel
theorem dX4_fetchM_31 : decode cX4_fetchM 31 = .ok (.iload_n 3, 1) := by decide +kernel
theorem dX4_fetchM_32 : decode cX4_fetchM 32 = .ok (.goto 4, 3) := by decide +kernel
theorem dX4_fetchM_36 : decode cX4_fetchM 36 = .ok (.putfield 48, 3) := by decide +kernel
theorem dX4_fetchM_39 : decode cX4_fetchM 39 = .ok (.iload_n 2, 1) := by decide +kernel
theorem dX4_fetchM_40 : decode cX4_fetchM 40 = .ok (.iconst 3, 1) := by decide +kernel
theorem dX4_fetchM_41 : decode cX4_fetchM 41 = .ok (.if_icmp .ne 4, 3) := by decide +kernel
theorem dX4_fetchM_45 : decode cX4_fetchM 45 = .ok (.iload_n 2, 1) := by decide +kernel
theorem dX4_fetchM_46 : decode cX4_fetchM 46 = .ok (.ifCond .ne 13, 3) := by decide +kernel
theorem dX4_fetchM_49 : decode cX4_fetchM 49 = .ok (.iload_n 3, 1) := by decide +kernel
theorem dX4_fetchM_50 : decode cX4_fetchM 50 = .ok (.bipush 6, 2) := by decide +kernel
theorem dX4_fetchM_52 : decode cX4_fetchM 52 = .ok (.if_icmp .ne 7, 3) := by decide +kernel
theorem dX4_fetchM_55 : decode cX4_fetchM 55 = .ok (.iconst 1, 1) := by decide +kernel
theorem dX4_fetchM_56 : decode cX4_fetchM 56 = .ok (.goto 4, 3) := by decide +kernel
theorem dX4_fetchM_44 : decode cX4_fetchM 44 = .ok (.return_, 1) := by decide +kernel
theorem dX4_fetchM_59 : decode cX4_fetchM 59 = .ok (.iconst 0, 1) := by decide +kernel
theorem dX4_fetchM_60 : decode cX4_fetchM 60 = .ok (.istore 4, 2) := by decide +kernel
theorem dX4_fetchM_62 : decode cX4_fetchM 62 = .ok (.iload 4, 2) := by decide +kernel
theorem dX4_fetchM_64 : decode cX4_fetchM 64 = .ok (.ifCond .eq 7, 3) := by decide +kernel
theorem dX4_fetchM_71 : decode cX4_fetchM 71 = .ok (.aload_n 0, 1) := by decide +kernel
theorem dX4_fetchM_72 : decode cX4_fetchM 72 = .ok (.iload_n 3, 1) := by decide +kernel
theorem dX4_fetchM_73 : decode cX4_fetchM 73 = .ok (.invokevirtual 167, 3) := by decide +kernel
theorem dX4_fetchM_67 : decode cX4_fetchM 67 = .ok (.iconst 0, 1) := by decide +kernel
theorem dX4_fetchM_68 : decode cX4_fetchM 68 = .ok (.goto 8, 3) := by decide +kernel
theorem dX4_fetchM_76 : decode cX4_fetchM 76 = .ok (.istore 5, 2) := by decide +kernel
theorem dX4_fetchM_78 : decode cX4_fetchM 78 = .ok (.iload 4, 2) := by decide +kernel
theorem dX4_fetchM_80 : decode cX4_fetchM 80 = .ok (.ifCond .ne 8, 3) := by decide +kernel
theorem dX4_fetchM_83 : decode cX4_fetchM 83 = .ok (.iload_n 2, 1) := by decide +kernel
theorem dX4_fetchM_84 : decode cX4_fetchM 84 = .ok (.iconst 2, 1) := by decide +kernel
theorem dX4_fetchM_85 : decode cX4_fetchM 85 = .ok (.if_icmp .ne 15, 3) := by decide +kernel
theorem dX4_fetchM_100 : decode cX4_fetchM 100 = .ok (.iload_n 2, 1) := by decide +kernel
theorem dX4_fetchM_101 : decode cX4_fetchM 101 = .ok (.iconst 1, 1) := by decide +kernel
theorem dX4_fetchM_102 : decode cX4_fetchM 102 = .ok (.if_icmp .ne 12, 3) := by decide +kernel
theorem dX4_fetchM_105 : decode cX4_fetchM 105 = .ok (.iload 5, 2) := by decide +kernel
theorem dX4_fetchM_107 : decode cX4_fetchM 107 = .ok (.aload_n 0, 1) := by decide +kernel
theorem dX4_fetchM_108 : decode cX4_fetchM 108 = .ok (.invokevirtual 142, 3) := by decide +kernel
theorem dX4_fetchM_111 : decode cX4_fetchM 111 = .ok (.iadd, 1) := by decide +kernel
theorem dX4_fetchM_112 : decode cX4_fetchM 112 = .ok (.istore 5, 2) := by decide +kernel
theorem dX4_fetchM_88 : decode cX4_fetchM 88 = .ok (.iload 5, 2) := by decide +kernel
theorem dX4_fetchM_90 : decode cX4_fetchM 90 = .ok (.aload_n 0, 1) := by decide +kernel
theorem dX4_fetchM_91 : decode cX4_fetchM 91 = .ok (.invokevirtual 106, 3) := by decide +kernel
theorem dX4_fetchM_94 : decode cX4_fetchM 94 = .ok (.iadd, 1) := by decide +kernel
theorem dX4_fetchM_95 : decode cX4_fetchM 95 = .ok (.istore 5, 2) := by decide +kernel
theorem dX4_fetchM_97 : decode cX4_fetchM 97 = .ok (.goto 17, 3) := by decide +kernel
theorem dX4_fetchM_114 : decode cX4_fetchM 114 = .ok (.iload_n 3, 1) := by decide +kernel
theorem dX4_fetchM_115 : decode cX4_fetchM 115 = .ok (.iconst 2, 1) := by decide +kernel
theorem dX4_fetchM_116 : decode cX4_fetchM 116 = .ok (.if_icmp .eq 19, 3) := by decide +kernel
theorem dX4_fetchM_119 : decode cX4_fetchM 119 = .ok (.iload_n 3, 1) := by decide +kernel
theorem dX4_fetchM_120 : decode cX4_fetchM 120 = .ok (.iconst 3, 1) := by decide +kernel
theorem dX4_fetchM_121 : decode cX4_fetchM 121 = .ok (.if_icmp .eq 14, 3) := by decide +kernel
theorem dX4_fetchM_124 : decode cX4_fetchM 124 = .ok (.iload_n 3, 1) := by decide +kernel
theorem dX4_fetchM_125 : decode cX4_fetchM 125 = .ok (.bipush 6, 2) := by decide +kernel
theorem dX4_fetchM_127 : decode cX4_fetchM 127 = .ok (.if_icmp .ne 12, 3) := by decide +kernel
theorem dX4_fetchM_130 : decode cX4_fetchM 130 = .ok (.iload 4, 2) := by decide +kernel
theorem dX4_fetchM_132 : decode cX4_fetchM 132 = .ok (.ifCond .ne 7, 3) := by decide +kernel
theorem dX4_fetchM_135 : decode cX4_fetchM 135 = .ok (.iconst 1, 1) := by decide +kernel
theorem dX4_fetchM_136 : decode cX4_fetchM 136 = .ok (.goto 4, 3) := by decide +kernel
theorem dX4_fetchM_139 : decode cX4_fetchM 139 = .ok (.iconst 0, 1) := by decide +kernel
theorem dX4_fetchM_140 : decode cX4_fetchM 140 = .ok (.istore 6, 2) := by decide +kernel
theorem dX4_fetchM_142 : decode cX4_fetchM 142 = .ok (.aload_n 0, 1) := by decide +kernel
theorem dX4_fetchM_143 : decode cX4_fetchM 143 = .ok (.bipush 16, 2) := by decide +kernel
theorem dX4_fetchM_145 : decode cX4_fetchM 145 = .ok (.aload_n 0, 1) := by decide +kernel
theorem dX4_fetchM_146 : decode cX4_fetchM 146 = .ok (.getfield 16, 3) := by decide +kernel
theorem dX4_fetchM_149 : decode cX4_fetchM 149 = .ok (.iload 6, 2) := by decide +kernel
theorem dX4_fetchM_151 : decode cX4_fetchM 151 = .ok (.ifCond .eq 7, 3) := by decide +kernel
theorem dX4_fetchM_158 : decode cX4_fetchM 158 = .ok (.iconst 3, 1) := by decide +kernel
theorem dX4_fetchM_154 : decode cX4_fetchM 154 = .ok (.iconst 2, 1) := by decide +kernel
theorem dX4_fetchM_155 : decode cX4_fetchM 155 = .ok (.goto 4, 3) := by decide +kernel
theorem dX4_fetchM_159 : decode cX4_fetchM 159 = .ok (.iaload, 1) := by decide +kernel
theorem dX4_fetchM_160 : decode cX4_fetchM 160 = .ok (.imul, 1) := by decide +kernel
theorem dX4_fetchM_161 : decode cX4_fetchM 161 = .ok (.iload 5, 2) := by decide +kernel
theorem dX4_fetchM_163 : decode cX4_fetchM 163 = .ok (.ldc 95, 2) := by decide +kernel
theorem dX4_fetchM_165 : decode cX4_fetchM 165 = .ok (.iand, 1) := by decide +kernel
theorem dX4_fetchM_166 : decode cX4_fetchM 166 = .ok (.iadd, 1) := by decide +kernel
theorem dX4_fetchM_167 : decode cX4_fetchM 167 = .ok (.putfield 51, 3) := by decide +kernel
theorem dX4_fetchM_170 : decode cX4_fetchM 170 = .ok (.return_, 1) := by decide +kernel
theorem dX4_readM_0 : decode cX4_readM 0 = .ok (.aload_n 0, 1) := by decide +kernel
theorem dX4_readM_1 : decode cX4_readM 1 = .ok (.getfield 48, 3) := by decide +kernel
theorem dX4_readM_4 : decode cX4_readM 4 = .ok (.ifCond .lt 15, 3) := by decide +kernel
theorem dX4_readM_19 : decode cX4_readM 19 = .ok (.aload_n 0, 1) := by decide +kernel
theorem dX4_readM_20 : decode cX4_readM 20 = .ok (.aload_n 0, 1) := by decide +kernel
theorem dX4_readM_21 : decode cX4_readM 21 = .ok (.getfield 51, 3) := by decide +kernel
theorem dX4_readM_24 : decode cX4_readM 24 = .ok (.invokevirtual 74, 3) := by decide +kernel
theorem dX4_readM_7 : decode cX4_readM 7 = .ok (.aload_n 0, 1) := by decide +kernel
theorem dX4_readM_8 : decode cX4_readM 8 = .ok (.getfield 13, 3) := by decide +kernel
theorem dX4_readM_11 : decode cX4_readM 11 = .ok (.aload_n 0, 1) := by decide +kernel
theorem dX4_readM_12 : decode cX4_readM 12 = .ok (.getfield 48, 3) := by decide +kernel
theorem dX4_readM_15 : decode cX4_readM 15 = .ok (.iaload, 1) := by decide +kernel
theorem dX4_readM_16 : decode cX4_readM 16 = .ok (.goto 11, 3) := by decide +kernel
theorem dX4_readM_27 : decode cX4_readM 27 = .ok (.ireturn, 1) := by decide +kernel
theorem dX4_judge_0 : decode cX4_judge 0 = .ok (.aload_n 0, 1) := by decide +kernel
theorem dX4_judge_1 : decode cX4_judge 1 = .ok (.iload_n 1, 1) := by decide +kernel
theorem dX4_judge_2 : decode cX4_judge 2 = .ok (.ifCond .ne 7, 3) := by decide +kernel
theorem dX4_judge_9 : decode cX4_judge 9 = .ok (.iconst 0, 1) := by decide +kernel
theorem dX4_judge_5 : decode cX4_judge 5 = .ok (.iconst 1, 1) := by decide +kernel
theorem dX4_judge_6 : decode cX4_judge 6 = .ok (.goto 4, 3) := by decide +kernel
theorem dX4_judge_10 : decode cX4_judge 10 = .ok (.putfield 33, 3) := by decide +kernel
theorem dX4_judge_13 : decode cX4_judge 13 = .ok (.aload_n 0, 1) := by decide +kernel
theorem dX4_judge_14 : decode cX4_judge 14 = .ok (.iload_n 1, 1) := by decide +kernel
theorem dX4_judge_15 : decode cX4_judge 15 = .ok (.bipush 15, 2) := by decide +kernel
theorem dX4_judge_17 : decode cX4_judge 17 = .ok (.ishr, 1) := by decide +kernel
theorem dX4_judge_18 : decode cX4_judge 18 = .ok (.putfield 36, 3) := by decide +kernel
theorem dX4_judge_21 : decode cX4_judge 21 = .ok (.return_, 1) := by decide +kernel
theorem dX4_arithmetic_0 : decode cX4_arithmetic 0 = .ok (.iload_n 1, 1) := by decide +kernel
theorem dX4_arithmetic_1 : decode cX4_arithmetic 1 = .ok (.tableswitch 75 0 6 #[43, 51, 75, 75, 59, 75, 67], 43) := by decide +kernel
theorem dX4_arithmetic_44 : decode cX4_arithmetic 44 = .ok (.iload_n 2, 1) := by decide +kernel
theorem dX4_arithmetic_45 : decode cX4_arithmetic 45 = .ok (.iload_n 3, 1) := by decide +kernel
theorem dX4_arithmetic_46 : decode cX4_arithmetic 46 = .ok (.iadd, 1) := by decide +kernel
theorem dX4_arithmetic_47 : decode cX4_arithmetic 47 = .ok (.istore 4, 2) := by decide +kernel
theorem dX4_arithmetic_49 : decode cX4_arithmetic 49 = .ok (.goto 32, 3) := by decide +kernel
theorem dX4_arithmetic_52 : decode cX4_arithmetic 52 = .ok (.iload_n 2, 1) := by decide +kernel
theorem dX4_arithmetic_53 : decode cX4_arithmetic 53 = .ok (.iload_n 3, 1) := by decide +kernel
theorem dX4_arithmetic_54 : decode cX4_arithmetic 54 = .ok (.ior, 1) := by decide +kernel
theorem dX4_arithmetic_55 : decode cX4_arithmetic 55 = .ok (.istore 4, 2) := by decide +kernel
theorem dX4_arithmetic_57 : decode cX4_arithmetic 57 = .ok (.goto 24, 3) := by decide +kernel
theorem dX4_arithmetic_60 : decode cX4_arithmetic 60 = .ok (.iload_n 2, 1) := by decide +kernel
theorem dX4_arithmetic_61 : decode cX4_arithmetic 61 = .ok (.iload_n 3, 1) := by decide +kernel
theorem dX4_arithmetic_62 : decode cX4_arithmetic 62 = .ok (.iand, 1) := by decide +kernel
theorem dX4_arithmetic_63 : decode cX4_arithmetic 63 = .ok (.istore 4, 2) := by decide +kernel
theorem dX4_arithmetic_65 : decode cX4_arithmetic 65 = .ok (.goto 16, 3) := by decide +kernel
theorem dX4_arithmetic_68 : decode cX4_arithmetic 68 = .ok (.iload_n 2, 1) := by decide +kernel
theorem dX4_arithmetic_69 : decode cX4_arithmetic 69 = .ok (.iload_n 3, 1) := by decide +kernel
theorem dX4_arithmetic_70 : decode cX4_arithmetic 70 = .ok (.ixor, 1) := by decide +kernel
theorem dX4_arithmetic_71 : decode cX4_arithmetic 71 = .ok (.istore 4, 2) := by decide +kernel
theorem dX4_arithmetic_73 : decode cX4_arithmetic 73 = .ok (.goto 8, 3) := by decide +kernel
theorem dX4_arithmetic_81 : decode cX4_arithmetic 81 = .ok (.aload_n 0, 1) := by decide +kernel
theorem dX4_arithmetic_82 : decode cX4_arithmetic 82 = .ok (.iload 4, 2) := by decide +kernel
theorem dX4_arithmetic_84 : decode cX4_arithmetic 84 = .ok (.bipush 16, 2) := by decide +kernel
theorem dX4_arithmetic_86 : decode cX4_arithmetic 86 = .ok (.ishr, 1) := by decide +kernel
theorem dX4_arithmetic_87 : decode cX4_arithmetic 87 = .ok (.iconst 1, 1) := by decide +kernel
theorem dX4_arithmetic_88 : decode cX4_arithmetic 88 = .ok (.iand, 1) := by decide +kernel
theorem dX4_arithmetic_89 : decode cX4_arithmetic 89 = .ok (.putfield 30, 3) := by decide +kernel
theorem dX4_arithmetic_92 : decode cX4_arithmetic 92 = .ok (.aload_n 0, 1) := by decide +kernel
theorem dX4_arithmetic_93 : decode cX4_arithmetic 93 = .ok (.iload 4, 2) := by decide +kernel
theorem dX4_arithmetic_95 : decode cX4_arithmetic 95 = .ok (.ldc 95, 2) := by decide +kernel
theorem dX4_arithmetic_97 : decode cX4_arithmetic 97 = .ok (.iand, 1) := by decide +kernel
theorem dX4_arithmetic_98 : decode cX4_arithmetic 98 = .ok (.invokevirtual 139, 3) := by decide +kernel
theorem dX4_arithmetic_101 : decode cX4_arithmetic 101 = .ok (.iload 4, 2) := by decide +kernel
theorem dX4_arithmetic_103 : decode cX4_arithmetic 103 = .ok (.ldc 95, 2) := by decide +kernel
theorem dX4_arithmetic_105 : decode cX4_arithmetic 105 = .ok (.iand, 1) := by decide +kernel
theorem dX4_arithmetic_106 : decode cX4_arithmetic 106 = .ok (.ireturn, 1) := by decide +kernel
theorem dX4_arithmetic_76 : decode cX4_arithmetic 76 = .ok (.iload_n 2, 1) := by decide +kernel
theorem dX4_arithmetic_77 : decode cX4_arithmetic 77 = .ok (.iload_n 3, 1) := by decide +kernel
theorem dX4_arithmetic_78 : decode cX4_arithmetic 78 = .ok (.isub, 1) := by decide +kernel
theorem dX4_arithmetic_79 : decode cX4_arithmetic 79 = .ok (.istore 4, 2) := by decide +kernel
theorem dX4_writeM_0 : decode cX4_writeM 0 = .ok (.aload_n 0, 1) := by decide +kernel
theorem dX4_writeM_1 : decode cX4_writeM 1 = .ok (.getfield 48, 3) := by decide +kernel
theorem dX4_writeM_4 : decode cX4_writeM 4 = .ok (.ifCond .lt 19, 3) := by decide +kernel
theorem dX4_writeM_23 : decode cX4_writeM 23 = .ok (.aload_n 0, 1) := by decide +kernel
theorem dX4_writeM_24 : decode cX4_writeM 24 = .ok (.aload_n 0, 1) := by decide +kernel
theorem dX4_writeM_25 : decode cX4_writeM 25 = .ok (.getfield 51, 3) := by decide +kernel
theorem dX4_writeM_28 : decode cX4_writeM 28 = .ok (.iload_n 1, 1) := by decide +kernel
theorem dX4_writeM_29 : decode cX4_writeM 29 = .ok (.invokevirtual 78, 3) := by decide +kernel
theorem dX4_writeM_7 : decode cX4_writeM 7 = .ok (.aload_n 0, 1) := by decide +kernel
theorem dX4_writeM_8 : decode cX4_writeM 8 = .ok (.getfield 13, 3) := by decide +kernel
theorem dX4_writeM_11 : decode cX4_writeM 11 = .ok (.aload_n 0, 1) := by decide +kernel
theorem dX4_writeM_12 : decode cX4_writeM 12 = .ok (.getfield 48, 3) := by decide +kernel
theorem dX4_writeM_15 : decode cX4_writeM 15 = .ok (.iload_n 1, 1) := by decide +kernel
theorem dX4_writeM_16 : decode cX4_writeM 16 = .ok (.ldc 95, 2) := by decide +kernel
theorem dX4_writeM_18 : decode cX4_writeM 18 = .ok (.iand, 1) := by decide +kernel
theorem dX4_writeM_19 : decode cX4_writeM 19 = .ok (.iastore, 1) := by decide +kernel
theorem dX4_writeM_20 : decode cX4_writeM 20 = .ok (.goto 12, 3) := by decide +kernel
theorem dX4_writeM_32 : decode cX4_writeM 32 = .ok (.return_, 1) := by decide +kernel
theorem dX4_arithmeticOnM_0 : decode cX4_arithmeticOnM 0 = .ok (.aload_n 0, 1) := by decide +kernel
theorem dX4_arithmeticOnM_1 : decode cX4_arithmeticOnM 1 = .ok (.iload_n 1, 1) := by decide +kernel
theorem dX4_arithmeticOnM_2 : decode cX4_arithmeticOnM 2 = .ok (.aload_n 0, 1) := by decide +kernel
theorem dX4_arithmeticOnM_3 : decode cX4_arithmeticOnM 3 = .ok (.invokevirtual 132, 3) := by decide +kernel
theorem dX4_arithmeticOnM_6 : decode cX4_arithmeticOnM 6 = .ok (.iload_n 2, 1) := by decide +kernel
theorem dX4_arithmeticOnM_7 : decode cX4_arithmeticOnM 7 = .ok (.invokevirtual 135, 3) := by decide +kernel
theorem dX4_arithmeticOnM_10 : decode cX4_arithmeticOnM 10 = .ok (.istore_n 3, 1) := by decide +kernel
theorem dX4_arithmeticOnM_11 : decode cX4_arithmeticOnM 11 = .ok (.iload_n 1, 1) := by decide +kernel
theorem dX4_arithmeticOnM_12 : decode cX4_arithmeticOnM 12 = .ok (.bipush 7, 2) := by decide +kernel
theorem dX4_arithmeticOnM_14 : decode cX4_arithmeticOnM 14 = .ok (.if_icmp .eq 8, 3) := by decide +kernel
theorem dX4_arithmeticOnM_17 : decode cX4_arithmeticOnM 17 = .ok (.aload_n 0, 1) := by decide +kernel
theorem dX4_arithmeticOnM_18 : decode cX4_arithmeticOnM 18 = .ok (.iload_n 3, 1) := by decide +kernel
theorem dX4_arithmeticOnM_19 : decode cX4_arithmeticOnM 19 = .ok (.invokevirtual 148, 3) := by decide +kernel
theorem dX4_arithmeticOnM_22 : decode cX4_arithmeticOnM 22 = .ok (.return_, 1) := by decide +kernel
theorem dX4_executeLow_0 : decode cX4_executeLow 0 = .ok (.iload_n 2, 1) := by decide +kernel
theorem dX4_executeLow_1 : decode cX4_executeLow 1 = .ok (.bipush 6, 2) := by decide +kernel
theorem dX4_executeLow_3 : decode cX4_executeLow 3 = .ok (.if_icmp .ne 20, 3) := by decide +kernel
theorem dX4_executeLow_6 : decode cX4_executeLow 6 = .ok (.iload_n 1, 1) := by decide +kernel
theorem dX4_executeLow_7 : decode cX4_executeLow 7 = .ok (.iconst 4, 1) := by decide +kernel
theorem dX4_executeLow_8 : decode cX4_executeLow 8 = .ok (.if_icmp .ge 15, 3) := by decide +kernel
theorem dX4_executeLow_11 : decode cX4_executeLow 11 = .ok (.aload_n 0, 1) := by decide +kernel
theorem dX4_executeLow_12 : decode cX4_executeLow 12 = .ok (.aload_n 0, 1) := by decide +kernel
theorem dX4_executeLow_13 : decode cX4_executeLow 13 = .ok (.getfield 16, 3) := by decide +kernel
theorem dX4_executeLow_16 : decode cX4_executeLow 16 = .ok (.iload_n 1, 1) := by decide +kernel
theorem dX4_executeLow_17 : decode cX4_executeLow 17 = .ok (.iaload, 1) := by decide +kernel
theorem dX4_executeLow_18 : decode cX4_executeLow 18 = .ok (.invokevirtual 118, 3) := by decide +kernel
theorem dX4_executeLow_21 : decode cX4_executeLow 21 = .ok (.iconst 3, 1) := by decide +kernel
theorem dX4_executeLow_22 : decode cX4_executeLow 22 = .ok (.ireturn, 1) := by decide +kernel
theorem dX4_executeLow_23 : decode cX4_executeLow 23 = .ok (.iload_n 2, 1) := by decide +kernel
theorem dX4_executeLow_24 : decode cX4_executeLow 24 = .ok (.bipush 7, 2) := by decide +kernel
theorem dX4_executeLow_26 : decode cX4_executeLow 26 = .ok (.if_icmp .ne 25, 3) := by decide +kernel
theorem dX4_executeLow_29 : decode cX4_executeLow 29 = .ok (.iload_n 1, 1) := by decide +kernel
theorem dX4_executeLow_30 : decode cX4_executeLow 30 = .ok (.iconst 4, 1) := by decide +kernel
theorem dX4_executeLow_31 : decode cX4_executeLow 31 = .ok (.if_icmp .ge 20, 3) := by decide +kernel
theorem dX4_executeLow_34 : decode cX4_executeLow 34 = .ok (.iload_n 1, 1) := by decide +kernel
theorem dX4_executeLow_35 : decode cX4_executeLow 35 = .ok (.iconst 1, 1) := by decide +kernel
theorem dX4_executeLow_36 : decode cX4_executeLow 36 = .ok (.if_icmp .eq 15, 3) := by decide +kernel
theorem dX4_executeLow_39 : decode cX4_executeLow 39 = .ok (.aload_n 0, 1) := by decide +kernel
theorem dX4_executeLow_40 : decode cX4_executeLow 40 = .ok (.getfield 16, 3) := by decide +kernel
theorem dX4_executeLow_43 : decode cX4_executeLow 43 = .ok (.iload_n 1, 1) := by decide +kernel
theorem dX4_executeLow_44 : decode cX4_executeLow 44 = .ok (.aload_n 0, 1) := by decide +kernel
theorem dX4_executeLow_45 : decode cX4_executeLow 45 = .ok (.invokevirtual 122, 3) := by decide +kernel
theorem dX4_executeLow_48 : decode cX4_executeLow 48 = .ok (.iastore, 1) := by decide +kernel
theorem dX4_executeLow_49 : decode cX4_executeLow 49 = .ok (.iconst 3, 1) := by decide +kernel
theorem dX4_executeLow_50 : decode cX4_executeLow 50 = .ok (.ireturn, 1) := by decide +kernel
theorem dX4_executeLow_51 : decode cX4_executeLow 51 = .ok (.iload_n 2, 1) := by decide +kernel
theorem dX4_executeLow_52 : decode cX4_executeLow 52 = .ok (.iconst 1, 1) := by decide +kernel
theorem dX4_executeLow_53 : decode cX4_executeLow 53 = .ok (.if_icmp .eq 8, 3) := by decide +kernel
theorem dX4_executeLow_56 : decode cX4_executeLow 56 = .ok (.iload_n 2, 1) := by decide +kernel
theorem dX4_executeLow_57 : decode cX4_executeLow 57 = .ok (.iconst 3, 1) := by decide +kernel
theorem dX4_executeLow_58 : decode cX4_executeLow 58 = .ok (.if_icmp .ne 10, 3) := by decide +kernel
theorem dX4_executeLow_61 : decode cX4_executeLow 61 = .ok (.iload_n 1, 1) := by decide +kernel
theorem dX4_executeLow_62 : decode cX4_executeLow 62 = .ok (.invokestatic 125, 3) := by decide +kernel
theorem dX4_executeLow_65 : decode cX4_executeLow 65 = .ok (.ifCond .ne 5, 3) := by decide +kernel
theorem dX4_executeLow_70 : decode cX4_executeLow 70 = .ok (.aload_n 0, 1) := by decide +kernel
theorem dX4_executeLow_71 : decode cX4_executeLow 71 = .ok (.invokevirtual 109, 3) := by decide +kernel
theorem dX4_executeLow_74 : decode cX4_executeLow 74 = .ok (.iload_n 2, 1) := by decide +kernel
theorem dX4_executeLow_75 : decode cX4_executeLow 75 = .ok (.iconst 1, 1) := by decide +kernel
theorem dX4_executeLow_76 : decode cX4_executeLow 76 = .ok (.if_icmp .ne 20, 3) := by decide +kernel
theorem dX4_executeLow_96 : decode cX4_executeLow 96 = .ok (.aload_n 0, 1) := by decide +kernel
theorem dX4_executeLow_97 : decode cX4_executeLow 97 = .ok (.iload_n 1, 1) := by decide +kernel
theorem dX4_executeLow_98 : decode cX4_executeLow 98 = .ok (.aload_n 0, 1) := by decide +kernel
theorem dX4_executeLow_99 : decode cX4_executeLow 99 = .ok (.getfield 13, 3) := by decide +kernel
theorem dX4_executeLow_102 : decode cX4_executeLow 102 = .ok (.aload_n 0, 1) := by decide +kernel
theorem dX4_executeLow_103 : decode cX4_executeLow 103 = .ok (.getfield 45, 3) := by decide +kernel
theorem dX4_executeLow_106 : decode cX4_executeLow 106 = .ok (.iaload, 1) := by decide +kernel
theorem dX4_executeLow_107 : decode cX4_executeLow 107 = .ok (.aload_n 0, 1) := by decide +kernel
theorem dX4_executeLow_108 : decode cX4_executeLow 108 = .ok (.invokevirtual 132, 3) := by decide +kernel
theorem dX4_executeLow_111 : decode cX4_executeLow 111 = .ok (.invokevirtual 135, 3) := by decide +kernel
theorem dX4_executeLow_114 : decode cX4_executeLow 114 = .ok (.istore_n 3, 1) := by decide +kernel
theorem dX4_executeLow_115 : decode cX4_executeLow 115 = .ok (.iload_n 1, 1) := by decide +kernel
theorem dX4_executeLow_116 : decode cX4_executeLow 116 = .ok (.bipush 7, 2) := by decide +kernel
theorem dX4_executeLow_118 : decode cX4_executeLow 118 = .ok (.if_icmp .eq 13, 3) := by decide +kernel
theorem dX4_executeLow_121 : decode cX4_executeLow 121 = .ok (.aload_n 0, 1) := by decide +kernel
theorem dX4_executeLow_122 : decode cX4_executeLow 122 = .ok (.getfield 13, 3) := by decide +kernel
theorem dX4_executeLow_125 : decode cX4_executeLow 125 = .ok (.aload_n 0, 1) := by decide +kernel
theorem dX4_executeLow_126 : decode cX4_executeLow 126 = .ok (.getfield 45, 3) := by decide +kernel
theorem dX4_executeLow_129 : decode cX4_executeLow 129 = .ok (.iload_n 3, 1) := by decide +kernel
theorem dX4_executeLow_130 : decode cX4_executeLow 130 = .ok (.iastore, 1) := by decide +kernel
theorem dX4_executeLow_79 : decode cX4_executeLow 79 = .ok (.aload_n 0, 1) := by decide +kernel
theorem dX4_executeLow_80 : decode cX4_executeLow 80 = .ok (.iload_n 1, 1) := by decide +kernel
theorem dX4_executeLow_81 : decode cX4_executeLow 81 = .ok (.aload_n 0, 1) := by decide +kernel
theorem dX4_executeLow_82 : decode cX4_executeLow 82 = .ok (.getfield 13, 3) := by decide +kernel
theorem dX4_executeLow_85 : decode cX4_executeLow 85 = .ok (.aload_n 0, 1) := by decide +kernel
theorem dX4_executeLow_86 : decode cX4_executeLow 86 = .ok (.getfield 45, 3) := by decide +kernel
theorem dX4_executeLow_89 : decode cX4_executeLow 89 = .ok (.iaload, 1) := by decide +kernel
theorem dX4_executeLow_90 : decode cX4_executeLow 90 = .ok (.invokevirtual 129, 3) := by decide +kernel
theorem dX4_executeLow_93 : decode cX4_executeLow 93 = .ok (.goto 38, 3) := by decide +kernel
theorem dX4_executeLow_68 : decode cX4_executeLow 68 = .ok (.iconst 2, 1) := by decide +kernel
theorem dX4_executeLow_69 : decode cX4_executeLow 69 = .ok (.ireturn, 1) := by decide +kernel
theorem dX4_executeLow_131 : decode cX4_executeLow 131 = .ok (.iconst 3, 1) := by decide +kernel
theorem dX4_executeLow_132 : decode cX4_executeLow 132 = .ok (.ireturn, 1) := by decide +kernel
theorem dX4_executeRegister_0 : decode cX4_executeRegister 0 = .ok (.iload_n 1, 1) := by decide +kernel
theorem dX4_executeRegister_1 : decode cX4_executeRegister 1 = .ok (.tableswitch 100 8 10 #[27, 57, 87], 27) := by decide +kernel
theorem dX4_executeRegister_28 : decode cX4_executeRegister 28 = .ok (.aload_n 0, 1) := by decide +kernel
theorem dX4_executeRegister_29 : decode cX4_executeRegister 29 = .ok (.getfield 13, 3) := by decide +kernel
theorem dX4_executeRegister_32 : decode cX4_executeRegister 32 = .ok (.iload_n 2, 1) := by decide +kernel
theorem dX4_executeRegister_33 : decode cX4_executeRegister 33 = .ok (.aload_n 0, 1) := by decide +kernel
theorem dX4_executeRegister_34 : decode cX4_executeRegister 34 = .ok (.getfield 13, 3) := by decide +kernel
theorem dX4_executeRegister_37 : decode cX4_executeRegister 37 = .ok (.iload_n 2, 1) := by decide +kernel
theorem dX4_executeRegister_38 : decode cX4_executeRegister 38 = .ok (.iaload, 1) := by decide +kernel
theorem dX4_executeRegister_39 : decode cX4_executeRegister 39 = .ok (.iconst 1, 1) := by decide +kernel
theorem dX4_executeRegister_40 : decode cX4_executeRegister 40 = .ok (.iadd, 1) := by decide +kernel
theorem dX4_executeRegister_41 : decode cX4_executeRegister 41 = .ok (.ldc 95, 2) := by decide +kernel
theorem dX4_executeRegister_43 : decode cX4_executeRegister 43 = .ok (.iand, 1) := by decide +kernel
theorem dX4_executeRegister_44 : decode cX4_executeRegister 44 = .ok (.iastore, 1) := by decide +kernel
theorem dX4_executeRegister_45 : decode cX4_executeRegister 45 = .ok (.aload_n 0, 1) := by decide +kernel
theorem dX4_executeRegister_46 : decode cX4_executeRegister 46 = .ok (.aload_n 0, 1) := by decide +kernel
theorem dX4_executeRegister_47 : decode cX4_executeRegister 47 = .ok (.getfield 13, 3) := by decide +kernel
theorem dX4_executeRegister_50 : decode cX4_executeRegister 50 = .ok (.iload_n 2, 1) := by decide +kernel
theorem dX4_executeRegister_51 : decode cX4_executeRegister 51 = .ok (.iaload, 1) := by decide +kernel
theorem dX4_executeRegister_52 : decode cX4_executeRegister 52 = .ok (.invokevirtual 139, 3) := by decide +kernel
theorem dX4_executeRegister_55 : decode cX4_executeRegister 55 = .ok (.goto 56, 3) := by decide +kernel
theorem dX4_executeRegister_58 : decode cX4_executeRegister 58 = .ok (.aload_n 0, 1) := by decide +kernel
theorem dX4_executeRegister_59 : decode cX4_executeRegister 59 = .ok (.getfield 13, 3) := by decide +kernel
theorem dX4_executeRegister_62 : decode cX4_executeRegister 62 = .ok (.iload_n 2, 1) := by decide +kernel
theorem dX4_executeRegister_63 : decode cX4_executeRegister 63 = .ok (.aload_n 0, 1) := by decide +kernel
theorem dX4_executeRegister_64 : decode cX4_executeRegister 64 = .ok (.getfield 13, 3) := by decide +kernel
theorem dX4_executeRegister_67 : decode cX4_executeRegister 67 = .ok (.iload_n 2, 1) := by decide +kernel
theorem dX4_executeRegister_68 : decode cX4_executeRegister 68 = .ok (.iaload, 1) := by decide +kernel
theorem dX4_executeRegister_69 : decode cX4_executeRegister 69 = .ok (.iconst 1, 1) := by decide +kernel
theorem dX4_executeRegister_70 : decode cX4_executeRegister 70 = .ok (.isub, 1) := by decide +kernel
theorem dX4_executeRegister_71 : decode cX4_executeRegister 71 = .ok (.ldc 95, 2) := by decide +kernel
theorem dX4_executeRegister_73 : decode cX4_executeRegister 73 = .ok (.iand, 1) := by decide +kernel
theorem dX4_executeRegister_74 : decode cX4_executeRegister 74 = .ok (.iastore, 1) := by decide +kernel
theorem dX4_executeRegister_75 : decode cX4_executeRegister 75 = .ok (.aload_n 0, 1) := by decide +kernel
theorem dX4_executeRegister_76 : decode cX4_executeRegister 76 = .ok (.aload_n 0, 1) := by decide +kernel
theorem dX4_executeRegister_77 : decode cX4_executeRegister 77 = .ok (.getfield 13, 3) := by decide +kernel
theorem dX4_executeRegister_80 : decode cX4_executeRegister 80 = .ok (.iload_n 2, 1) := by decide +kernel
theorem dX4_executeRegister_81 : decode cX4_executeRegister 81 = .ok (.iaload, 1) := by decide +kernel
theorem dX4_executeRegister_82 : decode cX4_executeRegister 82 = .ok (.invokevirtual 139, 3) := by decide +kernel
theorem dX4_executeRegister_85 : decode cX4_executeRegister 85 = .ok (.goto 26, 3) := by decide +kernel
theorem dX4_executeRegister_88 : decode cX4_executeRegister 88 = .ok (.aload_n 0, 1) := by decide +kernel
theorem dX4_executeRegister_89 : decode cX4_executeRegister 89 = .ok (.aload_n 0, 1) := by decide +kernel
theorem dX4_executeRegister_90 : decode cX4_executeRegister 90 = .ok (.getfield 13, 3) := by decide +kernel
theorem dX4_executeRegister_93 : decode cX4_executeRegister 93 = .ok (.iload_n 2, 1) := by decide +kernel
theorem dX4_executeRegister_94 : decode cX4_executeRegister 94 = .ok (.iaload, 1) := by decide +kernel
theorem dX4_executeRegister_95 : decode cX4_executeRegister 95 = .ok (.invokevirtual 118, 3) := by decide +kernel
theorem dX4_executeRegister_98 : decode cX4_executeRegister 98 = .ok (.goto 13, 3) := by decide +kernel
theorem dX4_executeRegister_101 : decode cX4_executeRegister 101 = .ok (.aload_n 0, 1) := by decide +kernel
theorem dX4_executeRegister_102 : decode cX4_executeRegister 102 = .ok (.getfield 13, 3) := by decide +kernel
theorem dX4_executeRegister_105 : decode cX4_executeRegister 105 = .ok (.iload_n 2, 1) := by decide +kernel
theorem dX4_executeRegister_106 : decode cX4_executeRegister 106 = .ok (.aload_n 0, 1) := by decide +kernel
theorem dX4_executeRegister_107 : decode cX4_executeRegister 107 = .ok (.invokevirtual 122, 3) := by decide +kernel
theorem dX4_executeRegister_110 : decode cX4_executeRegister 110 = .ok (.iastore, 1) := by decide +kernel
theorem dX4_executeRegister_111 : decode cX4_executeRegister 111 = .ok (.iconst 3, 1) := by decide +kernel
theorem dX4_executeRegister_112 : decode cX4_executeRegister 112 = .ok (.ireturn, 1) := by decide +kernel
theorem dX4_jump_0 : decode cX4_jump 0 = .ok (.aload_n 0, 1) := by decide +kernel
theorem dX4_jump_1 : decode cX4_jump 1 = .ok (.aload_n 0, 1) := by decide +kernel
theorem dX4_jump_2 : decode cX4_jump 2 = .ok (.getfield 26, 3) := by decide +kernel
theorem dX4_jump_5 : decode cX4_jump 5 = .ok (.iload_n 1, 1) := by decide +kernel
theorem dX4_jump_6 : decode cX4_jump 6 = .ok (.iadd, 1) := by decide +kernel
theorem dX4_jump_7 : decode cX4_jump 7 = .ok (.ldc 95, 2) := by decide +kernel
theorem dX4_jump_9 : decode cX4_jump 9 = .ok (.iand, 1) := by decide +kernel
theorem dX4_jump_10 : decode cX4_jump 10 = .ok (.putfield 26, 3) := by decide +kernel
theorem dX4_jump_13 : decode cX4_jump 13 = .ok (.return_, 1) := by decide +kernel
theorem dX4_branch_0 : decode cX4_branch 0 = .ok (.iload_n 1, 1) := by decide +kernel
theorem dX4_branch_1 : decode cX4_branch 1 = .ok (.iconst 1, 1) := by decide +kernel
theorem dX4_branch_2 : decode cX4_branch 2 = .ok (.ishr, 1) := by decide +kernel
theorem dX4_branch_3 : decode cX4_branch 3 = .ok (.tableswitch 53 57 60 #[29, 37, 53, 45], 29) := by decide +kernel
theorem dX4_branch_32 : decode cX4_branch 32 = .ok (.aload_n 0, 1) := by decide +kernel
theorem dX4_branch_33 : decode cX4_branch 33 = .ok (.getfield 30, 3) := by decide +kernel
theorem dX4_branch_36 : decode cX4_branch 36 = .ok (.istore_n 2, 1) := by decide +kernel
theorem dX4_branch_37 : decode cX4_branch 37 = .ok (.goto 21, 3) := by decide +kernel
theorem dX4_branch_40 : decode cX4_branch 40 = .ok (.aload_n 0, 1) := by decide +kernel
theorem dX4_branch_41 : decode cX4_branch 41 = .ok (.getfield 33, 3) := by decide +kernel
theorem dX4_branch_44 : decode cX4_branch 44 = .ok (.istore_n 2, 1) := by decide +kernel
theorem dX4_branch_45 : decode cX4_branch 45 = .ok (.goto 13, 3) := by decide +kernel
theorem dX4_branch_48 : decode cX4_branch 48 = .ok (.aload_n 0, 1) := by decide +kernel
theorem dX4_branch_49 : decode cX4_branch 49 = .ok (.getfield 36, 3) := by decide +kernel
theorem dX4_branch_52 : decode cX4_branch 52 = .ok (.istore_n 2, 1) := by decide +kernel
theorem dX4_branch_53 : decode cX4_branch 53 = .ok (.goto 5, 3) := by decide +kernel
theorem dX4_branch_58 : decode cX4_branch 58 = .ok (.aload_n 0, 1) := by decide +kernel
theorem dX4_branch_59 : decode cX4_branch 59 = .ok (.invokevirtual 142, 3) := by decide +kernel
theorem dX4_branch_62 : decode cX4_branch 62 = .ok (.istore_n 3, 1) := by decide +kernel
theorem dX4_branch_63 : decode cX4_branch 63 = .ok (.iload_n 2, 1) := by decide +kernel
theorem dX4_branch_64 : decode cX4_branch 64 = .ok (.iload_n 1, 1) := by decide +kernel
theorem dX4_branch_65 : decode cX4_branch 65 = .ok (.iconst 1, 1) := by decide +kernel
theorem dX4_branch_66 : decode cX4_branch 66 = .ok (.iand, 1) := by decide +kernel
theorem dX4_branch_67 : decode cX4_branch 67 = .ok (.if_icmp .eq 8, 3) := by decide +kernel
theorem dX4_branch_70 : decode cX4_branch 70 = .ok (.aload_n 0, 1) := by decide +kernel
theorem dX4_branch_71 : decode cX4_branch 71 = .ok (.iload_n 3, 1) := by decide +kernel
theorem dX4_branch_72 : decode cX4_branch 72 = .ok (.invokevirtual 145, 3) := by decide +kernel
theorem dX4_branch_56 : decode cX4_branch 56 = .ok (.iconst 2, 1) := by decide +kernel
theorem dX4_branch_57 : decode cX4_branch 57 = .ok (.ireturn, 1) := by decide +kernel
theorem dX4_branch_75 : decode cX4_branch 75 = .ok (.iconst 3, 1) := by decide +kernel
theorem dX4_branch_76 : decode cX4_branch 76 = .ok (.ireturn, 1) := by decide +kernel
theorem dX4_shift_0 : decode cX4_shift 0 = .ok (.aload_n 0, 1) := by decide +kernel
theorem dX4_shift_1 : decode cX4_shift 1 = .ok (.invokevirtual 132, 3) := by decide +kernel
theorem dX4_shift_4 : decode cX4_shift 4 = .ok (.istore_n 1, 1) := by decide +kernel
theorem dX4_shift_5 : decode cX4_shift 5 = .ok (.aload_n 0, 1) := by decide +kernel
theorem dX4_shift_6 : decode cX4_shift 6 = .ok (.getfield 45, 3) := by decide +kernel
theorem dX4_shift_9 : decode cX4_shift 9 = .ok (.iconst 4, 1) := by decide +kernel
theorem dX4_shift_10 : decode cX4_shift 10 = .ok (.if_icmp .ne 21, 3) := by decide +kernel
theorem dX4_shift_31 : decode cX4_shift 31 = .ok (.aload_n 0, 1) := by decide +kernel
theorem dX4_shift_32 : decode cX4_shift 32 = .ok (.getfield 45, 3) := by decide +kernel
theorem dX4_shift_35 : decode cX4_shift 35 = .ok (.iconst 5, 1) := by decide +kernel
theorem dX4_shift_36 : decode cX4_shift 36 = .ok (.if_icmp .ne 17, 3) := by decide +kernel
theorem dX4_shift_53 : decode cX4_shift 53 = .ok (.iconst 2, 1) := by decide +kernel
theorem dX4_shift_54 : decode cX4_shift 54 = .ok (.ireturn, 1) := by decide +kernel
theorem dX4_shift_39 : decode cX4_shift 39 = .ok (.aload_n 0, 1) := by decide +kernel
theorem dX4_shift_40 : decode cX4_shift 40 = .ok (.iload_n 1, 1) := by decide +kernel
theorem dX4_shift_41 : decode cX4_shift 41 = .ok (.iconst 1, 1) := by decide +kernel
theorem dX4_shift_42 : decode cX4_shift 42 = .ok (.iand, 1) := by decide +kernel
theorem dX4_shift_43 : decode cX4_shift 43 = .ok (.putfield 30, 3) := by decide +kernel
theorem dX4_shift_46 : decode cX4_shift 46 = .ok (.iload_n 1, 1) := by decide +kernel
theorem dX4_shift_47 : decode cX4_shift 47 = .ok (.iconst 1, 1) := by decide +kernel
theorem dX4_shift_48 : decode cX4_shift 48 = .ok (.ishr, 1) := by decide +kernel
theorem dX4_shift_49 : decode cX4_shift 49 = .ok (.istore_n 2, 1) := by decide +kernel
theorem dX4_shift_50 : decode cX4_shift 50 = .ok (.goto 5, 3) := by decide +kernel
theorem dX4_shift_13 : decode cX4_shift 13 = .ok (.aload_n 0, 1) := by decide +kernel
theorem dX4_shift_14 : decode cX4_shift 14 = .ok (.iload_n 1, 1) := by decide +kernel
theorem dX4_shift_15 : decode cX4_shift 15 = .ok (.bipush 15, 2) := by decide +kernel
theorem dX4_shift_17 : decode cX4_shift 17 = .ok (.ishr, 1) := by decide +kernel
theorem dX4_shift_18 : decode cX4_shift 18 = .ok (.putfield 30, 3) := by decide +kernel
theorem dX4_shift_21 : decode cX4_shift 21 = .ok (.iload_n 1, 1) := by decide +kernel
theorem dX4_shift_22 : decode cX4_shift 22 = .ok (.iconst 1, 1) := by decide +kernel
theorem dX4_shift_23 : decode cX4_shift 23 = .ok (.ishl, 1) := by decide +kernel
theorem dX4_shift_24 : decode cX4_shift 24 = .ok (.ldc 95, 2) := by decide +kernel
theorem dX4_shift_26 : decode cX4_shift 26 = .ok (.iand, 1) := by decide +kernel
theorem dX4_shift_27 : decode cX4_shift 27 = .ok (.istore_n 2, 1) := by decide +kernel
theorem dX4_shift_28 : decode cX4_shift 28 = .ok (.goto 27, 3) := by decide +kernel
theorem dX4_shift_55 : decode cX4_shift 55 = .ok (.aload_n 0, 1) := by decide +kernel
theorem dX4_shift_56 : decode cX4_shift 56 = .ok (.iload_n 2, 1) := by decide +kernel
theorem dX4_shift_57 : decode cX4_shift 57 = .ok (.invokevirtual 139, 3) := by decide +kernel
theorem dX4_shift_60 : decode cX4_shift 60 = .ok (.aload_n 0, 1) := by decide +kernel
theorem dX4_shift_61 : decode cX4_shift 61 = .ok (.iload_n 2, 1) := by decide +kernel
theorem dX4_shift_62 : decode cX4_shift 62 = .ok (.invokevirtual 148, 3) := by decide +kernel
theorem dX4_shift_65 : decode cX4_shift 65 = .ok (.iconst 3, 1) := by decide +kernel
theorem dX4_shift_66 : decode cX4_shift 66 = .ok (.ireturn, 1) := by decide +kernel
def wpX4_fetchWord (σ : ZS) (Q : Int → ZS → Prop) : Prop := wpX4_fetch σ (fun (x1 : Int) (σ2 : ZS) => wpX4_fetch σ2 (fun (x3 : Int) (σ4 : ZS) => Q (x1 + (256 * x3)) σ4))
set_option maxHeartbeats 4000000 in
set_option maxRecDepth 100000 in
theorem kX4_fetchWord (l : Launch) (D : va_G) (dA : Nat → ClassId) (ad : Int → Nat → Nat) (σ : ZS) (Q : Int → ZS → Prop) (sz : Nat) (hw : wpX4_fetchWord σ Q) : Met l yX4_fetchWord (gws yX4_fetchWord cX4_fetchWord 2 (some .int)) (gR 2 0 0) (gPre D dA [.ref (ad 18 1000)] (zC dA ad σ) sz) (va_Qi (zQi Q) (gAt D dA (va_A (zC dA ad σ) sz) (zC dA ad)) (va_A (zC dA ad σ) sz)) 0 0 (va_A (zC dA ad σ) sz) := by
  refine Met.ofW (cc := cX4_fetchWord) (maxL := 2) (ret := (some .int)) (by decide) rfl ?_
  intro p e s m args below meth c s₁ B hml hv
  obtain ⟨rfl, hsz, hP, hK, hD0⟩ := hv
  have hx := B.exec
  have hb := B.bytes
  have hr := B.returns
  have hts := atoms_spec (ws := gws yX4_fetchWord cX4_fetchWord 2 (some .int)) B.pre
  have hg : ∀ w ∈ gw, w.before _ s = true := fun w h => hts w (List.mem_cons_of_mem _ h)
  have hown : s.vm.findClass RX4 = some m.cls := findClass_of_methodNamed B.named
  have hlocks := B.notSynchronized
  subst hsz
  have hD := hD0.self (sz := s.heap.size)
  generalize hAe : va_A (zC dA ad σ) s.heap.size = A at hD ⊢
  have hA : ∀ q : Nat, s.heap.size ≤ q → A q := fun q h => by rw [← hAe]; exact Or.inr h
  have hS : va_S A s.heap s.heap [] := va_S.rf
  have hl := lv_entry ([.ref (ad 18 1000)]) (n := 2) (Nat.le_of_ble_eq_true rfl)
  rw [lg_entry_eq]
  generalize (lg_sl ([.ref (ad 18 1000)]) ++ List.replicate (2 - (lg_sl ([.ref (ad 18 1000)])).length) Slot.unset).toArray = ls at hl ⊢
  have hl : lv_has ls 2 [(0, .ref (ad 18 1000))] := hl
  have hret : ∀ (v : Int) (σ : ZS) (H : Heap) (locs : List Loc) (ls : Array Slot) (pc : Nat), Q v σ → va_P D vwC (zC dA ad σ) H → va_D A (zC dA ad σ) → va_S A s.heap H locs → decode cX4_fetchWord pc = .ok (.ireturn, 1) → W p l e (gR 2 0 0) s m #[.ref (ad 18 1000)] below meth c H locs 0 0 (MQ below (va_Qi (zQi Q) (gAt D dA A (zC dA ad)) A) #[.ref (ad 18 1000)] s 0 0 A) (F0 m pc ls [.int (Int32.ofInt v)]) := fun v σ H locs ls pc hw hP hD hS hd => g_iret hx hb hr rfl hlocks hK σ hP hD hS ⟨v, rfl, hw⟩ (Nat.le_of_ble_eq_true rfl) (Nat.le_of_ble_eq_true rfl) hd
  generalize MQ below (va_Qi (zQi Q) (gAt D dA A (zC dA ad)) A) #[.ref (ad 18 1000)] s 0 0 A = QQ at hret ⊢
  unfold wpX4_fetchWord at hw
  refine lv_aload_n hx hb dX4_fetchWord_0 rfl (lv_at hl 0 rfl) ?_
  refine z_Vi (n := 0) (As := []) (rest := []) hx hb hml hg hown hK hP hD hS hA (kX4_fetch l D dA ad σ _ _ hw) (zoC18) rfl q1399 q159 q1396 q1398 q52 (by decide +kernel) ⟨(Nat.le_of_ble_eq_true rfl), (Nat.le_of_ble_eq_true rfl)⟩ rfl hl.1 rfl (Nat.le_of_ble_eq_true rfl) dX4_fetchWord_1 ⟨(Nat.le_of_ble_eq_true rfl), (Nat.le_of_ble_eq_true rfl)⟩ (fun x1 σ2 H locs hw hP hD hS => ?_)
  refine lv_istore_n (lv' := [(1, .int (Int32.ofInt x1)), (0, .ref (ad 18 1000))]) hx hb dX4_fetchWord_4 rfl hl (by decide) rfl (fun ls hl => ?_)
  refine lv_iload_n hx hb dX4_fetchWord_5 rfl (lv_at hl 0 rfl) ?_
  refine lv_sipush (v := Int32.ofInt 256) hx hb dX4_fetchWord_6 (by decide) ?_
  refine lv_aload_n hx hb dX4_fetchWord_9 rfl (lv_at hl 1 rfl) ?_
  refine z_Vi (n := 0) (As := []) (rest := [.int (Int32.ofInt 256), .int (Int32.ofInt x1)]) hx hb hml hg hown hK hP hD hS hA (kX4_fetch l D dA ad σ2 _ _ hw) (zoC18) rfl q1399 q159 q1396 q1398 q52 (by decide +kernel) ⟨(Nat.le_of_ble_eq_true rfl), (Nat.le_of_ble_eq_true rfl)⟩ rfl hl.1 rfl (Nat.le_of_ble_eq_true rfl) dX4_fetchWord_10 ⟨(Nat.le_of_ble_eq_true rfl), (Nat.le_of_ble_eq_true rfl)⟩ (fun x3 σ4 H locs hw hP hD hS => ?_)
  refine z_imul hx hb dX4_fetchWord_13 ?_
  refine z_iadd hx hb dX4_fetchWord_14 ?_
  exact hret (x1 + (256 * x3)) σ4 _ _ _ _ hw hP hD hS dX4_fetchWord_15
def wpX4_fetchSigned (σ : ZS) (Q : Int → ZS → Prop) : Prop := wpX4_fetch σ (fun (x1 : Int) (σ2 : ZS) => Q ((x1 + 128) % 256 - 128) σ2)
set_option maxHeartbeats 4000000 in
set_option maxRecDepth 100000 in
theorem kX4_fetchSigned (l : Launch) (D : va_G) (dA : Nat → ClassId) (ad : Int → Nat → Nat) (σ : ZS) (Q : Int → ZS → Prop) (sz : Nat) (hw : wpX4_fetchSigned σ Q) : Met l yX4_fetchSigned (gws yX4_fetchSigned cX4_fetchSigned 1 (some .int)) (gR 2 0 0) (gPre D dA [.ref (ad 18 1000)] (zC dA ad σ) sz) (va_Qi (zQi Q) (gAt D dA (va_A (zC dA ad σ) sz) (zC dA ad)) (va_A (zC dA ad σ) sz)) 0 0 (va_A (zC dA ad σ) sz) := by
  refine Met.ofW (cc := cX4_fetchSigned) (maxL := 1) (ret := (some .int)) (by decide) rfl ?_
  intro p e s m args below meth c s₁ B hml hv
  obtain ⟨rfl, hsz, hP, hK, hD0⟩ := hv
  have hx := B.exec
  have hb := B.bytes
  have hr := B.returns
  have hts := atoms_spec (ws := gws yX4_fetchSigned cX4_fetchSigned 1 (some .int)) B.pre
  have hg : ∀ w ∈ gw, w.before _ s = true := fun w h => hts w (List.mem_cons_of_mem _ h)
  have hown : s.vm.findClass RX4 = some m.cls := findClass_of_methodNamed B.named
  have hlocks := B.notSynchronized
  subst hsz
  have hD := hD0.self (sz := s.heap.size)
  generalize hAe : va_A (zC dA ad σ) s.heap.size = A at hD ⊢
  have hA : ∀ q : Nat, s.heap.size ≤ q → A q := fun q h => by rw [← hAe]; exact Or.inr h
  have hS : va_S A s.heap s.heap [] := va_S.rf
  have hl := lv_entry ([.ref (ad 18 1000)]) (n := 1) (Nat.le_of_ble_eq_true rfl)
  rw [lg_entry_eq]
  generalize (lg_sl ([.ref (ad 18 1000)]) ++ List.replicate (1 - (lg_sl ([.ref (ad 18 1000)])).length) Slot.unset).toArray = ls at hl ⊢
  have hl : lv_has ls 1 [(0, .ref (ad 18 1000))] := hl
  have hret : ∀ (v : Int) (σ : ZS) (H : Heap) (locs : List Loc) (ls : Array Slot) (pc : Nat), Q v σ → va_P D vwC (zC dA ad σ) H → va_D A (zC dA ad σ) → va_S A s.heap H locs → decode cX4_fetchSigned pc = .ok (.ireturn, 1) → W p l e (gR 2 0 0) s m #[.ref (ad 18 1000)] below meth c H locs 0 0 (MQ below (va_Qi (zQi Q) (gAt D dA A (zC dA ad)) A) #[.ref (ad 18 1000)] s 0 0 A) (F0 m pc ls [.int (Int32.ofInt v)]) := fun v σ H locs ls pc hw hP hD hS hd => g_iret hx hb hr rfl hlocks hK σ hP hD hS ⟨v, rfl, hw⟩ (Nat.le_of_ble_eq_true rfl) (Nat.le_of_ble_eq_true rfl) hd
  generalize MQ below (va_Qi (zQi Q) (gAt D dA A (zC dA ad)) A) #[.ref (ad 18 1000)] s 0 0 A = QQ at hret ⊢
  unfold wpX4_fetchSigned at hw
  refine lv_aload_n hx hb dX4_fetchSigned_0 rfl (lv_at hl 0 rfl) ?_
  refine z_Vi (n := 0) (As := []) (rest := []) hx hb hml hg hown hK hP hD hS hA (kX4_fetch l D dA ad σ _ _ hw) (zoC18) rfl q1399 q159 q1396 q1398 q52 (by decide +kernel) ⟨(Nat.le_of_ble_eq_true rfl), (Nat.le_of_ble_eq_true rfl)⟩ rfl hl.1 rfl (Nat.le_of_ble_eq_true rfl) dX4_fetchSigned_1 ⟨(Nat.le_of_ble_eq_true rfl), (Nat.le_of_ble_eq_true rfl)⟩ (fun x1 σ2 H locs hw hP hD hS => ?_)
  refine z_i2b hx hb dX4_fetchSigned_4 ?_
  exact hret ((x1 + 128) % 256 - 128) σ2 _ _ _ _ hw hP hD hS dX4_fetchSigned_5
def wpX4_fetchM_159 (v5 s3 s1 : Int) (σ : ZS) (Q : ZS → Prop) : Prop := (0 ≤ s3 ∧ s3 < 4) ∧ Q (zsI σ 18 13 ((s1 * (zA σ 18 2 s3)) + (v5 % 65536)))
def wpX4_fetchM_140 (v5 s0 : Int) (σ : ZS) (Q : ZS → Prop) : Prop := (-2147483648 ≤ s0 ∧ s0 ≤ 2147483647) ∧ (s0 = 0 → wpX4_fetchM_159 v5 3 16 σ Q) ∧ (¬ s0 = 0 → wpX4_fetchM_159 v5 2 16 σ Q)
def wpX4_fetchM_139 (v5 : Int) (σ : ZS) (Q : ZS → Prop) : Prop := wpX4_fetchM_140 v5 0 σ Q
def wpX4_fetchM_135 (v5 : Int) (σ : ZS) (Q : ZS → Prop) : Prop := wpX4_fetchM_140 v5 1 σ Q
def wpX4_fetchM_114 (v3 v4 v5 : Int) (σ : ZS) (Q : ZS → Prop) : Prop := (-2147483648 ≤ v3 ∧ v3 ≤ 2147483647) ∧ (v3 = 2 → wpX4_fetchM_135 v5 σ Q) ∧ (¬ v3 = 2 → (v3 = 3 → wpX4_fetchM_135 v5 σ Q) ∧ (¬ v3 = 3 → (¬ v3 = 6 → wpX4_fetchM_139 v5 σ Q) ∧ (v3 = 6 → (-2147483648 ≤ v4 ∧ v4 ≤ 2147483647) ∧ (¬ v4 = 0 → wpX4_fetchM_139 v5 σ Q) ∧ (v4 = 0 → wpX4_fetchM_135 v5 σ Q))))
def wpX4_fetchM_88 (v3 v4 v5 : Int) (σ : ZS) (Q : ZS → Prop) : Prop := wpX4_fetchWord σ (fun (x10 : Int) (σ11 : ZS) => wpX4_fetchM_114 v3 v4 (v5 + x10) σ11 Q)
def wpX4_fetchM_76 (v2 v3 v4 s0 : Int) (σ : ZS) (Q : ZS → Prop) : Prop := (-2147483648 ≤ v4 ∧ v4 ≤ 2147483647) ∧ (¬ v4 = 0 → wpX4_fetchM_88 v3 v4 s0 σ Q) ∧ (v4 = 0 → (-2147483648 ≤ v2 ∧ v2 ≤ 2147483647) ∧ (¬ v2 = 2 → (¬ v2 = 1 → wpX4_fetchM_114 v3 v4 s0 σ Q) ∧ (v2 = 1 → wpX4_fetchSigned σ (fun (x17 : Int) (σ18 : ZS) => wpX4_fetchM_114 v3 v4 (s0 + x17) σ18 Q))) ∧ (v2 = 2 → wpX4_fetchM_88 v3 v4 s0 σ Q))
def wpX4_fetchM_60 (v2 v3 s0 : Int) (σ : ZS) (Q : ZS → Prop) : Prop := (-2147483648 ≤ s0 ∧ s0 ≤ 2147483647) ∧ (s0 = 0 → wpX4_registerSum v3 σ (fun (x21 : Int) (σ22 : ZS) => wpX4_fetchM_76 v2 v3 s0 x21 σ22 Q)) ∧ (¬ s0 = 0 → wpX4_fetchM_76 v2 v3 s0 0 σ Q)
def wpX4_fetchM_59 (v2 v3 : Int) (σ : ZS) (Q : ZS → Prop) : Prop := wpX4_fetchM_60 v2 v3 0 σ Q
def wpX4_fetchM_36 (v2 v3 s1 : Int) (σ : ZS) (Q : ZS → Prop) : Prop := (-2147483648 ≤ v2 ∧ v2 ≤ 2147483647) ∧ (¬ v2 = 3 → (¬ v2 = 0 → wpX4_fetchM_59 v2 v3 (zsI σ 18 12 s1) Q) ∧ (v2 = 0 → (-2147483648 ≤ v3 ∧ v3 ≤ 2147483647) ∧ (¬ v3 = 6 → wpX4_fetchM_59 v2 v3 (zsI σ 18 12 s1) Q) ∧ (v3 = 6 → wpX4_fetchM_60 v2 v3 1 (zsI σ 18 12 s1) Q))) ∧ (v2 = 3 → Q (zsI σ 18 12 s1))
def wpX4_fetchM (σ : ZS) (Q : ZS → Prop) : Prop := wpX4_fetch σ (fun (x28 : Int) (σ29 : ZS) => (-2147483648 ≤ x28 ∧ x28 ≤ 2147483647) ∧ (¬ (x28 / 64) = 3 → wpX4_fetchM_36 (x28 / 64) (x28 % 8) (-1) (zsI σ29 18 11 ((x28 / 8) % 8)) Q) ∧ ((x28 / 64) = 3 → wpX4_fetchM_36 (x28 / 64) (x28 % 8) (x28 % 8) (zsI σ29 18 11 ((x28 / 8) % 8)) Q))
set_option maxHeartbeats 4000000 in
set_option maxRecDepth 100000 in
theorem kX4_fetchM (l : Launch) (D : va_G) (dA : Nat → ClassId) (ad : Int → Nat → Nat) (σ : ZS) (Q : ZS → Prop) (sz : Nat) (hw : wpX4_fetchM σ Q) : Met l yX4_fetchM (gws yX4_fetchM cX4_fetchM 7 none) (gR 3 0 0) (gPre D dA [.ref (ad 18 1000)] (zC dA ad σ) sz) (va_Qv Q (gAt D dA (va_A (zC dA ad σ) sz) (zC dA ad)) (va_A (zC dA ad σ) sz)) 0 0 (va_A (zC dA ad σ) sz) := by
  refine Met.ofW (cc := cX4_fetchM) (maxL := 7) (ret := none) (by decide) rfl ?_
  intro p e s m args below meth c s₁ B hml hv
  obtain ⟨rfl, hsz, hP, hK, hD0⟩ := hv
  have hx := B.exec
  have hb := B.bytes
  have hr := B.returns
  have hts := atoms_spec (ws := gws yX4_fetchM cX4_fetchM 7 none) B.pre
  have hg : ∀ w ∈ gw, w.before _ s = true := fun w h => hts w (List.mem_cons_of_mem _ h)
  have hown : s.vm.findClass RX4 = some m.cls := findClass_of_methodNamed B.named
  have hlocks := B.notSynchronized
  subst hsz
  have hD := hD0.self (sz := s.heap.size)
  generalize hAe : va_A (zC dA ad σ) s.heap.size = A at hD ⊢
  have hA : ∀ q : Nat, s.heap.size ≤ q → A q := fun q h => by rw [← hAe]; exact Or.inr h
  have hS : va_S A s.heap s.heap [] := va_S.rf
  have hl := lv_entry ([.ref (ad 18 1000)]) (n := 7) (Nat.le_of_ble_eq_true rfl)
  rw [lg_entry_eq]
  generalize (lg_sl ([.ref (ad 18 1000)]) ++ List.replicate (7 - (lg_sl ([.ref (ad 18 1000)])).length) Slot.unset).toArray = ls at hl ⊢
  have hl : lv_has ls 7 [(0, .ref (ad 18 1000))] := hl
  have hret : ∀ (σ : ZS) (H : Heap) (locs : List Loc) (ls : Array Slot) (pc : Nat), Q σ → va_P D vwC (zC dA ad σ) H → va_D A (zC dA ad σ) → va_S A s.heap H locs → decode cX4_fetchM pc = .ok (.return_, 1) → W p l e (gR 3 0 0) s m #[.ref (ad 18 1000)] below meth c H locs 0 0 (MQ below (va_Qv Q (gAt D dA A (zC dA ad)) A) #[.ref (ad 18 1000)] s 0 0 A) (F0 m pc ls []) := fun σ H locs ls pc hw hP hD hS hd => g_vret hx hb hr hlocks hK σ hP hD hS hw (Nat.le_of_ble_eq_true rfl) (Nat.le_of_ble_eq_true rfl) hd
  generalize MQ below (va_Qv Q (gAt D dA A (zC dA ad)) A) #[.ref (ad 18 1000)] s 0 0 A = QQ at hret ⊢
  have j159 : ∀ (v5 s3 s1 : Int) (σ : ZS), ∀ (H : Heap) (locs : List Loc) (ls : Array Slot), va_P D vwC (zC dA ad σ) H → va_D A (zC dA ad σ) → va_S A s.heap H locs → lv_has ls 7 [(5, .int (Int32.ofInt v5))] → wpX4_fetchM_159 v5 s3 s1 σ Q → W p l e (gR 3 0 0) s m #[.ref (ad 18 1000)] below meth c H locs 0 0 QQ (F0 m 159 ls [.int (Int32.ofInt s3), .ref (ad 18 2), .int (Int32.ofInt s1), .ref (ad 18 1000)]) := by
    intro v5 s3 s1 σ H locs ls hP hD hS hl hw
    unfold wpX4_fetchM_159 at hw
    obtain ⟨o1, hw⟩ := hw
    refine zlC18_2 hx hb o1 hK hP dX4_fetchM_159 ?_
    refine z_imul hx hb dX4_fetchM_160 ?_
    refine lv_iload hx hb dX4_fetchM_161 (lv_at hl 0 rfl) ?_
    refine lv_ldc hx hb hown (hg _ q1400) dX4_fetchM_163 ?_
    refine g_nrm (y := Int32.ofInt 65535) (by decide) ?_
    refine z_iandK (M := 65536) hx hb 16 (by decide) (by decide) (by decide) dX4_fetchM_165 ?_
    refine z_iadd hx hb dX4_fetchM_166 ?_
    refine zpC18_13 (v := ((s1 * (zA σ 18 2 s3)) + (v5 % 65536))) hx hb hg hown hK hP hD hS q576 dX4_fetchM_167 (fun H locs hP hD hS => ?_)
    exact hret (zsI σ 18 13 ((s1 * (zA σ 18 2 s3)) + (v5 % 65536))) _ _ _ _ hw hP hD hS dX4_fetchM_170
  have j140 : ∀ (v5 s0 : Int) (σ : ZS), ∀ (H : Heap) (locs : List Loc) (ls : Array Slot), va_P D vwC (zC dA ad σ) H → va_D A (zC dA ad σ) → va_S A s.heap H locs → lv_has ls 7 [(0, .ref (ad 18 1000)), (5, .int (Int32.ofInt v5))] → wpX4_fetchM_140 v5 s0 σ Q → W p l e (gR 3 0 0) s m #[.ref (ad 18 1000)] below meth c H locs 0 0 QQ (F0 m 140 ls [.int (Int32.ofInt s0)]) := by
    intro v5 s0 σ H locs ls hP hD hS hl hw
    unfold wpX4_fetchM_140 at hw
    refine lv_istore (lv' := [(6, .int (Int32.ofInt s0)), (0, .ref (ad 18 1000)), (5, .int (Int32.ofInt v5))]) hx hb dX4_fetchM_140 hl (by decide) rfl (fun ls hl => ?_)
    refine lv_aload_n hx hb dX4_fetchM_142 rfl (lv_at hl 1 rfl) ?_
    refine lv_bipush (v := Int32.ofInt 16) hx hb dX4_fetchM_143 (by decide) ?_
    refine lv_aload_n hx hb dX4_fetchM_145 rfl (lv_at hl 1 rfl) ?_
    refine zgC18_2 hx hb hg hown hK hP q556 dX4_fetchM_146 ?_
    refine lv_iload hx hb dX4_fetchM_149 (lv_at hl 0 rfl) ?_
    obtain ⟨o2, hw⟩ := hw
    refine z_if_eq (tgt := 158) hx hb o2 dX4_fetchM_151 (by decide) (fun k3 => ?_) (fun k3 => ?_)
    · replace hw := hw.1 k3
      refine lv_iconst (v := Int32.ofInt 3) hx hb dX4_fetchM_158 (by decide) ?_
      exact j159 v5 3 16 σ _ _ _ hP hD hS (lv_sub hl [2] rfl) hw
    · replace hw := hw.2 k3
      refine lv_iconst (v := Int32.ofInt 2) hx hb dX4_fetchM_154 (by decide) ?_
      refine lv_goto (tgt := 159) hx hb dX4_fetchM_155 (by decide) ?_
      exact j159 v5 2 16 σ _ _ _ hP hD hS (lv_sub hl [2] rfl) hw
  have j139 : ∀ (v5 : Int) (σ : ZS), ∀ (H : Heap) (locs : List Loc) (ls : Array Slot), va_P D vwC (zC dA ad σ) H → va_D A (zC dA ad σ) → va_S A s.heap H locs → lv_has ls 7 [(0, .ref (ad 18 1000)), (5, .int (Int32.ofInt v5))] → wpX4_fetchM_139 v5 σ Q → W p l e (gR 3 0 0) s m #[.ref (ad 18 1000)] below meth c H locs 0 0 QQ (F0 m 139 ls []) := by
    intro v5 σ H locs ls hP hD hS hl hw
    unfold wpX4_fetchM_139 at hw
    refine lv_iconst (v := Int32.ofInt 0) hx hb dX4_fetchM_139 (by decide) ?_
    exact j140 v5 0 σ _ _ _ hP hD hS (lv_sub hl [0, 1] rfl) hw
  have j135 : ∀ (v5 : Int) (σ : ZS), ∀ (H : Heap) (locs : List Loc) (ls : Array Slot), va_P D vwC (zC dA ad σ) H → va_D A (zC dA ad σ) → va_S A s.heap H locs → lv_has ls 7 [(0, .ref (ad 18 1000)), (5, .int (Int32.ofInt v5))] → wpX4_fetchM_135 v5 σ Q → W p l e (gR 3 0 0) s m #[.ref (ad 18 1000)] below meth c H locs 0 0 QQ (F0 m 135 ls []) := by
    intro v5 σ H locs ls hP hD hS hl hw
    unfold wpX4_fetchM_135 at hw
    refine lv_iconst (v := Int32.ofInt 1) hx hb dX4_fetchM_135 (by decide) ?_
    refine lv_goto (tgt := 140) hx hb dX4_fetchM_136 (by decide) ?_
    exact j140 v5 1 σ _ _ _ hP hD hS (lv_sub hl [0, 1] rfl) hw
  have j114 : ∀ (v3 v4 v5 : Int) (σ : ZS), ∀ (H : Heap) (locs : List Loc) (ls : Array Slot), va_P D vwC (zC dA ad σ) H → va_D A (zC dA ad σ) → va_S A s.heap H locs → lv_has ls 7 [(0, .ref (ad 18 1000)), (3, .int (Int32.ofInt v3)), (4, .int (Int32.ofInt v4)), (5, .int (Int32.ofInt v5))] → wpX4_fetchM_114 v3 v4 v5 σ Q → W p l e (gR 3 0 0) s m #[.ref (ad 18 1000)] below meth c H locs 0 0 QQ (F0 m 114 ls []) := by
    intro v3 v4 v5 σ H locs ls hP hD hS hl hw
    unfold wpX4_fetchM_114 at hw
    refine lv_iload_n hx hb dX4_fetchM_114 rfl (lv_at hl 1 rfl) ?_
    refine lv_iconst (v := Int32.ofInt 2) hx hb dX4_fetchM_115 (by decide) ?_
    obtain ⟨o4, hw⟩ := hw
    refine z_icmp_eq (tgt := 135) hx hb o4 (by decide) dX4_fetchM_116 (by decide) (fun k5 => ?_) (fun k5 => ?_)
    · replace hw := hw.1 k5
      exact j135 v5 σ _ _ _ hP hD hS (lv_sub hl [0, 3] rfl) hw
    · replace hw := hw.2 k5
      refine lv_iload_n hx hb dX4_fetchM_119 rfl (lv_at hl 1 rfl) ?_
      refine lv_iconst (v := Int32.ofInt 3) hx hb dX4_fetchM_120 (by decide) ?_
      refine z_icmp_eq (tgt := 135) hx hb o4 (by decide) dX4_fetchM_121 (by decide) (fun k6 => ?_) (fun k6 => ?_)
      · replace hw := hw.1 k6
        exact j135 v5 σ _ _ _ hP hD hS (lv_sub hl [0, 3] rfl) hw
      · replace hw := hw.2 k6
        refine lv_iload_n hx hb dX4_fetchM_124 rfl (lv_at hl 1 rfl) ?_
        refine lv_bipush (v := Int32.ofInt 6) hx hb dX4_fetchM_125 (by decide) ?_
        refine z_icmp_ne (tgt := 139) hx hb o4 (by decide) dX4_fetchM_127 (by decide) (fun k7 => ?_) (fun k7 => ?_)
        · replace hw := hw.1 k7
          exact j139 v5 σ _ _ _ hP hD hS (lv_sub hl [0, 3] rfl) hw
        · replace hw := hw.2 k7
          refine lv_iload hx hb dX4_fetchM_130 (lv_at hl 2 rfl) ?_
          obtain ⟨o8, hw⟩ := hw
          refine z_if_ne (tgt := 139) hx hb o8 dX4_fetchM_132 (by decide) (fun k9 => ?_) (fun k9 => ?_)
          · replace hw := hw.1 k9
            exact j139 v5 σ _ _ _ hP hD hS (lv_sub hl [0, 3] rfl) hw
          · replace hw := hw.2 k9
            exact j135 v5 σ _ _ _ hP hD hS (lv_sub hl [0, 3] rfl) hw
  have j88 : ∀ (v3 v4 v5 : Int) (σ : ZS), ∀ (H : Heap) (locs : List Loc) (ls : Array Slot), va_P D vwC (zC dA ad σ) H → va_D A (zC dA ad σ) → va_S A s.heap H locs → lv_has ls 7 [(0, .ref (ad 18 1000)), (3, .int (Int32.ofInt v3)), (4, .int (Int32.ofInt v4)), (5, .int (Int32.ofInt v5))] → wpX4_fetchM_88 v3 v4 v5 σ Q → W p l e (gR 3 0 0) s m #[.ref (ad 18 1000)] below meth c H locs 0 0 QQ (F0 m 88 ls []) := by
    intro v3 v4 v5 σ H locs ls hP hD hS hl hw
    unfold wpX4_fetchM_88 at hw
    refine lv_iload hx hb dX4_fetchM_88 (lv_at hl 3 rfl) ?_
    refine lv_aload_n hx hb dX4_fetchM_90 rfl (lv_at hl 0 rfl) ?_
    refine z_Vi (n := 0) (As := []) (rest := [.int (Int32.ofInt v5)]) hx hb hml hg hown hK hP hD hS hA (kX4_fetchWord l D dA ad σ _ _ hw) (zoC18) rfl q1431 q159 q1428 q1430 q59 (by decide +kernel) ⟨(Nat.le_of_ble_eq_true rfl), (Nat.le_of_ble_eq_true rfl)⟩ rfl hl.1 rfl (Nat.le_of_ble_eq_true rfl) dX4_fetchM_91 ⟨(Nat.le_of_ble_eq_true rfl), (Nat.le_of_ble_eq_true rfl)⟩ (fun x10 σ11 H locs hw hP hD hS => ?_)
    refine z_iadd hx hb dX4_fetchM_94 ?_
    refine lv_istore (lv' := [(5, .int (Int32.ofInt (v5 + x10))), (0, .ref (ad 18 1000)), (3, .int (Int32.ofInt v3)), (4, .int (Int32.ofInt v4))]) hx hb dX4_fetchM_95 hl (by decide) rfl (fun ls hl => ?_)
    refine lv_goto (tgt := 114) hx hb dX4_fetchM_97 (by decide) ?_
    exact j114 v3 v4 (v5 + x10) σ11 _ _ _ hP hD hS (lv_sub hl [1, 2, 3, 0] rfl) hw
  have j76 : ∀ (v2 v3 v4 s0 : Int) (σ : ZS), ∀ (H : Heap) (locs : List Loc) (ls : Array Slot), va_P D vwC (zC dA ad σ) H → va_D A (zC dA ad σ) → va_S A s.heap H locs → lv_has ls 7 [(0, .ref (ad 18 1000)), (2, .int (Int32.ofInt v2)), (3, .int (Int32.ofInt v3)), (4, .int (Int32.ofInt v4))] → wpX4_fetchM_76 v2 v3 v4 s0 σ Q → W p l e (gR 3 0 0) s m #[.ref (ad 18 1000)] below meth c H locs 0 0 QQ (F0 m 76 ls [.int (Int32.ofInt s0)]) := by
    intro v2 v3 v4 s0 σ H locs ls hP hD hS hl hw
    unfold wpX4_fetchM_76 at hw
    refine lv_istore (lv' := [(5, .int (Int32.ofInt s0)), (0, .ref (ad 18 1000)), (2, .int (Int32.ofInt v2)), (3, .int (Int32.ofInt v3)), (4, .int (Int32.ofInt v4))]) hx hb dX4_fetchM_76 hl (by decide) rfl (fun ls hl => ?_)
    refine lv_iload hx hb dX4_fetchM_78 (lv_at hl 4 rfl) ?_
    obtain ⟨o12, hw⟩ := hw
    refine z_if_ne (tgt := 88) hx hb o12 dX4_fetchM_80 (by decide) (fun k13 => ?_) (fun k13 => ?_)
    · replace hw := hw.1 k13
      exact j88 v3 v4 s0 σ _ _ _ hP hD hS (lv_sub hl [1, 3, 4, 0] rfl) hw
    · replace hw := hw.2 k13
      refine lv_iload_n hx hb dX4_fetchM_83 rfl (lv_at hl 2 rfl) ?_
      refine lv_iconst (v := Int32.ofInt 2) hx hb dX4_fetchM_84 (by decide) ?_
      obtain ⟨o14, hw⟩ := hw
      refine z_icmp_ne (tgt := 100) hx hb o14 (by decide) dX4_fetchM_85 (by decide) (fun k15 => ?_) (fun k15 => ?_)
      · replace hw := hw.1 k15
        refine lv_iload_n hx hb dX4_fetchM_100 rfl (lv_at hl 2 rfl) ?_
        refine lv_iconst (v := Int32.ofInt 1) hx hb dX4_fetchM_101 (by decide) ?_
        refine z_icmp_ne (tgt := 114) hx hb o14 (by decide) dX4_fetchM_102 (by decide) (fun k16 => ?_) (fun k16 => ?_)
        · replace hw := hw.1 k16
          exact j114 v3 v4 s0 σ _ _ _ hP hD hS (lv_sub hl [1, 3, 4, 0] rfl) hw
        · replace hw := hw.2 k16
          refine lv_iload hx hb dX4_fetchM_105 (lv_at hl 0 rfl) ?_
          refine lv_aload_n hx hb dX4_fetchM_107 rfl (lv_at hl 1 rfl) ?_
          refine z_Vi (n := 0) (As := []) (rest := [.int (Int32.ofInt s0)]) hx hb hml hg hown hK hP hD hS hA (kX4_fetchSigned l D dA ad σ _ _ hw) (zoC18) rfl q1435 q159 q1432 q1434 q60 (by decide +kernel) ⟨(Nat.le_of_ble_eq_true rfl), (Nat.le_of_ble_eq_true rfl)⟩ rfl hl.1 rfl (Nat.le_of_ble_eq_true rfl) dX4_fetchM_108 ⟨(Nat.le_of_ble_eq_true rfl), (Nat.le_of_ble_eq_true rfl)⟩ (fun x17 σ18 H locs hw hP hD hS => ?_)
          refine z_iadd hx hb dX4_fetchM_111 ?_
          refine lv_istore (lv' := [(5, .int (Int32.ofInt (s0 + x17))), (0, .ref (ad 18 1000)), (2, .int (Int32.ofInt v2)), (3, .int (Int32.ofInt v3)), (4, .int (Int32.ofInt v4))]) hx hb dX4_fetchM_112 hl (by decide) rfl (fun ls hl => ?_)
          exact j114 v3 v4 (s0 + x17) σ18 _ _ _ hP hD hS (lv_sub hl [1, 3, 4, 0] rfl) hw
      · replace hw := hw.2 k15
        exact j88 v3 v4 s0 σ _ _ _ hP hD hS (lv_sub hl [1, 3, 4, 0] rfl) hw
  have j60 : ∀ (v2 v3 s0 : Int) (σ : ZS), ∀ (H : Heap) (locs : List Loc) (ls : Array Slot), va_P D vwC (zC dA ad σ) H → va_D A (zC dA ad σ) → va_S A s.heap H locs → lv_has ls 7 [(0, .ref (ad 18 1000)), (2, .int (Int32.ofInt v2)), (3, .int (Int32.ofInt v3))] → wpX4_fetchM_60 v2 v3 s0 σ Q → W p l e (gR 3 0 0) s m #[.ref (ad 18 1000)] below meth c H locs 0 0 QQ (F0 m 60 ls [.int (Int32.ofInt s0)]) := by
    intro v2 v3 s0 σ H locs ls hP hD hS hl hw
    unfold wpX4_fetchM_60 at hw
    refine lv_istore (lv' := [(4, .int (Int32.ofInt s0)), (0, .ref (ad 18 1000)), (2, .int (Int32.ofInt v2)), (3, .int (Int32.ofInt v3))]) hx hb dX4_fetchM_60 hl (by decide) rfl (fun ls hl => ?_)
    refine lv_iload hx hb dX4_fetchM_62 (lv_at hl 0 rfl) ?_
    obtain ⟨o19, hw⟩ := hw
    refine z_if_eq (tgt := 71) hx hb o19 dX4_fetchM_64 (by decide) (fun k20 => ?_) (fun k20 => ?_)
    · replace hw := hw.1 k20
      refine lv_aload_n hx hb dX4_fetchM_71 rfl (lv_at hl 1 rfl) ?_
      refine lv_iload_n hx hb dX4_fetchM_72 rfl (lv_at hl 3 rfl) ?_
      refine z_Vi (n := 1) (As := [.int (Int32.ofInt v3)]) (rest := []) hx hb hml hg hown hK hP hD hS hA (kX4_registerSum l D dA ad v3 σ _ _ hw) (zoC18) rfl q1427 q159 q1424 q1426 q58 (by decide +kernel) ⟨(Nat.le_of_ble_eq_true rfl), (Nat.le_of_ble_eq_true rfl)⟩ rfl hl.1 rfl (Nat.le_of_ble_eq_true rfl) dX4_fetchM_73 ⟨(Nat.le_of_ble_eq_true rfl), (Nat.le_of_ble_eq_true rfl)⟩ (fun x21 σ22 H locs hw hP hD hS => ?_)
      exact j76 v2 v3 s0 x21 σ22 _ _ _ hP hD hS (lv_sub hl [1, 2, 3, 0] rfl) hw
    · replace hw := hw.2 k20
      refine lv_iconst (v := Int32.ofInt 0) hx hb dX4_fetchM_67 (by decide) ?_
      refine lv_goto (tgt := 76) hx hb dX4_fetchM_68 (by decide) ?_
      exact j76 v2 v3 s0 0 σ _ _ _ hP hD hS (lv_sub hl [1, 2, 3, 0] rfl) hw
  have j59 : ∀ (v2 v3 : Int) (σ : ZS), ∀ (H : Heap) (locs : List Loc) (ls : Array Slot), va_P D vwC (zC dA ad σ) H → va_D A (zC dA ad σ) → va_S A s.heap H locs → lv_has ls 7 [(0, .ref (ad 18 1000)), (2, .int (Int32.ofInt v2)), (3, .int (Int32.ofInt v3))] → wpX4_fetchM_59 v2 v3 σ Q → W p l e (gR 3 0 0) s m #[.ref (ad 18 1000)] below meth c H locs 0 0 QQ (F0 m 59 ls []) := by
    intro v2 v3 σ H locs ls hP hD hS hl hw
    unfold wpX4_fetchM_59 at hw
    refine lv_iconst (v := Int32.ofInt 0) hx hb dX4_fetchM_59 (by decide) ?_
    exact j60 v2 v3 0 σ _ _ _ hP hD hS (lv_sub hl [0, 1, 2] rfl) hw
  have j36 : ∀ (v2 v3 s1 : Int) (σ : ZS), ∀ (H : Heap) (locs : List Loc) (ls : Array Slot), va_P D vwC (zC dA ad σ) H → va_D A (zC dA ad σ) → va_S A s.heap H locs → lv_has ls 7 [(0, .ref (ad 18 1000)), (2, .int (Int32.ofInt v2)), (3, .int (Int32.ofInt v3))] → wpX4_fetchM_36 v2 v3 s1 σ Q → W p l e (gR 3 0 0) s m #[.ref (ad 18 1000)] below meth c H locs 0 0 QQ (F0 m 36 ls [.int (Int32.ofInt s1), .ref (ad 18 1000)]) := by
    intro v2 v3 s1 σ H locs ls hP hD hS hl hw
    unfold wpX4_fetchM_36 at hw
    refine zpC18_12 (v := s1) hx hb hg hown hK hP hD hS q575 dX4_fetchM_36 (fun H locs hP hD hS => ?_)
    refine lv_iload_n hx hb dX4_fetchM_39 rfl (lv_at hl 1 rfl) ?_
    refine lv_iconst (v := Int32.ofInt 3) hx hb dX4_fetchM_40 (by decide) ?_
    obtain ⟨o23, hw⟩ := hw
    refine z_icmp_ne (tgt := 45) hx hb o23 (by decide) dX4_fetchM_41 (by decide) (fun k24 => ?_) (fun k24 => ?_)
    · replace hw := hw.1 k24
      refine lv_iload_n hx hb dX4_fetchM_45 rfl (lv_at hl 1 rfl) ?_
      refine z_if_ne (tgt := 59) hx hb o23 dX4_fetchM_46 (by decide) (fun k25 => ?_) (fun k25 => ?_)
      · replace hw := hw.1 k25
        exact j59 v2 v3 (zsI σ 18 12 s1) _ _ _ hP hD hS (lv_sub hl [0, 1, 2] rfl) hw
      · replace hw := hw.2 k25
        refine lv_iload_n hx hb dX4_fetchM_49 rfl (lv_at hl 2 rfl) ?_
        refine lv_bipush (v := Int32.ofInt 6) hx hb dX4_fetchM_50 (by decide) ?_
        obtain ⟨o26, hw⟩ := hw
        refine z_icmp_ne (tgt := 59) hx hb o26 (by decide) dX4_fetchM_52 (by decide) (fun k27 => ?_) (fun k27 => ?_)
        · replace hw := hw.1 k27
          exact j59 v2 v3 (zsI σ 18 12 s1) _ _ _ hP hD hS (lv_sub hl [0, 1, 2] rfl) hw
        · replace hw := hw.2 k27
          refine lv_iconst (v := Int32.ofInt 1) hx hb dX4_fetchM_55 (by decide) ?_
          refine lv_goto (tgt := 60) hx hb dX4_fetchM_56 (by decide) ?_
          exact j60 v2 v3 1 (zsI σ 18 12 s1) _ _ _ hP hD hS (lv_sub hl [0, 1, 2] rfl) hw
    · replace hw := hw.2 k24
      exact hret (zsI σ 18 12 s1) _ _ _ _ hw hP hD hS dX4_fetchM_44
  unfold wpX4_fetchM at hw
  refine lv_aload_n hx hb dX4_fetchM_0 rfl (lv_at hl 0 rfl) ?_
  refine z_Vi (n := 0) (As := []) (rest := []) hx hb hml hg hown hK hP hD hS hA (kX4_fetch l D dA ad σ _ _ hw) (zoC18) rfl q1399 q159 q1396 q1398 q52 (by decide +kernel) ⟨(Nat.le_of_ble_eq_true rfl), (Nat.le_of_ble_eq_true rfl)⟩ rfl hl.1 rfl (Nat.le_of_ble_eq_true rfl) dX4_fetchM_1 ⟨(Nat.le_of_ble_eq_true rfl), (Nat.le_of_ble_eq_true rfl)⟩ (fun x28 σ29 H locs hw hP hD hS => ?_)
  refine lv_istore_n (lv' := [(1, .int (Int32.ofInt x28)), (0, .ref (ad 18 1000))]) hx hb dX4_fetchM_4 rfl hl (by decide) rfl (fun ls hl => ?_)
  refine lv_iload_n hx hb dX4_fetchM_5 rfl (lv_at hl 0 rfl) ?_
  refine lv_bipush (v := Int32.ofInt 6) hx hb dX4_fetchM_6 (by decide) ?_
  obtain ⟨o30, hw⟩ := hw
  refine z_ishrK (M := 64) hx hb 6 (by decide) (by decide) (by decide) o30 dX4_fetchM_8 ?_
  refine lv_istore_n (lv' := [(2, .int (Int32.ofInt (x28 / 64))), (1, .int (Int32.ofInt x28)), (0, .ref (ad 18 1000))]) hx hb dX4_fetchM_9 rfl hl (by decide) rfl (fun ls hl => ?_)
  refine lv_iload_n hx hb dX4_fetchM_10 rfl (lv_at hl 1 rfl) ?_
  refine lv_bipush (v := Int32.ofInt 7) hx hb dX4_fetchM_11 (by decide) ?_
  refine z_iandK (M := 8) hx hb 3 (by decide) (by decide) (by decide) dX4_fetchM_13 ?_
  refine lv_istore_n (lv' := [(3, .int (Int32.ofInt (x28 % 8))), (2, .int (Int32.ofInt (x28 / 64))), (1, .int (Int32.ofInt x28)), (0, .ref (ad 18 1000))]) hx hb dX4_fetchM_14 rfl hl (by decide) rfl (fun ls hl => ?_)
  refine lv_aload_n hx hb dX4_fetchM_15 rfl (lv_at hl 3 rfl) ?_
  refine lv_iload_n hx hb dX4_fetchM_16 rfl (lv_at hl 2 rfl) ?_
  refine lv_iconst (v := Int32.ofInt 3) hx hb dX4_fetchM_17 (by decide) ?_
  refine z_ishrK (M := 8) hx hb 3 (by decide) (by decide) (by decide) o30 dX4_fetchM_18 ?_
  refine lv_bipush (v := Int32.ofInt 7) hx hb dX4_fetchM_19 (by decide) ?_
  refine z_iandK (M := 8) hx hb 3 (by decide) (by decide) (by decide) dX4_fetchM_21 ?_
  refine zpC18_11 (v := ((x28 / 8) % 8)) hx hb hg hown hK hP hD hS q574 dX4_fetchM_22 (fun H locs hP hD hS => ?_)
  refine lv_aload_n hx hb dX4_fetchM_25 rfl (lv_at hl 3 rfl) ?_
  refine lv_iload_n hx hb dX4_fetchM_26 rfl (lv_at hl 1 rfl) ?_
  refine lv_iconst (v := Int32.ofInt 3) hx hb dX4_fetchM_27 (by decide) ?_
  refine z_icmp_ne (tgt := 35) hx hb (by clear hw; omega) (by decide) dX4_fetchM_28 (by decide) (fun k31 => ?_) (fun k31 => ?_)
  · replace hw := hw.1 k31
    refine lv_iconst (v := Int32.ofInt (-1)) hx hb dX4_fetchM_35 (by decide) ?_
    exact j36 (x28 / 64) (x28 % 8) (-1) (zsI σ29 18 11 ((x28 / 8) % 8)) _ _ _ hP hD hS (lv_sub hl [3, 1, 0] rfl) hw
  · replace hw := hw.2 k31
    refine lv_iload_n hx hb dX4_fetchM_31 rfl (lv_at hl 0 rfl) ?_
    refine lv_goto (tgt := 36) hx hb dX4_fetchM_32 (by decide) ?_
    exact j36 (x28 / 64) (x28 % 8) (x28 % 8) (zsI σ29 18 11 ((x28 / 8) % 8)) _ _ _ hP hD hS (lv_sub hl [3, 1, 0] rfl) hw
def wpX4_readM_27 (s0 : Int) (σ : ZS) (Q : Int → ZS → Prop) : Prop := Q s0 σ
def wpX4_readM (σ : ZS) (Q : Int → ZS → Prop) : Prop := (-2147483648 ≤ (zI σ 18 12) ∧ (zI σ 18 12) ≤ 2147483647) ∧ ((zI σ 18 12) < 0 → wpX4_word (zI σ 18 13) σ (fun (x3 : Int) (σ4 : ZS) => wpX4_readM_27 x3 σ4 Q)) ∧ (¬ (zI σ 18 12) < 0 → (0 ≤ (zI σ 18 12) ∧ (zI σ 18 12) < 8) ∧ wpX4_readM_27 (zA σ 18 1 (zI σ 18 12)) σ Q)
set_option maxHeartbeats 4000000 in
set_option maxRecDepth 100000 in
theorem kX4_readM (l : Launch) (D : va_G) (dA : Nat → ClassId) (ad : Int → Nat → Nat) (σ : ZS) (Q : Int → ZS → Prop) (sz : Nat) (hw : wpX4_readM σ Q) : Met l yX4_readM (gws yX4_readM cX4_readM 1 (some .int)) (gR 2 0 0) (gPre D dA [.ref (ad 18 1000)] (zC dA ad σ) sz) (va_Qi (zQi Q) (gAt D dA (va_A (zC dA ad σ) sz) (zC dA ad)) (va_A (zC dA ad σ) sz)) 0 0 (va_A (zC dA ad σ) sz) := by
  refine Met.ofW (cc := cX4_readM) (maxL := 1) (ret := (some .int)) (by decide) rfl ?_
  intro p e s m args below meth c s₁ B hml hv
  obtain ⟨rfl, hsz, hP, hK, hD0⟩ := hv
  have hx := B.exec
  have hb := B.bytes
  have hr := B.returns
  have hts := atoms_spec (ws := gws yX4_readM cX4_readM 1 (some .int)) B.pre
  have hg : ∀ w ∈ gw, w.before _ s = true := fun w h => hts w (List.mem_cons_of_mem _ h)
  have hown : s.vm.findClass RX4 = some m.cls := findClass_of_methodNamed B.named
  have hlocks := B.notSynchronized
  subst hsz
  have hD := hD0.self (sz := s.heap.size)
  generalize hAe : va_A (zC dA ad σ) s.heap.size = A at hD ⊢
  have hA : ∀ q : Nat, s.heap.size ≤ q → A q := fun q h => by rw [← hAe]; exact Or.inr h
  have hS : va_S A s.heap s.heap [] := va_S.rf
  have hl := lv_entry ([.ref (ad 18 1000)]) (n := 1) (Nat.le_of_ble_eq_true rfl)
  rw [lg_entry_eq]
  generalize (lg_sl ([.ref (ad 18 1000)]) ++ List.replicate (1 - (lg_sl ([.ref (ad 18 1000)])).length) Slot.unset).toArray = ls at hl ⊢
  have hl : lv_has ls 1 [(0, .ref (ad 18 1000))] := hl
  have hret : ∀ (v : Int) (σ : ZS) (H : Heap) (locs : List Loc) (ls : Array Slot) (pc : Nat), Q v σ → va_P D vwC (zC dA ad σ) H → va_D A (zC dA ad σ) → va_S A s.heap H locs → decode cX4_readM pc = .ok (.ireturn, 1) → W p l e (gR 2 0 0) s m #[.ref (ad 18 1000)] below meth c H locs 0 0 (MQ below (va_Qi (zQi Q) (gAt D dA A (zC dA ad)) A) #[.ref (ad 18 1000)] s 0 0 A) (F0 m pc ls [.int (Int32.ofInt v)]) := fun v σ H locs ls pc hw hP hD hS hd => g_iret hx hb hr rfl hlocks hK σ hP hD hS ⟨v, rfl, hw⟩ (Nat.le_of_ble_eq_true rfl) (Nat.le_of_ble_eq_true rfl) hd
  generalize MQ below (va_Qi (zQi Q) (gAt D dA A (zC dA ad)) A) #[.ref (ad 18 1000)] s 0 0 A = QQ at hret ⊢
  have j27 : ∀ (s0 : Int) (σ : ZS), ∀ (H : Heap) (locs : List Loc) (ls : Array Slot), va_P D vwC (zC dA ad σ) H → va_D A (zC dA ad σ) → va_S A s.heap H locs → lv_has ls 1 [] → wpX4_readM_27 s0 σ Q → W p l e (gR 2 0 0) s m #[.ref (ad 18 1000)] below meth c H locs 0 0 QQ (F0 m 27 ls [.int (Int32.ofInt s0)]) := by
    intro s0 σ H locs ls hP hD hS hl hw
    unfold wpX4_readM_27 at hw
    exact hret s0 σ _ _ _ _ hw hP hD hS dX4_readM_27
  unfold wpX4_readM at hw
  refine lv_aload_n hx hb dX4_readM_0 rfl (lv_at hl 0 rfl) ?_
  refine zgC18_12 hx hb hg hown hK hP q575 dX4_readM_1 ?_
  obtain ⟨o1, hw⟩ := hw
  refine z_if_lt (tgt := 19) hx hb o1 dX4_readM_4 (by decide) (fun k2 => ?_) (fun k2 => ?_)
  · replace hw := hw.1 k2
    refine lv_aload_n hx hb dX4_readM_19 rfl (lv_at hl 0 rfl) ?_
    refine lv_aload_n hx hb dX4_readM_20 rfl (lv_at hl 0 rfl) ?_
    refine zgC18_13 hx hb hg hown hK hP q576 dX4_readM_21 ?_
    refine z_Vi (n := 1) (As := [.int (Int32.ofInt (zI σ 18 13))]) (rest := []) hx hb hml hg hown hK hP hD hS hA (kX4_word l D dA ad (zI σ 18 13) σ _ _ hw) (zoC18) rfl q1378 q159 q1375 q1377 q50 (by decide +kernel) ⟨(Nat.le_of_ble_eq_true rfl), (Nat.le_of_ble_eq_true rfl)⟩ rfl hl.1 rfl (Nat.le_of_ble_eq_true rfl) dX4_readM_24 ⟨(Nat.le_of_ble_eq_true rfl), (Nat.le_of_ble_eq_true rfl)⟩ (fun x3 σ4 H locs hw hP hD hS => ?_)
    exact j27 x3 σ4 _ _ _ hP hD hS (lv_sub hl [] rfl) hw
  · replace hw := hw.2 k2
    refine lv_aload_n hx hb dX4_readM_7 rfl (lv_at hl 0 rfl) ?_
    refine zgC18_1 hx hb hg hown hK hP q554 dX4_readM_8 ?_
    refine lv_aload_n hx hb dX4_readM_11 rfl (lv_at hl 0 rfl) ?_
    refine zgC18_12 hx hb hg hown hK hP q575 dX4_readM_12 ?_
    obtain ⟨o5, hw⟩ := hw
    refine zlC18_1 hx hb o5 hK hP dX4_readM_15 ?_
    refine lv_goto (tgt := 27) hx hb dX4_readM_16 (by decide) ?_
    exact j27 (zA σ 18 1 (zI σ 18 12)) σ _ _ _ hP hD hS (lv_sub hl [] rfl) hw
def wpX4_judge_10 (v1 s1 : Int) (σ : ZS) (Q : ZS → Prop) : Prop := (-2147483648 ≤ v1 ∧ v1 ≤ 2147483647) ∧ Q (zsI (zsI σ 18 5 s1) 18 6 (v1 / 32768))
def wpX4_judge (a1 : Int) (σ : ZS) (Q : ZS → Prop) : Prop := (-2147483648 ≤ a1 ∧ a1 ≤ 2147483647) ∧ (¬ a1 = 0 → wpX4_judge_10 a1 0 σ Q) ∧ (a1 = 0 → wpX4_judge_10 a1 1 σ Q)
set_option maxHeartbeats 4000000 in
set_option maxRecDepth 100000 in
theorem kX4_judge (l : Launch) (D : va_G) (dA : Nat → ClassId) (ad : Int → Nat → Nat) (a1 : Int) (σ : ZS) (Q : ZS → Prop) (sz : Nat) (hw : wpX4_judge a1 σ Q) : Met l yX4_judge (gws yX4_judge cX4_judge 2 none) (gR 1 0 0) (gPre D dA [.ref (ad 18 1000), .int (Int32.ofInt a1)] (zC dA ad σ) sz) (va_Qv Q (gAt D dA (va_A (zC dA ad σ) sz) (zC dA ad)) (va_A (zC dA ad σ) sz)) 0 0 (va_A (zC dA ad σ) sz) := by
  refine Met.ofW (cc := cX4_judge) (maxL := 2) (ret := none) (by decide) rfl ?_
  intro p e s m args below meth c s₁ B hml hv
  obtain ⟨rfl, hsz, hP, hK, hD0⟩ := hv
  have hx := B.exec
  have hb := B.bytes
  have hr := B.returns
  have hts := atoms_spec (ws := gws yX4_judge cX4_judge 2 none) B.pre
  have hg : ∀ w ∈ gw, w.before _ s = true := fun w h => hts w (List.mem_cons_of_mem _ h)
  have hown : s.vm.findClass RX4 = some m.cls := findClass_of_methodNamed B.named
  have hlocks := B.notSynchronized
  subst hsz
  have hD := hD0.self (sz := s.heap.size)
  generalize hAe : va_A (zC dA ad σ) s.heap.size = A at hD ⊢
  have hA : ∀ q : Nat, s.heap.size ≤ q → A q := fun q h => by rw [← hAe]; exact Or.inr h
  have hS : va_S A s.heap s.heap [] := va_S.rf
  have hl := lv_entry ([.ref (ad 18 1000), .int (Int32.ofInt a1)]) (n := 2) (Nat.le_of_ble_eq_true rfl)
  rw [lg_entry_eq]
  generalize (lg_sl ([.ref (ad 18 1000), .int (Int32.ofInt a1)]) ++ List.replicate (2 - (lg_sl ([.ref (ad 18 1000), .int (Int32.ofInt a1)])).length) Slot.unset).toArray = ls at hl ⊢
  have hl : lv_has ls 2 [(0, .ref (ad 18 1000)), (1, .int (Int32.ofInt a1))] := hl
  have hret : ∀ (σ : ZS) (H : Heap) (locs : List Loc) (ls : Array Slot) (pc : Nat), Q σ → va_P D vwC (zC dA ad σ) H → va_D A (zC dA ad σ) → va_S A s.heap H locs → decode cX4_judge pc = .ok (.return_, 1) → W p l e (gR 1 0 0) s m #[.ref (ad 18 1000), .int (Int32.ofInt a1)] below meth c H locs 0 0 (MQ below (va_Qv Q (gAt D dA A (zC dA ad)) A) #[.ref (ad 18 1000), .int (Int32.ofInt a1)] s 0 0 A) (F0 m pc ls []) := fun σ H locs ls pc hw hP hD hS hd => g_vret hx hb hr hlocks hK σ hP hD hS hw (Nat.le_of_ble_eq_true rfl) (Nat.le_of_ble_eq_true rfl) hd
  generalize MQ below (va_Qv Q (gAt D dA A (zC dA ad)) A) #[.ref (ad 18 1000), .int (Int32.ofInt a1)] s 0 0 A = QQ at hret ⊢
  have j10 : ∀ (v1 s1 : Int) (σ : ZS), ∀ (H : Heap) (locs : List Loc) (ls : Array Slot), va_P D vwC (zC dA ad σ) H → va_D A (zC dA ad σ) → va_S A s.heap H locs → lv_has ls 2 [(0, .ref (ad 18 1000)), (1, .int (Int32.ofInt v1))] → wpX4_judge_10 v1 s1 σ Q → W p l e (gR 1 0 0) s m #[.ref (ad 18 1000), .int (Int32.ofInt a1)] below meth c H locs 0 0 QQ (F0 m 10 ls [.int (Int32.ofInt s1), .ref (ad 18 1000)]) := by
    intro v1 s1 σ H locs ls hP hD hS hl hw
    unfold wpX4_judge_10 at hw
    refine zpC18_5 (v := s1) hx hb hg hown hK hP hD hS q562 dX4_judge_10 (fun H locs hP hD hS => ?_)
    refine lv_aload_n hx hb dX4_judge_13 rfl (lv_at hl 0 rfl) ?_
    refine lv_iload_n hx hb dX4_judge_14 rfl (lv_at hl 1 rfl) ?_
    refine lv_bipush (v := Int32.ofInt 15) hx hb dX4_judge_15 (by decide) ?_
    obtain ⟨o1, hw⟩ := hw
    refine z_ishrK (M := 32768) hx hb 15 (by decide) (by decide) (by decide) o1 dX4_judge_17 ?_
    refine zpC18_6 (v := (v1 / 32768)) hx hb hg hown hK hP hD hS q564 dX4_judge_18 (fun H locs hP hD hS => ?_)
    exact hret (zsI (zsI σ 18 5 s1) 18 6 (v1 / 32768)) _ _ _ _ hw hP hD hS dX4_judge_21
  unfold wpX4_judge at hw
  refine lv_aload_n hx hb dX4_judge_0 rfl (lv_at hl 0 rfl) ?_
  refine lv_iload_n hx hb dX4_judge_1 rfl (lv_at hl 1 rfl) ?_
  obtain ⟨o2, hw⟩ := hw
  refine z_if_ne (tgt := 9) hx hb o2 dX4_judge_2 (by decide) (fun k3 => ?_) (fun k3 => ?_)
  · replace hw := hw.1 k3
    refine lv_iconst (v := Int32.ofInt 0) hx hb dX4_judge_9 (by decide) ?_
    exact j10 a1 0 σ _ _ _ hP hD hS (lv_sub hl [0, 1] rfl) hw
  · replace hw := hw.2 k3
    refine lv_iconst (v := Int32.ofInt 1) hx hb dX4_judge_5 (by decide) ?_
    refine lv_goto (tgt := 10) hx hb dX4_judge_6 (by decide) ?_
    exact j10 a1 1 σ _ _ _ hP hD hS (lv_sub hl [0, 1] rfl) hw
def wpX4_arithmetic_81 (v4 : Int) (σ : ZS) (Q : Int → ZS → Prop) : Prop := (-2147483648 ≤ v4 ∧ v4 ≤ 2147483647) ∧ wpX4_judge (v4 % 65536) (zsI σ 18 4 ((v4 / 65536) % 2)) (fun (σ3 : ZS) => Q (v4 % 65536) σ3)
def wpX4_arithmetic_76 (v2 v3 : Int) (σ : ZS) (Q : Int → ZS → Prop) : Prop := wpX4_arithmetic_81 (v2 - v3) σ Q
def wpX4_arithmetic (a1 a2 a3 : Int) (σ : ZS) (Q : Int → ZS → Prop) : Prop := (-2147483648 ≤ a1 ∧ a1 ≤ 2147483647) ∧ (a1 = 0 → wpX4_arithmetic_81 (a2 + a3) σ Q) ∧ (¬ a1 = 0 → (a1 = 1 → wpX4_arithmetic_81 (zor a2 a3) σ Q) ∧ (¬ a1 = 1 → (a1 = 2 → wpX4_arithmetic_76 a2 a3 σ Q) ∧ (¬ a1 = 2 → (a1 = 3 → wpX4_arithmetic_76 a2 a3 σ Q) ∧ (¬ a1 = 3 → (a1 = 4 → wpX4_arithmetic_81 (zand a2 a3) σ Q) ∧ (¬ a1 = 4 → (a1 = 5 → wpX4_arithmetic_76 a2 a3 σ Q) ∧ (¬ a1 = 5 → (a1 = 6 → wpX4_arithmetic_81 (zxor a2 a3) σ Q) ∧ (¬ a1 = 6 → wpX4_arithmetic_76 a2 a3 σ Q)))))))
set_option maxHeartbeats 4000000 in
set_option maxRecDepth 100000 in
theorem kX4_arithmetic (l : Launch) (D : va_G) (dA : Nat → ClassId) (ad : Int → Nat → Nat) (a1 a2 a3 : Int) (σ : ZS) (Q : Int → ZS → Prop) (sz : Nat) (hw : wpX4_arithmetic a1 a2 a3 σ Q) : Met l yX4_arithmetic (gws yX4_arithmetic cX4_arithmetic 5 (some .int)) (gR 2 0 0) (gPre D dA [.ref (ad 18 1000), .int (Int32.ofInt a1), .int (Int32.ofInt a2), .int (Int32.ofInt a3)] (zC dA ad σ) sz) (va_Qi (zQi Q) (gAt D dA (va_A (zC dA ad σ) sz) (zC dA ad)) (va_A (zC dA ad σ) sz)) 0 0 (va_A (zC dA ad σ) sz) := by
  refine Met.ofW (cc := cX4_arithmetic) (maxL := 5) (ret := (some .int)) (by decide) rfl ?_
  intro p e s m args below meth c s₁ B hml hv
  obtain ⟨rfl, hsz, hP, hK, hD0⟩ := hv
  have hx := B.exec
  have hb := B.bytes
  have hr := B.returns
  have hts := atoms_spec (ws := gws yX4_arithmetic cX4_arithmetic 5 (some .int)) B.pre
  have hg : ∀ w ∈ gw, w.before _ s = true := fun w h => hts w (List.mem_cons_of_mem _ h)
  have hown : s.vm.findClass RX4 = some m.cls := findClass_of_methodNamed B.named
  have hlocks := B.notSynchronized
  subst hsz
  have hD := hD0.self (sz := s.heap.size)
  generalize hAe : va_A (zC dA ad σ) s.heap.size = A at hD ⊢
  have hA : ∀ q : Nat, s.heap.size ≤ q → A q := fun q h => by rw [← hAe]; exact Or.inr h
  have hS : va_S A s.heap s.heap [] := va_S.rf
  have hl := lv_entry ([.ref (ad 18 1000), .int (Int32.ofInt a1), .int (Int32.ofInt a2), .int (Int32.ofInt a3)]) (n := 5) (Nat.le_of_ble_eq_true rfl)
  rw [lg_entry_eq]
  generalize (lg_sl ([.ref (ad 18 1000), .int (Int32.ofInt a1), .int (Int32.ofInt a2), .int (Int32.ofInt a3)]) ++ List.replicate (5 - (lg_sl ([.ref (ad 18 1000), .int (Int32.ofInt a1), .int (Int32.ofInt a2), .int (Int32.ofInt a3)])).length) Slot.unset).toArray = ls at hl ⊢
  have hl : lv_has ls 5 [(0, .ref (ad 18 1000)), (1, .int (Int32.ofInt a1)), (2, .int (Int32.ofInt a2)), (3, .int (Int32.ofInt a3))] := hl
  have hret : ∀ (v : Int) (σ : ZS) (H : Heap) (locs : List Loc) (ls : Array Slot) (pc : Nat), Q v σ → va_P D vwC (zC dA ad σ) H → va_D A (zC dA ad σ) → va_S A s.heap H locs → decode cX4_arithmetic pc = .ok (.ireturn, 1) → W p l e (gR 2 0 0) s m #[.ref (ad 18 1000), .int (Int32.ofInt a1), .int (Int32.ofInt a2), .int (Int32.ofInt a3)] below meth c H locs 0 0 (MQ below (va_Qi (zQi Q) (gAt D dA A (zC dA ad)) A) #[.ref (ad 18 1000), .int (Int32.ofInt a1), .int (Int32.ofInt a2), .int (Int32.ofInt a3)] s 0 0 A) (F0 m pc ls [.int (Int32.ofInt v)]) := fun v σ H locs ls pc hw hP hD hS hd => g_iret hx hb hr rfl hlocks hK σ hP hD hS ⟨v, rfl, hw⟩ (Nat.le_of_ble_eq_true rfl) (Nat.le_of_ble_eq_true rfl) hd
  generalize MQ below (va_Qi (zQi Q) (gAt D dA A (zC dA ad)) A) #[.ref (ad 18 1000), .int (Int32.ofInt a1), .int (Int32.ofInt a2), .int (Int32.ofInt a3)] s 0 0 A = QQ at hret ⊢
  have j81 : ∀ (v4 : Int) (σ : ZS), ∀ (H : Heap) (locs : List Loc) (ls : Array Slot), va_P D vwC (zC dA ad σ) H → va_D A (zC dA ad σ) → va_S A s.heap H locs → lv_has ls 5 [(0, .ref (ad 18 1000)), (4, .int (Int32.ofInt v4))] → wpX4_arithmetic_81 v4 σ Q → W p l e (gR 2 0 0) s m #[.ref (ad 18 1000), .int (Int32.ofInt a1), .int (Int32.ofInt a2), .int (Int32.ofInt a3)] below meth c H locs 0 0 QQ (F0 m 81 ls []) := by
    intro v4 σ H locs ls hP hD hS hl hw
    unfold wpX4_arithmetic_81 at hw
    refine lv_aload_n hx hb dX4_arithmetic_81 rfl (lv_at hl 0 rfl) ?_
    refine lv_iload hx hb dX4_arithmetic_82 (lv_at hl 1 rfl) ?_
    refine lv_bipush (v := Int32.ofInt 16) hx hb dX4_arithmetic_84 (by decide) ?_
    obtain ⟨o1, hw⟩ := hw
    refine z_ishrK (M := 65536) hx hb 16 (by decide) (by decide) (by decide) o1 dX4_arithmetic_86 ?_
    refine lv_iconst (v := Int32.ofInt 1) hx hb dX4_arithmetic_87 (by decide) ?_
    refine z_iandK (M := 2) hx hb 1 (by decide) (by decide) (by decide) dX4_arithmetic_88 ?_
    refine zpC18_4 (v := ((v4 / 65536) % 2)) hx hb hg hown hK hP hD hS q560 dX4_arithmetic_89 (fun H locs hP hD hS => ?_)
    refine lv_aload_n hx hb dX4_arithmetic_92 rfl (lv_at hl 0 rfl) ?_
    refine lv_iload hx hb dX4_arithmetic_93 (lv_at hl 1 rfl) ?_
    refine lv_ldc hx hb hown (hg _ q1400) dX4_arithmetic_95 ?_
    refine g_nrm (y := Int32.ofInt 65535) (by decide) ?_
    refine z_iandK (M := 65536) hx hb 16 (by decide) (by decide) (by decide) dX4_arithmetic_97 ?_
    refine z_Vv (n := 1) (As := [.int (Int32.ofInt (v4 % 65536))]) (rest := []) hx hb hml hg hown hK hP hD hS hA (kX4_judge l D dA ad (v4 % 65536) (zsI σ 18 4 ((v4 / 65536) % 2)) _ _ hw) (zoC18) rfl q1451 q159 q1448 q1450 q64 (by decide +kernel) ⟨(Nat.le_of_ble_eq_true rfl), (Nat.le_of_ble_eq_true rfl)⟩ rfl hl.1 rfl (Nat.le_of_ble_eq_true rfl) dX4_arithmetic_98 ⟨(Nat.le_of_ble_eq_true rfl), (Nat.le_of_ble_eq_true rfl)⟩ (fun σ3 H locs hw hP hD hS => ?_)
    refine lv_iload hx hb dX4_arithmetic_101 (lv_at hl 1 rfl) ?_
    refine lv_ldc hx hb hown (hg _ q1400) dX4_arithmetic_103 ?_
    refine g_nrm (y := Int32.ofInt 65535) (by decide) ?_
    refine z_iandK (M := 65536) hx hb 16 (by decide) (by decide) (by decide) dX4_arithmetic_105 ?_
    exact hret (v4 % 65536) σ3 _ _ _ _ hw hP hD hS dX4_arithmetic_106
  have j76 : ∀ (v2 v3 : Int) (σ : ZS), ∀ (H : Heap) (locs : List Loc) (ls : Array Slot), va_P D vwC (zC dA ad σ) H → va_D A (zC dA ad σ) → va_S A s.heap H locs → lv_has ls 5 [(0, .ref (ad 18 1000)), (2, .int (Int32.ofInt v2)), (3, .int (Int32.ofInt v3))] → wpX4_arithmetic_76 v2 v3 σ Q → W p l e (gR 2 0 0) s m #[.ref (ad 18 1000), .int (Int32.ofInt a1), .int (Int32.ofInt a2), .int (Int32.ofInt a3)] below meth c H locs 0 0 QQ (F0 m 76 ls []) := by
    intro v2 v3 σ H locs ls hP hD hS hl hw
    unfold wpX4_arithmetic_76 at hw
    refine lv_iload_n hx hb dX4_arithmetic_76 rfl (lv_at hl 1 rfl) ?_
    refine lv_iload_n hx hb dX4_arithmetic_77 rfl (lv_at hl 2 rfl) ?_
    refine z_isub hx hb dX4_arithmetic_78 ?_
    refine lv_istore (lv' := [(4, .int (Int32.ofInt (v2 - v3))), (0, .ref (ad 18 1000)), (2, .int (Int32.ofInt v2)), (3, .int (Int32.ofInt v3))]) hx hb dX4_arithmetic_79 hl (by decide) rfl (fun ls hl => ?_)
    exact j81 (v2 - v3) σ _ _ _ hP hD hS (lv_sub hl [1, 0] rfl) hw
  unfold wpX4_arithmetic at hw
  refine lv_iload_n hx hb dX4_arithmetic_0 rfl (lv_at hl 1 rfl) ?_
  obtain ⟨o4, hw⟩ := hw
  have t5 := z_ti o4
  by_cases s6 : a1 = 0
  · replace hw := hw.1 s6
    refine lv_tableIn (tgt := 44) hx hb dX4_arithmetic_1 (by rw [t5, s6]; decide) (by rw [t5, s6]; decide) (by rw [t5, s6]; rfl) (by decide) ?_
    refine lv_iload_n hx hb dX4_arithmetic_44 rfl (lv_at hl 2 rfl) ?_
    refine lv_iload_n hx hb dX4_arithmetic_45 rfl (lv_at hl 3 rfl) ?_
    refine z_iadd hx hb dX4_arithmetic_46 ?_
    refine lv_istore (lv' := [(4, .int (Int32.ofInt (a2 + a3))), (0, .ref (ad 18 1000)), (1, .int (Int32.ofInt a1)), (2, .int (Int32.ofInt a2)), (3, .int (Int32.ofInt a3))]) hx hb dX4_arithmetic_47 hl (by decide) rfl (fun ls hl => ?_)
    refine lv_goto (tgt := 81) hx hb dX4_arithmetic_49 (by decide) ?_
    exact j81 (a2 + a3) σ _ _ _ hP hD hS (lv_sub hl [1, 0] rfl) hw
  replace hw := hw.2 s6
  by_cases s7 : a1 = 1
  · replace hw := hw.1 s7
    refine lv_tableIn (tgt := 52) hx hb dX4_arithmetic_1 (by rw [t5, s7]; decide) (by rw [t5, s7]; decide) (by rw [t5, s7]; rfl) (by decide) ?_
    refine lv_iload_n hx hb dX4_arithmetic_52 rfl (lv_at hl 2 rfl) ?_
    refine lv_iload_n hx hb dX4_arithmetic_53 rfl (lv_at hl 3 rfl) ?_
    refine z_ior hx hb dX4_arithmetic_54 ?_
    refine lv_istore (lv' := [(4, .int (Int32.ofInt (zor a2 a3))), (0, .ref (ad 18 1000)), (1, .int (Int32.ofInt a1)), (2, .int (Int32.ofInt a2)), (3, .int (Int32.ofInt a3))]) hx hb dX4_arithmetic_55 hl (by decide) rfl (fun ls hl => ?_)
    refine lv_goto (tgt := 81) hx hb dX4_arithmetic_57 (by decide) ?_
    exact j81 (zor a2 a3) σ _ _ _ hP hD hS (lv_sub hl [1, 0] rfl) hw
  replace hw := hw.2 s7
  by_cases s8 : a1 = 2
  · replace hw := hw.1 s8
    refine lv_tableIn (tgt := 76) hx hb dX4_arithmetic_1 (by rw [t5, s8]; decide) (by rw [t5, s8]; decide) (by rw [t5, s8]; rfl) (by decide) ?_
    exact j76 a2 a3 σ _ _ _ hP hD hS (lv_sub hl [0, 2, 3] rfl) hw
  replace hw := hw.2 s8
  by_cases s9 : a1 = 3
  · replace hw := hw.1 s9
    refine lv_tableIn (tgt := 76) hx hb dX4_arithmetic_1 (by rw [t5, s9]; decide) (by rw [t5, s9]; decide) (by rw [t5, s9]; rfl) (by decide) ?_
    exact j76 a2 a3 σ _ _ _ hP hD hS (lv_sub hl [0, 2, 3] rfl) hw
  replace hw := hw.2 s9
  by_cases s10 : a1 = 4
  · replace hw := hw.1 s10
    refine lv_tableIn (tgt := 60) hx hb dX4_arithmetic_1 (by rw [t5, s10]; decide) (by rw [t5, s10]; decide) (by rw [t5, s10]; rfl) (by decide) ?_
    refine lv_iload_n hx hb dX4_arithmetic_60 rfl (lv_at hl 2 rfl) ?_
    refine lv_iload_n hx hb dX4_arithmetic_61 rfl (lv_at hl 3 rfl) ?_
    refine z_iand hx hb dX4_arithmetic_62 ?_
    refine lv_istore (lv' := [(4, .int (Int32.ofInt (zand a2 a3))), (0, .ref (ad 18 1000)), (1, .int (Int32.ofInt a1)), (2, .int (Int32.ofInt a2)), (3, .int (Int32.ofInt a3))]) hx hb dX4_arithmetic_63 hl (by decide) rfl (fun ls hl => ?_)
    refine lv_goto (tgt := 81) hx hb dX4_arithmetic_65 (by decide) ?_
    exact j81 (zand a2 a3) σ _ _ _ hP hD hS (lv_sub hl [1, 0] rfl) hw
  replace hw := hw.2 s10
  by_cases s11 : a1 = 5
  · replace hw := hw.1 s11
    refine lv_tableIn (tgt := 76) hx hb dX4_arithmetic_1 (by rw [t5, s11]; decide) (by rw [t5, s11]; decide) (by rw [t5, s11]; rfl) (by decide) ?_
    exact j76 a2 a3 σ _ _ _ hP hD hS (lv_sub hl [0, 2, 3] rfl) hw
  replace hw := hw.2 s11
  by_cases s12 : a1 = 6
  · replace hw := hw.1 s12
    refine lv_tableIn (tgt := 68) hx hb dX4_arithmetic_1 (by rw [t5, s12]; decide) (by rw [t5, s12]; decide) (by rw [t5, s12]; rfl) (by decide) ?_
    refine lv_iload_n hx hb dX4_arithmetic_68 rfl (lv_at hl 2 rfl) ?_
    refine lv_iload_n hx hb dX4_arithmetic_69 rfl (lv_at hl 3 rfl) ?_
    refine z_ixor hx hb dX4_arithmetic_70 ?_
    refine lv_istore (lv' := [(4, .int (Int32.ofInt (zxor a2 a3))), (0, .ref (ad 18 1000)), (1, .int (Int32.ofInt a1)), (2, .int (Int32.ofInt a2)), (3, .int (Int32.ofInt a3))]) hx hb dX4_arithmetic_71 hl (by decide) rfl (fun ls hl => ?_)
    refine lv_goto (tgt := 81) hx hb dX4_arithmetic_73 (by decide) ?_
    exact j81 (zxor a2 a3) σ _ _ _ hP hD hS (lv_sub hl [1, 0] rfl) hw
  replace hw := hw.2 s12
  refine lv_tableOut (tgt := 76) hx hb dX4_arithmetic_1 (by rw [t5]; clear hw; omega) (by decide) ?_
  exact j76 a2 a3 σ _ _ _ hP hD hS (lv_sub hl [0, 2, 3] rfl) hw
def wpX4_writeM_32 (σ : ZS) (Q : ZS → Prop) : Prop := Q σ
def wpX4_writeM (a1 : Int) (σ : ZS) (Q : ZS → Prop) : Prop := (-2147483648 ≤ (zI σ 18 12) ∧ (zI σ 18 12) ≤ 2147483647) ∧ ((zI σ 18 12) < 0 → wpX4_putWord (zI σ 18 13) a1 σ (fun (σ4 : ZS) => wpX4_writeM_32 σ4 Q)) ∧ (¬ (zI σ 18 12) < 0 → (0 ≤ (zI σ 18 12) ∧ (zI σ 18 12) < 8) ∧ wpX4_writeM_32 (zsA σ 18 1 (zI σ 18 12) (a1 % 65536)) Q)
set_option maxHeartbeats 4000000 in
set_option maxRecDepth 100000 in
theorem kX4_writeM (l : Launch) (D : va_G) (dA : Nat → ClassId) (ad : Int → Nat → Nat) (a1 : Int) (σ : ZS) (Q : ZS → Prop) (sz : Nat) (hw : wpX4_writeM a1 σ Q) : Met l yX4_writeM (gws yX4_writeM cX4_writeM 2 none) (gR 2 0 0) (gPre D dA [.ref (ad 18 1000), .int (Int32.ofInt a1)] (zC dA ad σ) sz) (va_Qv Q (gAt D dA (va_A (zC dA ad σ) sz) (zC dA ad)) (va_A (zC dA ad σ) sz)) 0 0 (va_A (zC dA ad σ) sz) := by
  refine Met.ofW (cc := cX4_writeM) (maxL := 2) (ret := none) (by decide) rfl ?_
  intro p e s m args below meth c s₁ B hml hv
  obtain ⟨rfl, hsz, hP, hK, hD0⟩ := hv
  have hx := B.exec
  have hb := B.bytes
  have hr := B.returns
  have hts := atoms_spec (ws := gws yX4_writeM cX4_writeM 2 none) B.pre
  have hg : ∀ w ∈ gw, w.before _ s = true := fun w h => hts w (List.mem_cons_of_mem _ h)
  have hown : s.vm.findClass RX4 = some m.cls := findClass_of_methodNamed B.named
  have hlocks := B.notSynchronized
  subst hsz
  have hD := hD0.self (sz := s.heap.size)
  generalize hAe : va_A (zC dA ad σ) s.heap.size = A at hD ⊢
  have hA : ∀ q : Nat, s.heap.size ≤ q → A q := fun q h => by rw [← hAe]; exact Or.inr h
  have hS : va_S A s.heap s.heap [] := va_S.rf
  have hl := lv_entry ([.ref (ad 18 1000), .int (Int32.ofInt a1)]) (n := 2) (Nat.le_of_ble_eq_true rfl)
  rw [lg_entry_eq]
  generalize (lg_sl ([.ref (ad 18 1000), .int (Int32.ofInt a1)]) ++ List.replicate (2 - (lg_sl ([.ref (ad 18 1000), .int (Int32.ofInt a1)])).length) Slot.unset).toArray = ls at hl ⊢
  have hl : lv_has ls 2 [(0, .ref (ad 18 1000)), (1, .int (Int32.ofInt a1))] := hl
  have hret : ∀ (σ : ZS) (H : Heap) (locs : List Loc) (ls : Array Slot) (pc : Nat), Q σ → va_P D vwC (zC dA ad σ) H → va_D A (zC dA ad σ) → va_S A s.heap H locs → decode cX4_writeM pc = .ok (.return_, 1) → W p l e (gR 2 0 0) s m #[.ref (ad 18 1000), .int (Int32.ofInt a1)] below meth c H locs 0 0 (MQ below (va_Qv Q (gAt D dA A (zC dA ad)) A) #[.ref (ad 18 1000), .int (Int32.ofInt a1)] s 0 0 A) (F0 m pc ls []) := fun σ H locs ls pc hw hP hD hS hd => g_vret hx hb hr hlocks hK σ hP hD hS hw (Nat.le_of_ble_eq_true rfl) (Nat.le_of_ble_eq_true rfl) hd
  generalize MQ below (va_Qv Q (gAt D dA A (zC dA ad)) A) #[.ref (ad 18 1000), .int (Int32.ofInt a1)] s 0 0 A = QQ at hret ⊢
  have j32 : ∀ (σ : ZS), ∀ (H : Heap) (locs : List Loc) (ls : Array Slot), va_P D vwC (zC dA ad σ) H → va_D A (zC dA ad σ) → va_S A s.heap H locs → lv_has ls 2 [] → wpX4_writeM_32 σ Q → W p l e (gR 2 0 0) s m #[.ref (ad 18 1000), .int (Int32.ofInt a1)] below meth c H locs 0 0 QQ (F0 m 32 ls []) := by
    intro σ H locs ls hP hD hS hl hw
    unfold wpX4_writeM_32 at hw
    exact hret σ _ _ _ _ hw hP hD hS dX4_writeM_32
  unfold wpX4_writeM at hw
  refine lv_aload_n hx hb dX4_writeM_0 rfl (lv_at hl 0 rfl) ?_
  refine zgC18_12 hx hb hg hown hK hP q575 dX4_writeM_1 ?_
  obtain ⟨o1, hw⟩ := hw
  refine z_if_lt (tgt := 23) hx hb o1 dX4_writeM_4 (by decide) (fun k2 => ?_) (fun k2 => ?_)
  · replace hw := hw.1 k2
    refine lv_aload_n hx hb dX4_writeM_23 rfl (lv_at hl 0 rfl) ?_
    refine lv_aload_n hx hb dX4_writeM_24 rfl (lv_at hl 0 rfl) ?_
    refine zgC18_13 hx hb hg hown hK hP q576 dX4_writeM_25 ?_
    refine lv_iload_n hx hb dX4_writeM_28 rfl (lv_at hl 1 rfl) ?_
    refine z_Vv (n := 2) (As := [.int (Int32.ofInt (zI σ 18 13)), .int (Int32.ofInt a1)]) (rest := []) hx hb hml hg hown hK hP hD hS hA (kX4_putWord l D dA ad (zI σ 18 13) a1 σ _ _ hw) (zoC18) rfl q1382 q159 q1379 q1381 q51 (by decide +kernel) ⟨(Nat.le_of_ble_eq_true rfl), (Nat.le_of_ble_eq_true rfl)⟩ rfl hl.1 rfl (Nat.le_of_ble_eq_true rfl) dX4_writeM_29 ⟨(Nat.le_of_ble_eq_true rfl), (Nat.le_of_ble_eq_true rfl)⟩ (fun σ4 H locs hw hP hD hS => ?_)
    exact j32 σ4 _ _ _ hP hD hS (lv_sub hl [] rfl) hw
  · replace hw := hw.2 k2
    refine lv_aload_n hx hb dX4_writeM_7 rfl (lv_at hl 0 rfl) ?_
    refine zgC18_1 hx hb hg hown hK hP q554 dX4_writeM_8 ?_
    refine lv_aload_n hx hb dX4_writeM_11 rfl (lv_at hl 0 rfl) ?_
    refine zgC18_12 hx hb hg hown hK hP q575 dX4_writeM_12 ?_
    refine lv_iload_n hx hb dX4_writeM_15 rfl (lv_at hl 1 rfl) ?_
    refine lv_ldc hx hb hown (hg _ q1400) dX4_writeM_16 ?_
    refine g_nrm (y := Int32.ofInt 65535) (by decide) ?_
    refine z_iandK (M := 65536) hx hb 16 (by decide) (by decide) (by decide) dX4_writeM_18 ?_
    obtain ⟨o5, hw⟩ := hw
    refine zsC18_1 (v := (a1 % 65536)) hx hb o5 hK hP hD hS dX4_writeM_19 (fun H locs hP hD hS => ?_)
    refine lv_goto (tgt := 32) hx hb dX4_writeM_20 (by decide) ?_
    exact j32 (zsA σ 18 1 (zI σ 18 12) (a1 % 65536)) _ _ _ hP hD hS (lv_sub hl [] rfl) hw
def wpX4_arithmeticOnM_22 (σ : ZS) (Q : ZS → Prop) : Prop := Q σ
def wpX4_arithmeticOnM (a1 a2 : Int) (σ : ZS) (Q : ZS → Prop) : Prop := wpX4_readM σ (fun (x1 : Int) (σ2 : ZS) => wpX4_arithmetic a1 x1 a2 σ2 (fun (x3 : Int) (σ4 : ZS) => (-2147483648 ≤ a1 ∧ a1 ≤ 2147483647) ∧ (a1 = 7 → wpX4_arithmeticOnM_22 σ4 Q) ∧ (¬ a1 = 7 → wpX4_writeM x3 σ4 (fun (σ8 : ZS) => wpX4_arithmeticOnM_22 σ8 Q))))
set_option maxHeartbeats 4000000 in
set_option maxRecDepth 100000 in
theorem kX4_arithmeticOnM (l : Launch) (D : va_G) (dA : Nat → ClassId) (ad : Int → Nat → Nat) (a1 a2 : Int) (σ : ZS) (Q : ZS → Prop) (sz : Nat) (hw : wpX4_arithmeticOnM a1 a2 σ Q) : Met l yX4_arithmeticOnM (gws yX4_arithmeticOnM cX4_arithmeticOnM 4 none) (gR 3 0 0) (gPre D dA [.ref (ad 18 1000), .int (Int32.ofInt a1), .int (Int32.ofInt a2)] (zC dA ad σ) sz) (va_Qv Q (gAt D dA (va_A (zC dA ad σ) sz) (zC dA ad)) (va_A (zC dA ad σ) sz)) 0 0 (va_A (zC dA ad σ) sz) := by
  refine Met.ofW (cc := cX4_arithmeticOnM) (maxL := 4) (ret := none) (by decide) rfl ?_
  intro p e s m args below meth c s₁ B hml hv
  obtain ⟨rfl, hsz, hP, hK, hD0⟩ := hv
  have hx := B.exec
  have hb := B.bytes
  have hr := B.returns
  have hts := atoms_spec (ws := gws yX4_arithmeticOnM cX4_arithmeticOnM 4 none) B.pre
  have hg : ∀ w ∈ gw, w.before _ s = true := fun w h => hts w (List.mem_cons_of_mem _ h)
  have hown : s.vm.findClass RX4 = some m.cls := findClass_of_methodNamed B.named
  have hlocks := B.notSynchronized
  subst hsz
  have hD := hD0.self (sz := s.heap.size)
  generalize hAe : va_A (zC dA ad σ) s.heap.size = A at hD ⊢
  have hA : ∀ q : Nat, s.heap.size ≤ q → A q := fun q h => by rw [← hAe]; exact Or.inr h
  have hS : va_S A s.heap s.heap [] := va_S.rf
  have hl := lv_entry ([.ref (ad 18 1000), .int (Int32.ofInt a1), .int (Int32.ofInt a2)]) (n := 4) (Nat.le_of_ble_eq_true rfl)
  rw [lg_entry_eq]
  generalize (lg_sl ([.ref (ad 18 1000), .int (Int32.ofInt a1), .int (Int32.ofInt a2)]) ++ List.replicate (4 - (lg_sl ([.ref (ad 18 1000), .int (Int32.ofInt a1), .int (Int32.ofInt a2)])).length) Slot.unset).toArray = ls at hl ⊢
  have hl : lv_has ls 4 [(0, .ref (ad 18 1000)), (1, .int (Int32.ofInt a1)), (2, .int (Int32.ofInt a2))] := hl
  have hret : ∀ (σ : ZS) (H : Heap) (locs : List Loc) (ls : Array Slot) (pc : Nat), Q σ → va_P D vwC (zC dA ad σ) H → va_D A (zC dA ad σ) → va_S A s.heap H locs → decode cX4_arithmeticOnM pc = .ok (.return_, 1) → W p l e (gR 3 0 0) s m #[.ref (ad 18 1000), .int (Int32.ofInt a1), .int (Int32.ofInt a2)] below meth c H locs 0 0 (MQ below (va_Qv Q (gAt D dA A (zC dA ad)) A) #[.ref (ad 18 1000), .int (Int32.ofInt a1), .int (Int32.ofInt a2)] s 0 0 A) (F0 m pc ls []) := fun σ H locs ls pc hw hP hD hS hd => g_vret hx hb hr hlocks hK σ hP hD hS hw (Nat.le_of_ble_eq_true rfl) (Nat.le_of_ble_eq_true rfl) hd
  generalize MQ below (va_Qv Q (gAt D dA A (zC dA ad)) A) #[.ref (ad 18 1000), .int (Int32.ofInt a1), .int (Int32.ofInt a2)] s 0 0 A = QQ at hret ⊢
  have j22 : ∀ (σ : ZS), ∀ (H : Heap) (locs : List Loc) (ls : Array Slot), va_P D vwC (zC dA ad σ) H → va_D A (zC dA ad σ) → va_S A s.heap H locs → lv_has ls 4 [] → wpX4_arithmeticOnM_22 σ Q → W p l e (gR 3 0 0) s m #[.ref (ad 18 1000), .int (Int32.ofInt a1), .int (Int32.ofInt a2)] below meth c H locs 0 0 QQ (F0 m 22 ls []) := by
    intro σ H locs ls hP hD hS hl hw
    unfold wpX4_arithmeticOnM_22 at hw
    exact hret σ _ _ _ _ hw hP hD hS dX4_arithmeticOnM_22
  unfold wpX4_arithmeticOnM at hw
  refine lv_aload_n hx hb dX4_arithmeticOnM_0 rfl (lv_at hl 0 rfl) ?_
  refine lv_iload_n hx hb dX4_arithmeticOnM_1 rfl (lv_at hl 1 rfl) ?_
  refine lv_aload_n hx hb dX4_arithmeticOnM_2 rfl (lv_at hl 0 rfl) ?_
  refine z_Vi (n := 0) (As := []) (rest := [.int (Int32.ofInt a1), .ref (ad 18 1000)]) hx hb hml hg hown hK hP hD hS hA (kX4_readM l D dA ad σ _ _ hw) (zoC18) rfl q1443 q159 q1440 q1442 q62 (by decide +kernel) ⟨(Nat.le_of_ble_eq_true rfl), (Nat.le_of_ble_eq_true rfl)⟩ rfl hl.1 rfl (Nat.le_of_ble_eq_true rfl) dX4_arithmeticOnM_3 ⟨(Nat.le_of_ble_eq_true rfl), (Nat.le_of_ble_eq_true rfl)⟩ (fun x1 σ2 H locs hw hP hD hS => ?_)
  refine lv_iload_n hx hb dX4_arithmeticOnM_6 rfl (lv_at hl 2 rfl) ?_
  refine z_Vi (n := 3) (As := [.int (Int32.ofInt a1), .int (Int32.ofInt x1), .int (Int32.ofInt a2)]) (rest := []) hx hb hml hg hown hK hP hD hS hA (kX4_arithmetic l D dA ad a1 x1 a2 σ2 _ _ hw) (zoC18) rfl q1447 q159 q1444 q1446 q63 (by decide +kernel) ⟨(Nat.le_of_ble_eq_true rfl), (Nat.le_of_ble_eq_true rfl)⟩ rfl hl.1 rfl (Nat.le_of_ble_eq_true rfl) dX4_arithmeticOnM_7 ⟨(Nat.le_of_ble_eq_true rfl), (Nat.le_of_ble_eq_true rfl)⟩ (fun x3 σ4 H locs hw hP hD hS => ?_)
  refine lv_istore_n (lv' := [(3, .int (Int32.ofInt x3)), (0, .ref (ad 18 1000)), (1, .int (Int32.ofInt a1)), (2, .int (Int32.ofInt a2))]) hx hb dX4_arithmeticOnM_10 rfl hl (by decide) rfl (fun ls hl => ?_)
  refine lv_iload_n hx hb dX4_arithmeticOnM_11 rfl (lv_at hl 2 rfl) ?_
  refine lv_bipush (v := Int32.ofInt 7) hx hb dX4_arithmeticOnM_12 (by decide) ?_
  obtain ⟨o5, hw⟩ := hw
  refine z_icmp_eq (tgt := 22) hx hb o5 (by decide) dX4_arithmeticOnM_14 (by decide) (fun k6 => ?_) (fun k6 => ?_)
  · replace hw := hw.1 k6
    exact j22 σ4 _ _ _ hP hD hS (lv_sub hl [] rfl) hw
  · replace hw := hw.2 k6
    refine lv_aload_n hx hb dX4_arithmeticOnM_17 rfl (lv_at hl 1 rfl) ?_
    refine lv_iload_n hx hb dX4_arithmeticOnM_18 rfl (lv_at hl 0 rfl) ?_
    refine z_Vv (n := 1) (As := [.int (Int32.ofInt x3)]) (rest := []) hx hb hml hg hown hK hP hD hS hA (kX4_writeM l D dA ad x3 σ4 _ _ hw) (zoC18) rfl q1455 q159 q1452 q1454 q65 (by decide +kernel) ⟨(Nat.le_of_ble_eq_true rfl), (Nat.le_of_ble_eq_true rfl)⟩ rfl hl.1 rfl (Nat.le_of_ble_eq_true rfl) dX4_arithmeticOnM_19 ⟨(Nat.le_of_ble_eq_true rfl), (Nat.le_of_ble_eq_true rfl)⟩ (fun σ8 H locs hw hP hD hS => ?_)
    exact j22 σ8 _ _ _ hP hD hS (lv_sub hl [] rfl) hw
def wpX4_executeLow_131 (σ : ZS) (Q : Int → ZS → Prop) : Prop := Q 3 σ
def wpX4_executeLow_68 (σ : ZS) (Q : Int → ZS → Prop) : Prop := Q 2 σ
def wpX4_executeLow_61 (v1 v2 : Int) (σ : ZS) (Q : Int → ZS → Prop) : Prop := wpX4_isArithmetic v1 σ (fun (x1 : Int) (σ2 : ZS) => (-2147483648 ≤ x1 ∧ x1 ≤ 2147483647) ∧ (¬ x1 = 0 → wpX4_fetchM σ2 (fun (σ6 : ZS) => (-2147483648 ≤ v2 ∧ v2 ≤ 2147483647) ∧ (¬ v2 = 1 → (0 ≤ (zI σ6 18 11) ∧ (zI σ6 18 11) < 8) ∧ wpX4_readM σ6 (fun (x10 : Int) (σ11 : ZS) => wpX4_arithmetic v1 (zA σ6 18 1 (zI σ6 18 11)) x10 σ11 (fun (x12 : Int) (σ13 : ZS) => (-2147483648 ≤ v1 ∧ v1 ≤ 2147483647) ∧ (v1 = 7 → wpX4_executeLow_131 σ13 Q) ∧ (¬ v1 = 7 → (0 ≤ (zI σ13 18 11) ∧ (zI σ13 18 11) < 8) ∧ wpX4_executeLow_131 (zsA σ13 18 1 (zI σ13 18 11) x12) Q)))) ∧ (v2 = 1 → (0 ≤ (zI σ6 18 11) ∧ (zI σ6 18 11) < 8) ∧ wpX4_arithmeticOnM v1 (zA σ6 18 1 (zI σ6 18 11)) σ6 (fun (σ19 : ZS) => wpX4_executeLow_131 σ19 Q)))) ∧ (x1 = 0 → wpX4_executeLow_68 σ2 Q))
def wpX4_executeLow_51 (v1 v2 : Int) (σ : ZS) (Q : Int → ZS → Prop) : Prop := (-2147483648 ≤ v2 ∧ v2 ≤ 2147483647) ∧ (v2 = 1 → wpX4_executeLow_61 v1 v2 σ Q) ∧ (¬ v2 = 1 → (¬ v2 = 3 → wpX4_executeLow_68 σ Q) ∧ (v2 = 3 → wpX4_executeLow_61 v1 v2 σ Q))
def wpX4_executeLow_23 (v1 v2 : Int) (σ : ZS) (Q : Int → ZS → Prop) : Prop := (-2147483648 ≤ v2 ∧ v2 ≤ 2147483647) ∧ (¬ v2 = 7 → wpX4_executeLow_51 v1 v2 σ Q) ∧ (v2 = 7 → (-2147483648 ≤ v1 ∧ v1 ≤ 2147483647) ∧ (4 ≤ v1 → wpX4_executeLow_51 v1 v2 σ Q) ∧ (¬ 4 ≤ v1 → (v1 = 1 → wpX4_executeLow_51 v1 v2 σ Q) ∧ (¬ v1 = 1 → wpX4_pop σ (fun (x28 : Int) (σ29 : ZS) => (0 ≤ v1 ∧ v1 < 4) ∧ Q 3 (zsA σ29 18 2 v1 x28)))))
def wpX4_executeLow (a1 a2 : Int) (σ : ZS) (Q : Int → ZS → Prop) : Prop := (-2147483648 ≤ a2 ∧ a2 ≤ 2147483647) ∧ (¬ a2 = 6 → wpX4_executeLow_23 a1 a2 σ Q) ∧ (a2 = 6 → (-2147483648 ≤ a1 ∧ a1 ≤ 2147483647) ∧ (4 ≤ a1 → wpX4_executeLow_23 a1 a2 σ Q) ∧ (¬ 4 ≤ a1 → (0 ≤ a1 ∧ a1 < 4) ∧ wpX4_push (zA σ 18 2 a1) σ (fun (σ37 : ZS) => Q 3 σ37)))
set_option maxHeartbeats 4000000 in
set_option maxRecDepth 100000 in
theorem kX4_executeLow (l : Launch) (D : va_G) (dA : Nat → ClassId) (ad : Int → Nat → Nat) (a1 a2 : Int) (σ : ZS) (Q : Int → ZS → Prop) (sz : Nat) (hw : wpX4_executeLow a1 a2 σ Q) : Met l yX4_executeLow (gws yX4_executeLow cX4_executeLow 4 (some .int)) (gR 4 0 0) (gPre D dA [.ref (ad 18 1000), .int (Int32.ofInt a1), .int (Int32.ofInt a2)] (zC dA ad σ) sz) (va_Qi (zQi Q) (gAt D dA (va_A (zC dA ad σ) sz) (zC dA ad)) (va_A (zC dA ad σ) sz)) 0 0 (va_A (zC dA ad σ) sz) := by
  refine Met.ofW (cc := cX4_executeLow) (maxL := 4) (ret := (some .int)) (by decide) rfl ?_
  intro p e s m args below meth c s₁ B hml hv
  obtain ⟨rfl, hsz, hP, hK, hD0⟩ := hv
  have hx := B.exec
  have hb := B.bytes
  have hr := B.returns
  have hts := atoms_spec (ws := gws yX4_executeLow cX4_executeLow 4 (some .int)) B.pre
  have hg : ∀ w ∈ gw, w.before _ s = true := fun w h => hts w (List.mem_cons_of_mem _ h)
  have hown : s.vm.findClass RX4 = some m.cls := findClass_of_methodNamed B.named
  have hlocks := B.notSynchronized
  subst hsz
  have hD := hD0.self (sz := s.heap.size)
  generalize hAe : va_A (zC dA ad σ) s.heap.size = A at hD ⊢
  have hA : ∀ q : Nat, s.heap.size ≤ q → A q := fun q h => by rw [← hAe]; exact Or.inr h
  have hS : va_S A s.heap s.heap [] := va_S.rf
  have hl := lv_entry ([.ref (ad 18 1000), .int (Int32.ofInt a1), .int (Int32.ofInt a2)]) (n := 4) (Nat.le_of_ble_eq_true rfl)
  rw [lg_entry_eq]
  generalize (lg_sl ([.ref (ad 18 1000), .int (Int32.ofInt a1), .int (Int32.ofInt a2)]) ++ List.replicate (4 - (lg_sl ([.ref (ad 18 1000), .int (Int32.ofInt a1), .int (Int32.ofInt a2)])).length) Slot.unset).toArray = ls at hl ⊢
  have hl : lv_has ls 4 [(0, .ref (ad 18 1000)), (1, .int (Int32.ofInt a1)), (2, .int (Int32.ofInt a2))] := hl
  have hret : ∀ (v : Int) (σ : ZS) (H : Heap) (locs : List Loc) (ls : Array Slot) (pc : Nat), Q v σ → va_P D vwC (zC dA ad σ) H → va_D A (zC dA ad σ) → va_S A s.heap H locs → decode cX4_executeLow pc = .ok (.ireturn, 1) → W p l e (gR 4 0 0) s m #[.ref (ad 18 1000), .int (Int32.ofInt a1), .int (Int32.ofInt a2)] below meth c H locs 0 0 (MQ below (va_Qi (zQi Q) (gAt D dA A (zC dA ad)) A) #[.ref (ad 18 1000), .int (Int32.ofInt a1), .int (Int32.ofInt a2)] s 0 0 A) (F0 m pc ls [.int (Int32.ofInt v)]) := fun v σ H locs ls pc hw hP hD hS hd => g_iret hx hb hr rfl hlocks hK σ hP hD hS ⟨v, rfl, hw⟩ (Nat.le_of_ble_eq_true rfl) (Nat.le_of_ble_eq_true rfl) hd
  generalize MQ below (va_Qi (zQi Q) (gAt D dA A (zC dA ad)) A) #[.ref (ad 18 1000), .int (Int32.ofInt a1), .int (Int32.ofInt a2)] s 0 0 A = QQ at hret ⊢
  have j131 : ∀ (σ : ZS), ∀ (H : Heap) (locs : List Loc) (ls : Array Slot), va_P D vwC (zC dA ad σ) H → va_D A (zC dA ad σ) → va_S A s.heap H locs → lv_has ls 4 [] → wpX4_executeLow_131 σ Q → W p l e (gR 4 0 0) s m #[.ref (ad 18 1000), .int (Int32.ofInt a1), .int (Int32.ofInt a2)] below meth c H locs 0 0 QQ (F0 m 131 ls []) := by
    intro σ H locs ls hP hD hS hl hw
    unfold wpX4_executeLow_131 at hw
    refine lv_iconst (v := Int32.ofInt 3) hx hb dX4_executeLow_131 (by decide) ?_
    exact hret 3 σ _ _ _ _ hw hP hD hS dX4_executeLow_132
  have j68 : ∀ (σ : ZS), ∀ (H : Heap) (locs : List Loc) (ls : Array Slot), va_P D vwC (zC dA ad σ) H → va_D A (zC dA ad σ) → va_S A s.heap H locs → lv_has ls 4 [] → wpX4_executeLow_68 σ Q → W p l e (gR 4 0 0) s m #[.ref (ad 18 1000), .int (Int32.ofInt a1), .int (Int32.ofInt a2)] below meth c H locs 0 0 QQ (F0 m 68 ls []) := by
    intro σ H locs ls hP hD hS hl hw
    unfold wpX4_executeLow_68 at hw
    refine lv_iconst (v := Int32.ofInt 2) hx hb dX4_executeLow_68 (by decide) ?_
    exact hret 2 σ _ _ _ _ hw hP hD hS dX4_executeLow_69
  have j61 : ∀ (v1 v2 : Int) (σ : ZS), ∀ (H : Heap) (locs : List Loc) (ls : Array Slot), va_P D vwC (zC dA ad σ) H → va_D A (zC dA ad σ) → va_S A s.heap H locs → lv_has ls 4 [(0, .ref (ad 18 1000)), (1, .int (Int32.ofInt v1)), (2, .int (Int32.ofInt v2))] → wpX4_executeLow_61 v1 v2 σ Q → W p l e (gR 4 0 0) s m #[.ref (ad 18 1000), .int (Int32.ofInt a1), .int (Int32.ofInt a2)] below meth c H locs 0 0 QQ (F0 m 61 ls []) := by
    intro v1 v2 σ H locs ls hP hD hS hl hw
    unfold wpX4_executeLow_61 at hw
    refine lv_iload_n hx hb dX4_executeLow_61 rfl (lv_at hl 1 rfl) ?_
    refine z_Si (n := 1) (As := [.int (Int32.ofInt v1)]) (rest := []) hx hb hml hg hown hK hP hD hS hA (kX4_isArithmetic l D dA ad v1 σ _ _ hw) q1419 q159 q1417 q1418 (by decide +kernel) ⟨(Nat.le_of_ble_eq_true rfl), (Nat.le_of_ble_eq_true rfl)⟩ rfl hl.1 rfl (Nat.le_of_ble_eq_true rfl) dX4_executeLow_62 ⟨(Nat.le_of_ble_eq_true rfl), (Nat.le_of_ble_eq_true rfl)⟩ (fun x1 σ2 H locs hw hP hD hS => ?_)
    obtain ⟨o3, hw⟩ := hw
    refine z_if_ne (tgt := 70) hx hb o3 dX4_executeLow_65 (by decide) (fun k4 => ?_) (fun k4 => ?_)
    · replace hw := hw.1 k4
      refine lv_aload_n hx hb dX4_executeLow_70 rfl (lv_at hl 0 rfl) ?_
      refine z_Vv (n := 0) (As := []) (rest := []) hx hb hml hg hown hK hP hD hS hA (kX4_fetchM l D dA ad σ2 _ _ hw) (zoC18) rfl q1423 q159 q1420 q1422 q57 (by decide +kernel) ⟨(Nat.le_of_ble_eq_true rfl), (Nat.le_of_ble_eq_true rfl)⟩ rfl hl.1 rfl (Nat.le_of_ble_eq_true rfl) dX4_executeLow_71 ⟨(Nat.le_of_ble_eq_true rfl), (Nat.le_of_ble_eq_true rfl)⟩ (fun σ6 H locs hw hP hD hS => ?_)
      refine lv_iload_n hx hb dX4_executeLow_74 rfl (lv_at hl 2 rfl) ?_
      refine lv_iconst (v := Int32.ofInt 1) hx hb dX4_executeLow_75 (by decide) ?_
      obtain ⟨o7, hw⟩ := hw
      refine z_icmp_ne (tgt := 96) hx hb o7 (by decide) dX4_executeLow_76 (by decide) (fun k8 => ?_) (fun k8 => ?_)
      · replace hw := hw.1 k8
        refine lv_aload_n hx hb dX4_executeLow_96 rfl (lv_at hl 0 rfl) ?_
        refine lv_iload_n hx hb dX4_executeLow_97 rfl (lv_at hl 1 rfl) ?_
        refine lv_aload_n hx hb dX4_executeLow_98 rfl (lv_at hl 0 rfl) ?_
        refine zgC18_1 hx hb hg hown hK hP q554 dX4_executeLow_99 ?_
        refine lv_aload_n hx hb dX4_executeLow_102 rfl (lv_at hl 0 rfl) ?_
        refine zgC18_11 hx hb hg hown hK hP q574 dX4_executeLow_103 ?_
        obtain ⟨o9, hw⟩ := hw
        refine zlC18_1 hx hb o9 hK hP dX4_executeLow_106 ?_
        refine lv_aload_n hx hb dX4_executeLow_107 rfl (lv_at hl 0 rfl) ?_
        refine z_Vi (n := 0) (As := []) (rest := [.int (Int32.ofInt (zA σ6 18 1 (zI σ6 18 11))), .int (Int32.ofInt v1), .ref (ad 18 1000)]) hx hb hml hg hown hK hP hD hS hA (kX4_readM l D dA ad σ6 _ _ hw) (zoC18) rfl q1443 q159 q1440 q1442 q62 (by decide +kernel) ⟨(Nat.le_of_ble_eq_true rfl), (Nat.le_of_ble_eq_true rfl)⟩ rfl hl.1 rfl (Nat.le_of_ble_eq_true rfl) dX4_executeLow_108 ⟨(Nat.le_of_ble_eq_true rfl), (Nat.le_of_ble_eq_true rfl)⟩ (fun x10 σ11 H locs hw hP hD hS => ?_)
        refine z_Vi (n := 3) (As := [.int (Int32.ofInt v1), .int (Int32.ofInt (zA σ6 18 1 (zI σ6 18 11))), .int (Int32.ofInt x10)]) (rest := []) hx hb hml hg hown hK hP hD hS hA (kX4_arithmetic l D dA ad v1 (zA σ6 18 1 (zI σ6 18 11)) x10 σ11 _ _ hw) (zoC18) rfl q1447 q159 q1444 q1446 q63 (by decide +kernel) ⟨(Nat.le_of_ble_eq_true rfl), (Nat.le_of_ble_eq_true rfl)⟩ rfl hl.1 rfl (Nat.le_of_ble_eq_true rfl) dX4_executeLow_111 ⟨(Nat.le_of_ble_eq_true rfl), (Nat.le_of_ble_eq_true rfl)⟩ (fun x12 σ13 H locs hw hP hD hS => ?_)
        refine lv_istore_n (lv' := [(3, .int (Int32.ofInt x12)), (0, .ref (ad 18 1000)), (1, .int (Int32.ofInt v1)), (2, .int (Int32.ofInt v2))]) hx hb dX4_executeLow_114 rfl hl (by decide) rfl (fun ls hl => ?_)
        refine lv_iload_n hx hb dX4_executeLow_115 rfl (lv_at hl 2 rfl) ?_
        refine lv_bipush (v := Int32.ofInt 7) hx hb dX4_executeLow_116 (by decide) ?_
        obtain ⟨o14, hw⟩ := hw
        refine z_icmp_eq (tgt := 131) hx hb o14 (by decide) dX4_executeLow_118 (by decide) (fun k15 => ?_) (fun k15 => ?_)
        · replace hw := hw.1 k15
          exact j131 σ13 _ _ _ hP hD hS (lv_sub hl [] rfl) hw
        · replace hw := hw.2 k15
          refine lv_aload_n hx hb dX4_executeLow_121 rfl (lv_at hl 1 rfl) ?_
          refine zgC18_1 hx hb hg hown hK hP q554 dX4_executeLow_122 ?_
          refine lv_aload_n hx hb dX4_executeLow_125 rfl (lv_at hl 1 rfl) ?_
          refine zgC18_11 hx hb hg hown hK hP q574 dX4_executeLow_126 ?_
          refine lv_iload_n hx hb dX4_executeLow_129 rfl (lv_at hl 0 rfl) ?_
          obtain ⟨o16, hw⟩ := hw
          refine zsC18_1 (v := x12) hx hb o16 hK hP hD hS dX4_executeLow_130 (fun H locs hP hD hS => ?_)
          exact j131 (zsA σ13 18 1 (zI σ13 18 11) x12) _ _ _ hP hD hS (lv_sub hl [] rfl) hw
      · replace hw := hw.2 k8
        refine lv_aload_n hx hb dX4_executeLow_79 rfl (lv_at hl 0 rfl) ?_
        refine lv_iload_n hx hb dX4_executeLow_80 rfl (lv_at hl 1 rfl) ?_
        refine lv_aload_n hx hb dX4_executeLow_81 rfl (lv_at hl 0 rfl) ?_
        refine zgC18_1 hx hb hg hown hK hP q554 dX4_executeLow_82 ?_
        refine lv_aload_n hx hb dX4_executeLow_85 rfl (lv_at hl 0 rfl) ?_
        refine zgC18_11 hx hb hg hown hK hP q574 dX4_executeLow_86 ?_
        obtain ⟨o17, hw⟩ := hw
        refine zlC18_1 hx hb o17 hK hP dX4_executeLow_89 ?_
        refine z_Vv (n := 2) (As := [.int (Int32.ofInt v1), .int (Int32.ofInt (zA σ6 18 1 (zI σ6 18 11)))]) (rest := []) hx hb hml hg hown hK hP hD hS hA (kX4_arithmeticOnM l D dA ad v1 (zA σ6 18 1 (zI σ6 18 11)) σ6 _ _ hw) (zoC18) rfl q1439 q159 q1436 q1438 q61 (by decide +kernel) ⟨(Nat.le_of_ble_eq_true rfl), (Nat.le_of_ble_eq_true rfl)⟩ rfl hl.1 rfl (Nat.le_of_ble_eq_true rfl) dX4_executeLow_90 ⟨(Nat.le_of_ble_eq_true rfl), (Nat.le_of_ble_eq_true rfl)⟩ (fun σ19 H locs hw hP hD hS => ?_)
        refine lv_goto (tgt := 131) hx hb dX4_executeLow_93 (by decide) ?_
        exact j131 σ19 _ _ _ hP hD hS (lv_sub hl [] rfl) hw
    · replace hw := hw.2 k4
      exact j68 σ2 _ _ _ hP hD hS (lv_sub hl [] rfl) hw
  have j51 : ∀ (v1 v2 : Int) (σ : ZS), ∀ (H : Heap) (locs : List Loc) (ls : Array Slot), va_P D vwC (zC dA ad σ) H → va_D A (zC dA ad σ) → va_S A s.heap H locs → lv_has ls 4 [(0, .ref (ad 18 1000)), (1, .int (Int32.ofInt v1)), (2, .int (Int32.ofInt v2))] → wpX4_executeLow_51 v1 v2 σ Q → W p l e (gR 4 0 0) s m #[.ref (ad 18 1000), .int (Int32.ofInt a1), .int (Int32.ofInt a2)] below meth c H locs 0 0 QQ (F0 m 51 ls []) := by
    intro v1 v2 σ H locs ls hP hD hS hl hw
    unfold wpX4_executeLow_51 at hw
    refine lv_iload_n hx hb dX4_executeLow_51 rfl (lv_at hl 2 rfl) ?_
    refine lv_iconst (v := Int32.ofInt 1) hx hb dX4_executeLow_52 (by decide) ?_
    obtain ⟨o20, hw⟩ := hw
    refine z_icmp_eq (tgt := 61) hx hb o20 (by decide) dX4_executeLow_53 (by decide) (fun k21 => ?_) (fun k21 => ?_)
    · replace hw := hw.1 k21
      exact j61 v1 v2 σ _ _ _ hP hD hS (lv_sub hl [0, 1, 2] rfl) hw
    · replace hw := hw.2 k21
      refine lv_iload_n hx hb dX4_executeLow_56 rfl (lv_at hl 2 rfl) ?_
      refine lv_iconst (v := Int32.ofInt 3) hx hb dX4_executeLow_57 (by decide) ?_
      refine z_icmp_ne (tgt := 68) hx hb o20 (by decide) dX4_executeLow_58 (by decide) (fun k22 => ?_) (fun k22 => ?_)
      · replace hw := hw.1 k22
        exact j68 σ _ _ _ hP hD hS (lv_sub hl [] rfl) hw
      · replace hw := hw.2 k22
        exact j61 v1 v2 σ _ _ _ hP hD hS (lv_sub hl [0, 1, 2] rfl) hw
  have j23 : ∀ (v1 v2 : Int) (σ : ZS), ∀ (H : Heap) (locs : List Loc) (ls : Array Slot), va_P D vwC (zC dA ad σ) H → va_D A (zC dA ad σ) → va_S A s.heap H locs → lv_has ls 4 [(0, .ref (ad 18 1000)), (1, .int (Int32.ofInt v1)), (2, .int (Int32.ofInt v2))] → wpX4_executeLow_23 v1 v2 σ Q → W p l e (gR 4 0 0) s m #[.ref (ad 18 1000), .int (Int32.ofInt a1), .int (Int32.ofInt a2)] below meth c H locs 0 0 QQ (F0 m 23 ls []) := by
    intro v1 v2 σ H locs ls hP hD hS hl hw
    unfold wpX4_executeLow_23 at hw
    refine lv_iload_n hx hb dX4_executeLow_23 rfl (lv_at hl 2 rfl) ?_
    refine lv_bipush (v := Int32.ofInt 7) hx hb dX4_executeLow_24 (by decide) ?_
    obtain ⟨o23, hw⟩ := hw
    refine z_icmp_ne (tgt := 51) hx hb o23 (by decide) dX4_executeLow_26 (by decide) (fun k24 => ?_) (fun k24 => ?_)
    · replace hw := hw.1 k24
      exact j51 v1 v2 σ _ _ _ hP hD hS (lv_sub hl [0, 1, 2] rfl) hw
    · replace hw := hw.2 k24
      refine lv_iload_n hx hb dX4_executeLow_29 rfl (lv_at hl 1 rfl) ?_
      refine lv_iconst (v := Int32.ofInt 4) hx hb dX4_executeLow_30 (by decide) ?_
      obtain ⟨o25, hw⟩ := hw
      refine z_icmp_ge (tgt := 51) hx hb o25 (by decide) dX4_executeLow_31 (by decide) (fun k26 => ?_) (fun k26 => ?_)
      · replace hw := hw.1 k26
        exact j51 v1 v2 σ _ _ _ hP hD hS (lv_sub hl [0, 1, 2] rfl) hw
      · replace hw := hw.2 k26
        refine lv_iload_n hx hb dX4_executeLow_34 rfl (lv_at hl 1 rfl) ?_
        refine lv_iconst (v := Int32.ofInt 1) hx hb dX4_executeLow_35 (by decide) ?_
        refine z_icmp_eq (tgt := 51) hx hb o25 (by decide) dX4_executeLow_36 (by decide) (fun k27 => ?_) (fun k27 => ?_)
        · replace hw := hw.1 k27
          exact j51 v1 v2 σ _ _ _ hP hD hS (lv_sub hl [0, 1, 2] rfl) hw
        · replace hw := hw.2 k27
          refine lv_aload_n hx hb dX4_executeLow_39 rfl (lv_at hl 0 rfl) ?_
          refine zgC18_2 hx hb hg hown hK hP q556 dX4_executeLow_40 ?_
          refine lv_iload_n hx hb dX4_executeLow_43 rfl (lv_at hl 1 rfl) ?_
          refine lv_aload_n hx hb dX4_executeLow_44 rfl (lv_at hl 0 rfl) ?_
          refine z_Vi (n := 0) (As := []) (rest := [.int (Int32.ofInt v1), .ref (ad 18 2)]) hx hb hml hg hown hK hP hD hS hA (kX4_pop l D dA ad σ _ _ hw) (zoC18) rfl q1416 q159 q1413 q1415 q56 (by decide +kernel) ⟨(Nat.le_of_ble_eq_true rfl), (Nat.le_of_ble_eq_true rfl)⟩ rfl hl.1 rfl (Nat.le_of_ble_eq_true rfl) dX4_executeLow_45 ⟨(Nat.le_of_ble_eq_true rfl), (Nat.le_of_ble_eq_true rfl)⟩ (fun x28 σ29 H locs hw hP hD hS => ?_)
          obtain ⟨o30, hw⟩ := hw
          refine zsC18_2 (v := x28) hx hb o30 hK hP hD hS dX4_executeLow_48 (fun H locs hP hD hS => ?_)
          refine lv_iconst (v := Int32.ofInt 3) hx hb dX4_executeLow_49 (by decide) ?_
          exact hret 3 (zsA σ29 18 2 v1 x28) _ _ _ _ hw hP hD hS dX4_executeLow_50
  unfold wpX4_executeLow at hw
  refine lv_iload_n hx hb dX4_executeLow_0 rfl (lv_at hl 2 rfl) ?_
  refine lv_bipush (v := Int32.ofInt 6) hx hb dX4_executeLow_1 (by decide) ?_
  obtain ⟨o31, hw⟩ := hw
  refine z_icmp_ne (tgt := 23) hx hb o31 (by decide) dX4_executeLow_3 (by decide) (fun k32 => ?_) (fun k32 => ?_)
  · replace hw := hw.1 k32
    exact j23 a1 a2 σ _ _ _ hP hD hS (lv_sub hl [0, 1, 2] rfl) hw
  · replace hw := hw.2 k32
    refine lv_iload_n hx hb dX4_executeLow_6 rfl (lv_at hl 1 rfl) ?_
    refine lv_iconst (v := Int32.ofInt 4) hx hb dX4_executeLow_7 (by decide) ?_
    obtain ⟨o33, hw⟩ := hw
    refine z_icmp_ge (tgt := 23) hx hb o33 (by decide) dX4_executeLow_8 (by decide) (fun k34 => ?_) (fun k34 => ?_)
    · replace hw := hw.1 k34
      exact j23 a1 a2 σ _ _ _ hP hD hS (lv_sub hl [0, 1, 2] rfl) hw
    · replace hw := hw.2 k34
      refine lv_aload_n hx hb dX4_executeLow_11 rfl (lv_at hl 0 rfl) ?_
      refine lv_aload_n hx hb dX4_executeLow_12 rfl (lv_at hl 0 rfl) ?_
      refine zgC18_2 hx hb hg hown hK hP q556 dX4_executeLow_13 ?_
      refine lv_iload_n hx hb dX4_executeLow_16 rfl (lv_at hl 1 rfl) ?_
      obtain ⟨o35, hw⟩ := hw
      refine zlC18_2 hx hb o35 hK hP dX4_executeLow_17 ?_
      refine z_Vv (n := 1) (As := [.int (Int32.ofInt (zA σ 18 2 a1))]) (rest := []) hx hb hml hg hown hK hP hD hS hA (kX4_push l D dA ad (zA σ 18 2 a1) σ _ _ hw) (zoC18) rfl q1412 q159 q1409 q1411 q55 (by decide +kernel) ⟨(Nat.le_of_ble_eq_true rfl), (Nat.le_of_ble_eq_true rfl)⟩ rfl hl.1 rfl (Nat.le_of_ble_eq_true rfl) dX4_executeLow_18 ⟨(Nat.le_of_ble_eq_true rfl), (Nat.le_of_ble_eq_true rfl)⟩ (fun σ37 H locs hw hP hD hS => ?_)
      refine lv_iconst (v := Int32.ofInt 3) hx hb dX4_executeLow_21 (by decide) ?_
      exact hret 3 σ37 _ _ _ _ hw hP hD hS dX4_executeLow_22
def wpX4_executeRegister_111 (σ : ZS) (Q : Int → ZS → Prop) : Prop := Q 3 σ
def wpX4_executeRegister (a1 a2 : Int) (σ : ZS) (Q : Int → ZS → Prop) : Prop := (-2147483648 ≤ a1 ∧ a1 ≤ 2147483647) ∧ (a1 = 8 → (0 ≤ a2 ∧ a2 < 8) ∧ wpX4_judge (zA (zsA σ 18 1 a2 (((zA σ 18 1 a2) + 1) % 65536)) 18 1 a2) (zsA σ 18 1 a2 (((zA σ 18 1 a2) + 1) % 65536)) (fun (σ6 : ZS) => wpX4_executeRegister_111 σ6 Q)) ∧ (¬ a1 = 8 → (a1 = 9 → (0 ≤ a2 ∧ a2 < 8) ∧ wpX4_judge (zA (zsA σ 18 1 a2 (((zA σ 18 1 a2) - 1) % 65536)) 18 1 a2) (zsA σ 18 1 a2 (((zA σ 18 1 a2) - 1) % 65536)) (fun (σ10 : ZS) => wpX4_executeRegister_111 σ10 Q)) ∧ (¬ a1 = 9 → (a1 = 10 → (0 ≤ a2 ∧ a2 < 8) ∧ wpX4_push (zA σ 18 1 a2) σ (fun (σ14 : ZS) => wpX4_executeRegister_111 σ14 Q)) ∧ (¬ a1 = 10 → wpX4_pop σ (fun (x15 : Int) (σ16 : ZS) => (0 ≤ a2 ∧ a2 < 8) ∧ wpX4_executeRegister_111 (zsA σ16 18 1 a2 x15) Q))))
set_option maxHeartbeats 4000000 in
set_option maxRecDepth 100000 in
theorem kX4_executeRegister (l : Launch) (D : va_G) (dA : Nat → ClassId) (ad : Int → Nat → Nat) (a1 a2 : Int) (σ : ZS) (Q : Int → ZS → Prop) (sz : Nat) (hw : wpX4_executeRegister a1 a2 σ Q) : Met l yX4_executeRegister (gws yX4_executeRegister cX4_executeRegister 3 (some .int)) (gR 3 0 0) (gPre D dA [.ref (ad 18 1000), .int (Int32.ofInt a1), .int (Int32.ofInt a2)] (zC dA ad σ) sz) (va_Qi (zQi Q) (gAt D dA (va_A (zC dA ad σ) sz) (zC dA ad)) (va_A (zC dA ad σ) sz)) 0 0 (va_A (zC dA ad σ) sz) := by
  refine Met.ofW (cc := cX4_executeRegister) (maxL := 3) (ret := (some .int)) (by decide) rfl ?_
  intro p e s m args below meth c s₁ B hml hv
  obtain ⟨rfl, hsz, hP, hK, hD0⟩ := hv
  have hx := B.exec
  have hb := B.bytes
  have hr := B.returns
  have hts := atoms_spec (ws := gws yX4_executeRegister cX4_executeRegister 3 (some .int)) B.pre
  have hg : ∀ w ∈ gw, w.before _ s = true := fun w h => hts w (List.mem_cons_of_mem _ h)
  have hown : s.vm.findClass RX4 = some m.cls := findClass_of_methodNamed B.named
  have hlocks := B.notSynchronized
  subst hsz
  have hD := hD0.self (sz := s.heap.size)
  generalize hAe : va_A (zC dA ad σ) s.heap.size = A at hD ⊢
  have hA : ∀ q : Nat, s.heap.size ≤ q → A q := fun q h => by rw [← hAe]; exact Or.inr h
  have hS : va_S A s.heap s.heap [] := va_S.rf
  have hl := lv_entry ([.ref (ad 18 1000), .int (Int32.ofInt a1), .int (Int32.ofInt a2)]) (n := 3) (Nat.le_of_ble_eq_true rfl)
  rw [lg_entry_eq]
  generalize (lg_sl ([.ref (ad 18 1000), .int (Int32.ofInt a1), .int (Int32.ofInt a2)]) ++ List.replicate (3 - (lg_sl ([.ref (ad 18 1000), .int (Int32.ofInt a1), .int (Int32.ofInt a2)])).length) Slot.unset).toArray = ls at hl ⊢
  have hl : lv_has ls 3 [(0, .ref (ad 18 1000)), (1, .int (Int32.ofInt a1)), (2, .int (Int32.ofInt a2))] := hl
  have hret : ∀ (v : Int) (σ : ZS) (H : Heap) (locs : List Loc) (ls : Array Slot) (pc : Nat), Q v σ → va_P D vwC (zC dA ad σ) H → va_D A (zC dA ad σ) → va_S A s.heap H locs → decode cX4_executeRegister pc = .ok (.ireturn, 1) → W p l e (gR 3 0 0) s m #[.ref (ad 18 1000), .int (Int32.ofInt a1), .int (Int32.ofInt a2)] below meth c H locs 0 0 (MQ below (va_Qi (zQi Q) (gAt D dA A (zC dA ad)) A) #[.ref (ad 18 1000), .int (Int32.ofInt a1), .int (Int32.ofInt a2)] s 0 0 A) (F0 m pc ls [.int (Int32.ofInt v)]) := fun v σ H locs ls pc hw hP hD hS hd => g_iret hx hb hr rfl hlocks hK σ hP hD hS ⟨v, rfl, hw⟩ (Nat.le_of_ble_eq_true rfl) (Nat.le_of_ble_eq_true rfl) hd
  generalize MQ below (va_Qi (zQi Q) (gAt D dA A (zC dA ad)) A) #[.ref (ad 18 1000), .int (Int32.ofInt a1), .int (Int32.ofInt a2)] s 0 0 A = QQ at hret ⊢
  have j111 : ∀ (σ : ZS), ∀ (H : Heap) (locs : List Loc) (ls : Array Slot), va_P D vwC (zC dA ad σ) H → va_D A (zC dA ad σ) → va_S A s.heap H locs → lv_has ls 3 [] → wpX4_executeRegister_111 σ Q → W p l e (gR 3 0 0) s m #[.ref (ad 18 1000), .int (Int32.ofInt a1), .int (Int32.ofInt a2)] below meth c H locs 0 0 QQ (F0 m 111 ls []) := by
    intro σ H locs ls hP hD hS hl hw
    unfold wpX4_executeRegister_111 at hw
    refine lv_iconst (v := Int32.ofInt 3) hx hb dX4_executeRegister_111 (by decide) ?_
    exact hret 3 σ _ _ _ _ hw hP hD hS dX4_executeRegister_112
  unfold wpX4_executeRegister at hw
  refine lv_iload_n hx hb dX4_executeRegister_0 rfl (lv_at hl 1 rfl) ?_
  obtain ⟨o1, hw⟩ := hw
  have t2 := z_ti o1
  by_cases s3 : a1 = 8
  · replace hw := hw.1 s3
    refine lv_tableIn (tgt := 28) hx hb dX4_executeRegister_1 (by rw [t2, s3]; decide) (by rw [t2, s3]; decide) (by rw [t2, s3]; rfl) (by decide) ?_
    refine lv_aload_n hx hb dX4_executeRegister_28 rfl (lv_at hl 0 rfl) ?_
    refine zgC18_1 hx hb hg hown hK hP q554 dX4_executeRegister_29 ?_
    refine lv_iload_n hx hb dX4_executeRegister_32 rfl (lv_at hl 2 rfl) ?_
    refine lv_aload_n hx hb dX4_executeRegister_33 rfl (lv_at hl 0 rfl) ?_
    refine zgC18_1 hx hb hg hown hK hP q554 dX4_executeRegister_34 ?_
    refine lv_iload_n hx hb dX4_executeRegister_37 rfl (lv_at hl 2 rfl) ?_
    obtain ⟨o4, hw⟩ := hw
    refine zlC18_1 hx hb o4 hK hP dX4_executeRegister_38 ?_
    refine lv_iconst (v := Int32.ofInt 1) hx hb dX4_executeRegister_39 (by decide) ?_
    refine z_iadd hx hb dX4_executeRegister_40 ?_
    refine lv_ldc hx hb hown (hg _ q1400) dX4_executeRegister_41 ?_
    refine g_nrm (y := Int32.ofInt 65535) (by decide) ?_
    refine z_iandK (M := 65536) hx hb 16 (by decide) (by decide) (by decide) dX4_executeRegister_43 ?_
    refine zsC18_1 (v := (((zA σ 18 1 a2) + 1) % 65536)) hx hb o4 hK hP hD hS dX4_executeRegister_44 (fun H locs hP hD hS => ?_)
    refine lv_aload_n hx hb dX4_executeRegister_45 rfl (lv_at hl 0 rfl) ?_
    refine lv_aload_n hx hb dX4_executeRegister_46 rfl (lv_at hl 0 rfl) ?_
    refine zgC18_1 hx hb hg hown hK hP q554 dX4_executeRegister_47 ?_
    refine lv_iload_n hx hb dX4_executeRegister_50 rfl (lv_at hl 2 rfl) ?_
    refine zlC18_1 hx hb o4 hK hP dX4_executeRegister_51 ?_
    refine z_Vv (n := 1) (As := [.int (Int32.ofInt (zA (zsA σ 18 1 a2 (((zA σ 18 1 a2) + 1) % 65536)) 18 1 a2))]) (rest := []) hx hb hml hg hown hK hP hD hS hA (kX4_judge l D dA ad (zA (zsA σ 18 1 a2 (((zA σ 18 1 a2) + 1) % 65536)) 18 1 a2) (zsA σ 18 1 a2 (((zA σ 18 1 a2) + 1) % 65536)) _ _ hw) (zoC18) rfl q1451 q159 q1448 q1450 q64 (by decide +kernel) ⟨(Nat.le_of_ble_eq_true rfl), (Nat.le_of_ble_eq_true rfl)⟩ rfl hl.1 rfl (Nat.le_of_ble_eq_true rfl) dX4_executeRegister_52 ⟨(Nat.le_of_ble_eq_true rfl), (Nat.le_of_ble_eq_true rfl)⟩ (fun σ6 H locs hw hP hD hS => ?_)
    refine lv_goto (tgt := 111) hx hb dX4_executeRegister_55 (by decide) ?_
    exact j111 σ6 _ _ _ hP hD hS (lv_sub hl [] rfl) hw
  replace hw := hw.2 s3
  by_cases s7 : a1 = 9
  · replace hw := hw.1 s7
    refine lv_tableIn (tgt := 58) hx hb dX4_executeRegister_1 (by rw [t2, s7]; decide) (by rw [t2, s7]; decide) (by rw [t2, s7]; rfl) (by decide) ?_
    refine lv_aload_n hx hb dX4_executeRegister_58 rfl (lv_at hl 0 rfl) ?_
    refine zgC18_1 hx hb hg hown hK hP q554 dX4_executeRegister_59 ?_
    refine lv_iload_n hx hb dX4_executeRegister_62 rfl (lv_at hl 2 rfl) ?_
    refine lv_aload_n hx hb dX4_executeRegister_63 rfl (lv_at hl 0 rfl) ?_
    refine zgC18_1 hx hb hg hown hK hP q554 dX4_executeRegister_64 ?_
    refine lv_iload_n hx hb dX4_executeRegister_67 rfl (lv_at hl 2 rfl) ?_
    obtain ⟨o8, hw⟩ := hw
    refine zlC18_1 hx hb o8 hK hP dX4_executeRegister_68 ?_
    refine lv_iconst (v := Int32.ofInt 1) hx hb dX4_executeRegister_69 (by decide) ?_
    refine z_isub hx hb dX4_executeRegister_70 ?_
    refine lv_ldc hx hb hown (hg _ q1400) dX4_executeRegister_71 ?_
    refine g_nrm (y := Int32.ofInt 65535) (by decide) ?_
    refine z_iandK (M := 65536) hx hb 16 (by decide) (by decide) (by decide) dX4_executeRegister_73 ?_
    refine zsC18_1 (v := (((zA σ 18 1 a2) - 1) % 65536)) hx hb o8 hK hP hD hS dX4_executeRegister_74 (fun H locs hP hD hS => ?_)
    refine lv_aload_n hx hb dX4_executeRegister_75 rfl (lv_at hl 0 rfl) ?_
    refine lv_aload_n hx hb dX4_executeRegister_76 rfl (lv_at hl 0 rfl) ?_
    refine zgC18_1 hx hb hg hown hK hP q554 dX4_executeRegister_77 ?_
    refine lv_iload_n hx hb dX4_executeRegister_80 rfl (lv_at hl 2 rfl) ?_
    refine zlC18_1 hx hb o8 hK hP dX4_executeRegister_81 ?_
    refine z_Vv (n := 1) (As := [.int (Int32.ofInt (zA (zsA σ 18 1 a2 (((zA σ 18 1 a2) - 1) % 65536)) 18 1 a2))]) (rest := []) hx hb hml hg hown hK hP hD hS hA (kX4_judge l D dA ad (zA (zsA σ 18 1 a2 (((zA σ 18 1 a2) - 1) % 65536)) 18 1 a2) (zsA σ 18 1 a2 (((zA σ 18 1 a2) - 1) % 65536)) _ _ hw) (zoC18) rfl q1451 q159 q1448 q1450 q64 (by decide +kernel) ⟨(Nat.le_of_ble_eq_true rfl), (Nat.le_of_ble_eq_true rfl)⟩ rfl hl.1 rfl (Nat.le_of_ble_eq_true rfl) dX4_executeRegister_82 ⟨(Nat.le_of_ble_eq_true rfl), (Nat.le_of_ble_eq_true rfl)⟩ (fun σ10 H locs hw hP hD hS => ?_)
    refine lv_goto (tgt := 111) hx hb dX4_executeRegister_85 (by decide) ?_
    exact j111 σ10 _ _ _ hP hD hS (lv_sub hl [] rfl) hw
  replace hw := hw.2 s7
  by_cases s11 : a1 = 10
  · replace hw := hw.1 s11
    refine lv_tableIn (tgt := 88) hx hb dX4_executeRegister_1 (by rw [t2, s11]; decide) (by rw [t2, s11]; decide) (by rw [t2, s11]; rfl) (by decide) ?_
    refine lv_aload_n hx hb dX4_executeRegister_88 rfl (lv_at hl 0 rfl) ?_
    refine lv_aload_n hx hb dX4_executeRegister_89 rfl (lv_at hl 0 rfl) ?_
    refine zgC18_1 hx hb hg hown hK hP q554 dX4_executeRegister_90 ?_
    refine lv_iload_n hx hb dX4_executeRegister_93 rfl (lv_at hl 2 rfl) ?_
    obtain ⟨o12, hw⟩ := hw
    refine zlC18_1 hx hb o12 hK hP dX4_executeRegister_94 ?_
    refine z_Vv (n := 1) (As := [.int (Int32.ofInt (zA σ 18 1 a2))]) (rest := []) hx hb hml hg hown hK hP hD hS hA (kX4_push l D dA ad (zA σ 18 1 a2) σ _ _ hw) (zoC18) rfl q1412 q159 q1409 q1411 q55 (by decide +kernel) ⟨(Nat.le_of_ble_eq_true rfl), (Nat.le_of_ble_eq_true rfl)⟩ rfl hl.1 rfl (Nat.le_of_ble_eq_true rfl) dX4_executeRegister_95 ⟨(Nat.le_of_ble_eq_true rfl), (Nat.le_of_ble_eq_true rfl)⟩ (fun σ14 H locs hw hP hD hS => ?_)
    refine lv_goto (tgt := 111) hx hb dX4_executeRegister_98 (by decide) ?_
    exact j111 σ14 _ _ _ hP hD hS (lv_sub hl [] rfl) hw
  replace hw := hw.2 s11
  refine lv_tableOut (tgt := 101) hx hb dX4_executeRegister_1 (by rw [t2]; clear hw; omega) (by decide) ?_
  refine lv_aload_n hx hb dX4_executeRegister_101 rfl (lv_at hl 0 rfl) ?_
  refine zgC18_1 hx hb hg hown hK hP q554 dX4_executeRegister_102 ?_
  refine lv_iload_n hx hb dX4_executeRegister_105 rfl (lv_at hl 2 rfl) ?_
  refine lv_aload_n hx hb dX4_executeRegister_106 rfl (lv_at hl 0 rfl) ?_
  refine z_Vi (n := 0) (As := []) (rest := [.int (Int32.ofInt a2), .ref (ad 18 1)]) hx hb hml hg hown hK hP hD hS hA (kX4_pop l D dA ad σ _ _ hw) (zoC18) rfl q1416 q159 q1413 q1415 q56 (by decide +kernel) ⟨(Nat.le_of_ble_eq_true rfl), (Nat.le_of_ble_eq_true rfl)⟩ rfl hl.1 rfl (Nat.le_of_ble_eq_true rfl) dX4_executeRegister_107 ⟨(Nat.le_of_ble_eq_true rfl), (Nat.le_of_ble_eq_true rfl)⟩ (fun x15 σ16 H locs hw hP hD hS => ?_)
  obtain ⟨o17, hw⟩ := hw
  refine zsC18_1 (v := x15) hx hb o17 hK hP hD hS dX4_executeRegister_110 (fun H locs hP hD hS => ?_)
  exact j111 (zsA σ16 18 1 a2 x15) _ _ _ hP hD hS (lv_sub hl [] rfl) hw
def wpX4_jump (a1 : Int) (σ : ZS) (Q : ZS → Prop) : Prop := Q (zsI σ 18 3 (((zI σ 18 3) + a1) % 65536))
set_option maxHeartbeats 4000000 in
set_option maxRecDepth 100000 in
theorem kX4_jump (l : Launch) (D : va_G) (dA : Nat → ClassId) (ad : Int → Nat → Nat) (a1 : Int) (σ : ZS) (Q : ZS → Prop) (sz : Nat) (hw : wpX4_jump a1 σ Q) : Met l yX4_jump (gws yX4_jump cX4_jump 2 none) (gR 1 0 0) (gPre D dA [.ref (ad 18 1000), .int (Int32.ofInt a1)] (zC dA ad σ) sz) (va_Qv Q (gAt D dA (va_A (zC dA ad σ) sz) (zC dA ad)) (va_A (zC dA ad σ) sz)) 0 0 (va_A (zC dA ad σ) sz) := by
  refine Met.ofW (cc := cX4_jump) (maxL := 2) (ret := none) (by decide) rfl ?_
  intro p e s m args below meth c s₁ B hml hv
  obtain ⟨rfl, hsz, hP, hK, hD0⟩ := hv
  have hx := B.exec
  have hb := B.bytes
  have hr := B.returns
  have hts := atoms_spec (ws := gws yX4_jump cX4_jump 2 none) B.pre
  have hg : ∀ w ∈ gw, w.before _ s = true := fun w h => hts w (List.mem_cons_of_mem _ h)
  have hown : s.vm.findClass RX4 = some m.cls := findClass_of_methodNamed B.named
  have hlocks := B.notSynchronized
  subst hsz
  have hD := hD0.self (sz := s.heap.size)
  generalize hAe : va_A (zC dA ad σ) s.heap.size = A at hD ⊢
  have hA : ∀ q : Nat, s.heap.size ≤ q → A q := fun q h => by rw [← hAe]; exact Or.inr h
  have hS : va_S A s.heap s.heap [] := va_S.rf
  have hl := lv_entry ([.ref (ad 18 1000), .int (Int32.ofInt a1)]) (n := 2) (Nat.le_of_ble_eq_true rfl)
  rw [lg_entry_eq]
  generalize (lg_sl ([.ref (ad 18 1000), .int (Int32.ofInt a1)]) ++ List.replicate (2 - (lg_sl ([.ref (ad 18 1000), .int (Int32.ofInt a1)])).length) Slot.unset).toArray = ls at hl ⊢
  have hl : lv_has ls 2 [(0, .ref (ad 18 1000)), (1, .int (Int32.ofInt a1))] := hl
  have hret : ∀ (σ : ZS) (H : Heap) (locs : List Loc) (ls : Array Slot) (pc : Nat), Q σ → va_P D vwC (zC dA ad σ) H → va_D A (zC dA ad σ) → va_S A s.heap H locs → decode cX4_jump pc = .ok (.return_, 1) → W p l e (gR 1 0 0) s m #[.ref (ad 18 1000), .int (Int32.ofInt a1)] below meth c H locs 0 0 (MQ below (va_Qv Q (gAt D dA A (zC dA ad)) A) #[.ref (ad 18 1000), .int (Int32.ofInt a1)] s 0 0 A) (F0 m pc ls []) := fun σ H locs ls pc hw hP hD hS hd => g_vret hx hb hr hlocks hK σ hP hD hS hw (Nat.le_of_ble_eq_true rfl) (Nat.le_of_ble_eq_true rfl) hd
  generalize MQ below (va_Qv Q (gAt D dA A (zC dA ad)) A) #[.ref (ad 18 1000), .int (Int32.ofInt a1)] s 0 0 A = QQ at hret ⊢
  unfold wpX4_jump at hw
  refine lv_aload_n hx hb dX4_jump_0 rfl (lv_at hl 0 rfl) ?_
  refine lv_aload_n hx hb dX4_jump_1 rfl (lv_at hl 0 rfl) ?_
  refine zgC18_3 hx hb hg hown hK hP q558 dX4_jump_2 ?_
  refine lv_iload_n hx hb dX4_jump_5 rfl (lv_at hl 1 rfl) ?_
  refine z_iadd hx hb dX4_jump_6 ?_
  refine lv_ldc hx hb hown (hg _ q1400) dX4_jump_7 ?_
  refine g_nrm (y := Int32.ofInt 65535) (by decide) ?_
  refine z_iandK (M := 65536) hx hb 16 (by decide) (by decide) (by decide) dX4_jump_9 ?_
  refine zpC18_3 (v := (((zI σ 18 3) + a1) % 65536)) hx hb hg hown hK hP hD hS q558 dX4_jump_10 (fun H locs hP hD hS => ?_)
  exact hret (zsI σ 18 3 (((zI σ 18 3) + a1) % 65536)) _ _ _ _ hw hP hD hS dX4_jump_13
def wpX4_branch_75 (σ : ZS) (Q : Int → ZS → Prop) : Prop := Q 3 σ
def wpX4_branch_58 (v1 v2 : Int) (σ : ZS) (Q : Int → ZS → Prop) : Prop := wpX4_fetchSigned σ (fun (x1 : Int) (σ2 : ZS) => (-2147483648 ≤ v2 ∧ v2 ≤ 2147483647) ∧ (v2 = (v1 % 2) → wpX4_branch_75 σ2 Q) ∧ (¬ v2 = (v1 % 2) → wpX4_jump x1 σ2 (fun (σ6 : ZS) => wpX4_branch_75 σ6 Q)))
def wpX4_branch_56 (σ : ZS) (Q : Int → ZS → Prop) : Prop := Q 2 σ
def wpX4_branch (a1 : Int) (σ : ZS) (Q : Int → ZS → Prop) : Prop := (-2147483648 ≤ a1 ∧ a1 ≤ 2147483647) ∧ ((a1 / 2) = 57 → wpX4_branch_58 a1 (zI σ 18 4) σ Q) ∧ (¬ (a1 / 2) = 57 → ((a1 / 2) = 58 → wpX4_branch_58 a1 (zI σ 18 5) σ Q) ∧ (¬ (a1 / 2) = 58 → ((a1 / 2) = 59 → wpX4_branch_56 σ Q) ∧ (¬ (a1 / 2) = 59 → ((a1 / 2) = 60 → wpX4_branch_58 a1 (zI σ 18 6) σ Q) ∧ (¬ (a1 / 2) = 60 → wpX4_branch_56 σ Q))))
set_option maxHeartbeats 4000000 in
set_option maxRecDepth 100000 in
theorem kX4_branch (l : Launch) (D : va_G) (dA : Nat → ClassId) (ad : Int → Nat → Nat) (a1 : Int) (σ : ZS) (Q : Int → ZS → Prop) (sz : Nat) (hw : wpX4_branch a1 σ Q) : Met l yX4_branch (gws yX4_branch cX4_branch 4 (some .int)) (gR 3 0 0) (gPre D dA [.ref (ad 18 1000), .int (Int32.ofInt a1)] (zC dA ad σ) sz) (va_Qi (zQi Q) (gAt D dA (va_A (zC dA ad σ) sz) (zC dA ad)) (va_A (zC dA ad σ) sz)) 0 0 (va_A (zC dA ad σ) sz) := by
  refine Met.ofW (cc := cX4_branch) (maxL := 4) (ret := (some .int)) (by decide) rfl ?_
  intro p e s m args below meth c s₁ B hml hv
  obtain ⟨rfl, hsz, hP, hK, hD0⟩ := hv
  have hx := B.exec
  have hb := B.bytes
  have hr := B.returns
  have hts := atoms_spec (ws := gws yX4_branch cX4_branch 4 (some .int)) B.pre
  have hg : ∀ w ∈ gw, w.before _ s = true := fun w h => hts w (List.mem_cons_of_mem _ h)
  have hown : s.vm.findClass RX4 = some m.cls := findClass_of_methodNamed B.named
  have hlocks := B.notSynchronized
  subst hsz
  have hD := hD0.self (sz := s.heap.size)
  generalize hAe : va_A (zC dA ad σ) s.heap.size = A at hD ⊢
  have hA : ∀ q : Nat, s.heap.size ≤ q → A q := fun q h => by rw [← hAe]; exact Or.inr h
  have hS : va_S A s.heap s.heap [] := va_S.rf
  have hl := lv_entry ([.ref (ad 18 1000), .int (Int32.ofInt a1)]) (n := 4) (Nat.le_of_ble_eq_true rfl)
  rw [lg_entry_eq]
  generalize (lg_sl ([.ref (ad 18 1000), .int (Int32.ofInt a1)]) ++ List.replicate (4 - (lg_sl ([.ref (ad 18 1000), .int (Int32.ofInt a1)])).length) Slot.unset).toArray = ls at hl ⊢
  have hl : lv_has ls 4 [(0, .ref (ad 18 1000)), (1, .int (Int32.ofInt a1))] := hl
  have hret : ∀ (v : Int) (σ : ZS) (H : Heap) (locs : List Loc) (ls : Array Slot) (pc : Nat), Q v σ → va_P D vwC (zC dA ad σ) H → va_D A (zC dA ad σ) → va_S A s.heap H locs → decode cX4_branch pc = .ok (.ireturn, 1) → W p l e (gR 3 0 0) s m #[.ref (ad 18 1000), .int (Int32.ofInt a1)] below meth c H locs 0 0 (MQ below (va_Qi (zQi Q) (gAt D dA A (zC dA ad)) A) #[.ref (ad 18 1000), .int (Int32.ofInt a1)] s 0 0 A) (F0 m pc ls [.int (Int32.ofInt v)]) := fun v σ H locs ls pc hw hP hD hS hd => g_iret hx hb hr rfl hlocks hK σ hP hD hS ⟨v, rfl, hw⟩ (Nat.le_of_ble_eq_true rfl) (Nat.le_of_ble_eq_true rfl) hd
  generalize MQ below (va_Qi (zQi Q) (gAt D dA A (zC dA ad)) A) #[.ref (ad 18 1000), .int (Int32.ofInt a1)] s 0 0 A = QQ at hret ⊢
  have j75 : ∀ (σ : ZS), ∀ (H : Heap) (locs : List Loc) (ls : Array Slot), va_P D vwC (zC dA ad σ) H → va_D A (zC dA ad σ) → va_S A s.heap H locs → lv_has ls 4 [] → wpX4_branch_75 σ Q → W p l e (gR 3 0 0) s m #[.ref (ad 18 1000), .int (Int32.ofInt a1)] below meth c H locs 0 0 QQ (F0 m 75 ls []) := by
    intro σ H locs ls hP hD hS hl hw
    unfold wpX4_branch_75 at hw
    refine lv_iconst (v := Int32.ofInt 3) hx hb dX4_branch_75 (by decide) ?_
    exact hret 3 σ _ _ _ _ hw hP hD hS dX4_branch_76
  have j58 : ∀ (v1 v2 : Int) (σ : ZS), ∀ (H : Heap) (locs : List Loc) (ls : Array Slot), va_P D vwC (zC dA ad σ) H → va_D A (zC dA ad σ) → va_S A s.heap H locs → lv_has ls 4 [(0, .ref (ad 18 1000)), (1, .int (Int32.ofInt v1)), (2, .int (Int32.ofInt v2))] → wpX4_branch_58 v1 v2 σ Q → W p l e (gR 3 0 0) s m #[.ref (ad 18 1000), .int (Int32.ofInt a1)] below meth c H locs 0 0 QQ (F0 m 58 ls []) := by
    intro v1 v2 σ H locs ls hP hD hS hl hw
    unfold wpX4_branch_58 at hw
    refine lv_aload_n hx hb dX4_branch_58 rfl (lv_at hl 0 rfl) ?_
    refine z_Vi (n := 0) (As := []) (rest := []) hx hb hml hg hown hK hP hD hS hA (kX4_fetchSigned l D dA ad σ _ _ hw) (zoC18) rfl q1435 q159 q1432 q1434 q60 (by decide +kernel) ⟨(Nat.le_of_ble_eq_true rfl), (Nat.le_of_ble_eq_true rfl)⟩ rfl hl.1 rfl (Nat.le_of_ble_eq_true rfl) dX4_branch_59 ⟨(Nat.le_of_ble_eq_true rfl), (Nat.le_of_ble_eq_true rfl)⟩ (fun x1 σ2 H locs hw hP hD hS => ?_)
    refine lv_istore_n (lv' := [(3, .int (Int32.ofInt x1)), (0, .ref (ad 18 1000)), (1, .int (Int32.ofInt v1)), (2, .int (Int32.ofInt v2))]) hx hb dX4_branch_62 rfl hl (by decide) rfl (fun ls hl => ?_)
    refine lv_iload_n hx hb dX4_branch_63 rfl (lv_at hl 3 rfl) ?_
    refine lv_iload_n hx hb dX4_branch_64 rfl (lv_at hl 2 rfl) ?_
    refine lv_iconst (v := Int32.ofInt 1) hx hb dX4_branch_65 (by decide) ?_
    refine z_iandK (M := 2) hx hb 1 (by decide) (by decide) (by decide) dX4_branch_66 ?_
    obtain ⟨o3, hw⟩ := hw
    refine z_icmp_eq (tgt := 75) hx hb o3 (by clear hw; omega) dX4_branch_67 (by decide) (fun k4 => ?_) (fun k4 => ?_)
    · replace hw := hw.1 k4
      exact j75 σ2 _ _ _ hP hD hS (lv_sub hl [] rfl) hw
    · replace hw := hw.2 k4
      refine lv_aload_n hx hb dX4_branch_70 rfl (lv_at hl 1 rfl) ?_
      refine lv_iload_n hx hb dX4_branch_71 rfl (lv_at hl 0 rfl) ?_
      refine z_Vv (n := 1) (As := [.int (Int32.ofInt x1)]) (rest := []) hx hb hml hg hown hK hP hD hS hA (kX4_jump l D dA ad x1 σ2 _ _ hw) (zoC18) rfl q1467 q159 q1464 q1466 q68 (by decide +kernel) ⟨(Nat.le_of_ble_eq_true rfl), (Nat.le_of_ble_eq_true rfl)⟩ rfl hl.1 rfl (Nat.le_of_ble_eq_true rfl) dX4_branch_72 ⟨(Nat.le_of_ble_eq_true rfl), (Nat.le_of_ble_eq_true rfl)⟩ (fun σ6 H locs hw hP hD hS => ?_)
      exact j75 σ6 _ _ _ hP hD hS (lv_sub hl [] rfl) hw
  have j56 : ∀ (σ : ZS), ∀ (H : Heap) (locs : List Loc) (ls : Array Slot), va_P D vwC (zC dA ad σ) H → va_D A (zC dA ad σ) → va_S A s.heap H locs → lv_has ls 4 [] → wpX4_branch_56 σ Q → W p l e (gR 3 0 0) s m #[.ref (ad 18 1000), .int (Int32.ofInt a1)] below meth c H locs 0 0 QQ (F0 m 56 ls []) := by
    intro σ H locs ls hP hD hS hl hw
    unfold wpX4_branch_56 at hw
    refine lv_iconst (v := Int32.ofInt 2) hx hb dX4_branch_56 (by decide) ?_
    exact hret 2 σ _ _ _ _ hw hP hD hS dX4_branch_57
  unfold wpX4_branch at hw
  refine lv_iload_n hx hb dX4_branch_0 rfl (lv_at hl 1 rfl) ?_
  refine lv_iconst (v := Int32.ofInt 1) hx hb dX4_branch_1 (by decide) ?_
  obtain ⟨o7, hw⟩ := hw
  refine z_ishrK (M := 2) hx hb 1 (by decide) (by decide) (by decide) o7 dX4_branch_2 ?_
  have t8 := z_ti (a := (a1 / 2)) (by clear hw; omega)
  by_cases s9 : (a1 / 2) = 57
  · replace hw := hw.1 s9
    refine lv_tableIn (tgt := 32) hx hb dX4_branch_3 (by rw [t8, s9]; decide) (by rw [t8, s9]; decide) (by rw [t8, s9]; rfl) (by decide) ?_
    refine lv_aload_n hx hb dX4_branch_32 rfl (lv_at hl 0 rfl) ?_
    refine zgC18_4 hx hb hg hown hK hP q560 dX4_branch_33 ?_
    refine lv_istore_n (lv' := [(2, .int (Int32.ofInt (zI σ 18 4))), (0, .ref (ad 18 1000)), (1, .int (Int32.ofInt a1))]) hx hb dX4_branch_36 rfl hl (by decide) rfl (fun ls hl => ?_)
    refine lv_goto (tgt := 58) hx hb dX4_branch_37 (by decide) ?_
    exact j58 a1 (zI σ 18 4) σ _ _ _ hP hD hS (lv_sub hl [1, 2, 0] rfl) hw
  replace hw := hw.2 s9
  by_cases s10 : (a1 / 2) = 58
  · replace hw := hw.1 s10
    refine lv_tableIn (tgt := 40) hx hb dX4_branch_3 (by rw [t8, s10]; decide) (by rw [t8, s10]; decide) (by rw [t8, s10]; rfl) (by decide) ?_
    refine lv_aload_n hx hb dX4_branch_40 rfl (lv_at hl 0 rfl) ?_
    refine zgC18_5 hx hb hg hown hK hP q562 dX4_branch_41 ?_
    refine lv_istore_n (lv' := [(2, .int (Int32.ofInt (zI σ 18 5))), (0, .ref (ad 18 1000)), (1, .int (Int32.ofInt a1))]) hx hb dX4_branch_44 rfl hl (by decide) rfl (fun ls hl => ?_)
    refine lv_goto (tgt := 58) hx hb dX4_branch_45 (by decide) ?_
    exact j58 a1 (zI σ 18 5) σ _ _ _ hP hD hS (lv_sub hl [1, 2, 0] rfl) hw
  replace hw := hw.2 s10
  by_cases s11 : (a1 / 2) = 59
  · replace hw := hw.1 s11
    refine lv_tableIn (tgt := 56) hx hb dX4_branch_3 (by rw [t8, s11]; decide) (by rw [t8, s11]; decide) (by rw [t8, s11]; rfl) (by decide) ?_
    exact j56 σ _ _ _ hP hD hS (lv_sub hl [] rfl) hw
  replace hw := hw.2 s11
  by_cases s12 : (a1 / 2) = 60
  · replace hw := hw.1 s12
    refine lv_tableIn (tgt := 48) hx hb dX4_branch_3 (by rw [t8, s12]; decide) (by rw [t8, s12]; decide) (by rw [t8, s12]; rfl) (by decide) ?_
    refine lv_aload_n hx hb dX4_branch_48 rfl (lv_at hl 0 rfl) ?_
    refine zgC18_6 hx hb hg hown hK hP q564 dX4_branch_49 ?_
    refine lv_istore_n (lv' := [(2, .int (Int32.ofInt (zI σ 18 6))), (0, .ref (ad 18 1000)), (1, .int (Int32.ofInt a1))]) hx hb dX4_branch_52 rfl hl (by decide) rfl (fun ls hl => ?_)
    refine lv_goto (tgt := 58) hx hb dX4_branch_53 (by decide) ?_
    exact j58 a1 (zI σ 18 6) σ _ _ _ hP hD hS (lv_sub hl [1, 2, 0] rfl) hw
  replace hw := hw.2 s12
  refine lv_tableOut (tgt := 56) hx hb dX4_branch_3 (by rw [t8]; clear hw; omega) (by decide) ?_
  exact j56 σ _ _ _ hP hD hS (lv_sub hl [] rfl) hw
def wpX4_shift_55 (v2 : Int) (σ : ZS) (Q : Int → ZS → Prop) : Prop := wpX4_judge v2 σ (fun (σ2 : ZS) => wpX4_writeM v2 σ2 (fun (σ4 : ZS) => Q 3 σ4))
def wpX4_shift (σ : ZS) (Q : Int → ZS → Prop) : Prop := wpX4_readM σ (fun (x5 : Int) (σ6 : ZS) => (-2147483648 ≤ (zI σ6 18 11) ∧ (zI σ6 18 11) ≤ 2147483647) ∧ (¬ (zI σ6 18 11) = 4 → (¬ (zI σ6 18 11) = 5 → Q 2 σ6) ∧ ((zI σ6 18 11) = 5 → (-2147483648 ≤ x5 ∧ x5 ≤ 2147483647) ∧ wpX4_shift_55 (x5 / 2) (zsI σ6 18 4 (x5 % 2)) Q)) ∧ ((zI σ6 18 11) = 4 → (-2147483648 ≤ x5 ∧ x5 ≤ 2147483647) ∧ wpX4_shift_55 ((x5 * 2) % 65536) (zsI σ6 18 4 (x5 / 32768)) Q))
set_option maxHeartbeats 4000000 in
set_option maxRecDepth 100000 in
theorem kX4_shift (l : Launch) (D : va_G) (dA : Nat → ClassId) (ad : Int → Nat → Nat) (σ : ZS) (Q : Int → ZS → Prop) (sz : Nat) (hw : wpX4_shift σ Q) : Met l yX4_shift (gws yX4_shift cX4_shift 3 (some .int)) (gR 3 0 0) (gPre D dA [.ref (ad 18 1000)] (zC dA ad σ) sz) (va_Qi (zQi Q) (gAt D dA (va_A (zC dA ad σ) sz) (zC dA ad)) (va_A (zC dA ad σ) sz)) 0 0 (va_A (zC dA ad σ) sz) := by
  refine Met.ofW (cc := cX4_shift) (maxL := 3) (ret := (some .int)) (by decide) rfl ?_
  intro p e s m args below meth c s₁ B hml hv
  obtain ⟨rfl, hsz, hP, hK, hD0⟩ := hv
  have hx := B.exec
  have hb := B.bytes
  have hr := B.returns
  have hts := atoms_spec (ws := gws yX4_shift cX4_shift 3 (some .int)) B.pre
  have hg : ∀ w ∈ gw, w.before _ s = true := fun w h => hts w (List.mem_cons_of_mem _ h)
  have hown : s.vm.findClass RX4 = some m.cls := findClass_of_methodNamed B.named
  have hlocks := B.notSynchronized
  subst hsz
  have hD := hD0.self (sz := s.heap.size)
  generalize hAe : va_A (zC dA ad σ) s.heap.size = A at hD ⊢
  have hA : ∀ q : Nat, s.heap.size ≤ q → A q := fun q h => by rw [← hAe]; exact Or.inr h
  have hS : va_S A s.heap s.heap [] := va_S.rf
  have hl := lv_entry ([.ref (ad 18 1000)]) (n := 3) (Nat.le_of_ble_eq_true rfl)
  rw [lg_entry_eq]
  generalize (lg_sl ([.ref (ad 18 1000)]) ++ List.replicate (3 - (lg_sl ([.ref (ad 18 1000)])).length) Slot.unset).toArray = ls at hl ⊢
  have hl : lv_has ls 3 [(0, .ref (ad 18 1000))] := hl
  have hret : ∀ (v : Int) (σ : ZS) (H : Heap) (locs : List Loc) (ls : Array Slot) (pc : Nat), Q v σ → va_P D vwC (zC dA ad σ) H → va_D A (zC dA ad σ) → va_S A s.heap H locs → decode cX4_shift pc = .ok (.ireturn, 1) → W p l e (gR 3 0 0) s m #[.ref (ad 18 1000)] below meth c H locs 0 0 (MQ below (va_Qi (zQi Q) (gAt D dA A (zC dA ad)) A) #[.ref (ad 18 1000)] s 0 0 A) (F0 m pc ls [.int (Int32.ofInt v)]) := fun v σ H locs ls pc hw hP hD hS hd => g_iret hx hb hr rfl hlocks hK σ hP hD hS ⟨v, rfl, hw⟩ (Nat.le_of_ble_eq_true rfl) (Nat.le_of_ble_eq_true rfl) hd
  generalize MQ below (va_Qi (zQi Q) (gAt D dA A (zC dA ad)) A) #[.ref (ad 18 1000)] s 0 0 A = QQ at hret ⊢
  have j55 : ∀ (v2 : Int) (σ : ZS), ∀ (H : Heap) (locs : List Loc) (ls : Array Slot), va_P D vwC (zC dA ad σ) H → va_D A (zC dA ad σ) → va_S A s.heap H locs → lv_has ls 3 [(0, .ref (ad 18 1000)), (2, .int (Int32.ofInt v2))] → wpX4_shift_55 v2 σ Q → W p l e (gR 3 0 0) s m #[.ref (ad 18 1000)] below meth c H locs 0 0 QQ (F0 m 55 ls []) := by
    intro v2 σ H locs ls hP hD hS hl hw
    unfold wpX4_shift_55 at hw
    refine lv_aload_n hx hb dX4_shift_55 rfl (lv_at hl 0 rfl) ?_
    refine lv_iload_n hx hb dX4_shift_56 rfl (lv_at hl 1 rfl) ?_
    refine z_Vv (n := 1) (As := [.int (Int32.ofInt v2)]) (rest := []) hx hb hml hg hown hK hP hD hS hA (kX4_judge l D dA ad v2 σ _ _ hw) (zoC18) rfl q1451 q159 q1448 q1450 q64 (by decide +kernel) ⟨(Nat.le_of_ble_eq_true rfl), (Nat.le_of_ble_eq_true rfl)⟩ rfl hl.1 rfl (Nat.le_of_ble_eq_true rfl) dX4_shift_57 ⟨(Nat.le_of_ble_eq_true rfl), (Nat.le_of_ble_eq_true rfl)⟩ (fun σ2 H locs hw hP hD hS => ?_)
    refine lv_aload_n hx hb dX4_shift_60 rfl (lv_at hl 0 rfl) ?_
    refine lv_iload_n hx hb dX4_shift_61 rfl (lv_at hl 1 rfl) ?_
    refine z_Vv (n := 1) (As := [.int (Int32.ofInt v2)]) (rest := []) hx hb hml hg hown hK hP hD hS hA (kX4_writeM l D dA ad v2 σ2 _ _ hw) (zoC18) rfl q1455 q159 q1452 q1454 q65 (by decide +kernel) ⟨(Nat.le_of_ble_eq_true rfl), (Nat.le_of_ble_eq_true rfl)⟩ rfl hl.1 rfl (Nat.le_of_ble_eq_true rfl) dX4_shift_62 ⟨(Nat.le_of_ble_eq_true rfl), (Nat.le_of_ble_eq_true rfl)⟩ (fun σ4 H locs hw hP hD hS => ?_)
    refine lv_iconst (v := Int32.ofInt 3) hx hb dX4_shift_65 (by decide) ?_
    exact hret 3 σ4 _ _ _ _ hw hP hD hS dX4_shift_66
  unfold wpX4_shift at hw
  refine lv_aload_n hx hb dX4_shift_0 rfl (lv_at hl 0 rfl) ?_
  refine z_Vi (n := 0) (As := []) (rest := []) hx hb hml hg hown hK hP hD hS hA (kX4_readM l D dA ad σ _ _ hw) (zoC18) rfl q1443 q159 q1440 q1442 q62 (by decide +kernel) ⟨(Nat.le_of_ble_eq_true rfl), (Nat.le_of_ble_eq_true rfl)⟩ rfl hl.1 rfl (Nat.le_of_ble_eq_true rfl) dX4_shift_1 ⟨(Nat.le_of_ble_eq_true rfl), (Nat.le_of_ble_eq_true rfl)⟩ (fun x5 σ6 H locs hw hP hD hS => ?_)
  refine lv_istore_n (lv' := [(1, .int (Int32.ofInt x5)), (0, .ref (ad 18 1000))]) hx hb dX4_shift_4 rfl hl (by decide) rfl (fun ls hl => ?_)
  refine lv_aload_n hx hb dX4_shift_5 rfl (lv_at hl 1 rfl) ?_
  refine zgC18_11 hx hb hg hown hK hP q574 dX4_shift_6 ?_
  refine lv_iconst (v := Int32.ofInt 4) hx hb dX4_shift_9 (by decide) ?_
  obtain ⟨o7, hw⟩ := hw
  refine z_icmp_ne (tgt := 31) hx hb o7 (by decide) dX4_shift_10 (by decide) (fun k8 => ?_) (fun k8 => ?_)
  · replace hw := hw.1 k8
    refine lv_aload_n hx hb dX4_shift_31 rfl (lv_at hl 1 rfl) ?_
    refine zgC18_11 hx hb hg hown hK hP q574 dX4_shift_32 ?_
    refine lv_iconst (v := Int32.ofInt 5) hx hb dX4_shift_35 (by decide) ?_
    refine z_icmp_ne (tgt := 53) hx hb o7 (by decide) dX4_shift_36 (by decide) (fun k9 => ?_) (fun k9 => ?_)
    · replace hw := hw.1 k9
      refine lv_iconst (v := Int32.ofInt 2) hx hb dX4_shift_53 (by decide) ?_
      exact hret 2 σ6 _ _ _ _ hw hP hD hS dX4_shift_54
    · replace hw := hw.2 k9
      refine lv_aload_n hx hb dX4_shift_39 rfl (lv_at hl 1 rfl) ?_
      refine lv_iload_n hx hb dX4_shift_40 rfl (lv_at hl 0 rfl) ?_
      refine lv_iconst (v := Int32.ofInt 1) hx hb dX4_shift_41 (by decide) ?_
      refine z_iandK (M := 2) hx hb 1 (by decide) (by decide) (by decide) dX4_shift_42 ?_
      refine zpC18_4 (v := (x5 % 2)) hx hb hg hown hK hP hD hS q560 dX4_shift_43 (fun H locs hP hD hS => ?_)
      refine lv_iload_n hx hb dX4_shift_46 rfl (lv_at hl 0 rfl) ?_
      refine lv_iconst (v := Int32.ofInt 1) hx hb dX4_shift_47 (by decide) ?_
      obtain ⟨o10, hw⟩ := hw
      refine z_ishrK (M := 2) hx hb 1 (by decide) (by decide) (by decide) o10 dX4_shift_48 ?_
      refine lv_istore_n (lv' := [(2, .int (Int32.ofInt (x5 / 2))), (1, .int (Int32.ofInt x5)), (0, .ref (ad 18 1000))]) hx hb dX4_shift_49 rfl hl (by decide) rfl (fun ls hl => ?_)
      refine lv_goto (tgt := 55) hx hb dX4_shift_50 (by decide) ?_
      exact j55 (x5 / 2) (zsI σ6 18 4 (x5 % 2)) _ _ _ hP hD hS (lv_sub hl [2, 0] rfl) hw
  · replace hw := hw.2 k8
    refine lv_aload_n hx hb dX4_shift_13 rfl (lv_at hl 1 rfl) ?_
    refine lv_iload_n hx hb dX4_shift_14 rfl (lv_at hl 0 rfl) ?_
    refine lv_bipush (v := Int32.ofInt 15) hx hb dX4_shift_15 (by decide) ?_
    obtain ⟨o11, hw⟩ := hw
    refine z_ishrK (M := 32768) hx hb 15 (by decide) (by decide) (by decide) o11 dX4_shift_17 ?_
    refine zpC18_4 (v := (x5 / 32768)) hx hb hg hown hK hP hD hS q560 dX4_shift_18 (fun H locs hP hD hS => ?_)
    refine lv_iload_n hx hb dX4_shift_21 rfl (lv_at hl 0 rfl) ?_
    refine lv_iconst (v := Int32.ofInt 1) hx hb dX4_shift_22 (by decide) ?_
    refine z_ishlK (M := 2) hx hb 1 (by decide) (by decide) dX4_shift_23 ?_
    refine lv_ldc hx hb hown (hg _ q1400) dX4_shift_24 ?_
    refine g_nrm (y := Int32.ofInt 65535) (by decide) ?_
    refine z_iandK (M := 65536) hx hb 16 (by decide) (by decide) (by decide) dX4_shift_26 ?_
    refine lv_istore_n (lv' := [(2, .int (Int32.ofInt ((x5 * 2) % 65536))), (1, .int (Int32.ofInt x5)), (0, .ref (ad 18 1000))]) hx hb dX4_shift_27 rfl hl (by decide) rfl (fun ls hl => ?_)
    refine lv_goto (tgt := 55) hx hb dX4_shift_28 (by decide) ?_
    exact j55 ((x5 * 2) % 65536) (zsI σ6 18 4 (x5 / 32768)) _ _ _ hP hD hS (lv_sub hl [2, 0] rfl) hw
