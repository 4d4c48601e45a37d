theorem q53 : Cond.selects RX4 yX4_execute yX4_execute ∈ gw := gw_in (i := 53) (by decide +kernel) rfl
theorem q54 : Cond.selects RX4 yX4_executeLow yX4_executeLow ∈ gw := gw_in (i := 54) (by decide +kernel) rfl
theorem q66 : Cond.selects RX4 yX4_executeRegister yX4_executeRegister ∈ gw := gw_in (i := 66) (by decide +kernel) rfl
theorem q67 : Cond.selects RX4 yX4_branch yX4_branch ∈ gw := gw_in (i := 67) (by decide +kernel) rfl
theorem q69 : Cond.selects RX4 yX4_executeM yX4_executeM ∈ gw := gw_in (i := 69) (by decide +kernel) rfl
theorem q70 : Cond.selects RX4 yX4_shift yX4_shift ∈ gw := gw_in (i := 70) (by decide +kernel) rfl
theorem q71 : Cond.selects RX4 yX4_single yX4_single ∈ gw := gw_in (i := 71) (by decide +kernel) rfl
theorem q72 : Cond.selects RX4 yX4_divide yX4_divide ∈ gw := gw_in (i := 72) (by decide +kernel) rfl
theorem q73 : Cond.selects RX4 yX4_executeFlow yX4_executeFlow ∈ gw := gw_in (i := 73) (by decide +kernel) rfl
theorem q74 : Cond.selects RX4 yX4_loop yX4_loop ∈ gw := gw_in (i := 74) (by decide +kernel) rfl
theorem q75 : Cond.selects RX4 yX4_callFar yX4_callFar ∈ gw := gw_in (i := 75) (by decide +kernel) rfl
theorem q76 : Cond.selects RX4 yX4_tellInt yX4_tellInt ∈ gw := gw_in (i := 76) (by decide +kernel) rfl
theorem q572 : Cond.fieldLink RX4 19 "SegmentBench$Machine" "told" "[I" ∈ gw := gw_in (i := 572) (by decide +kernel) rfl
theorem q1401 : Cond.methodLink RX4 92 yX4_execute ∈ gw := gw_in (i := 1401) (by decide +kernel) rfl
theorem q1403 : Cond.instanceMethod yX4_execute ∈ gw := gw_in (i := 1403) (by decide +kernel) rfl
theorem q1404 : Cond.code yX4_execute cX4_execute 2 (some .int) ∈ gw := gw_in (i := 1404) (by decide +kernel) rfl
theorem q1405 : Cond.methodLink RX4 96 yX4_executeLow ∈ gw := gw_in (i := 1405) (by decide +kernel) rfl
theorem q1407 : Cond.instanceMethod yX4_executeLow ∈ gw := gw_in (i := 1407) (by decide +kernel) rfl
theorem q1408 : Cond.code yX4_executeLow cX4_executeLow 4 (some .int) ∈ gw := gw_in (i := 1408) (by decide +kernel) rfl
theorem q1456 : Cond.methodLink RX4 100 yX4_executeRegister ∈ gw := gw_in (i := 1456) (by decide +kernel) rfl
theorem q1458 : Cond.instanceMethod yX4_executeRegister ∈ gw := gw_in (i := 1458) (by decide +kernel) rfl
theorem q1459 : Cond.code yX4_executeRegister cX4_executeRegister 3 (some .int) ∈ gw := gw_in (i := 1459) (by decide +kernel) rfl
theorem q1460 : Cond.methodLink RX4 103 yX4_branch ∈ gw := gw_in (i := 1460) (by decide +kernel) rfl
theorem q1462 : Cond.instanceMethod yX4_branch ∈ gw := gw_in (i := 1462) (by decide +kernel) rfl
theorem q1463 : Cond.code yX4_branch cX4_branch 4 (some .int) ∈ gw := gw_in (i := 1463) (by decide +kernel) rfl
theorem q1468 : Cond.methodLink RX4 112 yX4_executeM ∈ gw := gw_in (i := 1468) (by decide +kernel) rfl
theorem q1470 : Cond.instanceMethod yX4_executeM ∈ gw := gw_in (i := 1470) (by decide +kernel) rfl
theorem q1471 : Cond.code yX4_executeM cX4_executeM 2 (some .int) ∈ gw := gw_in (i := 1471) (by decide +kernel) rfl
theorem q1472 : Cond.methodLink RX4 151 yX4_shift ∈ gw := gw_in (i := 1472) (by decide +kernel) rfl
theorem q1474 : Cond.instanceMethod yX4_shift ∈ gw := gw_in (i := 1474) (by decide +kernel) rfl
theorem q1475 : Cond.code yX4_shift cX4_shift 3 (some .int) ∈ gw := gw_in (i := 1475) (by decide +kernel) rfl
theorem q1476 : Cond.methodLink RX4 154 yX4_single ∈ gw := gw_in (i := 1476) (by decide +kernel) rfl
theorem q1478 : Cond.instanceMethod yX4_single ∈ gw := gw_in (i := 1478) (by decide +kernel) rfl
theorem q1479 : Cond.code yX4_single cX4_single 3 (some .int) ∈ gw := gw_in (i := 1479) (by decide +kernel) rfl
theorem q1480 : Cond.methodLink RX4 170 yX4_divide ∈ gw := gw_in (i := 1480) (by decide +kernel) rfl
theorem q1482 : Cond.instanceMethod yX4_divide ∈ gw := gw_in (i := 1482) (by decide +kernel) rfl
theorem q1483 : Cond.code yX4_divide cX4_divide 4 (some .int) ∈ gw := gw_in (i := 1483) (by decide +kernel) rfl
theorem q1484 : Cond.constantLong RX4 173 (65536) ∈ gw := gw_in (i := 1484) (by decide +kernel) rfl
theorem q1485 : Cond.constantLong RX4 175 (65535) ∈ gw := gw_in (i := 1485) (by decide +kernel) rfl
theorem q1486 : Cond.methodLink RX4 115 yX4_executeFlow ∈ gw := gw_in (i := 1486) (by decide +kernel) rfl
theorem q1488 : Cond.instanceMethod yX4_executeFlow ∈ gw := gw_in (i := 1488) (by decide +kernel) rfl
theorem q1489 : Cond.code yX4_executeFlow cX4_executeFlow 3 (some .int) ∈ gw := gw_in (i := 1489) (by decide +kernel) rfl
theorem q1490 : Cond.methodLink RX4 157 yX4_loop ∈ gw := gw_in (i := 1490) (by decide +kernel) rfl
theorem q1492 : Cond.instanceMethod yX4_loop ∈ gw := gw_in (i := 1492) (by decide +kernel) rfl
theorem q1493 : Cond.code yX4_loop cX4_loop 2 (some .int) ∈ gw := gw_in (i := 1493) (by decide +kernel) rfl
theorem q1494 : Cond.methodLink RX4 160 yX4_callFar ∈ gw := gw_in (i := 1494) (by decide +kernel) rfl
theorem q1496 : Cond.instanceMethod yX4_callFar ∈ gw := gw_in (i := 1496) (by decide +kernel) rfl
theorem q1497 : Cond.code yX4_callFar cX4_callFar 3 (some .int) ∈ gw := gw_in (i := 1497) (by decide +kernel) rfl
theorem q1498 : Cond.methodLink RX4 163 yX4_tellInt ∈ gw := gw_in (i := 1498) (by decide +kernel) rfl
theorem q1500 : Cond.instanceMethod yX4_tellInt ∈ gw := gw_in (i := 1500) (by decide +kernel) rfl
theorem q1501 : Cond.code yX4_tellInt cX4_tellInt 2 none ∈ gw := gw_in (i := 1501) (by decide +kernel) rfl
theorem q1502 : Cond.constant RX4 166 (65536) ∈ gw := gw_in (i := 1502) (by decide +kernel) rfl
theorem dX4_divide_0 : decode cX4_divide 0 = .ok (.ldc2_w 173, 3) := by decide +kernel
theorem dX4_divide_3 : decode cX4_divide 3 = .ok (.aload_n 0, 1) := by decide +kernel
theorem dX4_divide_4 : decode cX4_divide 4 = .ok (.getfield 13, 3) := by decide +kernel
theorem dX4_divide_7 : decode cX4_divide 7 = .ok (.iconst 2, 1) := by decide +kernel
theorem dX4_divide_8 : decode cX4_divide 8 = .ok (.iaload, 1) := by decide +kernel
theorem dX4_divide_9 : decode cX4_divide 9 = .ok (.i2l, 1) := by decide +kernel
theorem dX4_divide_10 : decode cX4_divide 10 = .ok (.lmul, 1) := by decide +kernel
theorem dX4_divide_11 : decode cX4_divide 11 = .ok (.aload_n 0, 1) := by decide +kernel
theorem dX4_divide_12 : decode cX4_divide 12 = .ok (.getfield 13, 3) := by decide +kernel
theorem dX4_divide_15 : decode cX4_divide 15 = .ok (.iconst 0, 1) := by decide +kernel
theorem dX4_divide_16 : decode cX4_divide 16 = .ok (.iaload, 1) := by decide +kernel
theorem dX4_divide_17 : decode cX4_divide 17 = .ok (.i2l, 1) := by decide +kernel
theorem dX4_divide_18 : decode cX4_divide 18 = .ok (.ladd, 1) := by decide +kernel
theorem dX4_divide_19 : decode cX4_divide 19 = .ok (.lstore_n 2, 1) := by decide +kernel
theorem dX4_divide_20 : decode cX4_divide 20 = .ok (.iload_n 1, 1) := by decide +kernel
theorem dX4_divide_21 : decode cX4_divide 21 = .ok (.ifCond .eq 14, 3) := by decide +kernel
theorem dX4_divide_24 : decode cX4_divide 24 = .ok (.lload_n 2, 1) := by decide +kernel
theorem dX4_divide_25 : decode cX4_divide 25 = .ok (.iload_n 1, 1) := by decide +kernel
theorem dX4_divide_26 : decode cX4_divide 26 = .ok (.i2l, 1) := by decide +kernel
theorem dX4_divide_27 : decode cX4_divide 27 = .ok (.ldiv, 1) := by decide +kernel
theorem dX4_divide_28 : decode cX4_divide 28 = .ok (.ldc2_w 175, 3) := by decide +kernel
theorem dX4_divide_31 : decode cX4_divide 31 = .ok (.lcmp, 1) := by decide +kernel
theorem dX4_divide_32 : decode cX4_divide 32 = .ok (.ifCond .le 5, 3) := by decide +kernel
theorem dX4_divide_37 : decode cX4_divide 37 = .ok (.aload_n 0, 1) := by decide +kernel
theorem dX4_divide_38 : decode cX4_divide 38 = .ok (.getfield 13, 3) := by decide +kernel
theorem dX4_divide_41 : decode cX4_divide 41 = .ok (.iconst 0, 1) := by decide +kernel
theorem dX4_divide_42 : decode cX4_divide 42 = .ok (.lload_n 2, 1) := by decide +kernel
theorem dX4_divide_43 : decode cX4_divide 43 = .ok (.iload_n 1, 1) := by decide +kernel
theorem dX4_divide_44 : decode cX4_divide 44 = .ok (.i2l, 1) := by decide +kernel
theorem dX4_divide_45 : decode cX4_divide 45 = .ok (.ldiv, 1) := by decide +kernel
theorem dX4_divide_46 : decode cX4_divide 46 = .ok (.l2i, 1) := by decide +kernel
theorem dX4_divide_47 : decode cX4_divide 47 = .ok (.iastore, 1) := by decide +kernel
theorem dX4_divide_48 : decode cX4_divide 48 = .ok (.aload_n 0, 1) := by decide +kernel
theorem dX4_divide_49 : decode cX4_divide 49 = .ok (.getfield 13, 3) := by decide +kernel
theorem dX4_divide_52 : decode cX4_divide 52 = .ok (.iconst 2, 1) := by decide +kernel
theorem dX4_divide_53 : decode cX4_divide 53 = .ok (.lload_n 2, 1) := by decide +kernel
theorem dX4_divide_54 : decode cX4_divide 54 = .ok (.iload_n 1, 1) := by decide +kernel
theorem dX4_divide_55 : decode cX4_divide 55 = .ok (.i2l, 1) := by decide +kernel
theorem dX4_divide_56 : decode cX4_divide 56 = .ok (.lrem, 1) := by decide +kernel
theorem dX4_divide_57 : decode cX4_divide 57 = .ok (.l2i, 1) := by decide +kernel
theorem dX4_divide_58 : decode cX4_divide 58 = .ok (.iastore, 1) := by decide +kernel
theorem dX4_divide_59 : decode cX4_divide 59 = .ok (.iconst 3, 1) := by decide +kernel
theorem dX4_divide_60 : decode cX4_divide 60 = .ok (.ireturn, 1) := by decide +kernel
theorem dX4_divide_35 : decode cX4_divide 35 = .ok (.iconst 1, 1) := by decide +kernel
theorem dX4_divide_36 : decode cX4_divide 36 = .ok (.ireturn, 1) := by decide +kernel
theorem dX4_single_0 : decode cX4_single 0 = .ok (.aload_n 0, 1) := by decide +kernel
theorem dX4_single_1 : decode cX4_single 1 = .ok (.getfield 45, 3) := by decide +kernel
theorem dX4_single_4 : decode cX4_single 4 = .ok (.tableswitch 116 3 6 #[32, 48, 116, 107], 32) := by decide +kernel
theorem dX4_single_36 : decode cX4_single 36 = .ok (.aload_n 0, 1) := by decide +kernel
theorem dX4_single_37 : decode cX4_single 37 = .ok (.aload_n 0, 1) := by decide +kernel
theorem dX4_single_38 : decode cX4_single 38 = .ok (.iconst 5, 1) := by decide +kernel
theorem dX4_single_39 : decode cX4_single 39 = .ok (.iconst 0, 1) := by decide +kernel
theorem dX4_single_40 : decode cX4_single 40 = .ok (.aload_n 0, 1) := by decide +kernel
theorem dX4_single_41 : decode cX4_single 41 = .ok (.invokevirtual 132, 3) := by decide +kernel
theorem dX4_single_44 : decode cX4_single 44 = .ok (.invokevirtual 135, 3) := by decide +kernel
theorem dX4_single_47 : decode cX4_single 47 = .ok (.invokevirtual 148, 3) := by decide +kernel
theorem dX4_single_50 : decode cX4_single 50 = .ok (.iconst 3, 1) := by decide +kernel
theorem dX4_single_51 : decode cX4_single 51 = .ok (.ireturn, 1) := by decide +kernel
theorem dX4_single_52 : decode cX4_single 52 = .ok (.aload_n 0, 1) := by decide +kernel
theorem dX4_single_53 : decode cX4_single 53 = .ok (.getfield 13, 3) := by decide +kernel
theorem dX4_single_56 : decode cX4_single 56 = .ok (.iconst 0, 1) := by decide +kernel
theorem dX4_single_57 : decode cX4_single 57 = .ok (.iaload, 1) := by decide +kernel
theorem dX4_single_58 : decode cX4_single 58 = .ok (.i2l, 1) := by decide +kernel
theorem dX4_single_59 : decode cX4_single 59 = .ok (.aload_n 0, 1) := by decide +kernel
theorem dX4_single_60 : decode cX4_single 60 = .ok (.invokevirtual 132, 3) := by decide +kernel
theorem dX4_single_63 : decode cX4_single 63 = .ok (.i2l, 1) := by decide +kernel
theorem dX4_single_64 : decode cX4_single 64 = .ok (.lmul, 1) := by decide +kernel
theorem dX4_single_65 : decode cX4_single 65 = .ok (.lstore_n 1, 1) := by decide +kernel
theorem dX4_single_66 : decode cX4_single 66 = .ok (.aload_n 0, 1) := by decide +kernel
theorem dX4_single_67 : decode cX4_single 67 = .ok (.getfield 13, 3) := by decide +kernel
theorem dX4_single_70 : decode cX4_single 70 = .ok (.iconst 0, 1) := by decide +kernel
theorem dX4_single_71 : decode cX4_single 71 = .ok (.lload_n 1, 1) := by decide +kernel
theorem dX4_single_72 : decode cX4_single 72 = .ok (.l2i, 1) := by decide +kernel
theorem dX4_single_73 : decode cX4_single 73 = .ok (.ldc 95, 2) := by decide +kernel
theorem dX4_single_75 : decode cX4_single 75 = .ok (.iand, 1) := by decide +kernel
theorem dX4_single_76 : decode cX4_single 76 = .ok (.iastore, 1) := by decide +kernel
theorem dX4_single_77 : decode cX4_single 77 = .ok (.aload_n 0, 1) := by decide +kernel
theorem dX4_single_78 : decode cX4_single 78 = .ok (.getfield 13, 3) := by decide +kernel
theorem dX4_single_81 : decode cX4_single 81 = .ok (.iconst 2, 1) := by decide +kernel
theorem dX4_single_82 : decode cX4_single 82 = .ok (.lload_n 1, 1) := by decide +kernel
theorem dX4_single_83 : decode cX4_single 83 = .ok (.bipush 16, 2) := by decide +kernel
theorem dX4_single_85 : decode cX4_single 85 = .ok (.lshr, 1) := by decide +kernel
theorem dX4_single_86 : decode cX4_single 86 = .ok (.l2i, 1) := by decide +kernel
theorem dX4_single_87 : decode cX4_single 87 = .ok (.ldc 95, 2) := by decide +kernel
theorem dX4_single_89 : decode cX4_single 89 = .ok (.iand, 1) := by decide +kernel
theorem dX4_single_90 : decode cX4_single 90 = .ok (.iastore, 1) := by decide +kernel
theorem dX4_single_91 : decode cX4_single 91 = .ok (.aload_n 0, 1) := by decide +kernel
theorem dX4_single_92 : decode cX4_single 92 = .ok (.aload_n 0, 1) := by decide +kernel
theorem dX4_single_93 : decode cX4_single 93 = .ok (.getfield 13, 3) := by decide +kernel
theorem dX4_single_96 : decode cX4_single 96 = .ok (.iconst 2, 1) := by decide +kernel
theorem dX4_single_97 : decode cX4_single 97 = .ok (.iaload, 1) := by decide +kernel
theorem dX4_single_98 : decode cX4_single 98 = .ok (.ifCond .eq 7, 3) := by decide +kernel
theorem dX4_single_105 : decode cX4_single 105 = .ok (.iconst 0, 1) := by decide +kernel
theorem dX4_single_101 : decode cX4_single 101 = .ok (.iconst 1, 1) := by decide +kernel
theorem dX4_single_102 : decode cX4_single 102 = .ok (.goto 4, 3) := by decide +kernel
theorem dX4_single_111 : decode cX4_single 111 = .ok (.aload_n 0, 1) := by decide +kernel
theorem dX4_single_112 : decode cX4_single 112 = .ok (.aload_n 0, 1) := by decide +kernel
theorem dX4_single_113 : decode cX4_single 113 = .ok (.invokevirtual 132, 3) := by decide +kernel
theorem dX4_single_116 : decode cX4_single 116 = .ok (.invokevirtual 170, 3) := by decide +kernel
theorem dX4_single_119 : decode cX4_single 119 = .ok (.ireturn, 1) := by decide +kernel
theorem dX4_single_106 : decode cX4_single 106 = .ok (.putfield 30, 3) := by decide +kernel
theorem dX4_single_109 : decode cX4_single 109 = .ok (.iconst 3, 1) := by decide +kernel
theorem dX4_single_110 : decode cX4_single 110 = .ok (.ireturn, 1) := by decide +kernel
theorem dX4_single_120 : decode cX4_single 120 = .ok (.iconst 2, 1) := by decide +kernel
theorem dX4_single_121 : decode cX4_single 121 = .ok (.ireturn, 1) := by decide +kernel
theorem dX4_executeM_0 : decode cX4_executeM 0 = .ok (.iload_n 1, 1) := by decide +kernel
theorem dX4_executeM_1 : decode cX4_executeM 1 = .ok (.lookupswitch 205 #[(129, 67), (137, 93), (139, 108), (140, 123), (142, 148), (199, 181), (209, 200)], 67) := by decide +kernel
theorem dX4_executeM_68 : decode cX4_executeM 68 = .ok (.aload_n 0, 1) := by decide +kernel
theorem dX4_executeM_69 : decode cX4_executeM 69 = .ok (.getfield 45, 3) := by decide +kernel
theorem dX4_executeM_72 : decode cX4_executeM 72 = .ok (.invokestatic 125, 3) := by decide +kernel
theorem dX4_executeM_75 : decode cX4_executeM 75 = .ok (.ifCond .ne 5, 3) := by decide +kernel
theorem dX4_executeM_80 : decode cX4_executeM 80 = .ok (.aload_n 0, 1) := by decide +kernel
theorem dX4_executeM_81 : decode cX4_executeM 81 = .ok (.aload_n 0, 1) := by decide +kernel
theorem dX4_executeM_82 : decode cX4_executeM 82 = .ok (.getfield 45, 3) := by decide +kernel
theorem dX4_executeM_85 : decode cX4_executeM 85 = .ok (.aload_n 0, 1) := by decide +kernel
theorem dX4_executeM_86 : decode cX4_executeM 86 = .ok (.invokevirtual 106, 3) := by decide +kernel
theorem dX4_executeM_89 : decode cX4_executeM 89 = .ok (.invokevirtual 129, 3) := by decide +kernel
theorem dX4_executeM_92 : decode cX4_executeM 92 = .ok (.iconst 3, 1) := by decide +kernel
theorem dX4_executeM_93 : decode cX4_executeM 93 = .ok (.ireturn, 1) := by decide +kernel
theorem dX4_executeM_78 : decode cX4_executeM 78 = .ok (.iconst 2, 1) := by decide +kernel
theorem dX4_executeM_79 : decode cX4_executeM 79 = .ok (.ireturn, 1) := by decide +kernel
theorem dX4_executeM_94 : decode cX4_executeM 94 = .ok (.aload_n 0, 1) := by decide +kernel
theorem dX4_executeM_95 : decode cX4_executeM 95 = .ok (.aload_n 0, 1) := by decide +kernel
theorem dX4_executeM_96 : decode cX4_executeM 96 = .ok (.getfield 13, 3) := by decide +kernel
theorem dX4_executeM_99 : decode cX4_executeM 99 = .ok (.aload_n 0, 1) := by decide +kernel
theorem dX4_executeM_100 : decode cX4_executeM 100 = .ok (.getfield 45, 3) := by decide +kernel
theorem dX4_executeM_103 : decode cX4_executeM 103 = .ok (.iaload, 1) := by decide +kernel
theorem dX4_executeM_104 : decode cX4_executeM 104 = .ok (.invokevirtual 148, 3) := by decide +kernel
theorem dX4_executeM_107 : decode cX4_executeM 107 = .ok (.iconst 3, 1) := by decide +kernel
theorem dX4_executeM_108 : decode cX4_executeM 108 = .ok (.ireturn, 1) := by decide +kernel
theorem dX4_executeM_109 : decode cX4_executeM 109 = .ok (.aload_n 0, 1) := by decide +kernel
theorem dX4_executeM_110 : decode cX4_executeM 110 = .ok (.getfield 13, 3) := by decide +kernel
theorem dX4_executeM_113 : decode cX4_executeM 113 = .ok (.aload_n 0, 1) := by decide +kernel
theorem dX4_executeM_114 : decode cX4_executeM 114 = .ok (.getfield 45, 3) := by decide +kernel
theorem dX4_executeM_117 : decode cX4_executeM 117 = .ok (.aload_n 0, 1) := by decide +kernel
theorem dX4_executeM_118 : decode cX4_executeM 118 = .ok (.invokevirtual 132, 3) := by decide +kernel
theorem dX4_executeM_121 : decode cX4_executeM 121 = .ok (.iastore, 1) := by decide +kernel
theorem dX4_executeM_122 : decode cX4_executeM 122 = .ok (.iconst 3, 1) := by decide +kernel
theorem dX4_executeM_123 : decode cX4_executeM 123 = .ok (.ireturn, 1) := by decide +kernel
theorem dX4_executeM_124 : decode cX4_executeM 124 = .ok (.aload_n 0, 1) := by decide +kernel
theorem dX4_executeM_125 : decode cX4_executeM 125 = .ok (.getfield 45, 3) := by decide +kernel
theorem dX4_executeM_128 : decode cX4_executeM 128 = .ok (.iconst 3, 1) := by decide +kernel
theorem dX4_executeM_129 : decode cX4_executeM 129 = .ok (.if_icmp .le 5, 3) := by decide +kernel
theorem dX4_executeM_134 : decode cX4_executeM 134 = .ok (.aload_n 0, 1) := by decide +kernel
theorem dX4_executeM_135 : decode cX4_executeM 135 = .ok (.aload_n 0, 1) := by decide +kernel
theorem dX4_executeM_136 : decode cX4_executeM 136 = .ok (.getfield 16, 3) := by decide +kernel
theorem dX4_executeM_139 : decode cX4_executeM 139 = .ok (.aload_n 0, 1) := by decide +kernel
theorem dX4_executeM_140 : decode cX4_executeM 140 = .ok (.getfield 45, 3) := by decide +kernel
theorem dX4_executeM_143 : decode cX4_executeM 143 = .ok (.iaload, 1) := by decide +kernel
theorem dX4_executeM_144 : decode cX4_executeM 144 = .ok (.invokevirtual 148, 3) := by decide +kernel
theorem dX4_executeM_147 : decode cX4_executeM 147 = .ok (.iconst 3, 1) := by decide +kernel
theorem dX4_executeM_148 : decode cX4_executeM 148 = .ok (.ireturn, 1) := by decide +kernel
theorem dX4_executeM_132 : decode cX4_executeM 132 = .ok (.iconst 2, 1) := by decide +kernel
theorem dX4_executeM_133 : decode cX4_executeM 133 = .ok (.ireturn, 1) := by decide +kernel
theorem dX4_executeM_149 : decode cX4_executeM 149 = .ok (.aload_n 0, 1) := by decide +kernel
theorem dX4_executeM_150 : decode cX4_executeM 150 = .ok (.getfield 45, 3) := by decide +kernel
theorem dX4_executeM_153 : decode cX4_executeM 153 = .ok (.iconst 3, 1) := by decide +kernel
theorem dX4_executeM_154 : decode cX4_executeM 154 = .ok (.if_icmp .gt 11, 3) := by decide +kernel
theorem dX4_executeM_157 : decode cX4_executeM 157 = .ok (.aload_n 0, 1) := by decide +kernel
theorem dX4_executeM_158 : decode cX4_executeM 158 = .ok (.getfield 45, 3) := by decide +kernel
theorem dX4_executeM_161 : decode cX4_executeM 161 = .ok (.iconst 1, 1) := by decide +kernel
theorem dX4_executeM_162 : decode cX4_executeM 162 = .ok (.if_icmp .ne 5, 3) := by decide +kernel
theorem dX4_executeM_167 : decode cX4_executeM 167 = .ok (.aload_n 0, 1) := by decide +kernel
theorem dX4_executeM_168 : decode cX4_executeM 168 = .ok (.getfield 16, 3) := by decide +kernel
theorem dX4_executeM_171 : decode cX4_executeM 171 = .ok (.aload_n 0, 1) := by decide +kernel
theorem dX4_executeM_172 : decode cX4_executeM 172 = .ok (.getfield 45, 3) := by decide +kernel
theorem dX4_executeM_175 : decode cX4_executeM 175 = .ok (.aload_n 0, 1) := by decide +kernel
theorem dX4_executeM_176 : decode cX4_executeM 176 = .ok (.invokevirtual 132, 3) := by decide +kernel
theorem dX4_executeM_179 : decode cX4_executeM 179 = .ok (.iastore, 1) := by decide +kernel
theorem dX4_executeM_180 : decode cX4_executeM 180 = .ok (.iconst 3, 1) := by decide +kernel
theorem dX4_executeM_181 : decode cX4_executeM 181 = .ok (.ireturn, 1) := by decide +kernel
theorem dX4_executeM_182 : decode cX4_executeM 182 = .ok (.aload_n 0, 1) := by decide +kernel
theorem dX4_executeM_183 : decode cX4_executeM 183 = .ok (.getfield 45, 3) := by decide +kernel
theorem dX4_executeM_186 : decode cX4_executeM 186 = .ok (.ifCond .eq 5, 3) := by decide +kernel
theorem dX4_executeM_191 : decode cX4_executeM 191 = .ok (.aload_n 0, 1) := by decide +kernel
theorem dX4_executeM_192 : decode cX4_executeM 192 = .ok (.aload_n 0, 1) := by decide +kernel
theorem dX4_executeM_193 : decode cX4_executeM 193 = .ok (.invokevirtual 106, 3) := by decide +kernel
theorem dX4_executeM_196 : decode cX4_executeM 196 = .ok (.invokevirtual 148, 3) := by decide +kernel
theorem dX4_executeM_199 : decode cX4_executeM 199 = .ok (.iconst 3, 1) := by decide +kernel
theorem dX4_executeM_200 : decode cX4_executeM 200 = .ok (.ireturn, 1) := by decide +kernel
theorem dX4_executeM_189 : decode cX4_executeM 189 = .ok (.iconst 2, 1) := by decide +kernel
theorem dX4_executeM_190 : decode cX4_executeM 190 = .ok (.ireturn, 1) := by decide +kernel
theorem dX4_executeM_201 : decode cX4_executeM 201 = .ok (.aload_n 0, 1) := by decide +kernel
theorem dX4_executeM_202 : decode cX4_executeM 202 = .ok (.invokevirtual 151, 3) := by decide +kernel
theorem dX4_executeM_205 : decode cX4_executeM 205 = .ok (.ireturn, 1) := by decide +kernel
theorem dX4_executeM_206 : decode cX4_executeM 206 = .ok (.aload_n 0, 1) := by decide +kernel
theorem dX4_executeM_207 : decode cX4_executeM 207 = .ok (.invokevirtual 154, 3) := by decide +kernel
theorem dX4_executeM_210 : decode cX4_executeM 210 = .ok (.ireturn, 1) := by decide +kernel
theorem dX4_executeM_165 : decode cX4_executeM 165 = .ok (.iconst 2, 1) := by decide +kernel
theorem dX4_executeM_166 : decode cX4_executeM 166 = .ok (.ireturn, 1) := by decide +kernel
theorem dX4_loop_0 : decode cX4_loop 0 = .ok (.aload_n 0, 1) := by decide +kernel
theorem dX4_loop_1 : decode cX4_loop 1 = .ok (.getfield 13, 3) := by decide +kernel
theorem dX4_loop_4 : decode cX4_loop 4 = .ok (.iconst 1, 1) := by decide +kernel
theorem dX4_loop_5 : decode cX4_loop 5 = .ok (.aload_n 0, 1) := by decide +kernel
theorem dX4_loop_6 : decode cX4_loop 6 = .ok (.getfield 13, 3) := by decide +kernel
theorem dX4_loop_9 : decode cX4_loop 9 = .ok (.iconst 1, 1) := by decide +kernel
theorem dX4_loop_10 : decode cX4_loop 10 = .ok (.iaload, 1) := by decide +kernel
theorem dX4_loop_11 : decode cX4_loop 11 = .ok (.iconst 1, 1) := by decide +kernel
theorem dX4_loop_12 : decode cX4_loop 12 = .ok (.isub, 1) := by decide +kernel
theorem dX4_loop_13 : decode cX4_loop 13 = .ok (.ldc 95, 2) := by decide +kernel
theorem dX4_loop_15 : decode cX4_loop 15 = .ok (.iand, 1) := by decide +kernel
theorem dX4_loop_16 : decode cX4_loop 16 = .ok (.iastore, 1) := by decide +kernel
theorem dX4_loop_17 : decode cX4_loop 17 = .ok (.aload_n 0, 1) := by decide +kernel
theorem dX4_loop_18 : decode cX4_loop 18 = .ok (.getfield 13, 3) := by decide +kernel
theorem dX4_loop_21 : decode cX4_loop 21 = .ok (.iconst 1, 1) := by decide +kernel
theorem dX4_loop_22 : decode cX4_loop 22 = .ok (.iaload, 1) := by decide +kernel
theorem dX4_loop_23 : decode cX4_loop 23 = .ok (.ifCond .eq 8, 3) := by decide +kernel
theorem dX4_loop_26 : decode cX4_loop 26 = .ok (.aload_n 0, 1) := by decide +kernel
theorem dX4_loop_27 : decode cX4_loop 27 = .ok (.iload_n 1, 1) := by decide +kernel
theorem dX4_loop_28 : decode cX4_loop 28 = .ok (.invokevirtual 145, 3) := by decide +kernel
theorem dX4_loop_31 : decode cX4_loop 31 = .ok (.iconst 3, 1) := by decide +kernel
theorem dX4_loop_32 : decode cX4_loop 32 = .ok (.ireturn, 1) := by decide +kernel
theorem dX4_callFar_0 : decode cX4_callFar 0 = .ok (.aload_n 0, 1) := by decide +kernel
theorem dX4_callFar_1 : decode cX4_callFar 1 = .ok (.aload_n 0, 1) := by decide +kernel
theorem dX4_callFar_2 : decode cX4_callFar 2 = .ok (.getfield 16, 3) := by decide +kernel
theorem dX4_callFar_5 : decode cX4_callFar 5 = .ok (.iconst 1, 1) := by decide +kernel
theorem dX4_callFar_6 : decode cX4_callFar 6 = .ok (.iaload, 1) := by decide +kernel
theorem dX4_callFar_7 : decode cX4_callFar 7 = .ok (.invokevirtual 118, 3) := by decide +kernel
theorem dX4_callFar_10 : decode cX4_callFar 10 = .ok (.aload_n 0, 1) := by decide +kernel
theorem dX4_callFar_11 : decode cX4_callFar 11 = .ok (.aload_n 0, 1) := by decide +kernel
theorem dX4_callFar_12 : decode cX4_callFar 12 = .ok (.getfield 26, 3) := by decide +kernel
theorem dX4_callFar_15 : decode cX4_callFar 15 = .ok (.invokevirtual 118, 3) := by decide +kernel
theorem dX4_callFar_18 : decode cX4_callFar 18 = .ok (.aload_n 0, 1) := by decide +kernel
theorem dX4_callFar_19 : decode cX4_callFar 19 = .ok (.iload_n 1, 1) := by decide +kernel
theorem dX4_callFar_20 : decode cX4_callFar 20 = .ok (.putfield 26, 3) := by decide +kernel
theorem dX4_callFar_23 : decode cX4_callFar 23 = .ok (.aload_n 0, 1) := by decide +kernel
theorem dX4_callFar_24 : decode cX4_callFar 24 = .ok (.getfield 16, 3) := by decide +kernel
theorem dX4_callFar_27 : decode cX4_callFar 27 = .ok (.iconst 1, 1) := by decide +kernel
theorem dX4_callFar_28 : decode cX4_callFar 28 = .ok (.iload_n 2, 1) := by decide +kernel
theorem dX4_callFar_29 : decode cX4_callFar 29 = .ok (.iastore, 1) := by decide +kernel
theorem dX4_callFar_30 : decode cX4_callFar 30 = .ok (.iconst 3, 1) := by decide +kernel
theorem dX4_callFar_31 : decode cX4_callFar 31 = .ok (.ireturn, 1) := by decide +kernel
theorem dX4_tellInt_0 : decode cX4_tellInt 0 = .ok (.aload_n 0, 1) := by decide +kernel
theorem dX4_tellInt_1 : decode cX4_tellInt 1 = .ok (.getfield 42, 3) := by decide +kernel
theorem dX4_tellInt_4 : decode cX4_tellInt 4 = .ok (.bipush 30, 2) := by decide +kernel
theorem dX4_tellInt_6 : decode cX4_tellInt 6 = .ok (.if_icmp .ge 23, 3) := by decide +kernel
theorem dX4_tellInt_9 : decode cX4_tellInt 9 = .ok (.aload_n 0, 1) := by decide +kernel
theorem dX4_tellInt_10 : decode cX4_tellInt 10 = .ok (.getfield 19, 3) := by decide +kernel
theorem dX4_tellInt_13 : decode cX4_tellInt 13 = .ok (.aload_n 0, 1) := by decide +kernel
theorem dX4_tellInt_14 : decode cX4_tellInt 14 = .ok (.getfield 42, 3) := by decide +kernel
theorem dX4_tellInt_17 : decode cX4_tellInt 17 = .ok (.ldc 166, 2) := by decide +kernel
theorem dX4_tellInt_19 : decode cX4_tellInt 19 = .ok (.iload_n 1, 1) := by decide +kernel
theorem dX4_tellInt_20 : decode cX4_tellInt 20 = .ok (.imul, 1) := by decide +kernel
theorem dX4_tellInt_21 : decode cX4_tellInt 21 = .ok (.aload_n 0, 1) := by decide +kernel
theorem dX4_tellInt_22 : decode cX4_tellInt 22 = .ok (.getfield 13, 3) := by decide +kernel
theorem dX4_tellInt_25 : decode cX4_tellInt 25 = .ok (.iconst 0, 1) := by decide +kernel
theorem dX4_tellInt_26 : decode cX4_tellInt 26 = .ok (.iaload, 1) := by decide +kernel
theorem dX4_tellInt_27 : decode cX4_tellInt 27 = .ok (.iadd, 1) := by decide +kernel
theorem dX4_tellInt_28 : decode cX4_tellInt 28 = .ok (.iastore, 1) := by decide +kernel
theorem dX4_tellInt_29 : decode cX4_tellInt 29 = .ok (.aload_n 0, 1) := by decide +kernel
theorem dX4_tellInt_30 : decode cX4_tellInt 30 = .ok (.dup, 1) := by decide +kernel
theorem dX4_tellInt_31 : decode cX4_tellInt 31 = .ok (.getfield 42, 3) := by decide +kernel
theorem dX4_tellInt_34 : decode cX4_tellInt 34 = .ok (.iconst 1, 1) := by decide +kernel
theorem dX4_tellInt_35 : decode cX4_tellInt 35 = .ok (.iadd, 1) := by decide +kernel
theorem dX4_tellInt_36 : decode cX4_tellInt 36 = .ok (.putfield 42, 3) := by decide +kernel
theorem dX4_tellInt_39 : decode cX4_tellInt 39 = .ok (.return_, 1) := by decide +kernel
theorem dX4_executeFlow_0 : decode cX4_executeFlow 0 = .ok (.iload_n 1, 1) := by decide +kernel
theorem dX4_executeFlow_1 : decode cX4_executeFlow 1 = .ok (.lookupswitch 187 #[(154, 132), (195, 145), (203, 155), (205, 175), (226, 103), (232, 112), (233, 93), (235, 83), (244, 185)], 83) := by decide +kernel
theorem dX4_executeFlow_133 : decode cX4_executeFlow 133 = .ok (.aload_n 0, 1) := by decide +kernel
theorem dX4_executeFlow_134 : decode cX4_executeFlow 134 = .ok (.aload_n 0, 1) := by decide +kernel
theorem dX4_executeFlow_135 : decode cX4_executeFlow 135 = .ok (.invokevirtual 106, 3) := by decide +kernel
theorem dX4_executeFlow_138 : decode cX4_executeFlow 138 = .ok (.aload_n 0, 1) := by decide +kernel
theorem dX4_executeFlow_139 : decode cX4_executeFlow 139 = .ok (.invokevirtual 106, 3) := by decide +kernel
theorem dX4_executeFlow_142 : decode cX4_executeFlow 142 = .ok (.invokevirtual 160, 3) := by decide +kernel
theorem dX4_executeFlow_145 : decode cX4_executeFlow 145 = .ok (.ireturn, 1) := by decide +kernel
theorem dX4_executeFlow_146 : decode cX4_executeFlow 146 = .ok (.aload_n 0, 1) := by decide +kernel
theorem dX4_executeFlow_147 : decode cX4_executeFlow 147 = .ok (.aload_n 0, 1) := by decide +kernel
theorem dX4_executeFlow_148 : decode cX4_executeFlow 148 = .ok (.invokevirtual 122, 3) := by decide +kernel
theorem dX4_executeFlow_151 : decode cX4_executeFlow 151 = .ok (.putfield 26, 3) := by decide +kernel
theorem dX4_executeFlow_154 : decode cX4_executeFlow 154 = .ok (.iconst 3, 1) := by decide +kernel
theorem dX4_executeFlow_155 : decode cX4_executeFlow 155 = .ok (.ireturn, 1) := by decide +kernel
theorem dX4_executeFlow_156 : decode cX4_executeFlow 156 = .ok (.aload_n 0, 1) := by decide +kernel
theorem dX4_executeFlow_157 : decode cX4_executeFlow 157 = .ok (.aload_n 0, 1) := by decide +kernel
theorem dX4_executeFlow_158 : decode cX4_executeFlow 158 = .ok (.invokevirtual 122, 3) := by decide +kernel
theorem dX4_executeFlow_161 : decode cX4_executeFlow 161 = .ok (.putfield 26, 3) := by decide +kernel
theorem dX4_executeFlow_164 : decode cX4_executeFlow 164 = .ok (.aload_n 0, 1) := by decide +kernel
theorem dX4_executeFlow_165 : decode cX4_executeFlow 165 = .ok (.getfield 16, 3) := by decide +kernel
theorem dX4_executeFlow_168 : decode cX4_executeFlow 168 = .ok (.iconst 1, 1) := by decide +kernel
theorem dX4_executeFlow_169 : decode cX4_executeFlow 169 = .ok (.aload_n 0, 1) := by decide +kernel
theorem dX4_executeFlow_170 : decode cX4_executeFlow 170 = .ok (.invokevirtual 122, 3) := by decide +kernel
theorem dX4_executeFlow_173 : decode cX4_executeFlow 173 = .ok (.iastore, 1) := by decide +kernel
theorem dX4_executeFlow_174 : decode cX4_executeFlow 174 = .ok (.iconst 3, 1) := by decide +kernel
theorem dX4_executeFlow_175 : decode cX4_executeFlow 175 = .ok (.ireturn, 1) := by decide +kernel
theorem dX4_executeFlow_176 : decode cX4_executeFlow 176 = .ok (.aload_n 0, 1) := by decide +kernel
theorem dX4_executeFlow_177 : decode cX4_executeFlow 177 = .ok (.aload_n 0, 1) := by decide +kernel
theorem dX4_executeFlow_178 : decode cX4_executeFlow 178 = .ok (.invokevirtual 88, 3) := by decide +kernel
theorem dX4_executeFlow_181 : decode cX4_executeFlow 181 = .ok (.invokevirtual 163, 3) := by decide +kernel
theorem dX4_executeFlow_184 : decode cX4_executeFlow 184 = .ok (.iconst 3, 1) := by decide +kernel
theorem dX4_executeFlow_185 : decode cX4_executeFlow 185 = .ok (.ireturn, 1) := by decide +kernel
theorem dX4_executeFlow_104 : decode cX4_executeFlow 104 = .ok (.aload_n 0, 1) := by decide +kernel
theorem dX4_executeFlow_105 : decode cX4_executeFlow 105 = .ok (.aload_n 0, 1) := by decide +kernel
theorem dX4_executeFlow_106 : decode cX4_executeFlow 106 = .ok (.invokevirtual 142, 3) := by decide +kernel
theorem dX4_executeFlow_109 : decode cX4_executeFlow 109 = .ok (.invokevirtual 157, 3) := by decide +kernel
theorem dX4_executeFlow_112 : decode cX4_executeFlow 112 = .ok (.ireturn, 1) := by decide +kernel
theorem dX4_executeFlow_113 : decode cX4_executeFlow 113 = .ok (.aload_n 0, 1) := by decide +kernel
theorem dX4_executeFlow_114 : decode cX4_executeFlow 114 = .ok (.invokevirtual 106, 3) := by decide +kernel
theorem dX4_executeFlow_117 : decode cX4_executeFlow 117 = .ok (.istore_n 2, 1) := by decide +kernel
theorem dX4_executeFlow_118 : decode cX4_executeFlow 118 = .ok (.aload_n 0, 1) := by decide +kernel
theorem dX4_executeFlow_119 : decode cX4_executeFlow 119 = .ok (.aload_n 0, 1) := by decide +kernel
theorem dX4_executeFlow_120 : decode cX4_executeFlow 120 = .ok (.getfield 26, 3) := by decide +kernel
theorem dX4_executeFlow_123 : decode cX4_executeFlow 123 = .ok (.invokevirtual 118, 3) := by decide +kernel
theorem dX4_executeFlow_126 : decode cX4_executeFlow 126 = .ok (.aload_n 0, 1) := by decide +kernel
theorem dX4_executeFlow_127 : decode cX4_executeFlow 127 = .ok (.iload_n 2, 1) := by decide +kernel
theorem dX4_executeFlow_128 : decode cX4_executeFlow 128 = .ok (.invokevirtual 145, 3) := by decide +kernel
theorem dX4_executeFlow_131 : decode cX4_executeFlow 131 = .ok (.iconst 3, 1) := by decide +kernel
theorem dX4_executeFlow_132 : decode cX4_executeFlow 132 = .ok (.ireturn, 1) := by decide +kernel
theorem dX4_executeFlow_94 : decode cX4_executeFlow 94 = .ok (.aload_n 0, 1) := by decide +kernel
theorem dX4_executeFlow_95 : decode cX4_executeFlow 95 = .ok (.aload_n 0, 1) := by decide +kernel
theorem dX4_executeFlow_96 : decode cX4_executeFlow 96 = .ok (.invokevirtual 106, 3) := by decide +kernel
theorem dX4_executeFlow_99 : decode cX4_executeFlow 99 = .ok (.invokevirtual 145, 3) := by decide +kernel
theorem dX4_executeFlow_102 : decode cX4_executeFlow 102 = .ok (.iconst 3, 1) := by decide +kernel
theorem dX4_executeFlow_103 : decode cX4_executeFlow 103 = .ok (.ireturn, 1) := by decide +kernel
theorem dX4_executeFlow_84 : decode cX4_executeFlow 84 = .ok (.aload_n 0, 1) := by decide +kernel
theorem dX4_executeFlow_85 : decode cX4_executeFlow 85 = .ok (.aload_n 0, 1) := by decide +kernel
theorem dX4_executeFlow_86 : decode cX4_executeFlow 86 = .ok (.invokevirtual 142, 3) := by decide +kernel
theorem dX4_executeFlow_89 : decode cX4_executeFlow 89 = .ok (.invokevirtual 145, 3) := by decide +kernel
theorem dX4_executeFlow_92 : decode cX4_executeFlow 92 = .ok (.iconst 3, 1) := by decide +kernel
theorem dX4_executeFlow_93 : decode cX4_executeFlow 93 = .ok (.ireturn, 1) := by decide +kernel
theorem dX4_executeFlow_186 : decode cX4_executeFlow 186 = .ok (.iconst 0, 1) := by decide +kernel
theorem dX4_executeFlow_187 : decode cX4_executeFlow 187 = .ok (.ireturn, 1) := by decide +kernel
theorem dX4_executeFlow_188 : decode cX4_executeFlow 188 = .ok (.iconst 2, 1) := by decide +kernel
theorem dX4_executeFlow_189 : decode cX4_executeFlow 189 = .ok (.ireturn, 1) := by decide +kernel
theorem dX4_execute_0 : decode cX4_execute 0 = .ok (.iload_n 1, 1) := by decide +kernel
theorem dX4_execute_1 : decode cX4_execute 1 = .ok (.bipush 64, 2) := by decide +kernel
theorem dX4_execute_3 : decode cX4_execute 3 = .ok (.if_icmp .ge 15, 3) := by decide +kernel
theorem dX4_execute_18 : decode cX4_execute 18 = .ok (.iload_n 1, 1) := by decide +kernel
theorem dX4_execute_19 : decode cX4_execute 19 = .ok (.bipush 96, 2) := by decide +kernel
theorem dX4_execute_21 : decode cX4_execute 21 = .ok (.if_icmp .ge 15, 3) := by decide +kernel
theorem dX4_execute_36 : decode cX4_execute 36 = .ok (.iload_n 1, 1) := by decide +kernel
theorem dX4_execute_37 : decode cX4_execute 37 = .ok (.bipush 114, 2) := by decide +kernel
theorem dX4_execute_39 : decode cX4_execute 39 = .ok (.if_icmp .lt 15, 3) := by decide +kernel
theorem dX4_execute_42 : decode cX4_execute 42 = .ok (.iload_n 1, 1) := by decide +kernel
theorem dX4_execute_43 : decode cX4_execute 43 = .ok (.bipush 121, 2) := by decide +kernel
theorem dX4_execute_45 : decode cX4_execute 45 = .ok (.if_icmp .gt 9, 3) := by decide +kernel
theorem dX4_execute_48 : decode cX4_execute 48 = .ok (.aload_n 0, 1) := by decide +kernel
theorem dX4_execute_49 : decode cX4_execute 49 = .ok (.iload_n 1, 1) := by decide +kernel
theorem dX4_execute_50 : decode cX4_execute 50 = .ok (.invokevirtual 103, 3) := by decide +kernel
theorem dX4_execute_53 : decode cX4_execute 53 = .ok (.ireturn, 1) := by decide +kernel
theorem dX4_execute_24 : decode cX4_execute 24 = .ok (.aload_n 0, 1) := by decide +kernel
theorem dX4_execute_25 : decode cX4_execute 25 = .ok (.iload_n 1, 1) := by decide +kernel
theorem dX4_execute_26 : decode cX4_execute 26 = .ok (.iconst 3, 1) := by decide +kernel
theorem dX4_execute_27 : decode cX4_execute 27 = .ok (.ishr, 1) := by decide +kernel
theorem dX4_execute_28 : decode cX4_execute 28 = .ok (.iload_n 1, 1) := by decide +kernel
theorem dX4_execute_29 : decode cX4_execute 29 = .ok (.bipush 7, 2) := by decide +kernel
theorem dX4_execute_31 : decode cX4_execute 31 = .ok (.iand, 1) := by decide +kernel
theorem dX4_execute_32 : decode cX4_execute 32 = .ok (.invokevirtual 100, 3) := by decide +kernel
theorem dX4_execute_35 : decode cX4_execute 35 = .ok (.ireturn, 1) := by decide +kernel
theorem dX4_execute_6 : decode cX4_execute 6 = .ok (.aload_n 0, 1) := by decide +kernel
theorem dX4_execute_7 : decode cX4_execute 7 = .ok (.iload_n 1, 1) := by decide +kernel
theorem dX4_execute_8 : decode cX4_execute 8 = .ok (.iconst 3, 1) := by decide +kernel
theorem dX4_execute_9 : decode cX4_execute 9 = .ok (.ishr, 1) := by decide +kernel
theorem dX4_execute_10 : decode cX4_execute 10 = .ok (.iload_n 1, 1) := by decide +kernel
theorem dX4_execute_11 : decode cX4_execute 11 = .ok (.bipush 7, 2) := by decide +kernel
theorem dX4_execute_13 : decode cX4_execute 13 = .ok (.iand, 1) := by decide +kernel
theorem dX4_execute_14 : decode cX4_execute 14 = .ok (.invokevirtual 96, 3) := by decide +kernel
theorem dX4_execute_17 : decode cX4_execute 17 = .ok (.ireturn, 1) := by decide +kernel
theorem dX4_execute_54 : decode cX4_execute 54 = .ok (.iload_n 1, 1) := by decide +kernel
theorem dX4_execute_55 : decode cX4_execute 55 = .ok (.sipush 184, 3) := by decide +kernel
theorem dX4_execute_58 : decode cX4_execute 58 = .ok (.if_icmp .lt 26, 3) := by decide +kernel
theorem dX4_execute_61 : decode cX4_execute 61 = .ok (.iload_n 1, 1) := by decide +kernel
theorem dX4_execute_62 : decode cX4_execute 62 = .ok (.sipush 191, 3) := by decide +kernel
theorem dX4_execute_65 : decode cX4_execute 65 = .ok (.if_icmp .gt 19, 3) := by decide +kernel
theorem dX4_execute_68 : decode cX4_execute 68 = .ok (.aload_n 0, 1) := by decide +kernel
theorem dX4_execute_69 : decode cX4_execute 69 = .ok (.getfield 13, 3) := by decide +kernel
theorem dX4_execute_72 : decode cX4_execute 72 = .ok (.iload_n 1, 1) := by decide +kernel
theorem dX4_execute_73 : decode cX4_execute 73 = .ok (.sipush 184, 3) := by decide +kernel
theorem dX4_execute_76 : decode cX4_execute 76 = .ok (.isub, 1) := by decide +kernel
theorem dX4_execute_77 : decode cX4_execute 77 = .ok (.aload_n 0, 1) := by decide +kernel
theorem dX4_execute_78 : decode cX4_execute 78 = .ok (.invokevirtual 106, 3) := by decide +kernel
theorem dX4_execute_81 : decode cX4_execute 81 = .ok (.iastore, 1) := by decide +kernel
theorem dX4_execute_82 : decode cX4_execute 82 = .ok (.iconst 3, 1) := by decide +kernel
theorem dX4_execute_83 : decode cX4_execute 83 = .ok (.ireturn, 1) := by decide +kernel
theorem dX4_execute_84 : decode cX4_execute 84 = .ok (.iload_n 1, 1) := by decide +kernel
theorem dX4_execute_85 : decode cX4_execute 85 = .ok (.lookupswitch 85 #[(129, 75), (137, 75), (139, 75), (140, 75), (142, 75), (199, 75), (209, 75), (247, 75)], 75) := by decide +kernel
theorem dX4_execute_170 : decode cX4_execute 170 = .ok (.aload_n 0, 1) := by decide +kernel
theorem dX4_execute_171 : decode cX4_execute 171 = .ok (.iload_n 1, 1) := by decide +kernel
theorem dX4_execute_172 : decode cX4_execute 172 = .ok (.invokevirtual 115, 3) := by decide +kernel
theorem dX4_execute_175 : decode cX4_execute 175 = .ok (.ireturn, 1) := by decide +kernel
theorem dX4_execute_160 : decode cX4_execute 160 = .ok (.aload_n 0, 1) := by decide +kernel
theorem dX4_execute_161 : decode cX4_execute 161 = .ok (.invokevirtual 109, 3) := by decide +kernel
theorem dX4_execute_164 : decode cX4_execute 164 = .ok (.aload_n 0, 1) := by decide +kernel
theorem dX4_execute_165 : decode cX4_execute 165 = .ok (.iload_n 1, 1) := by decide +kernel
theorem dX4_execute_166 : decode cX4_execute 166 = .ok (.invokevirtual 112, 3) := by decide +kernel
theorem dX4_execute_169 : decode cX4_execute 169 = .ok (.ireturn, 1) := by decide +kernel
theorem dX4_go_0 : decode cX4_go 0 = .ok (.iconst 0, 1) := by decide +kernel
theorem dX4_go_1 : decode cX4_go 1 = .ok (.istore_n 2, 1) := by decide +kernel
theorem dX4_go_2 : decode cX4_go 2 = .ok (.iload_n 2, 1) := by decide +kernel
theorem dX4_go_3 : decode cX4_go 3 = .ok (.iload_n 1, 1) := by decide +kernel
theorem dX4_go_4 : decode cX4_go 4 = .ok (.if_icmp .ge 68, 3) := by decide +kernel
theorem dX4_go_72 : decode cX4_go 72 = .ok (.iconst 3, 1) := by decide +kernel
theorem dX4_go_73 : decode cX4_go 73 = .ok (.ireturn, 1) := by decide +kernel
theorem dX4_go_7 : decode cX4_go 7 = .ok (.aload_n 0, 1) := by decide +kernel
theorem dX4_go_8 : decode cX4_go 8 = .ok (.getfield 26, 3) := by decide +kernel
theorem dX4_go_11 : decode cX4_go 11 = .ok (.istore_n 3, 1) := by decide +kernel
theorem dX4_go_12 : decode cX4_go 12 = .ok (.aload_n 0, 1) := by decide +kernel
theorem dX4_go_13 : decode cX4_go 13 = .ok (.aload_n 0, 1) := by decide +kernel
theorem dX4_go_14 : decode cX4_go 14 = .ok (.invokevirtual 88, 3) := by decide +kernel
theorem dX4_go_17 : decode cX4_go 17 = .ok (.invokevirtual 92, 3) := by decide +kernel
theorem dX4_go_20 : decode cX4_go 20 = .ok (.istore 4, 2) := by decide +kernel
theorem dX4_go_22 : decode cX4_go 22 = .ok (.iload 4, 2) := by decide +kernel
theorem dX4_go_24 : decode cX4_go 24 = .ok (.iconst 1, 1) := by decide +kernel
theorem dX4_go_25 : decode cX4_go 25 = .ok (.if_icmp .eq 9, 3) := by decide +kernel
theorem dX4_go_28 : decode cX4_go 28 = .ok (.iload 4, 2) := by decide +kernel
theorem dX4_go_30 : decode cX4_go 30 = .ok (.iconst 2, 1) := by decide +kernel
theorem dX4_go_31 : decode cX4_go 31 = .ok (.if_icmp .ne 11, 3) := by decide +kernel
theorem dX4_go_42 : decode cX4_go 42 = .ok (.aload_n 0, 1) := by decide +kernel
theorem dX4_go_43 : decode cX4_go 43 = .ok (.dup, 1) := by decide +kernel
theorem dX4_go_44 : decode cX4_go 44 = .ok (.getfield 39, 3) := by decide +kernel
theorem dX4_go_47 : decode cX4_go 47 = .ok (.iconst 1, 1) := by decide +kernel
theorem dX4_go_48 : decode cX4_go 48 = .ok (.iadd, 1) := by decide +kernel
theorem dX4_go_49 : decode cX4_go 49 = .ok (.putfield 39, 3) := by decide +kernel
theorem dX4_go_34 : decode cX4_go 34 = .ok (.aload_n 0, 1) := by decide +kernel
theorem dX4_go_35 : decode cX4_go 35 = .ok (.iload_n 3, 1) := by decide +kernel
theorem dX4_go_36 : decode cX4_go 36 = .ok (.putfield 26, 3) := by decide +kernel
theorem dX4_go_39 : decode cX4_go 39 = .ok (.goto 13, 3) := by decide +kernel
theorem dX4_go_52 : decode cX4_go 52 = .ok (.iload 4, 2) := by decide +kernel
theorem dX4_go_54 : decode cX4_go 54 = .ok (.iconst 3, 1) := by decide +kernel
theorem dX4_go_55 : decode cX4_go 55 = .ok (.if_icmp .eq 11, 3) := by decide +kernel
theorem dX4_go_66 : decode cX4_go 66 = .ok (.iinc 2 1, 3) := by decide +kernel
theorem dX4_go_69 : decode cX4_go 69 = .ok (.goto (-67), 3) := by decide +kernel
theorem dX4_go_58 : decode cX4_go 58 = .ok (.aload_n 0, 1) := by decide +kernel
theorem dX4_go_59 : decode cX4_go 59 = .ok (.iconst 1, 1) := by decide +kernel
theorem dX4_go_60 : decode cX4_go 60 = .ok (.putfield 22, 3) := by decide +kernel
theorem dX4_go_63 : decode cX4_go 63 = .ok (.iload 4, 2) := by decide +kernel
theorem dX4_go_65 : decode cX4_go 65 = .ok (.ireturn, 1) := by decide +kernel
def wpX4_divide_35 (σ : ZS) (Q : Int → ZS → Prop) : Prop := Q 1 σ
def wpX4_divide (a1 : Int) (σ : ZS) (Q : Int → ZS → Prop) : Prop := (-2147483648 ≤ (zA σ 18 1 2) ∧ (zA σ 18 1 2) ≤ 2147483647) ∧ (-2147483648 ≤ (zA σ 18 1 0) ∧ (zA σ 18 1 0) ≤ 2147483647) ∧ (-2147483648 ≤ a1 ∧ a1 ≤ 2147483647) ∧ (a1 = 0 → wpX4_divide_35 σ Q) ∧ (¬ a1 = 0 → (0 ≤ ((65536 * (zA σ 18 1 2)) + (zA σ 18 1 0)) ∧ ((65536 * (zA σ 18 1 2)) + (zA σ 18 1 0)) ≤ 9223372036854775807) ∧ (0 < a1 ∧ a1 ≤ 9223372036854775807) ∧ (-9223372036854775808 ≤ (((65536 * (zA σ 18 1 2)) + (zA σ 18 1 0)) / a1) ∧ (((65536 * (zA σ 18 1 2)) + (zA σ 18 1 0)) / a1) ≤ 9223372036854775807) ∧ ((((65536 * (zA σ 18 1 2)) + (zA σ 18 1 0)) / a1) ≤ 65535 → Q 3 (zsA (zsA σ 18 1 0 (((65536 * (zA σ 18 1 2)) + (zA σ 18 1 0)) / a1)) 18 1 2 (((65536 * (zA σ 18 1 2)) + (zA σ 18 1 0)) % a1))) ∧ (¬ (((65536 * (zA σ 18 1 2)) + (zA σ 18 1 0)) / a1) ≤ 65535 → wpX4_divide_35 σ Q))
set_option maxHeartbeats 4000000 in
set_option maxRecDepth 100000 in
theorem kX4_divide (l : Launch) (D : va_G) (dA : Nat → ClassId) (ad : Int → Nat → Nat) (a1 : Int) (σ : ZS) (Q : Int → ZS → Prop) (sz : Nat) (hw : wpX4_divide a1 σ Q) : Met l yX4_divide (gws yX4_divide cX4_divide 4 (some .int)) (gR 1 0 0) (gPre D dA [.ref (ad 18 1000), .int (Int32.ofInt a1)] (zC dA ad σ) sz) (va_Qi (zQi Q) (gAt D dA (va_A (zC dA ad σ) sz) (zC dA ad)) (va_A (zC dA ad σ) sz)) 0 0 (va_A (zC dA ad σ) sz) := by
  refine Met.ofW (cc := cX4_divide) (maxL := 4) (ret := (some .int)) (by decide) rfl ?_
  intro p e s m args below meth c s₁ B hml hv
  obtain ⟨rfl, hsz, hP, hK, hD0⟩ := hv
  have hx := B.exec
  have hb := B.bytes
  have hr := B.returns
  have hts := atoms_spec (ws := gws yX4_divide cX4_divide 4 (some .int)) B.pre
  have hg : ∀ w ∈ gw, w.before _ s = true := fun w h => hts w (List.mem_cons_of_mem _ h)
  have hown : s.vm.findClass RX4 = some m.cls := findClass_of_methodNamed B.named
  have hlocks := B.notSynchronized
  subst hsz
  have hD := hD0.self (sz := s.heap.size)
  generalize hAe : va_A (zC dA ad σ) s.heap.size = A at hD ⊢
  have hA : ∀ q : Nat, s.heap.size ≤ q → A q := fun q h => by rw [← hAe]; exact Or.inr h
  have hS : va_S A s.heap s.heap [] := va_S.rf
  have hl := lv_entry ([.ref (ad 18 1000), .int (Int32.ofInt a1)]) (n := 4) (Nat.le_of_ble_eq_true rfl)
  rw [lg_entry_eq]
  generalize (lg_sl ([.ref (ad 18 1000), .int (Int32.ofInt a1)]) ++ List.replicate (4 - (lg_sl ([.ref (ad 18 1000), .int (Int32.ofInt a1)])).length) Slot.unset).toArray = ls at hl ⊢
  have hl : lv_has ls 4 [(0, .ref (ad 18 1000)), (1, .int (Int32.ofInt a1))] := hl
  have hret : ∀ (v : Int) (σ : ZS) (H : Heap) (locs : List Loc) (ls : Array Slot) (pc : Nat), Q v σ → va_P D vwC (zC dA ad σ) H → va_D A (zC dA ad σ) → va_S A s.heap H locs → decode cX4_divide pc = .ok (.ireturn, 1) → W p l e (gR 1 0 0) s m #[.ref (ad 18 1000), .int (Int32.ofInt a1)] below meth c H locs 0 0 (MQ below (va_Qi (zQi Q) (gAt D dA A (zC dA ad)) A) #[.ref (ad 18 1000), .int (Int32.ofInt a1)] s 0 0 A) (F0 m pc ls [.int (Int32.ofInt v)]) := fun v σ H locs ls pc hw hP hD hS hd => g_iret hx hb hr rfl hlocks hK σ hP hD hS ⟨v, rfl, hw⟩ (Nat.le_of_ble_eq_true rfl) (Nat.le_of_ble_eq_true rfl) hd
  generalize MQ below (va_Qi (zQi Q) (gAt D dA A (zC dA ad)) A) #[.ref (ad 18 1000), .int (Int32.ofInt a1)] s 0 0 A = QQ at hret ⊢
  have j35 : ∀ (σ : ZS), ∀ (H : Heap) (locs : List Loc) (ls : Array Slot), va_P D vwC (zC dA ad σ) H → va_D A (zC dA ad σ) → va_S A s.heap H locs → lv_has ls 4 [] → wpX4_divide_35 σ Q → W p l e (gR 1 0 0) s m #[.ref (ad 18 1000), .int (Int32.ofInt a1)] below meth c H locs 0 0 QQ (F0 m 35 ls []) := by
    intro σ H locs ls hP hD hS hl hw
    unfold wpX4_divide_35 at hw
    refine lv_iconst (v := Int32.ofInt 1) hx hb dX4_divide_35 (by decide) ?_
    exact hret 1 σ _ _ _ _ hw hP hD hS dX4_divide_36
  unfold wpX4_divide at hw
  refine lv_ldc2 hx hb hown (hg _ q1484) dX4_divide_0 ?_
  refine g_nrmL (y := Int64.ofInt 65536) (by decide) ?_
  refine lv_aload_n hx hb dX4_divide_3 rfl (lv_at hl 0 rfl) ?_
  refine zgC18_1 hx hb hg hown hK hP q554 dX4_divide_4 ?_
  refine lv_iconst (v := Int32.ofInt 2) hx hb dX4_divide_7 (by decide) ?_
  refine zlC18_1 hx hb (by decide) hK hP dX4_divide_8 ?_
  obtain ⟨o1, hw⟩ := hw
  refine z_i2l hx hb o1 dX4_divide_9 ?_
  refine z_lmul hx hb dX4_divide_10 ?_
  refine lv_aload_n hx hb dX4_divide_11 rfl (lv_at hl 0 rfl) ?_
  refine zgC18_1 hx hb hg hown hK hP q554 dX4_divide_12 ?_
  refine lv_iconst (v := Int32.ofInt 0) hx hb dX4_divide_15 (by decide) ?_
  refine zlC18_1 hx hb (by decide) hK hP dX4_divide_16 ?_
  obtain ⟨o2, hw⟩ := hw
  refine z_i2l hx hb o2 dX4_divide_17 ?_
  refine z_ladd hx hb dX4_divide_18 ?_
  refine lv_lstore_n (lv' := [(2, .long (Int64.ofInt ((65536 * (zA σ 18 1 2)) + (zA σ 18 1 0)))), (0, .ref (ad 18 1000)), (1, .int (Int32.ofInt a1))]) hx hb dX4_divide_19 rfl hl (by decide) rfl (fun ls hl => ?_)
  refine lv_iload_n hx hb dX4_divide_20 rfl (lv_at hl 2 rfl) ?_
  obtain ⟨o3, hw⟩ := hw
  refine z_if_eq (tgt := 35) hx hb o3 dX4_divide_21 (by decide) (fun k4 => ?_) (fun k4 => ?_)
  · replace hw := hw.1 k4
    exact j35 σ _ _ _ hP hD hS (lv_sub hl [] rfl) hw
  · replace hw := hw.2 k4
    refine lv_lload_n hx hb dX4_divide_24 rfl (lv_at hl 0 rfl) ?_
    refine lv_iload_n hx hb dX4_divide_25 rfl (lv_at hl 2 rfl) ?_
    refine z_i2l hx hb o3 dX4_divide_26 ?_
    obtain ⟨o5, hw⟩ := hw
    obtain ⟨o6, hw⟩ := hw
    refine z_ldiv hx hb o5 o6 dX4_divide_27 ?_
    refine lv_ldc2 hx hb hown (hg _ q1485) dX4_divide_28 ?_
    refine g_nrmL (y := Int64.ofInt 65535) (by decide) ?_
    obtain ⟨o7, hw⟩ := hw
    refine z_lc_le (tgt := 37) hx hb o7 (by decide) dX4_divide_31 dX4_divide_32 (by decide) (fun k8 => ?_) (fun k8 => ?_)
    · replace hw := hw.1 k8
      refine lv_aload_n hx hb dX4_divide_37 rfl (lv_at hl 1 rfl) ?_
      refine zgC18_1 hx hb hg hown hK hP q554 dX4_divide_38 ?_
      refine lv_iconst (v := Int32.ofInt 0) hx hb dX4_divide_41 (by decide) ?_
      refine lv_lload_n hx hb dX4_divide_42 rfl (lv_at hl 0 rfl) ?_
      refine lv_iload_n hx hb dX4_divide_43 rfl (lv_at hl 2 rfl) ?_
      refine z_i2l hx hb o3 dX4_divide_44 ?_
      refine z_ldiv hx hb o5 o6 dX4_divide_45 ?_
      refine z_l2i hx hb dX4_divide_46 ?_
      refine zsC18_1 (v := (((65536 * (zA σ 18 1 2)) + (zA σ 18 1 0)) / a1)) hx hb (by decide) hK hP hD hS dX4_divide_47 (fun H locs hP hD hS => ?_)
      refine lv_aload_n hx hb dX4_divide_48 rfl (lv_at hl 1 rfl) ?_
      refine zgC18_1 hx hb hg hown hK hP q554 dX4_divide_49 ?_
      refine lv_iconst (v := Int32.ofInt 2) hx hb dX4_divide_52 (by decide) ?_
      refine lv_lload_n hx hb dX4_divide_53 rfl (lv_at hl 0 rfl) ?_
      refine lv_iload_n hx hb dX4_divide_54 rfl (lv_at hl 2 rfl) ?_
      refine z_i2l hx hb o3 dX4_divide_55 ?_
      refine z_lrem hx hb o5 o6 dX4_divide_56 ?_
      refine z_l2i hx hb dX4_divide_57 ?_
      refine zsC18_1 (v := (((65536 * (zA σ 18 1 2)) + (zA σ 18 1 0)) % a1)) hx hb (by decide) hK hP hD hS dX4_divide_58 (fun H locs hP hD hS => ?_)
      refine lv_iconst (v := Int32.ofInt 3) hx hb dX4_divide_59 (by decide) ?_
      exact hret 3 (zsA (zsA σ 18 1 0 (((65536 * (zA σ 18 1 2)) + (zA σ 18 1 0)) / a1)) 18 1 2 (((65536 * (zA σ 18 1 2)) + (zA σ 18 1 0)) % a1)) _ _ _ _ hw hP hD hS dX4_divide_60
    · replace hw := hw.2 k8
      exact j35 σ _ _ _ hP hD hS (lv_sub hl [] rfl) hw
def wpX4_single_120 (σ : ZS) (Q : Int → ZS → Prop) : Prop := Q 2 σ
def wpX4_single_106 (s1 : Int) (σ : ZS) (Q : Int → ZS → Prop) : Prop := Q 3 (zsI σ 18 4 s1)
def wpX4_single (σ : ZS) (Q : Int → ZS → Prop) : Prop := (-2147483648 ≤ (zI σ 18 11) ∧ (zI σ 18 11) ≤ 2147483647) ∧ ((zI σ 18 11) = 3 → wpX4_readM σ (fun (x4 : Int) (σ5 : ZS) => wpX4_arithmetic 5 0 x4 σ5 (fun (x6 : Int) (σ7 : ZS) => wpX4_writeM x6 σ7 (fun (σ9 : ZS) => Q 3 σ9)))) ∧ (¬ (zI σ 18 11) = 3 → ((zI σ 18 11) = 4 → (-2147483648 ≤ (zA σ 18 1 0) ∧ (zA σ 18 1 0) ≤ 2147483647) ∧ wpX4_readM σ (fun (x12 : Int) (σ13 : ZS) => (-2147483648 ≤ x12 ∧ x12 ≤ 2147483647) ∧ (-2147483648 ≤ (zA (zsA (zsA σ13 18 1 0 (((zA σ 18 1 0) * x12) % 65536)) 18 1 2 ((zlshr ((zA σ 18 1 0) * x12) 16) % 65536)) 18 1 2) ∧ (zA (zsA (zsA σ13 18 1 0 (((zA σ 18 1 0) * x12) % 65536)) 18 1 2 ((zlshr ((zA σ 18 1 0) * x12) 16) % 65536)) 18 1 2) ≤ 2147483647) ∧ ((zA (zsA (zsA σ13 18 1 0 (((zA σ 18 1 0) * x12) % 65536)) 18 1 2 ((zlshr ((zA σ 18 1 0) * x12) 16) % 65536)) 18 1 2) = 0 → wpX4_single_106 0 (zsA (zsA σ13 18 1 0 (((zA σ 18 1 0) * x12) % 65536)) 18 1 2 ((zlshr ((zA σ 18 1 0) * x12) 16) % 65536)) Q) ∧ (¬ (zA (zsA (zsA σ13 18 1 0 (((zA σ 18 1 0) * x12) % 65536)) 18 1 2 ((zlshr ((zA σ 18 1 0) * x12) 16) % 65536)) 18 1 2) = 0 → wpX4_single_106 1 (zsA (zsA σ13 18 1 0 (((zA σ 18 1 0) * x12) % 65536)) 18 1 2 ((zlshr ((zA σ 18 1 0) * x12) 16) % 65536)) Q))) ∧ (¬ (zI σ 18 11) = 4 → ((zI σ 18 11) = 5 → wpX4_single_120 σ Q) ∧ (¬ (zI σ 18 11) = 5 → ((zI σ 18 11) = 6 → wpX4_readM σ (fun (x19 : Int) (σ20 : ZS) => wpX4_divide x19 σ20 (fun (x21 : Int) (σ22 : ZS) => Q x21 σ22))) ∧ (¬ (zI σ 18 11) = 6 → wpX4_single_120 σ Q))))
set_option maxHeartbeats 4000000 in
set_option maxRecDepth 100000 in
theorem kX4_single (l : Launch) (D : va_G) (dA : Nat → ClassId) (ad : Int → Nat → Nat) (σ : ZS) (Q : Int → ZS → Prop) (sz : Nat) (hw : wpX4_single σ Q) : Met l yX4_single (gws yX4_single cX4_single 3 (some .int)) (gR 3 0 0) (gPre D dA [.ref (ad 18 1000)] (zC dA ad σ) sz) (va_Qi (zQi Q) (gAt D dA (va_A (zC dA ad σ) sz) (zC dA ad)) (va_A (zC dA ad σ) sz)) 0 0 (va_A (zC dA ad σ) sz) := by
  refine Met.ofW (cc := cX4_single) (maxL := 3) (ret := (some .int)) (by decide) rfl ?_
  intro p e s m args below meth c s₁ B hml hv
  obtain ⟨rfl, hsz, hP, hK, hD0⟩ := hv
  have hx := B.exec
  have hb := B.bytes
  have hr := B.returns
  have hts := atoms_spec (ws := gws yX4_single cX4_single 3 (some .int)) B.pre
  have hg : ∀ w ∈ gw, w.before _ s = true := fun w h => hts w (List.mem_cons_of_mem _ h)
  have hown : s.vm.findClass RX4 = some m.cls := findClass_of_methodNamed B.named
  have hlocks := B.notSynchronized
  subst hsz
  have hD := hD0.self (sz := s.heap.size)
  generalize hAe : va_A (zC dA ad σ) s.heap.size = A at hD ⊢
  have hA : ∀ q : Nat, s.heap.size ≤ q → A q := fun q h => by rw [← hAe]; exact Or.inr h
  have hS : va_S A s.heap s.heap [] := va_S.rf
  have hl := lv_entry ([.ref (ad 18 1000)]) (n := 3) (Nat.le_of_ble_eq_true rfl)
  rw [lg_entry_eq]
  generalize (lg_sl ([.ref (ad 18 1000)]) ++ List.replicate (3 - (lg_sl ([.ref (ad 18 1000)])).length) Slot.unset).toArray = ls at hl ⊢
  have hl : lv_has ls 3 [(0, .ref (ad 18 1000))] := hl
  have hret : ∀ (v : Int) (σ : ZS) (H : Heap) (locs : List Loc) (ls : Array Slot) (pc : Nat), Q v σ → va_P D vwC (zC dA ad σ) H → va_D A (zC dA ad σ) → va_S A s.heap H locs → decode cX4_single pc = .ok (.ireturn, 1) → W p l e (gR 3 0 0) s m #[.ref (ad 18 1000)] below meth c H locs 0 0 (MQ below (va_Qi (zQi Q) (gAt D dA A (zC dA ad)) A) #[.ref (ad 18 1000)] s 0 0 A) (F0 m pc ls [.int (Int32.ofInt v)]) := fun v σ H locs ls pc hw hP hD hS hd => g_iret hx hb hr rfl hlocks hK σ hP hD hS ⟨v, rfl, hw⟩ (Nat.le_of_ble_eq_true rfl) (Nat.le_of_ble_eq_true rfl) hd
  generalize MQ below (va_Qi (zQi Q) (gAt D dA A (zC dA ad)) A) #[.ref (ad 18 1000)] s 0 0 A = QQ at hret ⊢
  have j120 : ∀ (σ : ZS), ∀ (H : Heap) (locs : List Loc) (ls : Array Slot), va_P D vwC (zC dA ad σ) H → va_D A (zC dA ad σ) → va_S A s.heap H locs → lv_has ls 3 [] → wpX4_single_120 σ Q → W p l e (gR 3 0 0) s m #[.ref (ad 18 1000)] below meth c H locs 0 0 QQ (F0 m 120 ls []) := by
    intro σ H locs ls hP hD hS hl hw
    unfold wpX4_single_120 at hw
    refine lv_iconst (v := Int32.ofInt 2) hx hb dX4_single_120 (by decide) ?_
    exact hret 2 σ _ _ _ _ hw hP hD hS dX4_single_121
  have j106 : ∀ (s1 : Int) (σ : ZS), ∀ (H : Heap) (locs : List Loc) (ls : Array Slot), va_P D vwC (zC dA ad σ) H → va_D A (zC dA ad σ) → va_S A s.heap H locs → lv_has ls 3 [] → wpX4_single_106 s1 σ Q → W p l e (gR 3 0 0) s m #[.ref (ad 18 1000)] below meth c H locs 0 0 QQ (F0 m 106 ls [.int (Int32.ofInt s1), .ref (ad 18 1000)]) := by
    intro s1 σ H locs ls hP hD hS hl hw
    unfold wpX4_single_106 at hw
    refine zpC18_4 (v := s1) hx hb hg hown hK hP hD hS q560 dX4_single_106 (fun H locs hP hD hS => ?_)
    refine lv_iconst (v := Int32.ofInt 3) hx hb dX4_single_109 (by decide) ?_
    exact hret 3 (zsI σ 18 4 s1) _ _ _ _ hw hP hD hS dX4_single_110
  unfold wpX4_single at hw
  refine lv_aload_n hx hb dX4_single_0 rfl (lv_at hl 0 rfl) ?_
  refine zgC18_11 hx hb hg hown hK hP q574 dX4_single_1 ?_
  obtain ⟨o1, hw⟩ := hw
  have t2 := z_ti o1
  by_cases s3 : (zI σ 18 11) = 3
  · replace hw := hw.1 s3
    refine lv_tableIn (tgt := 36) hx hb dX4_single_4 (by rw [t2, s3]; decide) (by rw [t2, s3]; decide) (by rw [t2, s3]; rfl) (by decide) ?_
    refine lv_aload_n hx hb dX4_single_36 rfl (lv_at hl 0 rfl) ?_
    refine lv_aload_n hx hb dX4_single_37 rfl (lv_at hl 0 rfl) ?_
    refine lv_iconst (v := Int32.ofInt 5) hx hb dX4_single_38 (by decide) ?_
    refine lv_iconst (v := Int32.ofInt 0) hx hb dX4_single_39 (by decide) ?_
    refine lv_aload_n hx hb dX4_single_40 rfl (lv_at hl 0 rfl) ?_
    refine z_Vi (n := 0) (As := []) (rest := [.int (Int32.ofInt 0), .int (Int32.ofInt 5), .ref (ad 18 1000), .ref (ad 18 1000)]) hx hb hml hg hown hK hP hD hS hA (kX4_readM l D dA ad σ _ _ hw) (zoC18) rfl q1443 q159 q1440 q1442 q62 (by decide +kernel) ⟨(Nat.le_of_ble_eq_true rfl), (Nat.le_of_ble_eq_true rfl)⟩ rfl hl.1 rfl (Nat.le_of_ble_eq_true rfl) dX4_single_41 ⟨(Nat.le_of_ble_eq_true rfl), (Nat.le_of_ble_eq_true rfl)⟩ (fun x4 σ5 H locs hw hP hD hS => ?_)
    refine z_Vi (n := 3) (As := [.int (Int32.ofInt 5), .int (Int32.ofInt 0), .int (Int32.ofInt x4)]) (rest := [.ref (ad 18 1000)]) hx hb hml hg hown hK hP hD hS hA (kX4_arithmetic l D dA ad 5 0 x4 σ5 _ _ hw) (zoC18) rfl q1447 q159 q1444 q1446 q63 (by decide +kernel) ⟨(Nat.le_of_ble_eq_true rfl), (Nat.le_of_ble_eq_true rfl)⟩ rfl hl.1 rfl (Nat.le_of_ble_eq_true rfl) dX4_single_44 ⟨(Nat.le_of_ble_eq_true rfl), (Nat.le_of_ble_eq_true rfl)⟩ (fun x6 σ7 H locs hw hP hD hS => ?_)
    refine z_Vv (n := 1) (As := [.int (Int32.ofInt x6)]) (rest := []) hx hb hml hg hown hK hP hD hS hA (kX4_writeM l D dA ad x6 σ7 _ _ hw) (zoC18) rfl q1455 q159 q1452 q1454 q65 (by decide +kernel) ⟨(Nat.le_of_ble_eq_true rfl), (Nat.le_of_ble_eq_true rfl)⟩ rfl hl.1 rfl (Nat.le_of_ble_eq_true rfl) dX4_single_47 ⟨(Nat.le_of_ble_eq_true rfl), (Nat.le_of_ble_eq_true rfl)⟩ (fun σ9 H locs hw hP hD hS => ?_)
    refine lv_iconst (v := Int32.ofInt 3) hx hb dX4_single_50 (by decide) ?_
    exact hret 3 σ9 _ _ _ _ hw hP hD hS dX4_single_51
  replace hw := hw.2 s3
  by_cases s10 : (zI σ 18 11) = 4
  · replace hw := hw.1 s10
    refine lv_tableIn (tgt := 52) hx hb dX4_single_4 (by rw [t2, s10]; decide) (by rw [t2, s10]; decide) (by rw [t2, s10]; rfl) (by decide) ?_
    refine lv_aload_n hx hb dX4_single_52 rfl (lv_at hl 0 rfl) ?_
    refine zgC18_1 hx hb hg hown hK hP q554 dX4_single_53 ?_
    refine lv_iconst (v := Int32.ofInt 0) hx hb dX4_single_56 (by decide) ?_
    refine zlC18_1 hx hb (by decide) hK hP dX4_single_57 ?_
    obtain ⟨o11, hw⟩ := hw
    refine z_i2l hx hb o11 dX4_single_58 ?_
    refine lv_aload_n hx hb dX4_single_59 rfl (lv_at hl 0 rfl) ?_
    refine z_Vi (n := 0) (As := []) (rest := [.long (Int64.ofInt (zA σ 18 1 0))]) hx hb hml hg hown hK hP hD hS hA (kX4_readM l D dA ad σ _ _ hw) (zoC18) rfl q1443 q159 q1440 q1442 q62 (by decide +kernel) ⟨(Nat.le_of_ble_eq_true rfl), (Nat.le_of_ble_eq_true rfl)⟩ rfl hl.1 rfl (Nat.le_of_ble_eq_true rfl) dX4_single_60 ⟨(Nat.le_of_ble_eq_true rfl), (Nat.le_of_ble_eq_true rfl)⟩ (fun x12 σ13 H locs hw hP hD hS => ?_)
    obtain ⟨o14, hw⟩ := hw
    refine z_i2l hx hb o14 dX4_single_63 ?_
    refine z_lmul hx hb dX4_single_64 ?_
    refine lv_lstore_n (lv' := [(1, .long (Int64.ofInt ((zA σ 18 1 0) * x12))), (0, .ref (ad 18 1000))]) hx hb dX4_single_65 rfl hl (by decide) rfl (fun ls hl => ?_)
    refine lv_aload_n hx hb dX4_single_66 rfl (lv_at hl 1 rfl) ?_
    refine zgC18_1 hx hb hg hown hK hP q554 dX4_single_67 ?_
    refine lv_iconst (v := Int32.ofInt 0) hx hb dX4_single_70 (by decide) ?_
    refine lv_lload_n hx hb dX4_single_71 rfl (lv_at hl 0 rfl) ?_
    refine z_l2i hx hb dX4_single_72 ?_
    refine lv_ldc hx hb hown (hg _ q1400) dX4_single_73 ?_
    refine g_nrm (y := Int32.ofInt 65535) (by decide) ?_
    refine z_iandK (M := 65536) hx hb 16 (by decide) (by decide) (by decide) dX4_single_75 ?_
    refine zsC18_1 (v := (((zA σ 18 1 0) * x12) % 65536)) hx hb (by decide) hK hP hD hS dX4_single_76 (fun H locs hP hD hS => ?_)
    refine lv_aload_n hx hb dX4_single_77 rfl (lv_at hl 1 rfl) ?_
    refine zgC18_1 hx hb hg hown hK hP q554 dX4_single_78 ?_
    refine lv_iconst (v := Int32.ofInt 2) hx hb dX4_single_81 (by decide) ?_
    refine lv_lload_n hx hb dX4_single_82 rfl (lv_at hl 0 rfl) ?_
    refine lv_bipush (v := Int32.ofInt 16) hx hb dX4_single_83 (by decide) ?_
    refine z_lshr hx hb dX4_single_85 ?_
    refine z_l2i hx hb dX4_single_86 ?_
    refine lv_ldc hx hb hown (hg _ q1400) dX4_single_87 ?_
    refine g_nrm (y := Int32.ofInt 65535) (by decide) ?_
    refine z_iandK (M := 65536) hx hb 16 (by decide) (by decide) (by decide) dX4_single_89 ?_
    refine zsC18_1 (v := ((zlshr ((zA σ 18 1 0) * x12) 16) % 65536)) hx hb (by decide) hK hP hD hS dX4_single_90 (fun H locs hP hD hS => ?_)
    refine lv_aload_n hx hb dX4_single_91 rfl (lv_at hl 1 rfl) ?_
    refine lv_aload_n hx hb dX4_single_92 rfl (lv_at hl 1 rfl) ?_
    refine zgC18_1 hx hb hg hown hK hP q554 dX4_single_93 ?_
    refine lv_iconst (v := Int32.ofInt 2) hx hb dX4_single_96 (by decide) ?_
    refine zlC18_1 hx hb (by decide) hK hP dX4_single_97 ?_
    obtain ⟨o15, hw⟩ := hw
    refine z_if_eq (tgt := 105) hx hb o15 dX4_single_98 (by decide) (fun k16 => ?_) (fun k16 => ?_)
    · replace hw := hw.1 k16
      refine lv_iconst (v := Int32.ofInt 0) hx hb dX4_single_105 (by decide) ?_
      exact j106 0 (zsA (zsA σ13 18 1 0 (((zA σ 18 1 0) * x12) % 65536)) 18 1 2 ((zlshr ((zA σ 18 1 0) * x12) 16) % 65536)) _ _ _ hP hD hS (lv_sub hl [] rfl) hw
    · replace hw := hw.2 k16
      refine lv_iconst (v := Int32.ofInt 1) hx hb dX4_single_101 (by decide) ?_
      refine lv_goto (tgt := 106) hx hb dX4_single_102 (by decide) ?_
      exact j106 1 (zsA (zsA σ13 18 1 0 (((zA σ 18 1 0) * x12) % 65536)) 18 1 2 ((zlshr ((zA σ 18 1 0) * x12) 16) % 65536)) _ _ _ hP hD hS (lv_sub hl [] rfl) hw
  replace hw := hw.2 s10
  by_cases s17 : (zI σ 18 11) = 5
  · replace hw := hw.1 s17
    refine lv_tableIn (tgt := 120) hx hb dX4_single_4 (by rw [t2, s17]; decide) (by rw [t2, s17]; decide) (by rw [t2, s17]; rfl) (by decide) ?_
    exact j120 σ _ _ _ hP hD hS (lv_sub hl [] rfl) hw
  replace hw := hw.2 s17
  by_cases s18 : (zI σ 18 11) = 6
  · replace hw := hw.1 s18
    refine lv_tableIn (tgt := 111) hx hb dX4_single_4 (by rw [t2, s18]; decide) (by rw [t2, s18]; decide) (by rw [t2, s18]; rfl) (by decide) ?_
    refine lv_aload_n hx hb dX4_single_111 rfl (lv_at hl 0 rfl) ?_
    refine lv_aload_n hx hb dX4_single_112 rfl (lv_at hl 0 rfl) ?_
    refine z_Vi (n := 0) (As := []) (rest := [.ref (ad 18 1000)]) hx hb hml hg hown hK hP hD hS hA (kX4_readM l D dA ad σ _ _ hw) (zoC18) rfl q1443 q159 q1440 q1442 q62 (by decide +kernel) ⟨(Nat.le_of_ble_eq_true rfl), (Nat.le_of_ble_eq_true rfl)⟩ rfl hl.1 rfl (Nat.le_of_ble_eq_true rfl) dX4_single_113 ⟨(Nat.le_of_ble_eq_true rfl), (Nat.le_of_ble_eq_true rfl)⟩ (fun x19 σ20 H locs hw hP hD hS => ?_)
    refine z_Vi (n := 1) (As := [.int (Int32.ofInt x19)]) (rest := []) hx hb hml hg hown hK hP hD hS hA (kX4_divide l D dA ad x19 σ20 _ _ hw) (zoC18) rfl q1483 q159 q1480 q1482 q72 (by decide +kernel) ⟨(Nat.le_of_ble_eq_true rfl), (Nat.le_of_ble_eq_true rfl)⟩ rfl hl.1 rfl (Nat.le_of_ble_eq_true rfl) dX4_single_116 ⟨(Nat.le_of_ble_eq_true rfl), (Nat.le_of_ble_eq_true rfl)⟩ (fun x21 σ22 H locs hw hP hD hS => ?_)
    exact hret x21 σ22 _ _ _ _ hw hP hD hS dX4_single_119
  replace hw := hw.2 s18
  refine lv_tableOut (tgt := 120) hx hb dX4_single_4 (by rw [t2]; clear hw; omega) (by decide) ?_
  exact j120 σ _ _ _ hP hD hS (lv_sub hl [] rfl) hw
def wpX4_executeM_165 (σ : ZS) (Q : Int → ZS → Prop) : Prop := Q 2 σ
def wpX4_executeM (a1 : Int) (σ : ZS) (Q : Int → ZS → Prop) : Prop := (-2147483648 ≤ a1 ∧ a1 ≤ 2147483647) ∧ (a1 = 129 → wpX4_isArithmetic (zI σ 18 11) σ (fun (x4 : Int) (σ5 : ZS) => (-2147483648 ≤ x4 ∧ x4 ≤ 2147483647) ∧ (¬ x4 = 0 → wpX4_fetchWord σ5 (fun (x8 : Int) (σ9 : ZS) => wpX4_arithmeticOnM (zI σ5 18 11) x8 σ9 (fun (σ11 : ZS) => Q 3 σ11))) ∧ (x4 = 0 → Q 2 σ5))) ∧ (¬ a1 = 129 → (a1 = 137 → (0 ≤ (zI σ 18 11) ∧ (zI σ 18 11) < 8) ∧ wpX4_writeM (zA σ 18 1 (zI σ 18 11)) σ (fun (σ15 : ZS) => Q 3 σ15)) ∧ (¬ a1 = 137 → (a1 = 139 → wpX4_readM σ (fun (x17 : Int) (σ18 : ZS) => (0 ≤ (zI σ 18 11) ∧ (zI σ 18 11) < 8) ∧ Q 3 (zsA σ18 18 1 (zI σ 18 11) x17))) ∧ (¬ a1 = 139 → (a1 = 140 → (-2147483648 ≤ (zI σ 18 11) ∧ (zI σ 18 11) ≤ 2147483647) ∧ ((zI σ 18 11) ≤ 3 → (0 ≤ (zI σ 18 11) ∧ (zI σ 18 11) < 4) ∧ wpX4_writeM (zA σ 18 2 (zI σ 18 11)) σ (fun (σ25 : ZS) => Q 3 σ25)) ∧ (¬ (zI σ 18 11) ≤ 3 → Q 2 σ)) ∧ (¬ a1 = 140 → (a1 = 142 → (-2147483648 ≤ (zI σ 18 11) ∧ (zI σ 18 11) ≤ 2147483647) ∧ (3 < (zI σ 18 11) → wpX4_executeM_165 σ Q) ∧ (¬ 3 < (zI σ 18 11) → (¬ (zI σ 18 11) = 1 → wpX4_readM σ (fun (x30 : Int) (σ31 : ZS) => (0 ≤ (zI σ 18 11) ∧ (zI σ 18 11) < 4) ∧ Q 3 (zsA σ31 18 2 (zI σ 18 11) x30))) ∧ ((zI σ 18 11) = 1 → wpX4_executeM_165 σ Q))) ∧ (¬ a1 = 142 → (a1 = 199 → (-2147483648 ≤ (zI σ 18 11) ∧ (zI σ 18 11) ≤ 2147483647) ∧ ((zI σ 18 11) = 0 → wpX4_fetchWord σ (fun (x36 : Int) (σ37 : ZS) => wpX4_writeM x36 σ37 (fun (σ39 : ZS) => Q 3 σ39))) ∧ (¬ (zI σ 18 11) = 0 → Q 2 σ)) ∧ (¬ a1 = 199 → (a1 = 209 → wpX4_shift σ (fun (x41 : Int) (σ42 : ZS) => Q x41 σ42)) ∧ (¬ a1 = 209 → wpX4_single σ (fun (x43 : Int) (σ44 : ZS) => Q x43 σ44))))))))
set_option maxHeartbeats 4000000 in
set_option maxRecDepth 100000 in
theorem kX4_executeM (l : Launch) (D : va_G) (dA : Nat → ClassId) (ad : Int → Nat → Nat) (a1 : Int) (σ : ZS) (Q : Int → ZS → Prop) (sz : Nat) (hw : wpX4_executeM a1 σ Q) : Met l yX4_executeM (gws yX4_executeM cX4_executeM 2 (some .int)) (gR 4 0 0) (gPre D dA [.ref (ad 18 1000), .int (Int32.ofInt a1)] (zC dA ad σ) sz) (va_Qi (zQi Q) (gAt D dA (va_A (zC dA ad σ) sz) (zC dA ad)) (va_A (zC dA ad σ) sz)) 0 0 (va_A (zC dA ad σ) sz) := by
  refine Met.ofW (cc := cX4_executeM) (maxL := 2) (ret := (some .int)) (by decide) rfl ?_
  intro p e s m args below meth c s₁ B hml hv
  obtain ⟨rfl, hsz, hP, hK, hD0⟩ := hv
  have hx := B.exec
  have hb := B.bytes
  have hr := B.returns
  have hts := atoms_spec (ws := gws yX4_executeM cX4_executeM 2 (some .int)) B.pre
  have hg : ∀ w ∈ gw, w.before _ s = true := fun w h => hts w (List.mem_cons_of_mem _ h)
  have hown : s.vm.findClass RX4 = some m.cls := findClass_of_methodNamed B.named
  have hlocks := B.notSynchronized
  subst hsz
  have hD := hD0.self (sz := s.heap.size)
  generalize hAe : va_A (zC dA ad σ) s.heap.size = A at hD ⊢
  have hA : ∀ q : Nat, s.heap.size ≤ q → A q := fun q h => by rw [← hAe]; exact Or.inr h
  have hS : va_S A s.heap s.heap [] := va_S.rf
  have hl := lv_entry ([.ref (ad 18 1000), .int (Int32.ofInt a1)]) (n := 2) (Nat.le_of_ble_eq_true rfl)
  rw [lg_entry_eq]
  generalize (lg_sl ([.ref (ad 18 1000), .int (Int32.ofInt a1)]) ++ List.replicate (2 - (lg_sl ([.ref (ad 18 1000), .int (Int32.ofInt a1)])).length) Slot.unset).toArray = ls at hl ⊢
  have hl : lv_has ls 2 [(0, .ref (ad 18 1000)), (1, .int (Int32.ofInt a1))] := hl
  have hret : ∀ (v : Int) (σ : ZS) (H : Heap) (locs : List Loc) (ls : Array Slot) (pc : Nat), Q v σ → va_P D vwC (zC dA ad σ) H → va_D A (zC dA ad σ) → va_S A s.heap H locs → decode cX4_executeM pc = .ok (.ireturn, 1) → W p l e (gR 4 0 0) s m #[.ref (ad 18 1000), .int (Int32.ofInt a1)] below meth c H locs 0 0 (MQ below (va_Qi (zQi Q) (gAt D dA A (zC dA ad)) A) #[.ref (ad 18 1000), .int (Int32.ofInt a1)] s 0 0 A) (F0 m pc ls [.int (Int32.ofInt v)]) := fun v σ H locs ls pc hw hP hD hS hd => g_iret hx hb hr rfl hlocks hK σ hP hD hS ⟨v, rfl, hw⟩ (Nat.le_of_ble_eq_true rfl) (Nat.le_of_ble_eq_true rfl) hd
  generalize MQ below (va_Qi (zQi Q) (gAt D dA A (zC dA ad)) A) #[.ref (ad 18 1000), .int (Int32.ofInt a1)] s 0 0 A = QQ at hret ⊢
  have j165 : ∀ (σ : ZS), ∀ (H : Heap) (locs : List Loc) (ls : Array Slot), va_P D vwC (zC dA ad σ) H → va_D A (zC dA ad σ) → va_S A s.heap H locs → lv_has ls 2 [] → wpX4_executeM_165 σ Q → W p l e (gR 4 0 0) s m #[.ref (ad 18 1000), .int (Int32.ofInt a1)] below meth c H locs 0 0 QQ (F0 m 165 ls []) := by
    intro σ H locs ls hP hD hS hl hw
    unfold wpX4_executeM_165 at hw
    refine lv_iconst (v := Int32.ofInt 2) hx hb dX4_executeM_165 (by decide) ?_
    exact hret 2 σ _ _ _ _ hw hP hD hS dX4_executeM_166
  unfold wpX4_executeM at hw
  refine lv_iload_n hx hb dX4_executeM_0 rfl (lv_at hl 1 rfl) ?_
  obtain ⟨o1, hw⟩ := hw
  have t2 := z_ti o1
  by_cases s3 : a1 = 129
  · replace hw := hw.1 s3
    refine lv_lookup (off := 67) (tgt := 68) hx hb dX4_executeM_1 (by decide) (by rw [t2, s3]; rfl) (by decide) ?_
    refine lv_aload_n hx hb dX4_executeM_68 rfl (lv_at hl 0 rfl) ?_
    refine zgC18_11 hx hb hg hown hK hP q574 dX4_executeM_69 ?_
    refine z_Si (n := 1) (As := [.int (Int32.ofInt (zI σ 18 11))]) (rest := []) hx hb hml hg hown hK hP hD hS hA (kX4_isArithmetic l D dA ad (zI σ 18 11) σ _ _ hw) q1419 q159 q1417 q1418 (by decide +kernel) ⟨(Nat.le_of_ble_eq_true rfl), (Nat.le_of_ble_eq_true rfl)⟩ rfl hl.1 rfl (Nat.le_of_ble_eq_true rfl) dX4_executeM_72 ⟨(Nat.le_of_ble_eq_true rfl), (Nat.le_of_ble_eq_true rfl)⟩ (fun x4 σ5 H locs hw hP hD hS => ?_)
    obtain ⟨o6, hw⟩ := hw
    refine z_if_ne (tgt := 80) hx hb o6 dX4_executeM_75 (by decide) (fun k7 => ?_) (fun k7 => ?_)
    · replace hw := hw.1 k7
      refine lv_aload_n hx hb dX4_executeM_80 rfl (lv_at hl 0 rfl) ?_
      refine lv_aload_n hx hb dX4_executeM_81 rfl (lv_at hl 0 rfl) ?_
      refine zgC18_11 hx hb hg hown hK hP q574 dX4_executeM_82 ?_
      refine lv_aload_n hx hb dX4_executeM_85 rfl (lv_at hl 0 rfl) ?_
      refine z_Vi (n := 0) (As := []) (rest := [.int (Int32.ofInt (zI σ5 18 11)), .ref (ad 18 1000)]) hx hb hml hg hown hK hP hD hS hA (kX4_fetchWord l D dA ad σ5 _ _ hw) (zoC18) rfl q1431 q159 q1428 q1430 q59 (by decide +kernel) ⟨(Nat.le_of_ble_eq_true rfl), (Nat.le_of_ble_eq_true rfl)⟩ rfl hl.1 rfl (Nat.le_of_ble_eq_true rfl) dX4_executeM_86 ⟨(Nat.le_of_ble_eq_true rfl), (Nat.le_of_ble_eq_true rfl)⟩ (fun x8 σ9 H locs hw hP hD hS => ?_)
      refine z_Vv (n := 2) (As := [.int (Int32.ofInt (zI σ5 18 11)), .int (Int32.ofInt x8)]) (rest := []) hx hb hml hg hown hK hP hD hS hA (kX4_arithmeticOnM l D dA ad (zI σ5 18 11) x8 σ9 _ _ hw) (zoC18) rfl q1439 q159 q1436 q1438 q61 (by decide +kernel) ⟨(Nat.le_of_ble_eq_true rfl), (Nat.le_of_ble_eq_true rfl)⟩ rfl hl.1 rfl (Nat.le_of_ble_eq_true rfl) dX4_executeM_89 ⟨(Nat.le_of_ble_eq_true rfl), (Nat.le_of_ble_eq_true rfl)⟩ (fun σ11 H locs hw hP hD hS => ?_)
      refine lv_iconst (v := Int32.ofInt 3) hx hb dX4_executeM_92 (by decide) ?_
      exact hret 3 σ11 _ _ _ _ hw hP hD hS dX4_executeM_93
    · replace hw := hw.2 k7
      refine lv_iconst (v := Int32.ofInt 2) hx hb dX4_executeM_78 (by decide) ?_
      exact hret 2 σ5 _ _ _ _ hw hP hD hS dX4_executeM_79
  replace hw := hw.2 s3
  by_cases s12 : a1 = 137
  · replace hw := hw.1 s12
    refine lv_lookup (off := 93) (tgt := 94) hx hb dX4_executeM_1 (by decide) (by rw [t2, s12]; rfl) (by decide) ?_
    refine lv_aload_n hx hb dX4_executeM_94 rfl (lv_at hl 0 rfl) ?_
    refine lv_aload_n hx hb dX4_executeM_95 rfl (lv_at hl 0 rfl) ?_
    refine zgC18_1 hx hb hg hown hK hP q554 dX4_executeM_96 ?_
    refine lv_aload_n hx hb dX4_executeM_99 rfl (lv_at hl 0 rfl) ?_
    refine zgC18_11 hx hb hg hown hK hP q574 dX4_executeM_100 ?_
    obtain ⟨o13, hw⟩ := hw
    refine zlC18_1 hx hb o13 hK hP dX4_executeM_103 ?_
    refine z_Vv (n := 1) (As := [.int (Int32.ofInt (zA σ 18 1 (zI σ 18 11)))]) (rest := []) hx hb hml hg hown hK hP hD hS hA (kX4_writeM l D dA ad (zA σ 18 1 (zI σ 18 11)) σ _ _ hw) (zoC18) rfl q1455 q159 q1452 q1454 q65 (by decide +kernel) ⟨(Nat.le_of_ble_eq_true rfl), (Nat.le_of_ble_eq_true rfl)⟩ rfl hl.1 rfl (Nat.le_of_ble_eq_true rfl) dX4_executeM_104 ⟨(Nat.le_of_ble_eq_true rfl), (Nat.le_of_ble_eq_true rfl)⟩ (fun σ15 H locs hw hP hD hS => ?_)
    refine lv_iconst (v := Int32.ofInt 3) hx hb dX4_executeM_107 (by decide) ?_
    exact hret 3 σ15 _ _ _ _ hw hP hD hS dX4_executeM_108
  replace hw := hw.2 s12
  by_cases s16 : a1 = 139
  · replace hw := hw.1 s16
    refine lv_lookup (off := 108) (tgt := 109) hx hb dX4_executeM_1 (by decide) (by rw [t2, s16]; rfl) (by decide) ?_
    refine lv_aload_n hx hb dX4_executeM_109 rfl (lv_at hl 0 rfl) ?_
    refine zgC18_1 hx hb hg hown hK hP q554 dX4_executeM_110 ?_
    refine lv_aload_n hx hb dX4_executeM_113 rfl (lv_at hl 0 rfl) ?_
    refine zgC18_11 hx hb hg hown hK hP q574 dX4_executeM_114 ?_
    refine lv_aload_n hx hb dX4_executeM_117 rfl (lv_at hl 0 rfl) ?_
    refine z_Vi (n := 0) (As := []) (rest := [.int (Int32.ofInt (zI σ 18 11)), .ref (ad 18 1)]) hx hb hml hg hown hK hP hD hS hA (kX4_readM l D dA ad σ _ _ hw) (zoC18) rfl q1443 q159 q1440 q1442 q62 (by decide +kernel) ⟨(Nat.le_of_ble_eq_true rfl), (Nat.le_of_ble_eq_true rfl)⟩ rfl hl.1 rfl (Nat.le_of_ble_eq_true rfl) dX4_executeM_118 ⟨(Nat.le_of_ble_eq_true rfl), (Nat.le_of_ble_eq_true rfl)⟩ (fun x17 σ18 H locs hw hP hD hS => ?_)
    obtain ⟨o19, hw⟩ := hw
    refine zsC18_1 (v := x17) hx hb o19 hK hP hD hS dX4_executeM_121 (fun H locs hP hD hS => ?_)
    refine lv_iconst (v := Int32.ofInt 3) hx hb dX4_executeM_122 (by decide) ?_
    exact hret 3 (zsA σ18 18 1 (zI σ 18 11) x17) _ _ _ _ hw hP hD hS dX4_executeM_123
  replace hw := hw.2 s16
  by_cases s20 : a1 = 140
  · replace hw := hw.1 s20
    refine lv_lookup (off := 123) (tgt := 124) hx hb dX4_executeM_1 (by decide) (by rw [t2, s20]; rfl) (by decide) ?_
    refine lv_aload_n hx hb dX4_executeM_124 rfl (lv_at hl 0 rfl) ?_
    refine zgC18_11 hx hb hg hown hK hP q574 dX4_executeM_125 ?_
    refine lv_iconst (v := Int32.ofInt 3) hx hb dX4_executeM_128 (by decide) ?_
    obtain ⟨o21, hw⟩ := hw
    refine z_icmp_le (tgt := 134) hx hb o21 (by decide) dX4_executeM_129 (by decide) (fun k22 => ?_) (fun k22 => ?_)
    · replace hw := hw.1 k22
      refine lv_aload_n hx hb dX4_executeM_134 rfl (lv_at hl 0 rfl) ?_
      refine lv_aload_n hx hb dX4_executeM_135 rfl (lv_at hl 0 rfl) ?_
      refine zgC18_2 hx hb hg hown hK hP q556 dX4_executeM_136 ?_
      refine lv_aload_n hx hb dX4_executeM_139 rfl (lv_at hl 0 rfl) ?_
      refine zgC18_11 hx hb hg hown hK hP q574 dX4_executeM_140 ?_
      obtain ⟨o23, hw⟩ := hw
      refine zlC18_2 hx hb o23 hK hP dX4_executeM_143 ?_
      refine z_Vv (n := 1) (As := [.int (Int32.ofInt (zA σ 18 2 (zI σ 18 11)))]) (rest := []) hx hb hml hg hown hK hP hD hS hA (kX4_writeM l D dA ad (zA σ 18 2 (zI σ 18 11)) σ _ _ hw) (zoC18) rfl q1455 q159 q1452 q1454 q65 (by decide +kernel) ⟨(Nat.le_of_ble_eq_true rfl), (Nat.le_of_ble_eq_true rfl)⟩ rfl hl.1 rfl (Nat.le_of_ble_eq_true rfl) dX4_executeM_144 ⟨(Nat.le_of_ble_eq_true rfl), (Nat.le_of_ble_eq_true rfl)⟩ (fun σ25 H locs hw hP hD hS => ?_)
      refine lv_iconst (v := Int32.ofInt 3) hx hb dX4_executeM_147 (by decide) ?_
      exact hret 3 σ25 _ _ _ _ hw hP hD hS dX4_executeM_148
    · replace hw := hw.2 k22
      refine lv_iconst (v := Int32.ofInt 2) hx hb dX4_executeM_132 (by decide) ?_
      exact hret 2 σ _ _ _ _ hw hP hD hS dX4_executeM_133
  replace hw := hw.2 s20
  by_cases s26 : a1 = 142
  · replace hw := hw.1 s26
    refine lv_lookup (off := 148) (tgt := 149) hx hb dX4_executeM_1 (by decide) (by rw [t2, s26]; rfl) (by decide) ?_
    refine lv_aload_n hx hb dX4_executeM_149 rfl (lv_at hl 0 rfl) ?_
    refine zgC18_11 hx hb hg hown hK hP q574 dX4_executeM_150 ?_
    refine lv_iconst (v := Int32.ofInt 3) hx hb dX4_executeM_153 (by decide) ?_
    obtain ⟨o27, hw⟩ := hw
    refine z_icmp_gt (tgt := 165) hx hb o27 (by decide) dX4_executeM_154 (by decide) (fun k28 => ?_) (fun k28 => ?_)
    · replace hw := hw.1 k28
      exact j165 σ _ _ _ hP hD hS (lv_sub hl [] rfl) hw
    · replace hw := hw.2 k28
      refine lv_aload_n hx hb dX4_executeM_157 rfl (lv_at hl 0 rfl) ?_
      refine zgC18_11 hx hb hg hown hK hP q574 dX4_executeM_158 ?_
      refine lv_iconst (v := Int32.ofInt 1) hx hb dX4_executeM_161 (by decide) ?_
      refine z_icmp_ne (tgt := 167) hx hb o27 (by decide) dX4_executeM_162 (by decide) (fun k29 => ?_) (fun k29 => ?_)
      · replace hw := hw.1 k29
        refine lv_aload_n hx hb dX4_executeM_167 rfl (lv_at hl 0 rfl) ?_
        refine zgC18_2 hx hb hg hown hK hP q556 dX4_executeM_168 ?_
        refine lv_aload_n hx hb dX4_executeM_171 rfl (lv_at hl 0 rfl) ?_
        refine zgC18_11 hx hb hg hown hK hP q574 dX4_executeM_172 ?_
        refine lv_aload_n hx hb dX4_executeM_175 rfl (lv_at hl 0 rfl) ?_
        refine z_Vi (n := 0) (As := []) (rest := [.int (Int32.ofInt (zI σ 18 11)), .ref (ad 18 2)]) hx hb hml hg hown hK hP hD hS hA (kX4_readM l D dA ad σ _ _ hw) (zoC18) rfl q1443 q159 q1440 q1442 q62 (by decide +kernel) ⟨(Nat.le_of_ble_eq_true rfl), (Nat.le_of_ble_eq_true rfl)⟩ rfl hl.1 rfl (Nat.le_of_ble_eq_true rfl) dX4_executeM_176 ⟨(Nat.le_of_ble_eq_true rfl), (Nat.le_of_ble_eq_true rfl)⟩ (fun x30 σ31 H locs hw hP hD hS => ?_)
        obtain ⟨o32, hw⟩ := hw
        refine zsC18_2 (v := x30) hx hb o32 hK hP hD hS dX4_executeM_179 (fun H locs hP hD hS => ?_)
        refine lv_iconst (v := Int32.ofInt 3) hx hb dX4_executeM_180 (by decide) ?_
        exact hret 3 (zsA σ31 18 2 (zI σ 18 11) x30) _ _ _ _ hw hP hD hS dX4_executeM_181
      · replace hw := hw.2 k29
        exact j165 σ _ _ _ hP hD hS (lv_sub hl [] rfl) hw
  replace hw := hw.2 s26
  by_cases s33 : a1 = 199
  · replace hw := hw.1 s33
    refine lv_lookup (off := 181) (tgt := 182) hx hb dX4_executeM_1 (by decide) (by rw [t2, s33]; rfl) (by decide) ?_
    refine lv_aload_n hx hb dX4_executeM_182 rfl (lv_at hl 0 rfl) ?_
    refine zgC18_11 hx hb hg hown hK hP q574 dX4_executeM_183 ?_
    obtain ⟨o34, hw⟩ := hw
    refine z_if_eq (tgt := 191) hx hb o34 dX4_executeM_186 (by decide) (fun k35 => ?_) (fun k35 => ?_)
    · replace hw := hw.1 k35
      refine lv_aload_n hx hb dX4_executeM_191 rfl (lv_at hl 0 rfl) ?_
      refine lv_aload_n hx hb dX4_executeM_192 rfl (lv_at hl 0 rfl) ?_
      refine z_Vi (n := 0) (As := []) (rest := [.ref (ad 18 1000)]) hx hb hml hg hown hK hP hD hS hA (kX4_fetchWord l D dA ad σ _ _ hw) (zoC18) rfl q1431 q159 q1428 q1430 q59 (by decide +kernel) ⟨(Nat.le_of_ble_eq_true rfl), (Nat.le_of_ble_eq_true rfl)⟩ rfl hl.1 rfl (Nat.le_of_ble_eq_true rfl) dX4_executeM_193 ⟨(Nat.le_of_ble_eq_true rfl), (Nat.le_of_ble_eq_true rfl)⟩ (fun x36 σ37 H locs hw hP hD hS => ?_)
      refine z_Vv (n := 1) (As := [.int (Int32.ofInt x36)]) (rest := []) hx hb hml hg hown hK hP hD hS hA (kX4_writeM l D dA ad x36 σ37 _ _ hw) (zoC18) rfl q1455 q159 q1452 q1454 q65 (by decide +kernel) ⟨(Nat.le_of_ble_eq_true rfl), (Nat.le_of_ble_eq_true rfl)⟩ rfl hl.1 rfl (Nat.le_of_ble_eq_true rfl) dX4_executeM_196 ⟨(Nat.le_of_ble_eq_true rfl), (Nat.le_of_ble_eq_true rfl)⟩ (fun σ39 H locs hw hP hD hS => ?_)
      refine lv_iconst (v := Int32.ofInt 3) hx hb dX4_executeM_199 (by decide) ?_
      exact hret 3 σ39 _ _ _ _ hw hP hD hS dX4_executeM_200
    · replace hw := hw.2 k35
      refine lv_iconst (v := Int32.ofInt 2) hx hb dX4_executeM_189 (by decide) ?_
      exact hret 2 σ _ _ _ _ hw hP hD hS dX4_executeM_190
  replace hw := hw.2 s33
  by_cases s40 : a1 = 209
  · replace hw := hw.1 s40
    refine lv_lookup (off := 200) (tgt := 201) hx hb dX4_executeM_1 (by decide) (by rw [t2, s40]; rfl) (by decide) ?_
    refine lv_aload_n hx hb dX4_executeM_201 rfl (lv_at hl 0 rfl) ?_
    refine z_Vi (n := 0) (As := []) (rest := []) hx hb hml hg hown hK hP hD hS hA (kX4_shift l D dA ad σ _ _ hw) (zoC18) rfl q1475 q159 q1472 q1474 q70 (by decide +kernel) ⟨(Nat.le_of_ble_eq_true rfl), (Nat.le_of_ble_eq_true rfl)⟩ rfl hl.1 rfl (Nat.le_of_ble_eq_true rfl) dX4_executeM_202 ⟨(Nat.le_of_ble_eq_true rfl), (Nat.le_of_ble_eq_true rfl)⟩ (fun x41 σ42 H locs hw hP hD hS => ?_)
    exact hret x41 σ42 _ _ _ _ hw hP hD hS dX4_executeM_205
  replace hw := hw.2 s40
  refine lv_lookup (off := 205) (tgt := 206) hx hb dX4_executeM_1 (by decide) (by rw [t2]; exact (z_osw s3).trans ((z_osw s12).trans ((z_osw s16).trans ((z_osw s20).trans ((z_osw s26).trans ((z_osw s33).trans ((z_osw s40).trans (rfl)))))))) (by decide) ?_
  refine lv_aload_n hx hb dX4_executeM_206 rfl (lv_at hl 0 rfl) ?_
  refine z_Vi (n := 0) (As := []) (rest := []) hx hb hml hg hown hK hP hD hS hA (kX4_single l D dA ad σ _ _ hw) (zoC18) rfl q1479 q159 q1476 q1478 q71 (by decide +kernel) ⟨(Nat.le_of_ble_eq_true rfl), (Nat.le_of_ble_eq_true rfl)⟩ rfl hl.1 rfl (Nat.le_of_ble_eq_true rfl) dX4_executeM_207 ⟨(Nat.le_of_ble_eq_true rfl), (Nat.le_of_ble_eq_true rfl)⟩ (fun x43 σ44 H locs hw hP hD hS => ?_)
  exact hret x43 σ44 _ _ _ _ hw hP hD hS dX4_executeM_210
def wpX4_loop_31 (σ : ZS) (Q : Int → ZS → Prop) : Prop := Q 3 σ
def wpX4_loop (a1 : Int) (σ : ZS) (Q : Int → ZS → Prop) : Prop := (-2147483648 ≤ (zA (zsA σ 18 1 1 (((zA σ 18 1 1) - 1) % 65536)) 18 1 1) ∧ (zA (zsA σ 18 1 1 (((zA σ 18 1 1) - 1) % 65536)) 18 1 1) ≤ 2147483647) ∧ ((zA (zsA σ 18 1 1 (((zA σ 18 1 1) - 1) % 65536)) 18 1 1) = 0 → wpX4_loop_31 (zsA σ 18 1 1 (((zA σ 18 1 1) - 1) % 65536)) Q) ∧ (¬ (zA (zsA σ 18 1 1 (((zA σ 18 1 1) - 1) % 65536)) 18 1 1) = 0 → wpX4_jump a1 (zsA σ 18 1 1 (((zA σ 18 1 1) - 1) % 65536)) (fun (σ4 : ZS) => wpX4_loop_31 σ4 Q))
set_option maxHeartbeats 4000000 in
set_option maxRecDepth 100000 in
theorem kX4_loop (l : Launch) (D : va_G) (dA : Nat → ClassId) (ad : Int → Nat → Nat) (a1 : Int) (σ : ZS) (Q : Int → ZS → Prop) (sz : Nat) (hw : wpX4_loop a1 σ Q) : Met l yX4_loop (gws yX4_loop cX4_loop 2 (some .int)) (gR 2 0 0) (gPre D dA [.ref (ad 18 1000), .int (Int32.ofInt a1)] (zC dA ad σ) sz) (va_Qi (zQi Q) (gAt D dA (va_A (zC dA ad σ) sz) (zC dA ad)) (va_A (zC dA ad σ) sz)) 0 0 (va_A (zC dA ad σ) sz) := by
  refine Met.ofW (cc := cX4_loop) (maxL := 2) (ret := (some .int)) (by decide) rfl ?_
  intro p e s m args below meth c s₁ B hml hv
  obtain ⟨rfl, hsz, hP, hK, hD0⟩ := hv
  have hx := B.exec
  have hb := B.bytes
  have hr := B.returns
  have hts := atoms_spec (ws := gws yX4_loop cX4_loop 2 (some .int)) B.pre
  have hg : ∀ w ∈ gw, w.before _ s = true := fun w h => hts w (List.mem_cons_of_mem _ h)
  have hown : s.vm.findClass RX4 = some m.cls := findClass_of_methodNamed B.named
  have hlocks := B.notSynchronized
  subst hsz
  have hD := hD0.self (sz := s.heap.size)
  generalize hAe : va_A (zC dA ad σ) s.heap.size = A at hD ⊢
  have hA : ∀ q : Nat, s.heap.size ≤ q → A q := fun q h => by rw [← hAe]; exact Or.inr h
  have hS : va_S A s.heap s.heap [] := va_S.rf
  have hl := lv_entry ([.ref (ad 18 1000), .int (Int32.ofInt a1)]) (n := 2) (Nat.le_of_ble_eq_true rfl)
  rw [lg_entry_eq]
  generalize (lg_sl ([.ref (ad 18 1000), .int (Int32.ofInt a1)]) ++ List.replicate (2 - (lg_sl ([.ref (ad 18 1000), .int (Int32.ofInt a1)])).length) Slot.unset).toArray = ls at hl ⊢
  have hl : lv_has ls 2 [(0, .ref (ad 18 1000)), (1, .int (Int32.ofInt a1))] := hl
  have hret : ∀ (v : Int) (σ : ZS) (H : Heap) (locs : List Loc) (ls : Array Slot) (pc : Nat), Q v σ → va_P D vwC (zC dA ad σ) H → va_D A (zC dA ad σ) → va_S A s.heap H locs → decode cX4_loop pc = .ok (.ireturn, 1) → W p l e (gR 2 0 0) s m #[.ref (ad 18 1000), .int (Int32.ofInt a1)] below meth c H locs 0 0 (MQ below (va_Qi (zQi Q) (gAt D dA A (zC dA ad)) A) #[.ref (ad 18 1000), .int (Int32.ofInt a1)] s 0 0 A) (F0 m pc ls [.int (Int32.ofInt v)]) := fun v σ H locs ls pc hw hP hD hS hd => g_iret hx hb hr rfl hlocks hK σ hP hD hS ⟨v, rfl, hw⟩ (Nat.le_of_ble_eq_true rfl) (Nat.le_of_ble_eq_true rfl) hd
  generalize MQ below (va_Qi (zQi Q) (gAt D dA A (zC dA ad)) A) #[.ref (ad 18 1000), .int (Int32.ofInt a1)] s 0 0 A = QQ at hret ⊢
  have j31 : ∀ (σ : ZS), ∀ (H : Heap) (locs : List Loc) (ls : Array Slot), va_P D vwC (zC dA ad σ) H → va_D A (zC dA ad σ) → va_S A s.heap H locs → lv_has ls 2 [] → wpX4_loop_31 σ Q → W p l e (gR 2 0 0) s m #[.ref (ad 18 1000), .int (Int32.ofInt a1)] below meth c H locs 0 0 QQ (F0 m 31 ls []) := by
    intro σ H locs ls hP hD hS hl hw
    unfold wpX4_loop_31 at hw
    refine lv_iconst (v := Int32.ofInt 3) hx hb dX4_loop_31 (by decide) ?_
    exact hret 3 σ _ _ _ _ hw hP hD hS dX4_loop_32
  unfold wpX4_loop at hw
  refine lv_aload_n hx hb dX4_loop_0 rfl (lv_at hl 0 rfl) ?_
  refine zgC18_1 hx hb hg hown hK hP q554 dX4_loop_1 ?_
  refine lv_iconst (v := Int32.ofInt 1) hx hb dX4_loop_4 (by decide) ?_
  refine lv_aload_n hx hb dX4_loop_5 rfl (lv_at hl 0 rfl) ?_
  refine zgC18_1 hx hb hg hown hK hP q554 dX4_loop_6 ?_
  refine lv_iconst (v := Int32.ofInt 1) hx hb dX4_loop_9 (by decide) ?_
  refine zlC18_1 hx hb (by decide) hK hP dX4_loop_10 ?_
  refine lv_iconst (v := Int32.ofInt 1) hx hb dX4_loop_11 (by decide) ?_
  refine z_isub hx hb dX4_loop_12 ?_
  refine lv_ldc hx hb hown (hg _ q1400) dX4_loop_13 ?_
  refine g_nrm (y := Int32.ofInt 65535) (by decide) ?_
  refine z_iandK (M := 65536) hx hb 16 (by decide) (by decide) (by decide) dX4_loop_15 ?_
  refine zsC18_1 (v := (((zA σ 18 1 1) - 1) % 65536)) hx hb (by decide) hK hP hD hS dX4_loop_16 (fun H locs hP hD hS => ?_)
  refine lv_aload_n hx hb dX4_loop_17 rfl (lv_at hl 0 rfl) ?_
  refine zgC18_1 hx hb hg hown hK hP q554 dX4_loop_18 ?_
  refine lv_iconst (v := Int32.ofInt 1) hx hb dX4_loop_21 (by decide) ?_
  refine zlC18_1 hx hb (by decide) hK hP dX4_loop_22 ?_
  obtain ⟨o1, hw⟩ := hw
  refine z_if_eq (tgt := 31) hx hb o1 dX4_loop_23 (by decide) (fun k2 => ?_) (fun k2 => ?_)
  · replace hw := hw.1 k2
    exact j31 (zsA σ 18 1 1 (((zA σ 18 1 1) - 1) % 65536)) _ _ _ hP hD hS (lv_sub hl [] rfl) hw
  · replace hw := hw.2 k2
    refine lv_aload_n hx hb dX4_loop_26 rfl (lv_at hl 0 rfl) ?_
    refine lv_iload_n hx hb dX4_loop_27 rfl (lv_at hl 1 rfl) ?_
    refine z_Vv (n := 1) (As := [.int (Int32.ofInt a1)]) (rest := []) hx hb hml hg hown hK hP hD hS hA (kX4_jump l D dA ad a1 (zsA σ 18 1 1 (((zA σ 18 1 1) - 1) % 65536)) _ _ hw) (zoC18) rfl q1467 q159 q1464 q1466 q68 (by decide +kernel) ⟨(Nat.le_of_ble_eq_true rfl), (Nat.le_of_ble_eq_true rfl)⟩ rfl hl.1 rfl (Nat.le_of_ble_eq_true rfl) dX4_loop_28 ⟨(Nat.le_of_ble_eq_true rfl), (Nat.le_of_ble_eq_true rfl)⟩ (fun σ4 H locs hw hP hD hS => ?_)
    exact j31 σ4 _ _ _ hP hD hS (lv_sub hl [] rfl) hw
def wpX4_callFar (a1 a2 : Int) (σ : ZS) (Q : Int → ZS → Prop) : Prop := wpX4_push (zA σ 18 2 1) σ (fun (σ2 : ZS) => wpX4_push (zI σ2 18 3) σ2 (fun (σ4 : ZS) => Q 3 (zsA (zsI σ4 18 3 a1) 18 2 1 a2)))
set_option maxHeartbeats 4000000 in
set_option maxRecDepth 100000 in
theorem kX4_callFar (l : Launch) (D : va_G) (dA : Nat → ClassId) (ad : Int → Nat → Nat) (a1 a2 : Int) (σ : ZS) (Q : Int → ZS → Prop) (sz : Nat) (hw : wpX4_callFar a1 a2 σ Q) : Met l yX4_callFar (gws yX4_callFar cX4_callFar 3 (some .int)) (gR 3 0 0) (gPre D dA [.ref (ad 18 1000), .int (Int32.ofInt a1), .int (Int32.ofInt a2)] (zC dA ad σ) sz) (va_Qi (zQi Q) (gAt D dA (va_A (zC dA ad σ) sz) (zC dA ad)) (va_A (zC dA ad σ) sz)) 0 0 (va_A (zC dA ad σ) sz) := by
  refine Met.ofW (cc := cX4_callFar) (maxL := 3) (ret := (some .int)) (by decide) rfl ?_
  intro p e s m args below meth c s₁ B hml hv
  obtain ⟨rfl, hsz, hP, hK, hD0⟩ := hv
  have hx := B.exec
  have hb := B.bytes
  have hr := B.returns
  have hts := atoms_spec (ws := gws yX4_callFar cX4_callFar 3 (some .int)) B.pre
  have hg : ∀ w ∈ gw, w.before _ s = true := fun w h => hts w (List.mem_cons_of_mem _ h)
  have hown : s.vm.findClass RX4 = some m.cls := findClass_of_methodNamed B.named
  have hlocks := B.notSynchronized
  subst hsz
  have hD := hD0.self (sz := s.heap.size)
  generalize hAe : va_A (zC dA ad σ) s.heap.size = A at hD ⊢
  have hA : ∀ q : Nat, s.heap.size ≤ q → A q := fun q h => by rw [← hAe]; exact Or.inr h
  have hS : va_S A s.heap s.heap [] := va_S.rf
  have hl := lv_entry ([.ref (ad 18 1000), .int (Int32.ofInt a1), .int (Int32.ofInt a2)]) (n := 3) (Nat.le_of_ble_eq_true rfl)
  rw [lg_entry_eq]
  generalize (lg_sl ([.ref (ad 18 1000), .int (Int32.ofInt a1), .int (Int32.ofInt a2)]) ++ List.replicate (3 - (lg_sl ([.ref (ad 18 1000), .int (Int32.ofInt a1), .int (Int32.ofInt a2)])).length) Slot.unset).toArray = ls at hl ⊢
  have hl : lv_has ls 3 [(0, .ref (ad 18 1000)), (1, .int (Int32.ofInt a1)), (2, .int (Int32.ofInt a2))] := hl
  have hret : ∀ (v : Int) (σ : ZS) (H : Heap) (locs : List Loc) (ls : Array Slot) (pc : Nat), Q v σ → va_P D vwC (zC dA ad σ) H → va_D A (zC dA ad σ) → va_S A s.heap H locs → decode cX4_callFar pc = .ok (.ireturn, 1) → W p l e (gR 3 0 0) s m #[.ref (ad 18 1000), .int (Int32.ofInt a1), .int (Int32.ofInt a2)] below meth c H locs 0 0 (MQ below (va_Qi (zQi Q) (gAt D dA A (zC dA ad)) A) #[.ref (ad 18 1000), .int (Int32.ofInt a1), .int (Int32.ofInt a2)] s 0 0 A) (F0 m pc ls [.int (Int32.ofInt v)]) := fun v σ H locs ls pc hw hP hD hS hd => g_iret hx hb hr rfl hlocks hK σ hP hD hS ⟨v, rfl, hw⟩ (Nat.le_of_ble_eq_true rfl) (Nat.le_of_ble_eq_true rfl) hd
  generalize MQ below (va_Qi (zQi Q) (gAt D dA A (zC dA ad)) A) #[.ref (ad 18 1000), .int (Int32.ofInt a1), .int (Int32.ofInt a2)] s 0 0 A = QQ at hret ⊢
  unfold wpX4_callFar at hw
  refine lv_aload_n hx hb dX4_callFar_0 rfl (lv_at hl 0 rfl) ?_
  refine lv_aload_n hx hb dX4_callFar_1 rfl (lv_at hl 0 rfl) ?_
  refine zgC18_2 hx hb hg hown hK hP q556 dX4_callFar_2 ?_
  refine lv_iconst (v := Int32.ofInt 1) hx hb dX4_callFar_5 (by decide) ?_
  refine zlC18_2 hx hb (by decide) hK hP dX4_callFar_6 ?_
  refine z_Vv (n := 1) (As := [.int (Int32.ofInt (zA σ 18 2 1))]) (rest := []) hx hb hml hg hown hK hP hD hS hA (kX4_push l D dA ad (zA σ 18 2 1) σ _ _ hw) (zoC18) rfl q1412 q159 q1409 q1411 q55 (by decide +kernel) ⟨(Nat.le_of_ble_eq_true rfl), (Nat.le_of_ble_eq_true rfl)⟩ rfl hl.1 rfl (Nat.le_of_ble_eq_true rfl) dX4_callFar_7 ⟨(Nat.le_of_ble_eq_true rfl), (Nat.le_of_ble_eq_true rfl)⟩ (fun σ2 H locs hw hP hD hS => ?_)
  refine lv_aload_n hx hb dX4_callFar_10 rfl (lv_at hl 0 rfl) ?_
  refine lv_aload_n hx hb dX4_callFar_11 rfl (lv_at hl 0 rfl) ?_
  refine zgC18_3 hx hb hg hown hK hP q558 dX4_callFar_12 ?_
  refine z_Vv (n := 1) (As := [.int (Int32.ofInt (zI σ2 18 3))]) (rest := []) hx hb hml hg hown hK hP hD hS hA (kX4_push l D dA ad (zI σ2 18 3) σ2 _ _ hw) (zoC18) rfl q1412 q159 q1409 q1411 q55 (by decide +kernel) ⟨(Nat.le_of_ble_eq_true rfl), (Nat.le_of_ble_eq_true rfl)⟩ rfl hl.1 rfl (Nat.le_of_ble_eq_true rfl) dX4_callFar_15 ⟨(Nat.le_of_ble_eq_true rfl), (Nat.le_of_ble_eq_true rfl)⟩ (fun σ4 H locs hw hP hD hS => ?_)
  refine lv_aload_n hx hb dX4_callFar_18 rfl (lv_at hl 0 rfl) ?_
  refine lv_iload_n hx hb dX4_callFar_19 rfl (lv_at hl 1 rfl) ?_
  refine zpC18_3 (v := a1) hx hb hg hown hK hP hD hS q558 dX4_callFar_20 (fun H locs hP hD hS => ?_)
  refine lv_aload_n hx hb dX4_callFar_23 rfl (lv_at hl 0 rfl) ?_
  refine zgC18_2 hx hb hg hown hK hP q556 dX4_callFar_24 ?_
  refine lv_iconst (v := Int32.ofInt 1) hx hb dX4_callFar_27 (by decide) ?_
  refine lv_iload_n hx hb dX4_callFar_28 rfl (lv_at hl 2 rfl) ?_
  refine zsC18_2 (v := a2) hx hb (by decide) hK hP hD hS dX4_callFar_29 (fun H locs hP hD hS => ?_)
  refine lv_iconst (v := Int32.ofInt 3) hx hb dX4_callFar_30 (by decide) ?_
  exact hret 3 (zsA (zsI σ4 18 3 a1) 18 2 1 a2) _ _ _ _ hw hP hD hS dX4_callFar_31
def wpX4_tellInt_29 (σ : ZS) (Q : ZS → Prop) : Prop := Q (zsI σ 18 9 ((zI σ 18 9) + 1))
def wpX4_tellInt (a1 : Int) (σ : ZS) (Q : ZS → Prop) : Prop := (-2147483648 ≤ (zI σ 18 9) ∧ (zI σ 18 9) ≤ 2147483647) ∧ (30 ≤ (zI σ 18 9) → wpX4_tellInt_29 σ Q) ∧ (¬ 30 ≤ (zI σ 18 9) → (0 ≤ (zI σ 18 9) ∧ (zI σ 18 9) < 30) ∧ wpX4_tellInt_29 (zsA σ 18 10 (zI σ 18 9) ((65536 * a1) + (zA σ 18 1 0))) Q)
set_option maxHeartbeats 4000000 in
set_option maxRecDepth 100000 in
theorem kX4_tellInt (l : Launch) (D : va_G) (dA : Nat → ClassId) (ad : Int → Nat → Nat) (a1 : Int) (σ : ZS) (Q : ZS → Prop) (sz : Nat) (hw : wpX4_tellInt a1 σ Q) : Met l yX4_tellInt (gws yX4_tellInt cX4_tellInt 2 none) (gR 1 0 0) (gPre D dA [.ref (ad 18 1000), .int (Int32.ofInt a1)] (zC dA ad σ) sz) (va_Qv Q (gAt D dA (va_A (zC dA ad σ) sz) (zC dA ad)) (va_A (zC dA ad σ) sz)) 0 0 (va_A (zC dA ad σ) sz) := by
  refine Met.ofW (cc := cX4_tellInt) (maxL := 2) (ret := none) (by decide) rfl ?_
  intro p e s m args below meth c s₁ B hml hv
  obtain ⟨rfl, hsz, hP, hK, hD0⟩ := hv
  have hx := B.exec
  have hb := B.bytes
  have hr := B.returns
  have hts := atoms_spec (ws := gws yX4_tellInt cX4_tellInt 2 none) B.pre
  have hg : ∀ w ∈ gw, w.before _ s = true := fun w h => hts w (List.mem_cons_of_mem _ h)
  have hown : s.vm.findClass RX4 = some m.cls := findClass_of_methodNamed B.named
  have hlocks := B.notSynchronized
  subst hsz
  have hD := hD0.self (sz := s.heap.size)
  generalize hAe : va_A (zC dA ad σ) s.heap.size = A at hD ⊢
  have hA : ∀ q : Nat, s.heap.size ≤ q → A q := fun q h => by rw [← hAe]; exact Or.inr h
  have hS : va_S A s.heap s.heap [] := va_S.rf
  have hl := lv_entry ([.ref (ad 18 1000), .int (Int32.ofInt a1)]) (n := 2) (Nat.le_of_ble_eq_true rfl)
  rw [lg_entry_eq]
  generalize (lg_sl ([.ref (ad 18 1000), .int (Int32.ofInt a1)]) ++ List.replicate (2 - (lg_sl ([.ref (ad 18 1000), .int (Int32.ofInt a1)])).length) Slot.unset).toArray = ls at hl ⊢
  have hl : lv_has ls 2 [(0, .ref (ad 18 1000)), (1, .int (Int32.ofInt a1))] := hl
  have hret : ∀ (σ : ZS) (H : Heap) (locs : List Loc) (ls : Array Slot) (pc : Nat), Q σ → va_P D vwC (zC dA ad σ) H → va_D A (zC dA ad σ) → va_S A s.heap H locs → decode cX4_tellInt pc = .ok (.return_, 1) → W p l e (gR 1 0 0) s m #[.ref (ad 18 1000), .int (Int32.ofInt a1)] below meth c H locs 0 0 (MQ below (va_Qv Q (gAt D dA A (zC dA ad)) A) #[.ref (ad 18 1000), .int (Int32.ofInt a1)] s 0 0 A) (F0 m pc ls []) := fun σ H locs ls pc hw hP hD hS hd => g_vret hx hb hr hlocks hK σ hP hD hS hw (Nat.le_of_ble_eq_true rfl) (Nat.le_of_ble_eq_true rfl) hd
  generalize MQ below (va_Qv Q (gAt D dA A (zC dA ad)) A) #[.ref (ad 18 1000), .int (Int32.ofInt a1)] s 0 0 A = QQ at hret ⊢
  have j29 : ∀ (σ : ZS), ∀ (H : Heap) (locs : List Loc) (ls : Array Slot), va_P D vwC (zC dA ad σ) H → va_D A (zC dA ad σ) → va_S A s.heap H locs → lv_has ls 2 [(0, .ref (ad 18 1000))] → wpX4_tellInt_29 σ Q → W p l e (gR 1 0 0) s m #[.ref (ad 18 1000), .int (Int32.ofInt a1)] below meth c H locs 0 0 QQ (F0 m 29 ls []) := by
    intro σ H locs ls hP hD hS hl hw
    unfold wpX4_tellInt_29 at hw
    refine lv_aload_n hx hb dX4_tellInt_29 rfl (lv_at hl 0 rfl) ?_
    refine lv_dup hx hb dX4_tellInt_30 rfl ?_
    refine zgC18_9 hx hb hg hown hK hP q570 dX4_tellInt_31 ?_
    refine lv_iconst (v := Int32.ofInt 1) hx hb dX4_tellInt_34 (by decide) ?_
    refine z_iadd hx hb dX4_tellInt_35 ?_
    refine zpC18_9 (v := ((zI σ 18 9) + 1)) hx hb hg hown hK hP hD hS q570 dX4_tellInt_36 (fun H locs hP hD hS => ?_)
    exact hret (zsI σ 18 9 ((zI σ 18 9) + 1)) _ _ _ _ hw hP hD hS dX4_tellInt_39
  unfold wpX4_tellInt at hw
  refine lv_aload_n hx hb dX4_tellInt_0 rfl (lv_at hl 0 rfl) ?_
  refine zgC18_9 hx hb hg hown hK hP q570 dX4_tellInt_1 ?_
  refine lv_bipush (v := Int32.ofInt 30) hx hb dX4_tellInt_4 (by decide) ?_
  obtain ⟨o1, hw⟩ := hw
  refine z_icmp_ge (tgt := 29) hx hb o1 (by decide) dX4_tellInt_6 (by decide) (fun k2 => ?_) (fun k2 => ?_)
  · replace hw := hw.1 k2
    exact j29 σ _ _ _ hP hD hS (lv_sub hl [0] rfl) hw
  · replace hw := hw.2 k2
    refine lv_aload_n hx hb dX4_tellInt_9 rfl (lv_at hl 0 rfl) ?_
    refine zgC18_10 hx hb hg hown hK hP q572 dX4_tellInt_10 ?_
    refine lv_aload_n hx hb dX4_tellInt_13 rfl (lv_at hl 0 rfl) ?_
    refine zgC18_9 hx hb hg hown hK hP q570 dX4_tellInt_14 ?_
    refine lv_ldc hx hb hown (hg _ q1502) dX4_tellInt_17 ?_
    refine g_nrm (y := Int32.ofInt 65536) (by decide) ?_
    refine lv_iload_n hx hb dX4_tellInt_19 rfl (lv_at hl 1 rfl) ?_
    refine z_imul hx hb dX4_tellInt_20 ?_
    refine lv_aload_n hx hb dX4_tellInt_21 rfl (lv_at hl 0 rfl) ?_
    refine zgC18_1 hx hb hg hown hK hP q554 dX4_tellInt_22 ?_
    refine lv_iconst (v := Int32.ofInt 0) hx hb dX4_tellInt_25 (by decide) ?_
    refine zlC18_1 hx hb (by decide) hK hP dX4_tellInt_26 ?_
    refine z_iadd hx hb dX4_tellInt_27 ?_
    obtain ⟨o3, hw⟩ := hw
    refine zsC18_10 (v := ((65536 * a1) + (zA σ 18 1 0))) hx hb o3 hK hP hD hS dX4_tellInt_28 (fun H locs hP hD hS => ?_)
    exact j29 (zsA σ 18 10 (zI σ 18 9) ((65536 * a1) + (zA σ 18 1 0))) _ _ _ hP hD hS (lv_sub hl [0] rfl) hw
def wpX4_executeFlow (a1 : Int) (σ : ZS) (Q : Int → ZS → Prop) : Prop := (-2147483648 ≤ a1 ∧ a1 ≤ 2147483647) ∧ (a1 = 154 → wpX4_fetchWord σ (fun (x4 : Int) (σ5 : ZS) => wpX4_fetchWord σ5 (fun (x6 : Int) (σ7 : ZS) => wpX4_callFar x4 x6 σ7 (fun (x8 : Int) (σ9 : ZS) => Q x8 σ9)))) ∧ (¬ a1 = 154 → (a1 = 195 → wpX4_pop σ (fun (x11 : Int) (σ12 : ZS) => Q 3 (zsI σ12 18 3 x11))) ∧ (¬ a1 = 195 → (a1 = 203 → wpX4_pop σ (fun (x14 : Int) (σ15 : ZS) => wpX4_pop (zsI σ15 18 3 x14) (fun (x16 : Int) (σ17 : ZS) => Q 3 (zsA σ17 18 2 1 x16)))) ∧ (¬ a1 = 203 → (a1 = 205 → wpX4_fetch σ (fun (x19 : Int) (σ20 : ZS) => wpX4_tellInt x19 σ20 (fun (σ22 : ZS) => Q 3 σ22))) ∧ (¬ a1 = 205 → (a1 = 226 → wpX4_fetchSigned σ (fun (x24 : Int) (σ25 : ZS) => wpX4_loop x24 σ25 (fun (x26 : Int) (σ27 : ZS) => Q x26 σ27))) ∧ (¬ a1 = 226 → (a1 = 232 → wpX4_fetchWord σ (fun (x29 : Int) (σ30 : ZS) => wpX4_push (zI σ30 18 3) σ30 (fun (σ32 : ZS) => wpX4_jump x29 σ32 (fun (σ34 : ZS) => Q 3 σ34)))) ∧ (¬ a1 = 232 → (a1 = 233 → wpX4_fetchWord σ (fun (x36 : Int) (σ37 : ZS) => wpX4_jump x36 σ37 (fun (σ39 : ZS) => Q 3 σ39))) ∧ (¬ a1 = 233 → (a1 = 235 → wpX4_fetchSigned σ (fun (x41 : Int) (σ42 : ZS) => wpX4_jump x41 σ42 (fun (σ44 : ZS) => Q 3 σ44))) ∧ (¬ a1 = 235 → (a1 = 244 → Q 0 σ) ∧ (¬ a1 = 244 → Q 2 σ)))))))))
set_option maxHeartbeats 4000000 in
set_option maxRecDepth 100000 in
theorem kX4_executeFlow (l : Launch) (D : va_G) (dA : Nat → ClassId) (ad : Int → Nat → Nat) (a1 : Int) (σ : ZS) (Q : Int → ZS → Prop) (sz : Nat) (hw : wpX4_executeFlow a1 σ Q) : Met l yX4_executeFlow (gws yX4_executeFlow cX4_executeFlow 3 (some .int)) (gR 4 0 0) (gPre D dA [.ref (ad 18 1000), .int (Int32.ofInt a1)] (zC dA ad σ) sz) (va_Qi (zQi Q) (gAt D dA (va_A (zC dA ad σ) sz) (zC dA ad)) (va_A (zC dA ad σ) sz)) 0 0 (va_A (zC dA ad σ) sz) := by
  refine Met.ofW (cc := cX4_executeFlow) (maxL := 3) (ret := (some .int)) (by decide) rfl ?_
  intro p e s m args below meth c s₁ B hml hv
  obtain ⟨rfl, hsz, hP, hK, hD0⟩ := hv
  have hx := B.exec
  have hb := B.bytes
  have hr := B.returns
  have hts := atoms_spec (ws := gws yX4_executeFlow cX4_executeFlow 3 (some .int)) B.pre
  have hg : ∀ w ∈ gw, w.before _ s = true := fun w h => hts w (List.mem_cons_of_mem _ h)
  have hown : s.vm.findClass RX4 = some m.cls := findClass_of_methodNamed B.named
  have hlocks := B.notSynchronized
  subst hsz
  have hD := hD0.self (sz := s.heap.size)
  generalize hAe : va_A (zC dA ad σ) s.heap.size = A at hD ⊢
  have hA : ∀ q : Nat, s.heap.size ≤ q → A q := fun q h => by rw [← hAe]; exact Or.inr h
  have hS : va_S A s.heap s.heap [] := va_S.rf
  have hl := lv_entry ([.ref (ad 18 1000), .int (Int32.ofInt a1)]) (n := 3) (Nat.le_of_ble_eq_true rfl)
  rw [lg_entry_eq]
  generalize (lg_sl ([.ref (ad 18 1000), .int (Int32.ofInt a1)]) ++ List.replicate (3 - (lg_sl ([.ref (ad 18 1000), .int (Int32.ofInt a1)])).length) Slot.unset).toArray = ls at hl ⊢
  have hl : lv_has ls 3 [(0, .ref (ad 18 1000)), (1, .int (Int32.ofInt a1))] := hl
  have hret : ∀ (v : Int) (σ : ZS) (H : Heap) (locs : List Loc) (ls : Array Slot) (pc : Nat), Q v σ → va_P D vwC (zC dA ad σ) H → va_D A (zC dA ad σ) → va_S A s.heap H locs → decode cX4_executeFlow pc = .ok (.ireturn, 1) → W p l e (gR 4 0 0) s m #[.ref (ad 18 1000), .int (Int32.ofInt a1)] below meth c H locs 0 0 (MQ below (va_Qi (zQi Q) (gAt D dA A (zC dA ad)) A) #[.ref (ad 18 1000), .int (Int32.ofInt a1)] s 0 0 A) (F0 m pc ls [.int (Int32.ofInt v)]) := fun v σ H locs ls pc hw hP hD hS hd => g_iret hx hb hr rfl hlocks hK σ hP hD hS ⟨v, rfl, hw⟩ (Nat.le_of_ble_eq_true rfl) (Nat.le_of_ble_eq_true rfl) hd
  generalize MQ below (va_Qi (zQi Q) (gAt D dA A (zC dA ad)) A) #[.ref (ad 18 1000), .int (Int32.ofInt a1)] s 0 0 A = QQ at hret ⊢
  unfold wpX4_executeFlow at hw
  refine lv_iload_n hx hb dX4_executeFlow_0 rfl (lv_at hl 1 rfl) ?_
  obtain ⟨o1, hw⟩ := hw
  have t2 := z_ti o1
  by_cases s3 : a1 = 154
  · replace hw := hw.1 s3
    refine lv_lookup (off := 132) (tgt := 133) hx hb dX4_executeFlow_1 (by decide) (by rw [t2, s3]; rfl) (by decide) ?_
    refine lv_aload_n hx hb dX4_executeFlow_133 rfl (lv_at hl 0 rfl) ?_
    refine lv_aload_n hx hb dX4_executeFlow_134 rfl (lv_at hl 0 rfl) ?_
    refine z_Vi (n := 0) (As := []) (rest := [.ref (ad 18 1000)]) hx hb hml hg hown hK hP hD hS hA (kX4_fetchWord l D dA ad σ _ _ hw) (zoC18) rfl q1431 q159 q1428 q1430 q59 (by decide +kernel) ⟨(Nat.le_of_ble_eq_true rfl), (Nat.le_of_ble_eq_true rfl)⟩ rfl hl.1 rfl (Nat.le_of_ble_eq_true rfl) dX4_executeFlow_135 ⟨(Nat.le_of_ble_eq_true rfl), (Nat.le_of_ble_eq_true rfl)⟩ (fun x4 σ5 H locs hw hP hD hS => ?_)
    refine lv_aload_n hx hb dX4_executeFlow_138 rfl (lv_at hl 0 rfl) ?_
    refine z_Vi (n := 0) (As := []) (rest := [.int (Int32.ofInt x4), .ref (ad 18 1000)]) hx hb hml hg hown hK hP hD hS hA (kX4_fetchWord l D dA ad σ5 _ _ hw) (zoC18) rfl q1431 q159 q1428 q1430 q59 (by decide +kernel) ⟨(Nat.le_of_ble_eq_true rfl), (Nat.le_of_ble_eq_true rfl)⟩ rfl hl.1 rfl (Nat.le_of_ble_eq_true rfl) dX4_executeFlow_139 ⟨(Nat.le_of_ble_eq_true rfl), (Nat.le_of_ble_eq_true rfl)⟩ (fun x6 σ7 H locs hw hP hD hS => ?_)
    refine z_Vi (n := 2) (As := [.int (Int32.ofInt x4), .int (Int32.ofInt x6)]) (rest := []) hx hb hml hg hown hK hP hD hS hA (kX4_callFar l D dA ad x4 x6 σ7 _ _ hw) (zoC18) rfl q1497 q159 q1494 q1496 q75 (by decide +kernel) ⟨(Nat.le_of_ble_eq_true rfl), (Nat.le_of_ble_eq_true rfl)⟩ rfl hl.1 rfl (Nat.le_of_ble_eq_true rfl) dX4_executeFlow_142 ⟨(Nat.le_of_ble_eq_true rfl), (Nat.le_of_ble_eq_true rfl)⟩ (fun x8 σ9 H locs hw hP hD hS => ?_)
    exact hret x8 σ9 _ _ _ _ hw hP hD hS dX4_executeFlow_145
  replace hw := hw.2 s3
  by_cases s10 : a1 = 195
  · replace hw := hw.1 s10
    refine lv_lookup (off := 145) (tgt := 146) hx hb dX4_executeFlow_1 (by decide) (by rw [t2, s10]; rfl) (by decide) ?_
    refine lv_aload_n hx hb dX4_executeFlow_146 rfl (lv_at hl 0 rfl) ?_
    refine lv_aload_n hx hb dX4_executeFlow_147 rfl (lv_at hl 0 rfl) ?_
    refine z_Vi (n := 0) (As := []) (rest := [.ref (ad 18 1000)]) hx hb hml hg hown hK hP hD hS hA (kX4_pop l D dA ad σ _ _ hw) (zoC18) rfl q1416 q159 q1413 q1415 q56 (by decide +kernel) ⟨(Nat.le_of_ble_eq_true rfl), (Nat.le_of_ble_eq_true rfl)⟩ rfl hl.1 rfl (Nat.le_of_ble_eq_true rfl) dX4_executeFlow_148 ⟨(Nat.le_of_ble_eq_true rfl), (Nat.le_of_ble_eq_true rfl)⟩ (fun x11 σ12 H locs hw hP hD hS => ?_)
    refine zpC18_3 (v := x11) hx hb hg hown hK hP hD hS q558 dX4_executeFlow_151 (fun H locs hP hD hS => ?_)
    refine lv_iconst (v := Int32.ofInt 3) hx hb dX4_executeFlow_154 (by decide) ?_
    exact hret 3 (zsI σ12 18 3 x11) _ _ _ _ hw hP hD hS dX4_executeFlow_155
  replace hw := hw.2 s10
  by_cases s13 : a1 = 203
  · replace hw := hw.1 s13
    refine lv_lookup (off := 155) (tgt := 156) hx hb dX4_executeFlow_1 (by decide) (by rw [t2, s13]; rfl) (by decide) ?_
    refine lv_aload_n hx hb dX4_executeFlow_156 rfl (lv_at hl 0 rfl) ?_
    refine lv_aload_n hx hb dX4_executeFlow_157 rfl (lv_at hl 0 rfl) ?_
    refine z_Vi (n := 0) (As := []) (rest := [.ref (ad 18 1000)]) hx hb hml hg hown hK hP hD hS hA (kX4_pop l D dA ad σ _ _ hw) (zoC18) rfl q1416 q159 q1413 q1415 q56 (by decide +kernel) ⟨(Nat.le_of_ble_eq_true rfl), (Nat.le_of_ble_eq_true rfl)⟩ rfl hl.1 rfl (Nat.le_of_ble_eq_true rfl) dX4_executeFlow_158 ⟨(Nat.le_of_ble_eq_true rfl), (Nat.le_of_ble_eq_true rfl)⟩ (fun x14 σ15 H locs hw hP hD hS => ?_)
    refine zpC18_3 (v := x14) hx hb hg hown hK hP hD hS q558 dX4_executeFlow_161 (fun H locs hP hD hS => ?_)
    refine lv_aload_n hx hb dX4_executeFlow_164 rfl (lv_at hl 0 rfl) ?_
    refine zgC18_2 hx hb hg hown hK hP q556 dX4_executeFlow_165 ?_
    refine lv_iconst (v := Int32.ofInt 1) hx hb dX4_executeFlow_168 (by decide) ?_
    refine lv_aload_n hx hb dX4_executeFlow_169 rfl (lv_at hl 0 rfl) ?_
    refine z_Vi (n := 0) (As := []) (rest := [.int (Int32.ofInt 1), .ref (ad 18 2)]) hx hb hml hg hown hK hP hD hS hA (kX4_pop l D dA ad (zsI σ15 18 3 x14) _ _ hw) (zoC18) rfl q1416 q159 q1413 q1415 q56 (by decide +kernel) ⟨(Nat.le_of_ble_eq_true rfl), (Nat.le_of_ble_eq_true rfl)⟩ rfl hl.1 rfl (Nat.le_of_ble_eq_true rfl) dX4_executeFlow_170 ⟨(Nat.le_of_ble_eq_true rfl), (Nat.le_of_ble_eq_true rfl)⟩ (fun x16 σ17 H locs hw hP hD hS => ?_)
    refine zsC18_2 (v := x16) hx hb (by decide) hK hP hD hS dX4_executeFlow_173 (fun H locs hP hD hS => ?_)
    refine lv_iconst (v := Int32.ofInt 3) hx hb dX4_executeFlow_174 (by decide) ?_
    exact hret 3 (zsA σ17 18 2 1 x16) _ _ _ _ hw hP hD hS dX4_executeFlow_175
  replace hw := hw.2 s13
  by_cases s18 : a1 = 205
  · replace hw := hw.1 s18
    refine lv_lookup (off := 175) (tgt := 176) hx hb dX4_executeFlow_1 (by decide) (by rw [t2, s18]; rfl) (by decide) ?_
    refine lv_aload_n hx hb dX4_executeFlow_176 rfl (lv_at hl 0 rfl) ?_
    refine lv_aload_n hx hb dX4_executeFlow_177 rfl (lv_at hl 0 rfl) ?_
    refine z_Vi (n := 0) (As := []) (rest := [.ref (ad 18 1000)]) hx hb hml hg hown hK hP hD hS hA (kX4_fetch l D dA ad σ _ _ hw) (zoC18) rfl q1399 q159 q1396 q1398 q52 (by decide +kernel) ⟨(Nat.le_of_ble_eq_true rfl), (Nat.le_of_ble_eq_true rfl)⟩ rfl hl.1 rfl (Nat.le_of_ble_eq_true rfl) dX4_executeFlow_178 ⟨(Nat.le_of_ble_eq_true rfl), (Nat.le_of_ble_eq_true rfl)⟩ (fun x19 σ20 H locs hw hP hD hS => ?_)
    refine z_Vv (n := 1) (As := [.int (Int32.ofInt x19)]) (rest := []) hx hb hml hg hown hK hP hD hS hA (kX4_tellInt l D dA ad x19 σ20 _ _ hw) (zoC18) rfl q1501 q159 q1498 q1500 q76 (by decide +kernel) ⟨(Nat.le_of_ble_eq_true rfl), (Nat.le_of_ble_eq_true rfl)⟩ rfl hl.1 rfl (Nat.le_of_ble_eq_true rfl) dX4_executeFlow_181 ⟨(Nat.le_of_ble_eq_true rfl), (Nat.le_of_ble_eq_true rfl)⟩ (fun σ22 H locs hw hP hD hS => ?_)
    refine lv_iconst (v := Int32.ofInt 3) hx hb dX4_executeFlow_184 (by decide) ?_
    exact hret 3 σ22 _ _ _ _ hw hP hD hS dX4_executeFlow_185
  replace hw := hw.2 s18
  by_cases s23 : a1 = 226
  · replace hw := hw.1 s23
    refine lv_lookup (off := 103) (tgt := 104) hx hb dX4_executeFlow_1 (by decide) (by rw [t2, s23]; rfl) (by decide) ?_
    refine lv_aload_n hx hb dX4_executeFlow_104 rfl (lv_at hl 0 rfl) ?_
    refine lv_aload_n hx hb dX4_executeFlow_105 rfl (lv_at hl 0 rfl) ?_
    refine z_Vi (n := 0) (As := []) (rest := [.ref (ad 18 1000)]) hx hb hml hg hown hK hP hD hS hA (kX4_fetchSigned l D dA ad σ _ _ hw) (zoC18) rfl q1435 q159 q1432 q1434 q60 (by decide +kernel) ⟨(Nat.le_of_ble_eq_true rfl), (Nat.le_of_ble_eq_true rfl)⟩ rfl hl.1 rfl (Nat.le_of_ble_eq_true rfl) dX4_executeFlow_106 ⟨(Nat.le_of_ble_eq_true rfl), (Nat.le_of_ble_eq_true rfl)⟩ (fun x24 σ25 H locs hw hP hD hS => ?_)
    refine z_Vi (n := 1) (As := [.int (Int32.ofInt x24)]) (rest := []) hx hb hml hg hown hK hP hD hS hA (kX4_loop l D dA ad x24 σ25 _ _ hw) (zoC18) rfl q1493 q159 q1490 q1492 q74 (by decide +kernel) ⟨(Nat.le_of_ble_eq_true rfl), (Nat.le_of_ble_eq_true rfl)⟩ rfl hl.1 rfl (Nat.le_of_ble_eq_true rfl) dX4_executeFlow_109 ⟨(Nat.le_of_ble_eq_true rfl), (Nat.le_of_ble_eq_true rfl)⟩ (fun x26 σ27 H locs hw hP hD hS => ?_)
    exact hret x26 σ27 _ _ _ _ hw hP hD hS dX4_executeFlow_112
  replace hw := hw.2 s23
  by_cases s28 : a1 = 232
  · replace hw := hw.1 s28
    refine lv_lookup (off := 112) (tgt := 113) hx hb dX4_executeFlow_1 (by decide) (by rw [t2, s28]; rfl) (by decide) ?_
    refine lv_aload_n hx hb dX4_executeFlow_113 rfl (lv_at hl 0 rfl) ?_
    refine z_Vi (n := 0) (As := []) (rest := []) hx hb hml hg hown hK hP hD hS hA (kX4_fetchWord l D dA ad σ _ _ hw) (zoC18) rfl q1431 q159 q1428 q1430 q59 (by decide +kernel) ⟨(Nat.le_of_ble_eq_true rfl), (Nat.le_of_ble_eq_true rfl)⟩ rfl hl.1 rfl (Nat.le_of_ble_eq_true rfl) dX4_executeFlow_114 ⟨(Nat.le_of_ble_eq_true rfl), (Nat.le_of_ble_eq_true rfl)⟩ (fun x29 σ30 H locs hw hP hD hS => ?_)
    refine lv_istore_n (lv' := [(2, .int (Int32.ofInt x29)), (0, .ref (ad 18 1000)), (1, .int (Int32.ofInt a1))]) hx hb dX4_executeFlow_117 rfl hl (by decide) rfl (fun ls hl => ?_)
    refine lv_aload_n hx hb dX4_executeFlow_118 rfl (lv_at hl 1 rfl) ?_
    refine lv_aload_n hx hb dX4_executeFlow_119 rfl (lv_at hl 1 rfl) ?_
    refine zgC18_3 hx hb hg hown hK hP q558 dX4_executeFlow_120 ?_
    refine z_Vv (n := 1) (As := [.int (Int32.ofInt (zI σ30 18 3))]) (rest := []) hx hb hml hg hown hK hP hD hS hA (kX4_push l D dA ad (zI σ30 18 3) σ30 _ _ hw) (zoC18) rfl q1412 q159 q1409 q1411 q55 (by decide +kernel) ⟨(Nat.le_of_ble_eq_true rfl), (Nat.le_of_ble_eq_true rfl)⟩ rfl hl.1 rfl (Nat.le_of_ble_eq_true rfl) dX4_executeFlow_123 ⟨(Nat.le_of_ble_eq_true rfl), (Nat.le_of_ble_eq_true rfl)⟩ (fun σ32 H locs hw hP hD hS => ?_)
    refine lv_aload_n hx hb dX4_executeFlow_126 rfl (lv_at hl 1 rfl) ?_
    refine lv_iload_n hx hb dX4_executeFlow_127 rfl (lv_at hl 0 rfl) ?_
    refine z_Vv (n := 1) (As := [.int (Int32.ofInt x29)]) (rest := []) hx hb hml hg hown hK hP hD hS hA (kX4_jump l D dA ad x29 σ32 _ _ hw) (zoC18) rfl q1467 q159 q1464 q1466 q68 (by decide +kernel) ⟨(Nat.le_of_ble_eq_true rfl), (Nat.le_of_ble_eq_true rfl)⟩ rfl hl.1 rfl (Nat.le_of_ble_eq_true rfl) dX4_executeFlow_128 ⟨(Nat.le_of_ble_eq_true rfl), (Nat.le_of_ble_eq_true rfl)⟩ (fun σ34 H locs hw hP hD hS => ?_)
    refine lv_iconst (v := Int32.ofInt 3) hx hb dX4_executeFlow_131 (by decide) ?_
    exact hret 3 σ34 _ _ _ _ hw hP hD hS dX4_executeFlow_132
  replace hw := hw.2 s28
  by_cases s35 : a1 = 233
  · replace hw := hw.1 s35
    refine lv_lookup (off := 93) (tgt := 94) hx hb dX4_executeFlow_1 (by decide) (by rw [t2, s35]; rfl) (by decide) ?_
    refine lv_aload_n hx hb dX4_executeFlow_94 rfl (lv_at hl 0 rfl) ?_
    refine lv_aload_n hx hb dX4_executeFlow_95 rfl (lv_at hl 0 rfl) ?_
    refine z_Vi (n := 0) (As := []) (rest := [.ref (ad 18 1000)]) hx hb hml hg hown hK hP hD hS hA (kX4_fetchWord l D dA ad σ _ _ hw) (zoC18) rfl q1431 q159 q1428 q1430 q59 (by decide +kernel) ⟨(Nat.le_of_ble_eq_true rfl), (Nat.le_of_ble_eq_true rfl)⟩ rfl hl.1 rfl (Nat.le_of_ble_eq_true rfl) dX4_executeFlow_96 ⟨(Nat.le_of_ble_eq_true rfl), (Nat.le_of_ble_eq_true rfl)⟩ (fun x36 σ37 H locs hw hP hD hS => ?_)
    refine z_Vv (n := 1) (As := [.int (Int32.ofInt x36)]) (rest := []) hx hb hml hg hown hK hP hD hS hA (kX4_jump l D dA ad x36 σ37 _ _ hw) (zoC18) rfl q1467 q159 q1464 q1466 q68 (by decide +kernel) ⟨(Nat.le_of_ble_eq_true rfl), (Nat.le_of_ble_eq_true rfl)⟩ rfl hl.1 rfl (Nat.le_of_ble_eq_true rfl) dX4_executeFlow_99 ⟨(Nat.le_of_ble_eq_true rfl), (Nat.le_of_ble_eq_true rfl)⟩ (fun σ39 H locs hw hP hD hS => ?_)
    refine lv_iconst (v := Int32.ofInt 3) hx hb dX4_executeFlow_102 (by decide) ?_
    exact hret 3 σ39 _ _ _ _ hw hP hD hS dX4_executeFlow_103
  replace hw := hw.2 s35
  by_cases s40 : a1 = 235
  · replace hw := hw.1 s40
    refine lv_lookup (off := 83) (tgt := 84) hx hb dX4_executeFlow_1 (by decide) (by rw [t2, s40]; rfl) (by decide) ?_
    refine lv_aload_n hx hb dX4_executeFlow_84 rfl (lv_at hl 0 rfl) ?_
    refine lv_aload_n hx hb dX4_executeFlow_85 rfl (lv_at hl 0 rfl) ?_
    refine z_Vi (n := 0) (As := []) (rest := [.ref (ad 18 1000)]) hx hb hml hg hown hK hP hD hS hA (kX4_fetchSigned l D dA ad σ _ _ hw) (zoC18) rfl q1435 q159 q1432 q1434 q60 (by decide +kernel) ⟨(Nat.le_of_ble_eq_true rfl), (Nat.le_of_ble_eq_true rfl)⟩ rfl hl.1 rfl (Nat.le_of_ble_eq_true rfl) dX4_executeFlow_86 ⟨(Nat.le_of_ble_eq_true rfl), (Nat.le_of_ble_eq_true rfl)⟩ (fun x41 σ42 H locs hw hP hD hS => ?_)
    refine z_Vv (n := 1) (As := [.int (Int32.ofInt x41)]) (rest := []) hx hb hml hg hown hK hP hD hS hA (kX4_jump l D dA ad x41 σ42 _ _ hw) (zoC18) rfl q1467 q159 q1464 q1466 q68 (by decide +kernel) ⟨(Nat.le_of_ble_eq_true rfl), (Nat.le_of_ble_eq_true rfl)⟩ rfl hl.1 rfl (Nat.le_of_ble_eq_true rfl) dX4_executeFlow_89 ⟨(Nat.le_of_ble_eq_true rfl), (Nat.le_of_ble_eq_true rfl)⟩ (fun σ44 H locs hw hP hD hS => ?_)
    refine lv_iconst (v := Int32.ofInt 3) hx hb dX4_executeFlow_92 (by decide) ?_
    exact hret 3 σ44 _ _ _ _ hw hP hD hS dX4_executeFlow_93
  replace hw := hw.2 s40
  by_cases s45 : a1 = 244
  · replace hw := hw.1 s45
    refine lv_lookup (off := 185) (tgt := 186) hx hb dX4_executeFlow_1 (by decide) (by rw [t2, s45]; rfl) (by decide) ?_
    refine lv_iconst (v := Int32.ofInt 0) hx hb dX4_executeFlow_186 (by decide) ?_
    exact hret 0 σ _ _ _ _ hw hP hD hS dX4_executeFlow_187
  replace hw := hw.2 s45
  refine lv_lookup (off := 187) (tgt := 188) hx hb dX4_executeFlow_1 (by decide) (by rw [t2]; exact (z_osw s3).trans ((z_osw s10).trans ((z_osw s13).trans ((z_osw s18).trans ((z_osw s23).trans ((z_osw s28).trans ((z_osw s35).trans ((z_osw s40).trans ((z_osw s45).trans (rfl)))))))))) (by decide) ?_
  refine lv_iconst (v := Int32.ofInt 2) hx hb dX4_executeFlow_188 (by decide) ?_
  exact hret 2 σ _ _ _ _ hw hP hD hS dX4_executeFlow_189
def wpX4_execute_160 (v1 : Int) (σ : ZS) (Q : Int → ZS → Prop) : Prop := wpX4_fetchM σ (fun (σ2 : ZS) => wpX4_executeM v1 σ2 (fun (x3 : Int) (σ4 : ZS) => Q x3 σ4))
def wpX4_execute_84 (v1 : Int) (σ : ZS) (Q : Int → ZS → Prop) : Prop := (-2147483648 ≤ v1 ∧ v1 ≤ 2147483647) ∧ (v1 = 129 → wpX4_execute_160 v1 σ Q) ∧ (¬ v1 = 129 → (v1 = 137 → wpX4_execute_160 v1 σ Q) ∧ (¬ v1 = 137 → (v1 = 139 → wpX4_execute_160 v1 σ Q) ∧ (¬ v1 = 139 → (v1 = 140 → wpX4_execute_160 v1 σ Q) ∧ (¬ v1 = 140 → (v1 = 142 → wpX4_execute_160 v1 σ Q) ∧ (¬ v1 = 142 → (v1 = 199 → wpX4_execute_160 v1 σ Q) ∧ (¬ v1 = 199 → (v1 = 209 → wpX4_execute_160 v1 σ Q) ∧ (¬ v1 = 209 → (v1 = 247 → wpX4_execute_160 v1 σ Q) ∧ (¬ v1 = 247 → wpX4_executeFlow v1 σ (fun (x15 : Int) (σ16 : ZS) => Q x15 σ16)))))))))
def wpX4_execute_54 (v1 : Int) (σ : ZS) (Q : Int → ZS → Prop) : Prop := (-2147483648 ≤ v1 ∧ v1 ≤ 2147483647) ∧ (v1 < 184 → wpX4_execute_84 v1 σ Q) ∧ (¬ v1 < 184 → (191 < v1 → wpX4_execute_84 v1 σ Q) ∧ (¬ 191 < v1 → wpX4_fetchWord σ (fun (x20 : Int) (σ21 : ZS) => (0 ≤ (v1 - 184) ∧ (v1 - 184) < 8) ∧ Q 3 (zsA σ21 18 1 (v1 - 184) x20))))
def wpX4_execute (a1 : Int) (σ : ZS) (Q : Int → ZS → Prop) : Prop := (-2147483648 ≤ a1 ∧ a1 ≤ 2147483647) ∧ (64 ≤ a1 → (96 ≤ a1 → (a1 < 114 → wpX4_execute_54 a1 σ Q) ∧ (¬ a1 < 114 → (121 < a1 → wpX4_execute_54 a1 σ Q) ∧ (¬ 121 < a1 → wpX4_branch a1 σ (fun (x28 : Int) (σ29 : ZS) => Q x28 σ29)))) ∧ (¬ 96 ≤ a1 → wpX4_executeRegister (a1 / 8) (a1 % 8) σ (fun (x30 : Int) (σ31 : ZS) => Q x30 σ31))) ∧ (¬ 64 ≤ a1 → wpX4_executeLow (a1 / 8) (a1 % 8) σ (fun (x32 : Int) (σ33 : ZS) => Q x32 σ33))
set_option maxHeartbeats 4000000 in
set_option maxRecDepth 100000 in
theorem kX4_execute (l : Launch) (D : va_G) (dA : Nat → ClassId) (ad : Int → Nat → Nat) (a1 : Int) (σ : ZS) (Q : Int → ZS → Prop) (sz : Nat) (hw : wpX4_execute a1 σ Q) : Met l yX4_execute (gws yX4_execute cX4_execute 2 (some .int)) (gR 5 0 0) (gPre D dA [.ref (ad 18 1000), .int (Int32.ofInt a1)] (zC dA ad σ) sz) (va_Qi (zQi Q) (gAt D dA (va_A (zC dA ad σ) sz) (zC dA ad)) (va_A (zC dA ad σ) sz)) 0 0 (va_A (zC dA ad σ) sz) := by
  refine Met.ofW (cc := cX4_execute) (maxL := 2) (ret := (some .int)) (by decide) rfl ?_
  intro p e s m args below meth c s₁ B hml hv
  obtain ⟨rfl, hsz, hP, hK, hD0⟩ := hv
  have hx := B.exec
  have hb := B.bytes
  have hr := B.returns
  have hts := atoms_spec (ws := gws yX4_execute cX4_execute 2 (some .int)) B.pre
  have hg : ∀ w ∈ gw, w.before _ s = true := fun w h => hts w (List.mem_cons_of_mem _ h)
  have hown : s.vm.findClass RX4 = some m.cls := findClass_of_methodNamed B.named
  have hlocks := B.notSynchronized
  subst hsz
  have hD := hD0.self (sz := s.heap.size)
  generalize hAe : va_A (zC dA ad σ) s.heap.size = A at hD ⊢
  have hA : ∀ q : Nat, s.heap.size ≤ q → A q := fun q h => by rw [← hAe]; exact Or.inr h
  have hS : va_S A s.heap s.heap [] := va_S.rf
  have hl := lv_entry ([.ref (ad 18 1000), .int (Int32.ofInt a1)]) (n := 2) (Nat.le_of_ble_eq_true rfl)
  rw [lg_entry_eq]
  generalize (lg_sl ([.ref (ad 18 1000), .int (Int32.ofInt a1)]) ++ List.replicate (2 - (lg_sl ([.ref (ad 18 1000), .int (Int32.ofInt a1)])).length) Slot.unset).toArray = ls at hl ⊢
  have hl : lv_has ls 2 [(0, .ref (ad 18 1000)), (1, .int (Int32.ofInt a1))] := hl
  have hret : ∀ (v : Int) (σ : ZS) (H : Heap) (locs : List Loc) (ls : Array Slot) (pc : Nat), Q v σ → va_P D vwC (zC dA ad σ) H → va_D A (zC dA ad σ) → va_S A s.heap H locs → decode cX4_execute pc = .ok (.ireturn, 1) → W p l e (gR 5 0 0) s m #[.ref (ad 18 1000), .int (Int32.ofInt a1)] below meth c H locs 0 0 (MQ below (va_Qi (zQi Q) (gAt D dA A (zC dA ad)) A) #[.ref (ad 18 1000), .int (Int32.ofInt a1)] s 0 0 A) (F0 m pc ls [.int (Int32.ofInt v)]) := fun v σ H locs ls pc hw hP hD hS hd => g_iret hx hb hr rfl hlocks hK σ hP hD hS ⟨v, rfl, hw⟩ (Nat.le_of_ble_eq_true rfl) (Nat.le_of_ble_eq_true rfl) hd
  generalize MQ below (va_Qi (zQi Q) (gAt D dA A (zC dA ad)) A) #[.ref (ad 18 1000), .int (Int32.ofInt a1)] s 0 0 A = QQ at hret ⊢
  have j160 : ∀ (v1 : Int) (σ : ZS), ∀ (H : Heap) (locs : List Loc) (ls : Array Slot), va_P D vwC (zC dA ad σ) H → va_D A (zC dA ad σ) → va_S A s.heap H locs → lv_has ls 2 [(0, .ref (ad 18 1000)), (1, .int (Int32.ofInt v1))] → wpX4_execute_160 v1 σ Q → W p l e (gR 5 0 0) s m #[.ref (ad 18 1000), .int (Int32.ofInt a1)] below meth c H locs 0 0 QQ (F0 m 160 ls []) := by
    intro v1 σ H locs ls hP hD hS hl hw
    unfold wpX4_execute_160 at hw
    refine lv_aload_n hx hb dX4_execute_160 rfl (lv_at hl 0 rfl) ?_
    refine z_Vv (n := 0) (As := []) (rest := []) hx hb hml hg hown hK hP hD hS hA (kX4_fetchM l D dA ad σ _ _ hw) (zoC18) rfl q1423 q159 q1420 q1422 q57 (by decide +kernel) ⟨(Nat.le_of_ble_eq_true rfl), (Nat.le_of_ble_eq_true rfl)⟩ rfl hl.1 rfl (Nat.le_of_ble_eq_true rfl) dX4_execute_161 ⟨(Nat.le_of_ble_eq_true rfl), (Nat.le_of_ble_eq_true rfl)⟩ (fun σ2 H locs hw hP hD hS => ?_)
    refine lv_aload_n hx hb dX4_execute_164 rfl (lv_at hl 0 rfl) ?_
    refine lv_iload_n hx hb dX4_execute_165 rfl (lv_at hl 1 rfl) ?_
    refine z_Vi (n := 1) (As := [.int (Int32.ofInt v1)]) (rest := []) hx hb hml hg hown hK hP hD hS hA (kX4_executeM l D dA ad v1 σ2 _ _ hw) (zoC18) rfl q1471 q159 q1468 q1470 q69 (by decide +kernel) ⟨(Nat.le_of_ble_eq_true rfl), (Nat.le_of_ble_eq_true rfl)⟩ rfl hl.1 rfl (Nat.le_of_ble_eq_true rfl) dX4_execute_166 ⟨(Nat.le_of_ble_eq_true rfl), (Nat.le_of_ble_eq_true rfl)⟩ (fun x3 σ4 H locs hw hP hD hS => ?_)
    exact hret x3 σ4 _ _ _ _ hw hP hD hS dX4_execute_169
  have j84 : ∀ (v1 : Int) (σ : ZS), ∀ (H : Heap) (locs : List Loc) (ls : Array Slot), va_P D vwC (zC dA ad σ) H → va_D A (zC dA ad σ) → va_S A s.heap H locs → lv_has ls 2 [(0, .ref (ad 18 1000)), (1, .int (Int32.ofInt v1))] → wpX4_execute_84 v1 σ Q → W p l e (gR 5 0 0) s m #[.ref (ad 18 1000), .int (Int32.ofInt a1)] below meth c H locs 0 0 QQ (F0 m 84 ls []) := by
    intro v1 σ H locs ls hP hD hS hl hw
    unfold wpX4_execute_84 at hw
    refine lv_iload_n hx hb dX4_execute_84 rfl (lv_at hl 1 rfl) ?_
    obtain ⟨o5, hw⟩ := hw
    have t6 := z_ti o5
    by_cases s7 : v1 = 129
    · replace hw := hw.1 s7
      refine lv_lookup (off := 75) (tgt := 160) hx hb dX4_execute_85 (by decide) (by rw [t6, s7]; rfl) (by decide) ?_
      exact j160 v1 σ _ _ _ hP hD hS (lv_sub hl [0, 1] rfl) hw
    replace hw := hw.2 s7
    by_cases s8 : v1 = 137
    · replace hw := hw.1 s8
      refine lv_lookup (off := 75) (tgt := 160) hx hb dX4_execute_85 (by decide) (by rw [t6, s8]; rfl) (by decide) ?_
      exact j160 v1 σ _ _ _ hP hD hS (lv_sub hl [0, 1] rfl) hw
    replace hw := hw.2 s8
    by_cases s9 : v1 = 139
    · replace hw := hw.1 s9
      refine lv_lookup (off := 75) (tgt := 160) hx hb dX4_execute_85 (by decide) (by rw [t6, s9]; rfl) (by decide) ?_
      exact j160 v1 σ _ _ _ hP hD hS (lv_sub hl [0, 1] rfl) hw
    replace hw := hw.2 s9
    by_cases s10 : v1 = 140
    · replace hw := hw.1 s10
      refine lv_lookup (off := 75) (tgt := 160) hx hb dX4_execute_85 (by decide) (by rw [t6, s10]; rfl) (by decide) ?_
      exact j160 v1 σ _ _ _ hP hD hS (lv_sub hl [0, 1] rfl) hw
    replace hw := hw.2 s10
    by_cases s11 : v1 = 142
    · replace hw := hw.1 s11
      refine lv_lookup (off := 75) (tgt := 160) hx hb dX4_execute_85 (by decide) (by rw [t6, s11]; rfl) (by decide) ?_
      exact j160 v1 σ _ _ _ hP hD hS (lv_sub hl [0, 1] rfl) hw
    replace hw := hw.2 s11
    by_cases s12 : v1 = 199
    · replace hw := hw.1 s12
      refine lv_lookup (off := 75) (tgt := 160) hx hb dX4_execute_85 (by decide) (by rw [t6, s12]; rfl) (by decide) ?_
      exact j160 v1 σ _ _ _ hP hD hS (lv_sub hl [0, 1] rfl) hw
    replace hw := hw.2 s12
    by_cases s13 : v1 = 209
    · replace hw := hw.1 s13
      refine lv_lookup (off := 75) (tgt := 160) hx hb dX4_execute_85 (by decide) (by rw [t6, s13]; rfl) (by decide) ?_
      exact j160 v1 σ _ _ _ hP hD hS (lv_sub hl [0, 1] rfl) hw
    replace hw := hw.2 s13
    by_cases s14 : v1 = 247
    · replace hw := hw.1 s14
      refine lv_lookup (off := 75) (tgt := 160) hx hb dX4_execute_85 (by decide) (by rw [t6, s14]; rfl) (by decide) ?_
      exact j160 v1 σ _ _ _ hP hD hS (lv_sub hl [0, 1] rfl) hw
    replace hw := hw.2 s14
    refine lv_lookup (off := 85) (tgt := 170) hx hb dX4_execute_85 (by decide) (by rw [t6]; exact (z_osw s7).trans ((z_osw s8).trans ((z_osw s9).trans ((z_osw s10).trans ((z_osw s11).trans ((z_osw s12).trans ((z_osw s13).trans ((z_osw s14).trans (rfl))))))))) (by decide) ?_
    refine lv_aload_n hx hb dX4_execute_170 rfl (lv_at hl 0 rfl) ?_
    refine lv_iload_n hx hb dX4_execute_171 rfl (lv_at hl 1 rfl) ?_
    refine z_Vi (n := 1) (As := [.int (Int32.ofInt v1)]) (rest := []) hx hb hml hg hown hK hP hD hS hA (kX4_executeFlow l D dA ad v1 σ _ _ hw) (zoC18) rfl q1489 q159 q1486 q1488 q73 (by decide +kernel) ⟨(Nat.le_of_ble_eq_true rfl), (Nat.le_of_ble_eq_true rfl)⟩ rfl hl.1 rfl (Nat.le_of_ble_eq_true rfl) dX4_execute_172 ⟨(Nat.le_of_ble_eq_true rfl), (Nat.le_of_ble_eq_true rfl)⟩ (fun x15 σ16 H locs hw hP hD hS => ?_)
    exact hret x15 σ16 _ _ _ _ hw hP hD hS dX4_execute_175
  have j54 : ∀ (v1 : Int) (σ : ZS), ∀ (H : Heap) (locs : List Loc) (ls : Array Slot), va_P D vwC (zC dA ad σ) H → va_D A (zC dA ad σ) → va_S A s.heap H locs → lv_has ls 2 [(0, .ref (ad 18 1000)), (1, .int (Int32.ofInt v1))] → wpX4_execute_54 v1 σ Q → W p l e (gR 5 0 0) s m #[.ref (ad 18 1000), .int (Int32.ofInt a1)] below meth c H locs 0 0 QQ (F0 m 54 ls []) := by
    intro v1 σ H locs ls hP hD hS hl hw
    unfold wpX4_execute_54 at hw
    refine lv_iload_n hx hb dX4_execute_54 rfl (lv_at hl 1 rfl) ?_
    refine lv_sipush (v := Int32.ofInt 184) hx hb dX4_execute_55 (by decide) ?_
    obtain ⟨o17, hw⟩ := hw
    refine z_icmp_lt (tgt := 84) hx hb o17 (by decide) dX4_execute_58 (by decide) (fun k18 => ?_) (fun k18 => ?_)
    · replace hw := hw.1 k18
      exact j84 v1 σ _ _ _ hP hD hS (lv_sub hl [0, 1] rfl) hw
    · replace hw := hw.2 k18
      refine lv_iload_n hx hb dX4_execute_61 rfl (lv_at hl 1 rfl) ?_
      refine lv_sipush (v := Int32.ofInt 191) hx hb dX4_execute_62 (by decide) ?_
      refine z_icmp_gt (tgt := 84) hx hb o17 (by decide) dX4_execute_65 (by decide) (fun k19 => ?_) (fun k19 => ?_)
      · replace hw := hw.1 k19
        exact j84 v1 σ _ _ _ hP hD hS (lv_sub hl [0, 1] rfl) hw
      · replace hw := hw.2 k19
        refine lv_aload_n hx hb dX4_execute_68 rfl (lv_at hl 0 rfl) ?_
        refine zgC18_1 hx hb hg hown hK hP q554 dX4_execute_69 ?_
        refine lv_iload_n hx hb dX4_execute_72 rfl (lv_at hl 1 rfl) ?_
        refine lv_sipush (v := Int32.ofInt 184) hx hb dX4_execute_73 (by decide) ?_
        refine z_isub hx hb dX4_execute_76 ?_
        refine lv_aload_n hx hb dX4_execute_77 rfl (lv_at hl 0 rfl) ?_
        refine z_Vi (n := 0) (As := []) (rest := [.int (Int32.ofInt (v1 - 184)), .ref (ad 18 1)]) hx hb hml hg hown hK hP hD hS hA (kX4_fetchWord l D dA ad σ _ _ hw) (zoC18) rfl q1431 q159 q1428 q1430 q59 (by decide +kernel) ⟨(Nat.le_of_ble_eq_true rfl), (Nat.le_of_ble_eq_true rfl)⟩ rfl hl.1 rfl (Nat.le_of_ble_eq_true rfl) dX4_execute_78 ⟨(Nat.le_of_ble_eq_true rfl), (Nat.le_of_ble_eq_true rfl)⟩ (fun x20 σ21 H locs hw hP hD hS => ?_)
        obtain ⟨o22, hw⟩ := hw
        refine zsC18_1 (v := x20) hx hb o22 hK hP hD hS dX4_execute_81 (fun H locs hP hD hS => ?_)
        refine lv_iconst (v := Int32.ofInt 3) hx hb dX4_execute_82 (by decide) ?_
        exact hret 3 (zsA σ21 18 1 (v1 - 184) x20) _ _ _ _ hw hP hD hS dX4_execute_83
  unfold wpX4_execute at hw
  refine lv_iload_n hx hb dX4_execute_0 rfl (lv_at hl 1 rfl) ?_
  refine lv_bipush (v := Int32.ofInt 64) hx hb dX4_execute_1 (by decide) ?_
  obtain ⟨o23, hw⟩ := hw
  refine z_icmp_ge (tgt := 18) hx hb o23 (by decide) dX4_execute_3 (by decide) (fun k24 => ?_) (fun k24 => ?_)
  · replace hw := hw.1 k24
    refine lv_iload_n hx hb dX4_execute_18 rfl (lv_at hl 1 rfl) ?_
    refine lv_bipush (v := Int32.ofInt 96) hx hb dX4_execute_19 (by decide) ?_
    refine z_icmp_ge (tgt := 36) hx hb o23 (by decide) dX4_execute_21 (by decide) (fun k25 => ?_) (fun k25 => ?_)
    · replace hw := hw.1 k25
      refine lv_iload_n hx hb dX4_execute_36 rfl (lv_at hl 1 rfl) ?_
      refine lv_bipush (v := Int32.ofInt 114) hx hb dX4_execute_37 (by decide) ?_
      refine z_icmp_lt (tgt := 54) hx hb o23 (by decide) dX4_execute_39 (by decide) (fun k26 => ?_) (fun k26 => ?_)
      · replace hw := hw.1 k26
        exact j54 a1 σ _ _ _ hP hD hS (lv_sub hl [0, 1] rfl) hw
      · replace hw := hw.2 k26
        refine lv_iload_n hx hb dX4_execute_42 rfl (lv_at hl 1 rfl) ?_
        refine lv_bipush (v := Int32.ofInt 121) hx hb dX4_execute_43 (by decide) ?_
        refine z_icmp_gt (tgt := 54) hx hb o23 (by decide) dX4_execute_45 (by decide) (fun k27 => ?_) (fun k27 => ?_)
        · replace hw := hw.1 k27
          exact j54 a1 σ _ _ _ hP hD hS (lv_sub hl [0, 1] rfl) hw
        · replace hw := hw.2 k27
          refine lv_aload_n hx hb dX4_execute_48 rfl (lv_at hl 0 rfl) ?_
          refine lv_iload_n hx hb dX4_execute_49 rfl (lv_at hl 1 rfl) ?_
          refine z_Vi (n := 1) (As := [.int (Int32.ofInt a1)]) (rest := []) hx hb hml hg hown hK hP hD hS hA (kX4_branch l D dA ad a1 σ _ _ hw) (zoC18) rfl q1463 q159 q1460 q1462 q67 (by decide +kernel) ⟨(Nat.le_of_ble_eq_true rfl), (Nat.le_of_ble_eq_true rfl)⟩ rfl hl.1 rfl (Nat.le_of_ble_eq_true rfl) dX4_execute_50 ⟨(Nat.le_of_ble_eq_true rfl), (Nat.le_of_ble_eq_true rfl)⟩ (fun x28 σ29 H locs hw hP hD hS => ?_)
          exact hret x28 σ29 _ _ _ _ hw hP hD hS dX4_execute_53
    · replace hw := hw.2 k25
      refine lv_aload_n hx hb dX4_execute_24 rfl (lv_at hl 0 rfl) ?_
      refine lv_iload_n hx hb dX4_execute_25 rfl (lv_at hl 1 rfl) ?_
      refine lv_iconst (v := Int32.ofInt 3) hx hb dX4_execute_26 (by decide) ?_
      refine z_ishrK (M := 8) hx hb 3 (by decide) (by decide) (by decide) o23 dX4_execute_27 ?_
      refine lv_iload_n hx hb dX4_execute_28 rfl (lv_at hl 1 rfl) ?_
      refine lv_bipush (v := Int32.ofInt 7) hx hb dX4_execute_29 (by decide) ?_
      refine z_iandK (M := 8) hx hb 3 (by decide) (by decide) (by decide) dX4_execute_31 ?_
      refine z_Vi (n := 2) (As := [.int (Int32.ofInt (a1 / 8)), .int (Int32.ofInt (a1 % 8))]) (rest := []) hx hb hml hg hown hK hP hD hS hA (kX4_executeRegister l D dA ad (a1 / 8) (a1 % 8) σ _ _ hw) (zoC18) rfl q1459 q159 q1456 q1458 q66 (by decide +kernel) ⟨(Nat.le_of_ble_eq_true rfl), (Nat.le_of_ble_eq_true rfl)⟩ rfl hl.1 rfl (Nat.le_of_ble_eq_true rfl) dX4_execute_32 ⟨(Nat.le_of_ble_eq_true rfl), (Nat.le_of_ble_eq_true rfl)⟩ (fun x30 σ31 H locs hw hP hD hS => ?_)
      exact hret x30 σ31 _ _ _ _ hw hP hD hS dX4_execute_35
  · replace hw := hw.2 k24
    refine lv_aload_n hx hb dX4_execute_6 rfl (lv_at hl 0 rfl) ?_
    refine lv_iload_n hx hb dX4_execute_7 rfl (lv_at hl 1 rfl) ?_
    refine lv_iconst (v := Int32.ofInt 3) hx hb dX4_execute_8 (by decide) ?_
    refine z_ishrK (M := 8) hx hb 3 (by decide) (by decide) (by decide) o23 dX4_execute_9 ?_
    refine lv_iload_n hx hb dX4_execute_10 rfl (lv_at hl 1 rfl) ?_
    refine lv_bipush (v := Int32.ofInt 7) hx hb dX4_execute_11 (by decide) ?_
    refine z_iandK (M := 8) hx hb 3 (by decide) (by decide) (by decide) dX4_execute_13 ?_
    refine z_Vi (n := 2) (As := [.int (Int32.ofInt (a1 / 8)), .int (Int32.ofInt (a1 % 8))]) (rest := []) hx hb hml hg hown hK hP hD hS hA (kX4_executeLow l D dA ad (a1 / 8) (a1 % 8) σ _ _ hw) (zoC18) rfl q1408 q159 q1405 q1407 q54 (by decide +kernel) ⟨(Nat.le_of_ble_eq_true rfl), (Nat.le_of_ble_eq_true rfl)⟩ rfl hl.1 rfl (Nat.le_of_ble_eq_true rfl) dX4_execute_14 ⟨(Nat.le_of_ble_eq_true rfl), (Nat.le_of_ble_eq_true rfl)⟩ (fun x32 σ33 H locs hw hP hD hS => ?_)
    exact hret x32 σ33 _ _ _ _ hw hP hD hS dX4_execute_17
def wpX4_go_52 (K2 : Int → ZS → Prop) (v1 v2 v4 : Int) (σ : ZS) (Q : Int → ZS → Prop) : Prop := (-2147483648 ≤ v4 ∧ v4 ≤ 2147483647) ∧ (v4 = 3 → K2 (v2 + 1) σ) ∧ (¬ v4 = 3 → Q v4 (zsI σ 18 7 1))
def wpX4_go_34 (K2 : Int → ZS → Prop) (v1 v2 v3 v4 : Int) (σ : ZS) (Q : Int → ZS → Prop) : Prop := wpX4_go_52 K2 v1 v2 v4 (zsI σ 18 3 v3) Q
def wpbX4_go_2 (K2 : Int → ZS → Prop) (v1 v2 : Int) (σ : ZS) (Q : Int → ZS → Prop) : Prop := (-2147483648 ≤ v2 ∧ v2 ≤ 2147483647) ∧ (-2147483648 ≤ v1 ∧ v1 ≤ 2147483647) ∧ (v1 ≤ v2 → Q 3 σ) ∧ (¬ v1 ≤ v2 → wpX4_fetch σ (fun (x6 : Int) (σ7 : ZS) => wpX4_execute x6 σ7 (fun (x8 : Int) (σ9 : ZS) => (-2147483648 ≤ x8 ∧ x8 ≤ 2147483647) ∧ (x8 = 1 → wpX4_go_34 K2 v1 v2 (zI σ 18 3) x8 σ9 Q) ∧ (¬ x8 = 1 → (¬ x8 = 2 → wpX4_go_52 K2 v1 v2 x8 (zsI σ9 18 8 ((zI σ9 18 8) + 1)) Q) ∧ (x8 = 2 → wpX4_go_34 K2 v1 v2 (zI σ 18 3) x8 σ9 Q)))))
def wpX4_go_2 (v1 v2 : Int) (σ : ZS) (Q : Int → ZS → Prop) : Prop := lfp1 (fun K2 v2 σ => wpbX4_go_2 K2 v1 v2 σ Q) v2 σ
def wpX4_go (a1 : Int) (σ : ZS) (Q : Int → ZS → Prop) : Prop := wpX4_go_2 a1 0 σ Q
set_option maxHeartbeats 4000000 in
set_option maxRecDepth 100000 in
theorem kX4_go (l : Launch) (D : va_G) (dA : Nat → ClassId) (ad : Int → Nat → Nat) (a1 : Int) (σ : ZS) (Q : Int → ZS → Prop) (sz : Nat) (hw : wpX4_go a1 σ Q) : Met l yX4_go (gws yX4_go cX4_go 5 (some .int)) (gR 6 0 0) (gPre D dA [.ref (ad 18 1000), .int (Int32.ofInt a1)] (zC dA ad σ) sz) (va_Qi (zQi Q) (gAt D dA (va_A (zC dA ad σ) sz) (zC dA ad)) (va_A (zC dA ad σ) sz)) 0 0 (va_A (zC dA ad σ) sz) := by
  refine Met.ofW (cc := cX4_go) (maxL := 5) (ret := (some .int)) (by decide) rfl ?_
  intro p e s m args below meth c s₁ B hml hv
  obtain ⟨rfl, hsz, hP, hK, hD0⟩ := hv
  have hx := B.exec
  have hb := B.bytes
  have hr := B.returns
  have hts := atoms_spec (ws := gws yX4_go cX4_go 5 (some .int)) B.pre
  have hg : ∀ w ∈ gw, w.before _ s = true := fun w h => hts w (List.mem_cons_of_mem _ h)
  have hown : s.vm.findClass RX4 = some m.cls := findClass_of_methodNamed B.named
  have hlocks := B.notSynchronized
  subst hsz
  have hD := hD0.self (sz := s.heap.size)
  generalize hAe : va_A (zC dA ad σ) s.heap.size = A at hD ⊢
  have hA : ∀ q : Nat, s.heap.size ≤ q → A q := fun q h => by rw [← hAe]; exact Or.inr h
  have hS : va_S A s.heap s.heap [] := va_S.rf
  have hl := lv_entry ([.ref (ad 18 1000), .int (Int32.ofInt a1)]) (n := 5) (Nat.le_of_ble_eq_true rfl)
  rw [lg_entry_eq]
  generalize (lg_sl ([.ref (ad 18 1000), .int (Int32.ofInt a1)]) ++ List.replicate (5 - (lg_sl ([.ref (ad 18 1000), .int (Int32.ofInt a1)])).length) Slot.unset).toArray = ls at hl ⊢
  have hl : lv_has ls 5 [(0, .ref (ad 18 1000)), (1, .int (Int32.ofInt a1))] := hl
  have hret : ∀ (v : Int) (σ : ZS) (H : Heap) (locs : List Loc) (ls : Array Slot) (pc : Nat), Q v σ → va_P D vwC (zC dA ad σ) H → va_D A (zC dA ad σ) → va_S A s.heap H locs → decode cX4_go pc = .ok (.ireturn, 1) → W p l e (gR 6 0 0) s m #[.ref (ad 18 1000), .int (Int32.ofInt a1)] below meth c H locs 0 0 (MQ below (va_Qi (zQi Q) (gAt D dA A (zC dA ad)) A) #[.ref (ad 18 1000), .int (Int32.ofInt a1)] s 0 0 A) (F0 m pc ls [.int (Int32.ofInt v)]) := fun v σ H locs ls pc hw hP hD hS hd => g_iret hx hb hr rfl hlocks hK σ hP hD hS ⟨v, rfl, hw⟩ (Nat.le_of_ble_eq_true rfl) (Nat.le_of_ble_eq_true rfl) hd
  generalize MQ below (va_Qi (zQi Q) (gAt D dA A (zC dA ad)) A) #[.ref (ad 18 1000), .int (Int32.ofInt a1)] s 0 0 A = QQ at hret ⊢
  have b2 : ∀ (v1 : Int) (K2 : Int → ZS → Prop), (∀ (v2 : Int) (σ : ZS), K2 v2 σ → ∀ (H : Heap) (locs : List Loc) (ls : Array Slot), va_P D vwC (zC dA ad σ) H → va_D A (zC dA ad σ) → va_S A s.heap H locs → lv_has ls 5 [(0, .ref (ad 18 1000)), (1, .int (Int32.ofInt v1)), (2, .int (Int32.ofInt v2))] → W p l e (gR 6 0 0) s m #[.ref (ad 18 1000), .int (Int32.ofInt a1)] below meth c H locs 0 0 QQ (F0 m 2 ls [])) → ∀ (v2 : Int) (σ : ZS), wpbX4_go_2 K2 v1 v2 σ Q → ∀ (H : Heap) (locs : List Loc) (ls : Array Slot), va_P D vwC (zC dA ad σ) H → va_D A (zC dA ad σ) → va_S A s.heap H locs → lv_has ls 5 [(0, .ref (ad 18 1000)), (1, .int (Int32.ofInt v1)), (2, .int (Int32.ofInt v2))] → W p l e (gR 6 0 0) s m #[.ref (ad 18 1000), .int (Int32.ofInt a1)] below meth c H locs 0 0 QQ (F0 m 2 ls []) := by
    intro v1 K2 hK2
    have j52 : ∀ (v2 v4 : Int) (σ : ZS), ∀ (H : Heap) (locs : List Loc) (ls : Array Slot), va_P D vwC (zC dA ad σ) H → va_D A (zC dA ad σ) → va_S A s.heap H locs → lv_has ls 5 [(0, .ref (ad 18 1000)), (1, .int (Int32.ofInt v1)), (2, .int (Int32.ofInt v2)), (4, .int (Int32.ofInt v4))] → wpX4_go_52 K2 v1 v2 v4 σ Q → W p l e (gR 6 0 0) s m #[.ref (ad 18 1000), .int (Int32.ofInt a1)] below meth c H locs 0 0 QQ (F0 m 52 ls []) := by
      intro v2 v4 σ H locs ls hP hD hS hl hw
      unfold wpX4_go_52 at hw
      refine lv_iload hx hb dX4_go_52 (lv_at hl 3 rfl) ?_
      refine lv_iconst (v := Int32.ofInt 3) hx hb dX4_go_54 (by decide) ?_
      obtain ⟨o1, hw⟩ := hw
      refine z_icmp_eq (tgt := 66) hx hb o1 (by decide) dX4_go_55 (by decide) (fun k2 => ?_) (fun k2 => ?_)
      · replace hw := hw.1 k2
        refine lv_iinc (v := Int32.ofInt (v2 + 1)) (lv' := [(2, .int (Int32.ofInt (v2 + 1))), (0, .ref (ad 18 1000)), (1, .int (Int32.ofInt v1)), (4, .int (Int32.ofInt v4))]) hx hb dX4_go_66 hl (k := 2) rfl (Int32.ofInt_add _ _).symm (by decide) rfl (fun ls hl => ?_)
        refine lv_goto (tgt := 2) hx hb dX4_go_69 (by decide) ?_
        exact hK2 (v2 + 1) σ hw _ _ _ hP hD hS (lv_sub hl [1, 2, 0] rfl)
      · replace hw := hw.2 k2
        refine lv_aload_n hx hb dX4_go_58 rfl (lv_at hl 0 rfl) ?_
        refine lv_iconst (v := Int32.ofInt 1) hx hb dX4_go_59 (by decide) ?_
        refine zpC18_7 (v := 1) hx hb hg hown (by decide) hK hP hD hS q566 dX4_go_60 (fun H locs hP hD hS => ?_)
        refine lv_iload hx hb dX4_go_63 (lv_at hl 3 rfl) ?_
        exact hret v4 (zsI σ 18 7 1) _ _ _ _ hw hP hD hS dX4_go_65
    have j34 : ∀ (v2 v3 v4 : Int) (σ : ZS), ∀ (H : Heap) (locs : List Loc) (ls : Array Slot), va_P D vwC (zC dA ad σ) H → va_D A (zC dA ad σ) → va_S A s.heap H locs → lv_has ls 5 [(0, .ref (ad 18 1000)), (1, .int (Int32.ofInt v1)), (2, .int (Int32.ofInt v2)), (3, .int (Int32.ofInt v3)), (4, .int (Int32.ofInt v4))] → wpX4_go_34 K2 v1 v2 v3 v4 σ Q → W p l e (gR 6 0 0) s m #[.ref (ad 18 1000), .int (Int32.ofInt a1)] below meth c H locs 0 0 QQ (F0 m 34 ls []) := by
      intro v2 v3 v4 σ H locs ls hP hD hS hl hw
      unfold wpX4_go_34 at hw
      refine lv_aload_n hx hb dX4_go_34 rfl (lv_at hl 0 rfl) ?_
      refine lv_iload_n hx hb dX4_go_35 rfl (lv_at hl 3 rfl) ?_
      refine zpC18_3 (v := v3) hx hb hg hown hK hP hD hS q558 dX4_go_36 (fun H locs hP hD hS => ?_)
      refine lv_goto (tgt := 52) hx hb dX4_go_39 (by decide) ?_
      exact j52 v2 v4 (zsI σ 18 3 v3) _ _ _ hP hD hS (lv_sub hl [0, 1, 2, 4] rfl) hw
    intro v2 σ hw H locs ls hP hD hS hl
    unfold wpbX4_go_2 at hw
    refine lv_iload_n hx hb dX4_go_2 rfl (lv_at hl 2 rfl) ?_
    refine lv_iload_n hx hb dX4_go_3 rfl (lv_at hl 1 rfl) ?_
    obtain ⟨o3, hw⟩ := hw
    obtain ⟨o4, hw⟩ := hw
    refine z_icmp_ge (tgt := 72) hx hb o3 o4 dX4_go_4 (by decide) (fun k5 => ?_) (fun k5 => ?_)
    · replace hw := hw.1 k5
      refine lv_iconst (v := Int32.ofInt 3) hx hb dX4_go_72 (by decide) ?_
      exact hret 3 σ _ _ _ _ hw hP hD hS dX4_go_73
    · replace hw := hw.2 k5
      refine lv_aload_n hx hb dX4_go_7 rfl (lv_at hl 0 rfl) ?_
      refine zgC18_3 hx hb hg hown hK hP q558 dX4_go_8 ?_
      refine lv_istore_n (lv' := [(3, .int (Int32.ofInt (zI σ 18 3))), (0, .ref (ad 18 1000)), (1, .int (Int32.ofInt v1)), (2, .int (Int32.ofInt v2))]) hx hb dX4_go_11 rfl hl (by decide) rfl (fun ls hl => ?_)
      refine lv_aload_n hx hb dX4_go_12 rfl (lv_at hl 1 rfl) ?_
      refine lv_aload_n hx hb dX4_go_13 rfl (lv_at hl 1 rfl) ?_
      refine z_Vi (n := 0) (As := []) (rest := [.ref (ad 18 1000)]) hx hb hml hg hown hK hP hD hS hA (kX4_fetch l D dA ad σ _ _ hw) (zoC18) rfl q1399 q159 q1396 q1398 q52 (by decide +kernel) ⟨(Nat.le_of_ble_eq_true rfl), (Nat.le_of_ble_eq_true rfl)⟩ rfl hl.1 rfl (Nat.le_of_ble_eq_true rfl) dX4_go_14 ⟨(Nat.le_of_ble_eq_true rfl), (Nat.le_of_ble_eq_true rfl)⟩ (fun x6 σ7 H locs hw hP hD hS => ?_)
      refine z_Vi (n := 1) (As := [.int (Int32.ofInt x6)]) (rest := []) hx hb hml hg hown hK hP hD hS hA (kX4_execute l D dA ad x6 σ7 _ _ hw) (zoC18) rfl q1404 q159 q1401 q1403 q53 (by decide +kernel) ⟨(Nat.le_of_ble_eq_true rfl), (Nat.le_of_ble_eq_true rfl)⟩ rfl hl.1 rfl (Nat.le_of_ble_eq_true rfl) dX4_go_17 ⟨(Nat.le_of_ble_eq_true rfl), (Nat.le_of_ble_eq_true rfl)⟩ (fun x8 σ9 H locs hw hP hD hS => ?_)
      refine lv_istore (lv' := [(4, .int (Int32.ofInt x8)), (3, .int (Int32.ofInt (zI σ 18 3))), (0, .ref (ad 18 1000)), (1, .int (Int32.ofInt v1)), (2, .int (Int32.ofInt v2))]) hx hb dX4_go_20 hl (by decide) rfl (fun ls hl => ?_)
      refine lv_iload hx hb dX4_go_22 (lv_at hl 0 rfl) ?_
      refine lv_iconst (v := Int32.ofInt 1) hx hb dX4_go_24 (by decide) ?_
      obtain ⟨o10, hw⟩ := hw
      refine z_icmp_eq (tgt := 34) hx hb o10 (by decide) dX4_go_25 (by decide) (fun k11 => ?_) (fun k11 => ?_)
      · replace hw := hw.1 k11
        exact j34 v2 (zI σ 18 3) x8 σ9 _ _ _ hP hD hS (lv_sub hl [2, 3, 4, 1, 0] rfl) hw
      · replace hw := hw.2 k11
        refine lv_iload hx hb dX4_go_28 (lv_at hl 0 rfl) ?_
        refine lv_iconst (v := Int32.ofInt 2) hx hb dX4_go_30 (by decide) ?_
        refine z_icmp_ne (tgt := 42) hx hb o10 (by decide) dX4_go_31 (by decide) (fun k12 => ?_) (fun k12 => ?_)
        · replace hw := hw.1 k12
          refine lv_aload_n hx hb dX4_go_42 rfl (lv_at hl 2 rfl) ?_
          refine lv_dup hx hb dX4_go_43 rfl ?_
          refine zgC18_8 hx hb hg hown hK hP q568 dX4_go_44 ?_
          refine lv_iconst (v := Int32.ofInt 1) hx hb dX4_go_47 (by decide) ?_
          refine z_iadd hx hb dX4_go_48 ?_
          refine zpC18_8 (v := ((zI σ9 18 8) + 1)) hx hb hg hown hK hP hD hS q568 dX4_go_49 (fun H locs hP hD hS => ?_)
          exact j52 v2 x8 (zsI σ9 18 8 ((zI σ9 18 8) + 1)) _ _ _ hP hD hS (lv_sub hl [2, 3, 4, 0] rfl) hw
        · replace hw := hw.2 k12
          exact j34 v2 (zI σ 18 3) x8 σ9 _ _ _ hP hD hS (lv_sub hl [2, 3, 4, 1, 0] rfl) hw
  have j2 : ∀ (v1 v2 : Int) (σ : ZS), ∀ (H : Heap) (locs : List Loc) (ls : Array Slot), va_P D vwC (zC dA ad σ) H → va_D A (zC dA ad σ) → va_S A s.heap H locs → lv_has ls 5 [(0, .ref (ad 18 1000)), (1, .int (Int32.ofInt v1)), (2, .int (Int32.ofInt v2))] → wpX4_go_2 v1 v2 σ Q → W p l e (gR 6 0 0) s m #[.ref (ad 18 1000), .int (Int32.ofInt a1)] below meth c H locs 0 0 QQ (F0 m 2 ls []) := by
    intro v1 v2 σ H locs ls hP hD hS hl hw
    exact hw (fun v2 σ => ∀ (H : Heap) (locs : List Loc) (ls : Array Slot), va_P D vwC (zC dA ad σ) H → va_D A (zC dA ad σ) → va_S A s.heap H locs → lv_has ls 5 [(0, .ref (ad 18 1000)), (1, .int (Int32.ofInt v1)), (2, .int (Int32.ofInt v2))] → W p l e (gR 6 0 0) s m #[.ref (ad 18 1000), .int (Int32.ofInt a1)] below meth c H locs 0 0 QQ (F0 m 2 ls [])) (b2 v1 (fun v2 σ => ∀ (H : Heap) (locs : List Loc) (ls : Array Slot), va_P D vwC (zC dA ad σ) H → va_D A (zC dA ad σ) → va_S A s.heap H locs → lv_has ls 5 [(0, .ref (ad 18 1000)), (1, .int (Int32.ofInt v1)), (2, .int (Int32.ofInt v2))] → W p l e (gR 6 0 0) s m #[.ref (ad 18 1000), .int (Int32.ofInt a1)] below meth c H locs 0 0 QQ (F0 m 2 ls [])) (fun v2 σ h => h)) _ _ _ hP hD hS hl
  unfold wpX4_go at hw
  refine lv_iconst (v := Int32.ofInt 0) hx hb dX4_go_0 (by decide) ?_
  refine lv_istore_n (lv' := [(2, .int (Int32.ofInt 0)), (0, .ref (ad 18 1000)), (1, .int (Int32.ofInt a1))]) hx hb dX4_go_1 rfl hl (by decide) rfl (fun ls hl => ?_)
  exact j2 a1 0 σ _ _ _ hP hD hS (lv_sub hl [1, 2, 0] rfl) hw
