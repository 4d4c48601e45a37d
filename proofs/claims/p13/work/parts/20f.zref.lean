theorem q78 : Cond.selects RX11 yX11_parse yX11_parse ∈ gw := gw_in (i := 78) (by decide +kernel) rfl
theorem q109 : Cond.selects RX11 yX11_judge yX11_judge ∈ gw := gw_in (i := 109) (by decide +kernel) rfl
theorem q110 : Cond.selects RX11 yX11_tell yX11_tell ∈ gw := gw_in (i := 110) (by decide +kernel) rfl
theorem q111 : Cond.selects RX11 yX11_settle yX11_settle ∈ gw := gw_in (i := 111) (by decide +kernel) rfl
theorem q115 : Cond.selects RX11 yX11_write yX11_write ∈ gw := gw_in (i := 115) (by decide +kernel) rfl
theorem q120 : Cond.selects RX11 yX11_publicIn yX11_publicIn ∈ gw := gw_in (i := 120) (by decide +kernel) rfl
theorem q122 : Cond.selects RX11 yX11_publicOf yX11_publicOf ∈ gw := gw_in (i := 122) (by decide +kernel) rfl
theorem q125 : Cond.selects RX11 yX11_aboutSegment yX11_aboutSegment ∈ gw := gw_in (i := 125) (by decide +kernel) rfl
theorem q1682 : Cond.fieldLink RX11 232 "SegmentBenchModel" "draft" "[I" ∈ gw := gw_in (i := 1682) (by decide +kernel) rfl
theorem q1683 : Cond.fieldLink RX11 235 "SegmentBenchModel" "cName" "[J" ∈ gw := gw_in (i := 1683) (by decide +kernel) rfl
theorem q1684 : Cond.fieldLink RX11 238 "SegmentBenchModel" "cSize" "[I" ∈ gw := gw_in (i := 1684) (by decide +kernel) rfl
theorem q1685 : Cond.fieldLink RX11 241 "SegmentBenchModel" "cStart" "[I" ∈ gw := gw_in (i := 1685) (by decide +kernel) rfl
theorem q1686 : Cond.fieldLink RX11 244 "SegmentBenchModel" "partOf" "[I" ∈ gw := gw_in (i := 1686) (by decide +kernel) rfl
theorem q1687 : Cond.fieldLink RX11 247 "SegmentBenchModel" "partAt" "[I" ∈ gw := gw_in (i := 1687) (by decide +kernel) rfl
theorem q1688 : Cond.fieldLink RX11 485 "SegmentBenchModel" "combined" "I" ∈ gw := gw_in (i := 1688) (by decide +kernel) rfl
theorem q1888 : Cond.methodLink RX11 451 yX11_parse ∈ gw := gw_in (i := 1888) (by decide +kernel) rfl
theorem q1890 : Cond.instanceMethod yX11_parse ∈ gw := gw_in (i := 1890) (by decide +kernel) rfl
theorem q1891 : Cond.code yX11_parse cX11_parse 1 (some .boolean) ∈ gw := gw_in (i := 1891) (by decide +kernel) rfl
theorem q2023 : Cond.methodLink RX11 454 yX11_judge ∈ gw := gw_in (i := 2023) (by decide +kernel) rfl
theorem q2025 : Cond.instanceMethod yX11_judge ∈ gw := gw_in (i := 2025) (by decide +kernel) rfl
theorem q2026 : Cond.code yX11_judge cX11_judge 5 none ∈ gw := gw_in (i := 2026) (by decide +kernel) rfl
theorem q2027 : Cond.methodLink RX11 457 yX11_tell ∈ gw := gw_in (i := 2027) (by decide +kernel) rfl
theorem q2029 : Cond.instanceMethod yX11_tell ∈ gw := gw_in (i := 2029) (by decide +kernel) rfl
theorem q2030 : Cond.code yX11_tell cX11_tell 4 (some .int) ∈ gw := gw_in (i := 2030) (by decide +kernel) rfl
theorem q2031 : Cond.methodLink RX11 461 yX11_settle ∈ gw := gw_in (i := 2031) (by decide +kernel) rfl
theorem q2033 : Cond.instanceMethod yX11_settle ∈ gw := gw_in (i := 2033) (by decide +kernel) rfl
theorem q2034 : Cond.code yX11_settle cX11_settle 3 none ∈ gw := gw_in (i := 2034) (by decide +kernel) rfl
theorem q2050 : Cond.methodLink RX11 464 yX11_write ∈ gw := gw_in (i := 2050) (by decide +kernel) rfl
theorem q2052 : Cond.instanceMethod yX11_write ∈ gw := gw_in (i := 2052) (by decide +kernel) rfl
theorem q2053 : Cond.code yX11_write cX11_write 5 none ∈ gw := gw_in (i := 2053) (by decide +kernel) rfl
theorem q2078 : Cond.methodLink RX11 477 yX11_publicIn ∈ gw := gw_in (i := 2078) (by decide +kernel) rfl
theorem q2080 : Cond.instanceMethod yX11_publicIn ∈ gw := gw_in (i := 2080) (by decide +kernel) rfl
theorem q2081 : Cond.code yX11_publicIn cX11_publicIn 5 (some .int) ∈ gw := gw_in (i := 2081) (by decide +kernel) rfl
theorem q2086 : Cond.methodLink RX11 481 yX11_publicOf ∈ gw := gw_in (i := 2086) (by decide +kernel) rfl
theorem q2088 : Cond.instanceMethod yX11_publicOf ∈ gw := gw_in (i := 2088) (by decide +kernel) rfl
theorem q2089 : Cond.code yX11_publicOf cX11_publicOf 5 (some .int) ∈ gw := gw_in (i := 2089) (by decide +kernel) rfl
theorem q2099 : Cond.methodLink RX11 488 yX11_aboutSegment ∈ gw := gw_in (i := 2099) (by decide +kernel) rfl
theorem q2101 : Cond.instanceMethod yX11_aboutSegment ∈ gw := gw_in (i := 2101) (by decide +kernel) rfl
theorem q2102 : Cond.code yX11_aboutSegment cX11_aboutSegment 4 (some .int) ∈ gw := gw_in (i := 2102) (by decide +kernel) rfl
theorem dX11_assemble_0 : decode cX11_assemble 0 = .ok (.aload_n 0, 1) := by decide +kernel
theorem dX11_assemble_1 : decode cX11_assemble 1 = .ok (.iconst 0, 1) := by decide +kernel
theorem dX11_assemble_2 : decode cX11_assemble 2 = .ok (.putfield 263, 3) := by decide +kernel
theorem dX11_assemble_5 : decode cX11_assemble 5 = .ok (.iload_n 1, 1) := by decide +kernel
theorem dX11_assemble_6 : decode cX11_assemble 6 = .ok (.ifCond .lt 8, 3) := by decide +kernel
theorem dX11_assemble_9 : decode cX11_assemble 9 = .ok (.iload_n 1, 1) := by decide +kernel
theorem dX11_assemble_10 : decode cX11_assemble 10 = .ok (.iconst 2, 1) := by decide +kernel
theorem dX11_assemble_11 : decode cX11_assemble 11 = .ok (.if_icmp .le 9, 3) := by decide +kernel
theorem dX11_assemble_20 : decode cX11_assemble 20 = .ok (.aload_n 0, 1) := by decide +kernel
theorem dX11_assemble_21 : decode cX11_assemble 21 = .ok (.invokevirtual 451, 3) := by decide +kernel
theorem dX11_assemble_24 : decode cX11_assemble 24 = .ok (.istore_n 2, 1) := by decide +kernel
theorem dX11_assemble_25 : decode cX11_assemble 25 = .ok (.aload_n 0, 1) := by decide +kernel
theorem dX11_assemble_26 : decode cX11_assemble 26 = .ok (.iconst 0, 1) := by decide +kernel
theorem dX11_assemble_27 : decode cX11_assemble 27 = .ok (.putfield 266, 3) := by decide +kernel
theorem dX11_assemble_30 : decode cX11_assemble 30 = .ok (.iload_n 2, 1) := by decide +kernel
theorem dX11_assemble_31 : decode cX11_assemble 31 = .ok (.ifCond .ne 9, 3) := by decide +kernel
theorem dX11_assemble_40 : decode cX11_assemble 40 = .ok (.aload_n 0, 1) := by decide +kernel
theorem dX11_assemble_41 : decode cX11_assemble 41 = .ok (.invokevirtual 454, 3) := by decide +kernel
theorem dX11_assemble_44 : decode cX11_assemble 44 = .ok (.aload_n 0, 1) := by decide +kernel
theorem dX11_assemble_45 : decode cX11_assemble 45 = .ok (.getfield 308, 3) := by decide +kernel
theorem dX11_assemble_48 : decode cX11_assemble 48 = .ok (.ifCond .lt 14, 3) := by decide +kernel
theorem dX11_assemble_62 : decode cX11_assemble 62 = .ok (.aload_n 0, 1) := by decide +kernel
theorem dX11_assemble_63 : decode cX11_assemble 63 = .ok (.invokevirtual 461, 3) := by decide +kernel
theorem dX11_assemble_66 : decode cX11_assemble 66 = .ok (.iconst 0, 1) := by decide +kernel
theorem dX11_assemble_67 : decode cX11_assemble 67 = .ok (.istore_n 3, 1) := by decide +kernel
theorem dX11_assemble_68 : decode cX11_assemble 68 = .ok (.iconst 0, 1) := by decide +kernel
theorem dX11_assemble_69 : decode cX11_assemble 69 = .ok (.istore 4, 2) := by decide +kernel
theorem dX11_assemble_51 : decode cX11_assemble 51 = .ok (.aload_n 0, 1) := by decide +kernel
theorem dX11_assemble_52 : decode cX11_assemble 52 = .ok (.iconst 2, 1) := by decide +kernel
theorem dX11_assemble_53 : decode cX11_assemble 53 = .ok (.aload_n 0, 1) := by decide +kernel
theorem dX11_assemble_54 : decode cX11_assemble 54 = .ok (.getfield 308, 3) := by decide +kernel
theorem dX11_assemble_57 : decode cX11_assemble 57 = .ok (.iconst 3, 1) := by decide +kernel
theorem dX11_assemble_58 : decode cX11_assemble 58 = .ok (.invokevirtual 457, 3) := by decide +kernel
theorem dX11_assemble_61 : decode cX11_assemble 61 = .ok (.ireturn, 1) := by decide +kernel
theorem dX11_assemble_34 : decode cX11_assemble 34 = .ok (.aload_n 0, 1) := by decide +kernel
theorem dX11_assemble_35 : decode cX11_assemble 35 = .ok (.iconst 2, 1) := by decide +kernel
theorem dX11_assemble_36 : decode cX11_assemble 36 = .ok (.invokevirtual 448, 3) := by decide +kernel
theorem dX11_assemble_39 : decode cX11_assemble 39 = .ok (.ireturn, 1) := by decide +kernel
theorem dX11_assemble_14 : decode cX11_assemble 14 = .ok (.aload_n 0, 1) := by decide +kernel
theorem dX11_assemble_15 : decode cX11_assemble 15 = .ok (.iconst 1, 1) := by decide +kernel
theorem dX11_assemble_16 : decode cX11_assemble 16 = .ok (.invokevirtual 448, 3) := by decide +kernel
theorem dX11_assemble_19 : decode cX11_assemble 19 = .ok (.ireturn, 1) := by decide +kernel
theorem dX11_assemble_71 : decode cX11_assemble 71 = .ok (.iload 4, 2) := by decide +kernel
theorem dX11_assemble_73 : decode cX11_assemble 73 = .ok (.aload_n 0, 1) := by decide +kernel
theorem dX11_assemble_74 : decode cX11_assemble 74 = .ok (.getfield 331, 3) := by decide +kernel
theorem dX11_assemble_77 : decode cX11_assemble 77 = .ok (.if_icmp .ge 19, 3) := by decide +kernel
theorem dX11_assemble_96 : decode cX11_assemble 96 = .ok (.iload_n 3, 1) := by decide +kernel
theorem dX11_assemble_97 : decode cX11_assemble 97 = .ok (.sipush 400, 3) := by decide +kernel
theorem dX11_assemble_100 : decode cX11_assemble 100 = .ok (.if_icmp .le 11, 3) := by decide +kernel
theorem dX11_assemble_111 : decode cX11_assemble 111 = .ok (.iconst 0, 1) := by decide +kernel
theorem dX11_assemble_112 : decode cX11_assemble 112 = .ok (.istore 4, 2) := by decide +kernel
theorem dX11_assemble_103 : decode cX11_assemble 103 = .ok (.aload_n 0, 1) := by decide +kernel
theorem dX11_assemble_104 : decode cX11_assemble 104 = .ok (.iconst 4, 1) := by decide +kernel
theorem dX11_assemble_105 : decode cX11_assemble 105 = .ok (.iconst (-1), 1) := by decide +kernel
theorem dX11_assemble_106 : decode cX11_assemble 106 = .ok (.iconst 4, 1) := by decide +kernel
theorem dX11_assemble_107 : decode cX11_assemble 107 = .ok (.invokevirtual 457, 3) := by decide +kernel
theorem dX11_assemble_110 : decode cX11_assemble 110 = .ok (.ireturn, 1) := by decide +kernel
theorem dX11_assemble_80 : decode cX11_assemble 80 = .ok (.iload_n 3, 1) := by decide +kernel
theorem dX11_assemble_81 : decode cX11_assemble 81 = .ok (.aload_n 0, 1) := by decide +kernel
theorem dX11_assemble_82 : decode cX11_assemble 82 = .ok (.getfield 172, 3) := by decide +kernel
theorem dX11_assemble_85 : decode cX11_assemble 85 = .ok (.iload 4, 2) := by decide +kernel
theorem dX11_assemble_87 : decode cX11_assemble 87 = .ok (.iaload, 1) := by decide +kernel
theorem dX11_assemble_88 : decode cX11_assemble 88 = .ok (.iadd, 1) := by decide +kernel
theorem dX11_assemble_89 : decode cX11_assemble 89 = .ok (.istore_n 3, 1) := by decide +kernel
theorem dX11_assemble_90 : decode cX11_assemble 90 = .ok (.iinc 4 1, 3) := by decide +kernel
theorem dX11_assemble_93 : decode cX11_assemble 93 = .ok (.goto (-22), 3) := by decide +kernel
theorem dX11_assemble_114 : decode cX11_assemble 114 = .ok (.iload 4, 2) := by decide +kernel
theorem dX11_assemble_116 : decode cX11_assemble 116 = .ok (.aload_n 0, 1) := by decide +kernel
theorem dX11_assemble_117 : decode cX11_assemble 117 = .ok (.getfield 324, 3) := by decide +kernel
theorem dX11_assemble_120 : decode cX11_assemble 120 = .ok (.if_icmp .ge 46, 3) := by decide +kernel
theorem dX11_assemble_166 : decode cX11_assemble 166 = .ok (.aload_n 0, 1) := by decide +kernel
theorem dX11_assemble_167 : decode cX11_assemble 167 = .ok (.iload_n 1, 1) := by decide +kernel
theorem dX11_assemble_168 : decode cX11_assemble 168 = .ok (.invokevirtual 464, 3) := by decide +kernel
theorem dX11_assemble_171 : decode cX11_assemble 171 = .ok (.aload_n 0, 1) := by decide +kernel
theorem dX11_assemble_172 : decode cX11_assemble 172 = .ok (.iconst (-1), 1) := by decide +kernel
theorem dX11_assemble_173 : decode cX11_assemble 173 = .ok (.putfield 13, 3) := by decide +kernel
theorem dX11_assemble_176 : decode cX11_assemble 176 = .ok (.aload_n 0, 1) := by decide +kernel
theorem dX11_assemble_177 : decode cX11_assemble 177 = .ok (.iconst (-1), 1) := by decide +kernel
theorem dX11_assemble_178 : decode cX11_assemble 178 = .ok (.putfield 17, 3) := by decide +kernel
theorem dX11_assemble_181 : decode cX11_assemble 181 = .ok (.iload_n 3, 1) := by decide +kernel
theorem dX11_assemble_182 : decode cX11_assemble 182 = .ok (.ireturn, 1) := by decide +kernel
theorem dX11_assemble_123 : decode cX11_assemble 123 = .ok (.aload_n 0, 1) := by decide +kernel
theorem dX11_assemble_124 : decode cX11_assemble 124 = .ok (.getfield 147, 3) := by decide +kernel
theorem dX11_assemble_127 : decode cX11_assemble 127 = .ok (.iload 4, 2) := by decide +kernel
theorem dX11_assemble_129 : decode cX11_assemble 129 = .ok (.iaload, 1) := by decide +kernel
theorem dX11_assemble_130 : decode cX11_assemble 130 = .ok (.iconst 5, 1) := by decide +kernel
theorem dX11_assemble_131 : decode cX11_assemble 131 = .ok (.if_icmp .ne 29, 3) := by decide +kernel
theorem dX11_assemble_134 : decode cX11_assemble 134 = .ok (.aload_n 0, 1) := by decide +kernel
theorem dX11_assemble_135 : decode cX11_assemble 135 = .ok (.iload 4, 2) := by decide +kernel
theorem dX11_assemble_137 : decode cX11_assemble 137 = .ok (.invokevirtual 442, 3) := by decide +kernel
theorem dX11_assemble_140 : decode cX11_assemble 140 = .ok (.invokestatic 445, 3) := by decide +kernel
theorem dX11_assemble_143 : decode cX11_assemble 143 = .ok (.ifCond .ne 17, 3) := by decide +kernel
theorem dX11_assemble_146 : decode cX11_assemble 146 = .ok (.aload_n 0, 1) := by decide +kernel
theorem dX11_assemble_147 : decode cX11_assemble 147 = .ok (.iconst 3, 1) := by decide +kernel
theorem dX11_assemble_148 : decode cX11_assemble 148 = .ok (.aload_n 0, 1) := by decide +kernel
theorem dX11_assemble_149 : decode cX11_assemble 149 = .ok (.getfield 156, 3) := by decide +kernel
theorem dX11_assemble_152 : decode cX11_assemble 152 = .ok (.iload 4, 2) := by decide +kernel
theorem dX11_assemble_154 : decode cX11_assemble 154 = .ok (.iaload, 1) := by decide +kernel
theorem dX11_assemble_155 : decode cX11_assemble 155 = .ok (.iconst 5, 1) := by decide +kernel
theorem dX11_assemble_156 : decode cX11_assemble 156 = .ok (.invokevirtual 457, 3) := by decide +kernel
theorem dX11_assemble_159 : decode cX11_assemble 159 = .ok (.ireturn, 1) := by decide +kernel
theorem dX11_assemble_160 : decode cX11_assemble 160 = .ok (.iinc 4 1, 3) := by decide +kernel
theorem dX11_assemble_163 : decode cX11_assemble 163 = .ok (.goto (-49), 3) := by decide +kernel
theorem dX11_drop_0 : decode cX11_drop 0 = .ok (.aload_n 0, 1) := by decide +kernel
theorem dX11_drop_1 : decode cX11_drop 1 = .ok (.iconst 0, 1) := by decide +kernel
theorem dX11_drop_2 : decode cX11_drop 2 = .ok (.putfield 263, 3) := by decide +kernel
theorem dX11_drop_5 : decode cX11_drop 5 = .ok (.iload_n 1, 1) := by decide +kernel
theorem dX11_drop_6 : decode cX11_drop 6 = .ok (.ifCond .lt 8, 3) := by decide +kernel
theorem dX11_drop_9 : decode cX11_drop 9 = .ok (.iload_n 1, 1) := by decide +kernel
theorem dX11_drop_10 : decode cX11_drop 10 = .ok (.iconst 2, 1) := by decide +kernel
theorem dX11_drop_11 : decode cX11_drop 11 = .ok (.if_icmp .le 10, 3) := by decide +kernel
theorem dX11_drop_21 : decode cX11_drop 21 = .ok (.aload_n 0, 1) := by decide +kernel
theorem dX11_drop_22 : decode cX11_drop 22 = .ok (.getfield 175, 3) := by decide +kernel
theorem dX11_drop_25 : decode cX11_drop 25 = .ok (.iload_n 1, 1) := by decide +kernel
theorem dX11_drop_26 : decode cX11_drop 26 = .ok (.baload, 1) := by decide +kernel
theorem dX11_drop_27 : decode cX11_drop 27 = .ok (.istore_n 2, 1) := by decide +kernel
theorem dX11_drop_28 : decode cX11_drop 28 = .ok (.aload_n 0, 1) := by decide +kernel
theorem dX11_drop_29 : decode cX11_drop 29 = .ok (.getfield 175, 3) := by decide +kernel
theorem dX11_drop_32 : decode cX11_drop 32 = .ok (.iload_n 1, 1) := by decide +kernel
theorem dX11_drop_33 : decode cX11_drop 33 = .ok (.iconst 0, 1) := by decide +kernel
theorem dX11_drop_34 : decode cX11_drop 34 = .ok (.bastore, 1) := by decide +kernel
theorem dX11_drop_35 : decode cX11_drop 35 = .ok (.iload_n 2, 1) := by decide +kernel
theorem dX11_drop_36 : decode cX11_drop 36 = .ok (.ireturn, 1) := by decide +kernel
theorem dX11_drop_14 : decode cX11_drop 14 = .ok (.aload_n 0, 1) := by decide +kernel
theorem dX11_drop_15 : decode cX11_drop 15 = .ok (.iconst 1, 1) := by decide +kernel
theorem dX11_drop_16 : decode cX11_drop 16 = .ok (.putfield 263, 3) := by decide +kernel
theorem dX11_drop_19 : decode cX11_drop 19 = .ok (.iconst 0, 1) := by decide +kernel
theorem dX11_drop_20 : decode cX11_drop 20 = .ok (.ireturn, 1) := by decide +kernel
theorem dX11_publicIn_0 : decode cX11_publicIn 0 = .ok (.iconst 0, 1) := by decide +kernel
theorem dX11_publicIn_1 : decode cX11_publicIn 1 = .ok (.istore 4, 2) := by decide +kernel
theorem dX11_publicIn_3 : decode cX11_publicIn 3 = .ok (.iload 4, 2) := by decide +kernel
theorem dX11_publicIn_5 : decode cX11_publicIn 5 = .ok (.aload_n 0, 1) := by decide +kernel
theorem dX11_publicIn_6 : decode cX11_publicIn 6 = .ok (.getfield 214, 3) := by decide +kernel
theorem dX11_publicIn_9 : decode cX11_publicIn 9 = .ok (.iload_n 1, 1) := by decide +kernel
theorem dX11_publicIn_10 : decode cX11_publicIn 10 = .ok (.iaload, 1) := by decide +kernel
theorem dX11_publicIn_11 : decode cX11_publicIn 11 = .ok (.if_icmp .ge 43, 3) := by decide +kernel
theorem dX11_publicIn_14 : decode cX11_publicIn 14 = .ok (.aload_n 0, 1) := by decide +kernel
theorem dX11_publicIn_15 : decode cX11_publicIn 15 = .ok (.getfield 175, 3) := by decide +kernel
theorem dX11_publicIn_18 : decode cX11_publicIn 18 = .ok (.iload_n 1, 1) := by decide +kernel
theorem dX11_publicIn_19 : decode cX11_publicIn 19 = .ok (.baload, 1) := by decide +kernel
theorem dX11_publicIn_20 : decode cX11_publicIn 20 = .ok (.ifCond .eq 34, 3) := by decide +kernel
theorem dX11_publicIn_23 : decode cX11_publicIn 23 = .ok (.aload_n 0, 1) := by decide +kernel
theorem dX11_publicIn_24 : decode cX11_publicIn 24 = .ok (.getfield 217, 3) := by decide +kernel
theorem dX11_publicIn_27 : decode cX11_publicIn 27 = .ok (.bipush 80, 2) := by decide +kernel
theorem dX11_publicIn_29 : decode cX11_publicIn 29 = .ok (.iload_n 1, 1) := by decide +kernel
theorem dX11_publicIn_30 : decode cX11_publicIn 30 = .ok (.imul, 1) := by decide +kernel
theorem dX11_publicIn_31 : decode cX11_publicIn 31 = .ok (.iload 4, 2) := by decide +kernel
theorem dX11_publicIn_33 : decode cX11_publicIn 33 = .ok (.iadd, 1) := by decide +kernel
theorem dX11_publicIn_34 : decode cX11_publicIn 34 = .ok (.laload, 1) := by decide +kernel
theorem dX11_publicIn_35 : decode cX11_publicIn 35 = .ok (.lload_n 2, 1) := by decide +kernel
theorem dX11_publicIn_36 : decode cX11_publicIn 36 = .ok (.lcmp, 1) := by decide +kernel
theorem dX11_publicIn_37 : decode cX11_publicIn 37 = .ok (.ifCond .ne 11, 3) := by decide +kernel
theorem dX11_publicIn_48 : decode cX11_publicIn 48 = .ok (.iinc 4 1, 3) := by decide +kernel
theorem dX11_publicIn_51 : decode cX11_publicIn 51 = .ok (.goto (-48), 3) := by decide +kernel
theorem dX11_publicIn_40 : decode cX11_publicIn 40 = .ok (.bipush 80, 2) := by decide +kernel
theorem dX11_publicIn_42 : decode cX11_publicIn 42 = .ok (.iload_n 1, 1) := by decide +kernel
theorem dX11_publicIn_43 : decode cX11_publicIn 43 = .ok (.imul, 1) := by decide +kernel
theorem dX11_publicIn_44 : decode cX11_publicIn 44 = .ok (.iload 4, 2) := by decide +kernel
theorem dX11_publicIn_46 : decode cX11_publicIn 46 = .ok (.iadd, 1) := by decide +kernel
theorem dX11_publicIn_47 : decode cX11_publicIn 47 = .ok (.ireturn, 1) := by decide +kernel
theorem dX11_publicIn_54 : decode cX11_publicIn 54 = .ok (.iconst (-1), 1) := by decide +kernel
theorem dX11_publicIn_55 : decode cX11_publicIn 55 = .ok (.ireturn, 1) := by decide +kernel
theorem dX11_publicOf_0 : decode cX11_publicOf 0 = .ok (.iconst 0, 1) := by decide +kernel
theorem dX11_publicOf_1 : decode cX11_publicOf 1 = .ok (.istore_n 3, 1) := by decide +kernel
theorem dX11_publicOf_2 : decode cX11_publicOf 2 = .ok (.iload_n 3, 1) := by decide +kernel
theorem dX11_publicOf_3 : decode cX11_publicOf 3 = .ok (.iconst 3, 1) := by decide +kernel
theorem dX11_publicOf_4 : decode cX11_publicOf 4 = .ok (.if_icmp .ge 25, 3) := by decide +kernel
theorem dX11_publicOf_29 : decode cX11_publicOf 29 = .ok (.iconst (-1), 1) := by decide +kernel
theorem dX11_publicOf_30 : decode cX11_publicOf 30 = .ok (.ireturn, 1) := by decide +kernel
theorem dX11_publicOf_7 : decode cX11_publicOf 7 = .ok (.aload_n 0, 1) := by decide +kernel
theorem dX11_publicOf_8 : decode cX11_publicOf 8 = .ok (.iload_n 3, 1) := by decide +kernel
theorem dX11_publicOf_9 : decode cX11_publicOf 9 = .ok (.lload_n 1, 1) := by decide +kernel
theorem dX11_publicOf_10 : decode cX11_publicOf 10 = .ok (.invokevirtual 477, 3) := by decide +kernel
theorem dX11_publicOf_13 : decode cX11_publicOf 13 = .ok (.istore 4, 2) := by decide +kernel
theorem dX11_publicOf_15 : decode cX11_publicOf 15 = .ok (.iload 4, 2) := by decide +kernel
theorem dX11_publicOf_17 : decode cX11_publicOf 17 = .ok (.ifCond .lt 6, 3) := by decide +kernel
theorem dX11_publicOf_23 : decode cX11_publicOf 23 = .ok (.iinc 3 1, 3) := by decide +kernel
theorem dX11_publicOf_26 : decode cX11_publicOf 26 = .ok (.goto (-24), 3) := by decide +kernel
theorem dX11_publicOf_20 : decode cX11_publicOf 20 = .ok (.iload 4, 2) := by decide +kernel
theorem dX11_publicOf_22 : decode cX11_publicOf 22 = .ok (.ireturn, 1) := by decide +kernel
theorem dX11_twice_0 : decode cX11_twice 0 = .ok (.iconst 1, 1) := by decide +kernel
theorem dX11_twice_1 : decode cX11_twice 1 = .ok (.istore_n 1, 1) := by decide +kernel
theorem dX11_twice_2 : decode cX11_twice 2 = .ok (.iload_n 1, 1) := by decide +kernel
theorem dX11_twice_3 : decode cX11_twice 3 = .ok (.iconst 3, 1) := by decide +kernel
theorem dX11_twice_4 : decode cX11_twice 4 = .ok (.if_icmp .ge 70, 3) := by decide +kernel
theorem dX11_twice_74 : decode cX11_twice 74 = .ok (.iconst (-1), 1) := by decide +kernel
theorem dX11_twice_75 : decode cX11_twice 75 = .ok (.ireturn, 1) := by decide +kernel
theorem dX11_twice_7 : decode cX11_twice 7 = .ok (.iconst 0, 1) := by decide +kernel
theorem dX11_twice_8 : decode cX11_twice 8 = .ok (.istore_n 2, 1) := by decide +kernel
theorem dX11_twice_9 : decode cX11_twice 9 = .ok (.iload_n 2, 1) := by decide +kernel
theorem dX11_twice_10 : decode cX11_twice 10 = .ok (.aload_n 0, 1) := by decide +kernel
theorem dX11_twice_11 : decode cX11_twice 11 = .ok (.getfield 214, 3) := by decide +kernel
theorem dX11_twice_14 : decode cX11_twice 14 = .ok (.iload_n 1, 1) := by decide +kernel
theorem dX11_twice_15 : decode cX11_twice 15 = .ok (.iaload, 1) := by decide +kernel
theorem dX11_twice_16 : decode cX11_twice 16 = .ok (.if_icmp .ge 52, 3) := by decide +kernel
theorem dX11_twice_19 : decode cX11_twice 19 = .ok (.aload_n 0, 1) := by decide +kernel
theorem dX11_twice_20 : decode cX11_twice 20 = .ok (.getfield 175, 3) := by decide +kernel
theorem dX11_twice_23 : decode cX11_twice 23 = .ok (.iload_n 1, 1) := by decide +kernel
theorem dX11_twice_24 : decode cX11_twice 24 = .ok (.baload, 1) := by decide +kernel
theorem dX11_twice_25 : decode cX11_twice 25 = .ok (.ifCond .eq 43, 3) := by decide +kernel
theorem dX11_twice_28 : decode cX11_twice 28 = .ok (.iconst 0, 1) := by decide +kernel
theorem dX11_twice_29 : decode cX11_twice 29 = .ok (.istore_n 3, 1) := by decide +kernel
theorem dX11_twice_68 : decode cX11_twice 68 = .ok (.iinc 1 1, 3) := by decide +kernel
theorem dX11_twice_71 : decode cX11_twice 71 = .ok (.goto (-69), 3) := by decide +kernel
theorem dX11_twice_30 : decode cX11_twice 30 = .ok (.iload_n 3, 1) := by decide +kernel
theorem dX11_twice_31 : decode cX11_twice 31 = .ok (.iload_n 1, 1) := by decide +kernel
theorem dX11_twice_32 : decode cX11_twice 32 = .ok (.if_icmp .ge 30, 3) := by decide +kernel
theorem dX11_twice_62 : decode cX11_twice 62 = .ok (.iinc 2 1, 3) := by decide +kernel
theorem dX11_twice_65 : decode cX11_twice 65 = .ok (.goto (-56), 3) := by decide +kernel
theorem dX11_twice_35 : decode cX11_twice 35 = .ok (.aload_n 0, 1) := by decide +kernel
theorem dX11_twice_36 : decode cX11_twice 36 = .ok (.iload_n 3, 1) := by decide +kernel
theorem dX11_twice_37 : decode cX11_twice 37 = .ok (.aload_n 0, 1) := by decide +kernel
theorem dX11_twice_38 : decode cX11_twice 38 = .ok (.getfield 217, 3) := by decide +kernel
theorem dX11_twice_41 : decode cX11_twice 41 = .ok (.bipush 80, 2) := by decide +kernel
theorem dX11_twice_43 : decode cX11_twice 43 = .ok (.iload_n 1, 1) := by decide +kernel
theorem dX11_twice_44 : decode cX11_twice 44 = .ok (.imul, 1) := by decide +kernel
theorem dX11_twice_45 : decode cX11_twice 45 = .ok (.iload_n 2, 1) := by decide +kernel
theorem dX11_twice_46 : decode cX11_twice 46 = .ok (.iadd, 1) := by decide +kernel
theorem dX11_twice_47 : decode cX11_twice 47 = .ok (.laload, 1) := by decide +kernel
theorem dX11_twice_48 : decode cX11_twice 48 = .ok (.invokevirtual 477, 3) := by decide +kernel
theorem dX11_twice_51 : decode cX11_twice 51 = .ok (.ifCond .lt 5, 3) := by decide +kernel
theorem dX11_twice_56 : decode cX11_twice 56 = .ok (.iinc 3 1, 3) := by decide +kernel
theorem dX11_twice_59 : decode cX11_twice 59 = .ok (.goto (-29), 3) := by decide +kernel
theorem dX11_twice_54 : decode cX11_twice 54 = .ok (.iload_n 1, 1) := by decide +kernel
theorem dX11_twice_55 : decode cX11_twice 55 = .ok (.ireturn, 1) := by decide +kernel
theorem dX11_missing_0 : decode cX11_missing 0 = .ok (.iconst 0, 1) := by decide +kernel
theorem dX11_missing_1 : decode cX11_missing 1 = .ok (.istore_n 1, 1) := by decide +kernel
theorem dX11_missing_2 : decode cX11_missing 2 = .ok (.iload_n 1, 1) := by decide +kernel
theorem dX11_missing_3 : decode cX11_missing 3 = .ok (.iconst 3, 1) := by decide +kernel
theorem dX11_missing_4 : decode cX11_missing 4 = .ok (.if_icmp .ge 72, 3) := by decide +kernel
theorem dX11_missing_76 : decode cX11_missing 76 = .ok (.iconst (-1), 1) := by decide +kernel
theorem dX11_missing_77 : decode cX11_missing 77 = .ok (.ireturn, 1) := by decide +kernel
theorem dX11_missing_7 : decode cX11_missing 7 = .ok (.iconst 0, 1) := by decide +kernel
theorem dX11_missing_8 : decode cX11_missing 8 = .ok (.istore_n 2, 1) := by decide +kernel
theorem dX11_missing_9 : decode cX11_missing 9 = .ok (.iload_n 2, 1) := by decide +kernel
theorem dX11_missing_10 : decode cX11_missing 10 = .ok (.aload_n 0, 1) := by decide +kernel
theorem dX11_missing_11 : decode cX11_missing 11 = .ok (.getfield 196, 3) := by decide +kernel
theorem dX11_missing_14 : decode cX11_missing 14 = .ok (.iload_n 1, 1) := by decide +kernel
theorem dX11_missing_15 : decode cX11_missing 15 = .ok (.iaload, 1) := by decide +kernel
theorem dX11_missing_16 : decode cX11_missing 16 = .ok (.if_icmp .ge 54, 3) := by decide +kernel
theorem dX11_missing_19 : decode cX11_missing 19 = .ok (.aload_n 0, 1) := by decide +kernel
theorem dX11_missing_20 : decode cX11_missing 20 = .ok (.getfield 175, 3) := by decide +kernel
theorem dX11_missing_23 : decode cX11_missing 23 = .ok (.iload_n 1, 1) := by decide +kernel
theorem dX11_missing_24 : decode cX11_missing 24 = .ok (.baload, 1) := by decide +kernel
theorem dX11_missing_25 : decode cX11_missing 25 = .ok (.ifCond .eq 45, 3) := by decide +kernel
theorem dX11_missing_28 : decode cX11_missing 28 = .ok (.aload_n 0, 1) := by decide +kernel
theorem dX11_missing_29 : decode cX11_missing 29 = .ok (.getfield 208, 3) := by decide +kernel
theorem dX11_missing_32 : decode cX11_missing 32 = .ok (.sipush 200, 3) := by decide +kernel
theorem dX11_missing_35 : decode cX11_missing 35 = .ok (.iload_n 1, 1) := by decide +kernel
theorem dX11_missing_36 : decode cX11_missing 36 = .ok (.imul, 1) := by decide +kernel
theorem dX11_missing_37 : decode cX11_missing 37 = .ok (.iload_n 2, 1) := by decide +kernel
theorem dX11_missing_38 : decode cX11_missing 38 = .ok (.iadd, 1) := by decide +kernel
theorem dX11_missing_39 : decode cX11_missing 39 = .ok (.iaload, 1) := by decide +kernel
theorem dX11_missing_40 : decode cX11_missing 40 = .ok (.ifCond .ge 24, 3) := by decide +kernel
theorem dX11_missing_43 : decode cX11_missing 43 = .ok (.aload_n 0, 1) := by decide +kernel
theorem dX11_missing_44 : decode cX11_missing 44 = .ok (.aload_n 0, 1) := by decide +kernel
theorem dX11_missing_45 : decode cX11_missing 45 = .ok (.getfield 211, 3) := by decide +kernel
theorem dX11_missing_48 : decode cX11_missing 48 = .ok (.sipush 200, 3) := by decide +kernel
theorem dX11_missing_51 : decode cX11_missing 51 = .ok (.iload_n 1, 1) := by decide +kernel
theorem dX11_missing_52 : decode cX11_missing 52 = .ok (.imul, 1) := by decide +kernel
theorem dX11_missing_53 : decode cX11_missing 53 = .ok (.iload_n 2, 1) := by decide +kernel
theorem dX11_missing_54 : decode cX11_missing 54 = .ok (.iadd, 1) := by decide +kernel
theorem dX11_missing_55 : decode cX11_missing 55 = .ok (.laload, 1) := by decide +kernel
theorem dX11_missing_56 : decode cX11_missing 56 = .ok (.invokevirtual 481, 3) := by decide +kernel
theorem dX11_missing_59 : decode cX11_missing 59 = .ok (.ifCond .ge 5, 3) := by decide +kernel
theorem dX11_missing_62 : decode cX11_missing 62 = .ok (.iload_n 1, 1) := by decide +kernel
theorem dX11_missing_63 : decode cX11_missing 63 = .ok (.ireturn, 1) := by decide +kernel
theorem dX11_missing_70 : decode cX11_missing 70 = .ok (.iinc 1 1, 3) := by decide +kernel
theorem dX11_missing_73 : decode cX11_missing 73 = .ok (.goto (-71), 3) := by decide +kernel
theorem dX11_missing_64 : decode cX11_missing 64 = .ok (.iinc 2 1, 3) := by decide +kernel
theorem dX11_missing_67 : decode cX11_missing 67 = .ok (.goto (-58), 3) := by decide +kernel
theorem dX11_combine_0 : decode cX11_combine 0 = .ok (.aload_n 0, 1) := by decide +kernel
theorem dX11_combine_1 : decode cX11_combine 1 = .ok (.iconst 0, 1) := by decide +kernel
theorem dX11_combine_2 : decode cX11_combine 2 = .ok (.putfield 485, 3) := by decide +kernel
theorem dX11_combine_5 : decode cX11_combine 5 = .ok (.iconst 0, 1) := by decide +kernel
theorem dX11_combine_6 : decode cX11_combine 6 = .ok (.istore_n 1, 1) := by decide +kernel
theorem dX11_combine_7 : decode cX11_combine 7 = .ok (.iload_n 1, 1) := by decide +kernel
theorem dX11_combine_8 : decode cX11_combine 8 = .ok (.iconst 3, 1) := by decide +kernel
theorem dX11_combine_9 : decode cX11_combine 9 = .ok (.if_icmp .ge 182, 3) := by decide +kernel
theorem dX11_combine_191 : decode cX11_combine 191 = .ok (.iconst 0, 1) := by decide +kernel
theorem dX11_combine_192 : decode cX11_combine 192 = .ok (.istore_n 1, 1) := by decide +kernel
theorem dX11_combine_193 : decode cX11_combine 193 = .ok (.iconst 0, 1) := by decide +kernel
theorem dX11_combine_194 : decode cX11_combine 194 = .ok (.istore_n 2, 1) := by decide +kernel
theorem dX11_combine_12 : decode cX11_combine 12 = .ok (.iconst 0, 1) := by decide +kernel
theorem dX11_combine_13 : decode cX11_combine 13 = .ok (.istore_n 2, 1) := by decide +kernel
theorem dX11_combine_195 : decode cX11_combine 195 = .ok (.iload_n 2, 1) := by decide +kernel
theorem dX11_combine_196 : decode cX11_combine 196 = .ok (.aload_n 0, 1) := by decide +kernel
theorem dX11_combine_197 : decode cX11_combine 197 = .ok (.getfield 485, 3) := by decide +kernel
theorem dX11_combine_200 : decode cX11_combine 200 = .ok (.if_icmp .ge 39, 3) := by decide +kernel
theorem dX11_combine_239 : decode cX11_combine 239 = .ok (.aload_n 0, 1) := by decide +kernel
theorem dX11_combine_240 : decode cX11_combine 240 = .ok (.getfield 232, 3) := by decide +kernel
theorem dX11_combine_243 : decode cX11_combine 243 = .ok (.iconst 0, 1) := by decide +kernel
theorem dX11_combine_244 : decode cX11_combine 244 = .ok (.iload_n 1, 1) := by decide +kernel
theorem dX11_combine_245 : decode cX11_combine 245 = .ok (.iastore, 1) := by decide +kernel
theorem dX11_combine_246 : decode cX11_combine 246 = .ok (.return_, 1) := by decide +kernel
theorem dX11_combine_203 : decode cX11_combine 203 = .ok (.aload_n 0, 1) := by decide +kernel
theorem dX11_combine_204 : decode cX11_combine 204 = .ok (.getfield 241, 3) := by decide +kernel
theorem dX11_combine_207 : decode cX11_combine 207 = .ok (.iload_n 2, 1) := by decide +kernel
theorem dX11_combine_208 : decode cX11_combine 208 = .ok (.iload_n 1, 1) := by decide +kernel
theorem dX11_combine_209 : decode cX11_combine 209 = .ok (.bipush 15, 2) := by decide +kernel
theorem dX11_combine_211 : decode cX11_combine 211 = .ok (.iadd, 1) := by decide +kernel
theorem dX11_combine_212 : decode cX11_combine 212 = .ok (.bipush 16, 2) := by decide +kernel
theorem dX11_combine_214 : decode cX11_combine 214 = .ok (.idiv, 1) := by decide +kernel
theorem dX11_combine_215 : decode cX11_combine 215 = .ok (.bipush 16, 2) := by decide +kernel
theorem dX11_combine_217 : decode cX11_combine 217 = .ok (.imul, 1) := by decide +kernel
theorem dX11_combine_218 : decode cX11_combine 218 = .ok (.iastore, 1) := by decide +kernel
theorem dX11_combine_219 : decode cX11_combine 219 = .ok (.aload_n 0, 1) := by decide +kernel
theorem dX11_combine_220 : decode cX11_combine 220 = .ok (.getfield 241, 3) := by decide +kernel
theorem dX11_combine_223 : decode cX11_combine 223 = .ok (.iload_n 2, 1) := by decide +kernel
theorem dX11_combine_224 : decode cX11_combine 224 = .ok (.iaload, 1) := by decide +kernel
theorem dX11_combine_225 : decode cX11_combine 225 = .ok (.aload_n 0, 1) := by decide +kernel
theorem dX11_combine_226 : decode cX11_combine 226 = .ok (.getfield 238, 3) := by decide +kernel
theorem dX11_combine_229 : decode cX11_combine 229 = .ok (.iload_n 2, 1) := by decide +kernel
theorem dX11_combine_230 : decode cX11_combine 230 = .ok (.iaload, 1) := by decide +kernel
theorem dX11_combine_231 : decode cX11_combine 231 = .ok (.iadd, 1) := by decide +kernel
theorem dX11_combine_232 : decode cX11_combine 232 = .ok (.istore_n 1, 1) := by decide +kernel
theorem dX11_combine_233 : decode cX11_combine 233 = .ok (.iinc 2 1, 3) := by decide +kernel
theorem dX11_combine_236 : decode cX11_combine 236 = .ok (.goto (-41), 3) := by decide +kernel
theorem dX11_combine_14 : decode cX11_combine 14 = .ok (.iload_n 2, 1) := by decide +kernel
theorem dX11_combine_15 : decode cX11_combine 15 = .ok (.aload_n 0, 1) := by decide +kernel
theorem dX11_combine_16 : decode cX11_combine 16 = .ok (.getfield 178, 3) := by decide +kernel
theorem dX11_combine_19 : decode cX11_combine 19 = .ok (.iload_n 1, 1) := by decide +kernel
theorem dX11_combine_20 : decode cX11_combine 20 = .ok (.iaload, 1) := by decide +kernel
theorem dX11_combine_21 : decode cX11_combine 21 = .ok (.if_icmp .ge 164, 3) := by decide +kernel
theorem dX11_combine_24 : decode cX11_combine 24 = .ok (.aload_n 0, 1) := by decide +kernel
theorem dX11_combine_25 : decode cX11_combine 25 = .ok (.getfield 175, 3) := by decide +kernel
theorem dX11_combine_28 : decode cX11_combine 28 = .ok (.iload_n 1, 1) := by decide +kernel
theorem dX11_combine_29 : decode cX11_combine 29 = .ok (.baload, 1) := by decide +kernel
theorem dX11_combine_30 : decode cX11_combine 30 = .ok (.ifCond .eq 155, 3) := by decide +kernel
theorem dX11_combine_33 : decode cX11_combine 33 = .ok (.bipush 24, 2) := by decide +kernel
theorem dX11_combine_35 : decode cX11_combine 35 = .ok (.iload_n 1, 1) := by decide +kernel
theorem dX11_combine_36 : decode cX11_combine 36 = .ok (.imul, 1) := by decide +kernel
theorem dX11_combine_37 : decode cX11_combine 37 = .ok (.iload_n 2, 1) := by decide +kernel
theorem dX11_combine_38 : decode cX11_combine 38 = .ok (.iadd, 1) := by decide +kernel
theorem dX11_combine_39 : decode cX11_combine 39 = .ok (.istore_n 3, 1) := by decide +kernel
theorem dX11_combine_40 : decode cX11_combine 40 = .ok (.iconst 0, 1) := by decide +kernel
theorem dX11_combine_41 : decode cX11_combine 41 = .ok (.istore 4, 2) := by decide +kernel
theorem dX11_combine_185 : decode cX11_combine 185 = .ok (.iinc 1 1, 3) := by decide +kernel
theorem dX11_combine_188 : decode cX11_combine 188 = .ok (.goto (-181), 3) := by decide +kernel
theorem dX11_combine_43 : decode cX11_combine 43 = .ok (.iload 4, 2) := by decide +kernel
theorem dX11_combine_45 : decode cX11_combine 45 = .ok (.aload_n 0, 1) := by decide +kernel
theorem dX11_combine_46 : decode cX11_combine 46 = .ok (.getfield 485, 3) := by decide +kernel
theorem dX11_combine_49 : decode cX11_combine 49 = .ok (.if_icmp .ge 26, 3) := by decide +kernel
theorem dX11_combine_52 : decode cX11_combine 52 = .ok (.aload_n 0, 1) := by decide +kernel
theorem dX11_combine_53 : decode cX11_combine 53 = .ok (.getfield 235, 3) := by decide +kernel
theorem dX11_combine_56 : decode cX11_combine 56 = .ok (.iload 4, 2) := by decide +kernel
theorem dX11_combine_58 : decode cX11_combine 58 = .ok (.laload, 1) := by decide +kernel
theorem dX11_combine_59 : decode cX11_combine 59 = .ok (.aload_n 0, 1) := by decide +kernel
theorem dX11_combine_60 : decode cX11_combine 60 = .ok (.getfield 181, 3) := by decide +kernel
theorem dX11_combine_63 : decode cX11_combine 63 = .ok (.iload_n 3, 1) := by decide +kernel
theorem dX11_combine_64 : decode cX11_combine 64 = .ok (.laload, 1) := by decide +kernel
theorem dX11_combine_65 : decode cX11_combine 65 = .ok (.lcmp, 1) := by decide +kernel
theorem dX11_combine_66 : decode cX11_combine 66 = .ok (.ifCond .eq 9, 3) := by decide +kernel
theorem dX11_combine_69 : decode cX11_combine 69 = .ok (.iinc 4 1, 3) := by decide +kernel
theorem dX11_combine_72 : decode cX11_combine 72 = .ok (.goto (-29), 3) := by decide +kernel
theorem dX11_combine_75 : decode cX11_combine 75 = .ok (.iload 4, 2) := by decide +kernel
theorem dX11_combine_77 : decode cX11_combine 77 = .ok (.aload_n 0, 1) := by decide +kernel
theorem dX11_combine_78 : decode cX11_combine 78 = .ok (.getfield 485, 3) := by decide +kernel
theorem dX11_combine_81 : decode cX11_combine 81 = .ok (.if_icmp .ne 34, 3) := by decide +kernel
theorem dX11_combine_84 : decode cX11_combine 84 = .ok (.aload_n 0, 1) := by decide +kernel
theorem dX11_combine_85 : decode cX11_combine 85 = .ok (.getfield 235, 3) := by decide +kernel
theorem dX11_combine_88 : decode cX11_combine 88 = .ok (.iload 4, 2) := by decide +kernel
theorem dX11_combine_90 : decode cX11_combine 90 = .ok (.aload_n 0, 1) := by decide +kernel
theorem dX11_combine_91 : decode cX11_combine 91 = .ok (.getfield 181, 3) := by decide +kernel
theorem dX11_combine_94 : decode cX11_combine 94 = .ok (.iload_n 3, 1) := by decide +kernel
theorem dX11_combine_95 : decode cX11_combine 95 = .ok (.laload, 1) := by decide +kernel
theorem dX11_combine_96 : decode cX11_combine 96 = .ok (.lastore, 1) := by decide +kernel
theorem dX11_combine_97 : decode cX11_combine 97 = .ok (.aload_n 0, 1) := by decide +kernel
theorem dX11_combine_98 : decode cX11_combine 98 = .ok (.getfield 238, 3) := by decide +kernel
theorem dX11_combine_101 : decode cX11_combine 101 = .ok (.iload 4, 2) := by decide +kernel
theorem dX11_combine_103 : decode cX11_combine 103 = .ok (.iconst 0, 1) := by decide +kernel
theorem dX11_combine_104 : decode cX11_combine 104 = .ok (.iastore, 1) := by decide +kernel
theorem dX11_combine_105 : decode cX11_combine 105 = .ok (.aload_n 0, 1) := by decide +kernel
theorem dX11_combine_106 : decode cX11_combine 106 = .ok (.dup, 1) := by decide +kernel
theorem dX11_combine_107 : decode cX11_combine 107 = .ok (.getfield 485, 3) := by decide +kernel
theorem dX11_combine_110 : decode cX11_combine 110 = .ok (.iconst 1, 1) := by decide +kernel
theorem dX11_combine_111 : decode cX11_combine 111 = .ok (.iadd, 1) := by decide +kernel
theorem dX11_combine_112 : decode cX11_combine 112 = .ok (.putfield 485, 3) := by decide +kernel
theorem dX11_combine_115 : decode cX11_combine 115 = .ok (.aload_n 0, 1) := by decide +kernel
theorem dX11_combine_116 : decode cX11_combine 116 = .ok (.getfield 244, 3) := by decide +kernel
theorem dX11_combine_119 : decode cX11_combine 119 = .ok (.iload_n 3, 1) := by decide +kernel
theorem dX11_combine_120 : decode cX11_combine 120 = .ok (.iload 4, 2) := by decide +kernel
theorem dX11_combine_122 : decode cX11_combine 122 = .ok (.iastore, 1) := by decide +kernel
theorem dX11_combine_123 : decode cX11_combine 123 = .ok (.aload_n 0, 1) := by decide +kernel
theorem dX11_combine_124 : decode cX11_combine 124 = .ok (.getfield 247, 3) := by decide +kernel
theorem dX11_combine_127 : decode cX11_combine 127 = .ok (.iload_n 3, 1) := by decide +kernel
theorem dX11_combine_128 : decode cX11_combine 128 = .ok (.aload_n 0, 1) := by decide +kernel
theorem dX11_combine_129 : decode cX11_combine 129 = .ok (.getfield 238, 3) := by decide +kernel
theorem dX11_combine_132 : decode cX11_combine 132 = .ok (.iload 4, 2) := by decide +kernel
theorem dX11_combine_134 : decode cX11_combine 134 = .ok (.iaload, 1) := by decide +kernel
theorem dX11_combine_135 : decode cX11_combine 135 = .ok (.aload_n 0, 1) := by decide +kernel
theorem dX11_combine_136 : decode cX11_combine 136 = .ok (.getfield 184, 3) := by decide +kernel
theorem dX11_combine_139 : decode cX11_combine 139 = .ok (.iload_n 3, 1) := by decide +kernel
theorem dX11_combine_140 : decode cX11_combine 140 = .ok (.iaload, 1) := by decide +kernel
theorem dX11_combine_141 : decode cX11_combine 141 = .ok (.iadd, 1) := by decide +kernel
theorem dX11_combine_142 : decode cX11_combine 142 = .ok (.iconst 1, 1) := by decide +kernel
theorem dX11_combine_143 : decode cX11_combine 143 = .ok (.isub, 1) := by decide +kernel
theorem dX11_combine_144 : decode cX11_combine 144 = .ok (.aload_n 0, 1) := by decide +kernel
theorem dX11_combine_145 : decode cX11_combine 145 = .ok (.getfield 184, 3) := by decide +kernel
theorem dX11_combine_148 : decode cX11_combine 148 = .ok (.iload_n 3, 1) := by decide +kernel
theorem dX11_combine_149 : decode cX11_combine 149 = .ok (.iaload, 1) := by decide +kernel
theorem dX11_combine_150 : decode cX11_combine 150 = .ok (.idiv, 1) := by decide +kernel
theorem dX11_combine_151 : decode cX11_combine 151 = .ok (.aload_n 0, 1) := by decide +kernel
theorem dX11_combine_152 : decode cX11_combine 152 = .ok (.getfield 184, 3) := by decide +kernel
theorem dX11_combine_155 : decode cX11_combine 155 = .ok (.iload_n 3, 1) := by decide +kernel
theorem dX11_combine_156 : decode cX11_combine 156 = .ok (.iaload, 1) := by decide +kernel
theorem dX11_combine_157 : decode cX11_combine 157 = .ok (.imul, 1) := by decide +kernel
theorem dX11_combine_158 : decode cX11_combine 158 = .ok (.iastore, 1) := by decide +kernel
theorem dX11_combine_159 : decode cX11_combine 159 = .ok (.aload_n 0, 1) := by decide +kernel
theorem dX11_combine_160 : decode cX11_combine 160 = .ok (.getfield 238, 3) := by decide +kernel
theorem dX11_combine_163 : decode cX11_combine 163 = .ok (.iload 4, 2) := by decide +kernel
theorem dX11_combine_165 : decode cX11_combine 165 = .ok (.aload_n 0, 1) := by decide +kernel
theorem dX11_combine_166 : decode cX11_combine 166 = .ok (.getfield 247, 3) := by decide +kernel
theorem dX11_combine_169 : decode cX11_combine 169 = .ok (.iload_n 3, 1) := by decide +kernel
theorem dX11_combine_170 : decode cX11_combine 170 = .ok (.iaload, 1) := by decide +kernel
theorem dX11_combine_171 : decode cX11_combine 171 = .ok (.aload_n 0, 1) := by decide +kernel
theorem dX11_combine_172 : decode cX11_combine 172 = .ok (.getfield 190, 3) := by decide +kernel
theorem dX11_combine_175 : decode cX11_combine 175 = .ok (.iload_n 3, 1) := by decide +kernel
theorem dX11_combine_176 : decode cX11_combine 176 = .ok (.iaload, 1) := by decide +kernel
theorem dX11_combine_177 : decode cX11_combine 177 = .ok (.iadd, 1) := by decide +kernel
theorem dX11_combine_178 : decode cX11_combine 178 = .ok (.iastore, 1) := by decide +kernel
theorem dX11_combine_179 : decode cX11_combine 179 = .ok (.iinc 2 1, 3) := by decide +kernel
theorem dX11_combine_182 : decode cX11_combine 182 = .ok (.goto (-168), 3) := by decide +kernel
theorem dX11_aboutSegment_0 : decode cX11_aboutSegment 0 = .ok (.aload_n 0, 1) := by decide +kernel
theorem dX11_aboutSegment_1 : decode cX11_aboutSegment 1 = .ok (.getfield 208, 3) := by decide +kernel
theorem dX11_aboutSegment_4 : decode cX11_aboutSegment 4 = .ok (.iload_n 2, 1) := by decide +kernel
theorem dX11_aboutSegment_5 : decode cX11_aboutSegment 5 = .ok (.iaload, 1) := by decide +kernel
theorem dX11_aboutSegment_6 : decode cX11_aboutSegment 6 = .ok (.ifCond .lt 20, 3) := by decide +kernel
theorem dX11_aboutSegment_26 : decode cX11_aboutSegment 26 = .ok (.aload_n 0, 1) := by decide +kernel
theorem dX11_aboutSegment_27 : decode cX11_aboutSegment 27 = .ok (.aload_n 0, 1) := by decide +kernel
theorem dX11_aboutSegment_28 : decode cX11_aboutSegment 28 = .ok (.getfield 211, 3) := by decide +kernel
theorem dX11_aboutSegment_31 : decode cX11_aboutSegment 31 = .ok (.iload_n 2, 1) := by decide +kernel
theorem dX11_aboutSegment_32 : decode cX11_aboutSegment 32 = .ok (.laload, 1) := by decide +kernel
theorem dX11_aboutSegment_33 : decode cX11_aboutSegment 33 = .ok (.invokevirtual 481, 3) := by decide +kernel
theorem dX11_aboutSegment_36 : decode cX11_aboutSegment 36 = .ok (.istore_n 3, 1) := by decide +kernel
theorem dX11_aboutSegment_37 : decode cX11_aboutSegment 37 = .ok (.aload_n 0, 1) := by decide +kernel
theorem dX11_aboutSegment_38 : decode cX11_aboutSegment 38 = .ok (.getfield 244, 3) := by decide +kernel
theorem dX11_aboutSegment_41 : decode cX11_aboutSegment 41 = .ok (.bipush 24, 2) := by decide +kernel
theorem dX11_aboutSegment_43 : decode cX11_aboutSegment 43 = .ok (.iload_n 3, 1) := by decide +kernel
theorem dX11_aboutSegment_44 : decode cX11_aboutSegment 44 = .ok (.bipush 80, 2) := by decide +kernel
theorem dX11_aboutSegment_46 : decode cX11_aboutSegment 46 = .ok (.idiv, 1) := by decide +kernel
theorem dX11_aboutSegment_47 : decode cX11_aboutSegment 47 = .ok (.imul, 1) := by decide +kernel
theorem dX11_aboutSegment_48 : decode cX11_aboutSegment 48 = .ok (.aload_n 0, 1) := by decide +kernel
theorem dX11_aboutSegment_49 : decode cX11_aboutSegment 49 = .ok (.getfield 220, 3) := by decide +kernel
theorem dX11_aboutSegment_52 : decode cX11_aboutSegment 52 = .ok (.iload_n 3, 1) := by decide +kernel
theorem dX11_aboutSegment_53 : decode cX11_aboutSegment 53 = .ok (.iaload, 1) := by decide +kernel
theorem dX11_aboutSegment_54 : decode cX11_aboutSegment 54 = .ok (.iadd, 1) := by decide +kernel
theorem dX11_aboutSegment_55 : decode cX11_aboutSegment 55 = .ok (.iaload, 1) := by decide +kernel
theorem dX11_aboutSegment_56 : decode cX11_aboutSegment 56 = .ok (.ireturn, 1) := by decide +kernel
theorem dX11_aboutSegment_9 : decode cX11_aboutSegment 9 = .ok (.aload_n 0, 1) := by decide +kernel
theorem dX11_aboutSegment_10 : decode cX11_aboutSegment 10 = .ok (.getfield 244, 3) := by decide +kernel
theorem dX11_aboutSegment_13 : decode cX11_aboutSegment 13 = .ok (.bipush 24, 2) := by decide +kernel
theorem dX11_aboutSegment_15 : decode cX11_aboutSegment 15 = .ok (.iload_n 1, 1) := by decide +kernel
theorem dX11_aboutSegment_16 : decode cX11_aboutSegment 16 = .ok (.imul, 1) := by decide +kernel
theorem dX11_aboutSegment_17 : decode cX11_aboutSegment 17 = .ok (.aload_n 0, 1) := by decide +kernel
theorem dX11_aboutSegment_18 : decode cX11_aboutSegment 18 = .ok (.getfield 208, 3) := by decide +kernel
theorem dX11_aboutSegment_21 : decode cX11_aboutSegment 21 = .ok (.iload_n 2, 1) := by decide +kernel
theorem dX11_aboutSegment_22 : decode cX11_aboutSegment 22 = .ok (.iaload, 1) := by decide +kernel
theorem dX11_aboutSegment_23 : decode cX11_aboutSegment 23 = .ok (.iadd, 1) := by decide +kernel
theorem dX11_aboutSegment_24 : decode cX11_aboutSegment 24 = .ok (.iaload, 1) := by decide +kernel
theorem dX11_aboutSegment_25 : decode cX11_aboutSegment 25 = .ok (.ireturn, 1) := by decide +kernel
theorem dX11_aboutOffset_0 : decode cX11_aboutOffset 0 = .ok (.aload_n 0, 1) := by decide +kernel
theorem dX11_aboutOffset_1 : decode cX11_aboutOffset 1 = .ok (.getfield 208, 3) := by decide +kernel
theorem dX11_aboutOffset_4 : decode cX11_aboutOffset 4 = .ok (.iload_n 2, 1) := by decide +kernel
theorem dX11_aboutOffset_5 : decode cX11_aboutOffset 5 = .ok (.iaload, 1) := by decide +kernel
theorem dX11_aboutOffset_6 : decode cX11_aboutOffset 6 = .ok (.ifCond .lt 20, 3) := by decide +kernel
theorem dX11_aboutOffset_26 : decode cX11_aboutOffset 26 = .ok (.aload_n 0, 1) := by decide +kernel
theorem dX11_aboutOffset_27 : decode cX11_aboutOffset 27 = .ok (.aload_n 0, 1) := by decide +kernel
theorem dX11_aboutOffset_28 : decode cX11_aboutOffset 28 = .ok (.getfield 211, 3) := by decide +kernel
theorem dX11_aboutOffset_31 : decode cX11_aboutOffset 31 = .ok (.iload_n 2, 1) := by decide +kernel
theorem dX11_aboutOffset_32 : decode cX11_aboutOffset 32 = .ok (.laload, 1) := by decide +kernel
theorem dX11_aboutOffset_33 : decode cX11_aboutOffset 33 = .ok (.invokevirtual 481, 3) := by decide +kernel
theorem dX11_aboutOffset_36 : decode cX11_aboutOffset 36 = .ok (.istore_n 3, 1) := by decide +kernel
theorem dX11_aboutOffset_37 : decode cX11_aboutOffset 37 = .ok (.aload_n 0, 1) := by decide +kernel
theorem dX11_aboutOffset_38 : decode cX11_aboutOffset 38 = .ok (.getfield 247, 3) := by decide +kernel
theorem dX11_aboutOffset_41 : decode cX11_aboutOffset 41 = .ok (.bipush 24, 2) := by decide +kernel
theorem dX11_aboutOffset_43 : decode cX11_aboutOffset 43 = .ok (.iload_n 3, 1) := by decide +kernel
theorem dX11_aboutOffset_44 : decode cX11_aboutOffset 44 = .ok (.bipush 80, 2) := by decide +kernel
theorem dX11_aboutOffset_46 : decode cX11_aboutOffset 46 = .ok (.idiv, 1) := by decide +kernel
theorem dX11_aboutOffset_47 : decode cX11_aboutOffset 47 = .ok (.imul, 1) := by decide +kernel
theorem dX11_aboutOffset_48 : decode cX11_aboutOffset 48 = .ok (.aload_n 0, 1) := by decide +kernel
theorem dX11_aboutOffset_49 : decode cX11_aboutOffset 49 = .ok (.getfield 220, 3) := by decide +kernel
theorem dX11_aboutOffset_52 : decode cX11_aboutOffset 52 = .ok (.iload_n 3, 1) := by decide +kernel
theorem dX11_aboutOffset_53 : decode cX11_aboutOffset 53 = .ok (.iaload, 1) := by decide +kernel
theorem dX11_aboutOffset_54 : decode cX11_aboutOffset 54 = .ok (.iadd, 1) := by decide +kernel
theorem dX11_aboutOffset_55 : decode cX11_aboutOffset 55 = .ok (.iaload, 1) := by decide +kernel
theorem dX11_aboutOffset_56 : decode cX11_aboutOffset 56 = .ok (.aload_n 0, 1) := by decide +kernel
theorem dX11_aboutOffset_57 : decode cX11_aboutOffset 57 = .ok (.getfield 223, 3) := by decide +kernel
theorem dX11_aboutOffset_60 : decode cX11_aboutOffset 60 = .ok (.iload_n 3, 1) := by decide +kernel
theorem dX11_aboutOffset_61 : decode cX11_aboutOffset 61 = .ok (.iaload, 1) := by decide +kernel
theorem dX11_aboutOffset_62 : decode cX11_aboutOffset 62 = .ok (.iadd, 1) := by decide +kernel
theorem dX11_aboutOffset_63 : decode cX11_aboutOffset 63 = .ok (.ireturn, 1) := by decide +kernel
theorem dX11_aboutOffset_9 : decode cX11_aboutOffset 9 = .ok (.aload_n 0, 1) := by decide +kernel
theorem dX11_aboutOffset_10 : decode cX11_aboutOffset 10 = .ok (.getfield 247, 3) := by decide +kernel
theorem dX11_aboutOffset_13 : decode cX11_aboutOffset 13 = .ok (.bipush 24, 2) := by decide +kernel
theorem dX11_aboutOffset_15 : decode cX11_aboutOffset 15 = .ok (.iload_n 1, 1) := by decide +kernel
theorem dX11_aboutOffset_16 : decode cX11_aboutOffset 16 = .ok (.imul, 1) := by decide +kernel
theorem dX11_aboutOffset_17 : decode cX11_aboutOffset 17 = .ok (.aload_n 0, 1) := by decide +kernel
theorem dX11_aboutOffset_18 : decode cX11_aboutOffset 18 = .ok (.getfield 208, 3) := by decide +kernel
theorem dX11_aboutOffset_21 : decode cX11_aboutOffset 21 = .ok (.iload_n 2, 1) := by decide +kernel
theorem dX11_aboutOffset_22 : decode cX11_aboutOffset 22 = .ok (.iaload, 1) := by decide +kernel
theorem dX11_aboutOffset_23 : decode cX11_aboutOffset 23 = .ok (.iadd, 1) := by decide +kernel
theorem dX11_aboutOffset_24 : decode cX11_aboutOffset 24 = .ok (.iaload, 1) := by decide +kernel
theorem dX11_aboutOffset_25 : decode cX11_aboutOffset 25 = .ok (.ireturn, 1) := by decide +kernel
theorem dX11_far_0 : decode cX11_far 0 = .ok (.iconst 0, 1) := by decide +kernel
theorem dX11_far_1 : decode cX11_far 1 = .ok (.istore_n 1, 1) := by decide +kernel
theorem dX11_far_2 : decode cX11_far 2 = .ok (.iload_n 1, 1) := by decide +kernel
theorem dX11_far_3 : decode cX11_far 3 = .ok (.iconst 3, 1) := by decide +kernel
theorem dX11_far_4 : decode cX11_far 4 = .ok (.if_icmp .ge 81, 3) := by decide +kernel
theorem dX11_far_85 : decode cX11_far 85 = .ok (.iconst (-1), 1) := by decide +kernel
theorem dX11_far_86 : decode cX11_far 86 = .ok (.ireturn, 1) := by decide +kernel
theorem dX11_far_7 : decode cX11_far 7 = .ok (.iconst 0, 1) := by decide +kernel
theorem dX11_far_8 : decode cX11_far 8 = .ok (.istore_n 2, 1) := by decide +kernel
theorem dX11_far_9 : decode cX11_far 9 = .ok (.iload_n 2, 1) := by decide +kernel
theorem dX11_far_10 : decode cX11_far 10 = .ok (.aload_n 0, 1) := by decide +kernel
theorem dX11_far_11 : decode cX11_far 11 = .ok (.getfield 196, 3) := by decide +kernel
theorem dX11_far_14 : decode cX11_far 14 = .ok (.iload_n 1, 1) := by decide +kernel
theorem dX11_far_15 : decode cX11_far 15 = .ok (.iaload, 1) := by decide +kernel
theorem dX11_far_16 : decode cX11_far 16 = .ok (.if_icmp .ge 63, 3) := by decide +kernel
theorem dX11_far_19 : decode cX11_far 19 = .ok (.aload_n 0, 1) := by decide +kernel
theorem dX11_far_20 : decode cX11_far 20 = .ok (.getfield 175, 3) := by decide +kernel
theorem dX11_far_23 : decode cX11_far 23 = .ok (.iload_n 1, 1) := by decide +kernel
theorem dX11_far_24 : decode cX11_far 24 = .ok (.baload, 1) := by decide +kernel
theorem dX11_far_25 : decode cX11_far 25 = .ok (.ifCond .eq 54, 3) := by decide +kernel
theorem dX11_far_28 : decode cX11_far 28 = .ok (.sipush 200, 3) := by decide +kernel
theorem dX11_far_31 : decode cX11_far 31 = .ok (.iload_n 1, 1) := by decide +kernel
theorem dX11_far_32 : decode cX11_far 32 = .ok (.imul, 1) := by decide +kernel
theorem dX11_far_33 : decode cX11_far 33 = .ok (.iload_n 2, 1) := by decide +kernel
theorem dX11_far_34 : decode cX11_far 34 = .ok (.iadd, 1) := by decide +kernel
theorem dX11_far_35 : decode cX11_far 35 = .ok (.istore_n 3, 1) := by decide +kernel
theorem dX11_far_36 : decode cX11_far 36 = .ok (.aload_n 0, 1) := by decide +kernel
theorem dX11_far_37 : decode cX11_far 37 = .ok (.getfield 199, 3) := by decide +kernel
theorem dX11_far_40 : decode cX11_far 40 = .ok (.iload_n 3, 1) := by decide +kernel
theorem dX11_far_41 : decode cX11_far 41 = .ok (.iaload, 1) := by decide +kernel
theorem dX11_far_42 : decode cX11_far 42 = .ok (.iconst 2, 1) := by decide +kernel
theorem dX11_far_43 : decode cX11_far 43 = .ok (.if_icmp .ne 30, 3) := by decide +kernel
theorem dX11_far_46 : decode cX11_far 46 = .ok (.aload_n 0, 1) := by decide +kernel
theorem dX11_far_47 : decode cX11_far 47 = .ok (.iload_n 1, 1) := by decide +kernel
theorem dX11_far_48 : decode cX11_far 48 = .ok (.iload_n 3, 1) := by decide +kernel
theorem dX11_far_49 : decode cX11_far 49 = .ok (.invokevirtual 488, 3) := by decide +kernel
theorem dX11_far_52 : decode cX11_far 52 = .ok (.aload_n 0, 1) := by decide +kernel
theorem dX11_far_53 : decode cX11_far 53 = .ok (.getfield 244, 3) := by decide +kernel
theorem dX11_far_56 : decode cX11_far 56 = .ok (.bipush 24, 2) := by decide +kernel
theorem dX11_far_58 : decode cX11_far 58 = .ok (.iload_n 1, 1) := by decide +kernel
theorem dX11_far_59 : decode cX11_far 59 = .ok (.imul, 1) := by decide +kernel
theorem dX11_far_60 : decode cX11_far 60 = .ok (.aload_n 0, 1) := by decide +kernel
theorem dX11_far_61 : decode cX11_far 61 = .ok (.getfield 202, 3) := by decide +kernel
theorem dX11_far_64 : decode cX11_far 64 = .ok (.iload_n 3, 1) := by decide +kernel
theorem dX11_far_65 : decode cX11_far 65 = .ok (.iaload, 1) := by decide +kernel
theorem dX11_far_66 : decode cX11_far 66 = .ok (.iadd, 1) := by decide +kernel
theorem dX11_far_67 : decode cX11_far 67 = .ok (.iaload, 1) := by decide +kernel
theorem dX11_far_68 : decode cX11_far 68 = .ok (.if_icmp .eq 5, 3) := by decide +kernel
theorem dX11_far_71 : decode cX11_far 71 = .ok (.iload_n 1, 1) := by decide +kernel
theorem dX11_far_72 : decode cX11_far 72 = .ok (.ireturn, 1) := by decide +kernel
theorem dX11_far_79 : decode cX11_far 79 = .ok (.iinc 1 1, 3) := by decide +kernel
theorem dX11_far_82 : decode cX11_far 82 = .ok (.goto (-80), 3) := by decide +kernel
theorem dX11_far_73 : decode cX11_far 73 = .ok (.iinc 2 1, 3) := by decide +kernel
theorem dX11_far_76 : decode cX11_far 76 = .ok (.goto (-67), 3) := by decide +kernel
def wpX11_assemble_160 (K114 : Int → ZS → Prop) (v1 v3 v4 : Int) (σ : ZS) (Q : Int → ZS → Prop) : Prop := K114 (v4 + 1) σ
def wpbX11_assemble_114 (K114 : Int → ZS → Prop) (v1 v3 v4 : Int) (σ : ZS) (Q : Int → ZS → Prop) : Prop := (-2147483648 ≤ v4 ∧ v4 ≤ 2147483647) ∧ (-2147483648 ≤ (zI σ 0 31) ∧ (zI σ 0 31) ≤ 2147483647) ∧ ((zI σ 0 31) ≤ v4 → wpX11_write v1 σ (fun (σ5 : ZS) => Q v3 (zsI (zsI σ5 0 3 (-1)) 0 4 (-1)))) ∧ (¬ (zI σ 0 31) ≤ v4 → (0 ≤ v4 ∧ v4 < 1200) ∧ (-2147483648 ≤ (zA σ 0 24 v4) ∧ (zA σ 0 24 v4) ≤ 2147483647) ∧ (¬ (zA σ 0 24 v4) = 5 → wpX11_assemble_160 K114 v1 v3 v4 σ Q) ∧ ((zA σ 0 24 v4) = 5 → wpX11_distance v4 σ (fun (x9 : Int) (σ10 : ZS) => wpX11_isShort x9 σ10 (fun (x11 : Int) (σ12 : ZS) => (-2147483648 ≤ x11 ∧ x11 ≤ 2147483647) ∧ (¬ x11 = 0 → wpX11_assemble_160 K114 v1 v3 v4 σ12 Q) ∧ (x11 = 0 → wpX11_tell 3 (zA σ12 0 27 v4) 5 σ12 (fun (x15 : Int) (σ16 : ZS) => Q x15 σ16))))))
def wpX11_assemble_114 (v1 v3 v4 : Int) (σ : ZS) (Q : Int → ZS → Prop) : Prop := lfp1 (fun K114 v4 σ => wpbX11_assemble_114 K114 v1 v3 v4 σ Q) v4 σ
def wpbX11_assemble_71 (K71 : Int → Int → ZS → Prop) (v1 v3 v4 : Int) (σ : ZS) (Q : Int → ZS → Prop) : Prop := (-2147483648 ≤ v4 ∧ v4 ≤ 2147483647) ∧ (-2147483648 ≤ (zI σ 0 34) ∧ (zI σ 0 34) ≤ 2147483647) ∧ ((zI σ 0 34) ≤ v4 → (-2147483648 ≤ v3 ∧ v3 ≤ 2147483647) ∧ (v3 ≤ 400 → wpX11_assemble_114 v1 v3 0 σ Q) ∧ (¬ v3 ≤ 400 → wpX11_tell 4 (-1) 4 σ (fun (x22 : Int) (σ23 : ZS) => Q x22 σ23))) ∧ (¬ (zI σ 0 34) ≤ v4 → (0 ≤ v4 ∧ v4 < 80) ∧ K71 (v3 + (zA σ 0 36 v4)) (v4 + 1) σ)
def wpX11_assemble_71 (v1 v3 v4 : Int) (σ : ZS) (Q : Int → ZS → Prop) : Prop := lfp2 (fun K71 v3 v4 σ => wpbX11_assemble_71 K71 v1 v3 v4 σ Q) v3 v4 σ
def wpX11_assemble_14 (σ : ZS) (Q : Int → ZS → Prop) : Prop := wpX11_raise 1 σ (fun (x25 : Int) (σ26 : ZS) => Q x25 σ26)
def wpX11_assemble (a1 : Int) (σ : ZS) (Q : Int → ZS → Prop) : Prop := (-2147483648 ≤ a1 ∧ a1 ≤ 2147483647) ∧ (a1 < 0 → wpX11_assemble_14 (zsI σ 0 0 0) Q) ∧ (¬ a1 < 0 → (a1 ≤ 2 → wpX11_parse (zsI σ 0 0 0) (fun (x30 : Int) (σ31 : ZS) => (-2147483648 ≤ x30 ∧ x30 ≤ 2147483647) ∧ (¬ x30 = 0 → wpX11_judge (zsI σ31 0 2 0) (fun (σ35 : ZS) => (-2147483648 ≤ (zI σ35 0 18) ∧ (zI σ35 0 18) ≤ 2147483647) ∧ ((zI σ35 0 18) < 0 → wpX11_settle σ35 (fun (σ39 : ZS) => wpX11_assemble_71 a1 0 0 σ39 Q)) ∧ (¬ (zI σ35 0 18) < 0 → wpX11_tell 2 (zI σ35 0 18) 3 σ35 (fun (x40 : Int) (σ41 : ZS) => Q x40 σ41)))) ∧ (x30 = 0 → wpX11_raise 2 (zsI σ31 0 2 0) (fun (x42 : Int) (σ43 : ZS) => Q x42 σ43)))) ∧ (¬ a1 ≤ 2 → wpX11_assemble_14 (zsI σ 0 0 0) Q))
set_option maxHeartbeats 4000000 in
set_option maxRecDepth 100000 in
theorem kX11_assemble (l : Launch) (D : va_G) (dA : Nat → ClassId) (ad : Int → Nat → Nat) (a1 : Int) (σ : ZS) (Q : Int → ZS → Prop) (sz : Nat) (hw : wpX11_assemble a1 σ Q) : Met l yX11_assemble (gws yX11_assemble cX11_assemble 5 (some .int)) (gR 11 0 0) (gPre D dA [.ref (ad 0 1000), .int (Int32.ofInt a1)] (zR dA ad σ) sz) (va_Qi (zQi Q) (gAt D dA (va_A (zR dA ad σ) sz) (zR dA ad)) (va_A (zR dA ad σ) sz)) 0 0 (va_A (zR dA ad σ) sz) := by
  refine Met.ofW (cc := cX11_assemble) (maxL := 5) (ret := (some .int)) (by decide) rfl ?_
  intro p e s m args below meth c s₁ B hml hv
  obtain ⟨rfl, hsz, hP, hK, hD0⟩ := hv
  have hx := B.exec
  have hb := B.bytes
  have hr := B.returns
  have hts := atoms_spec (ws := gws yX11_assemble cX11_assemble 5 (some .int)) B.pre
  have hg : ∀ w ∈ gw, w.before _ s = true := fun w h => hts w (List.mem_cons_of_mem _ h)
  have hown : s.vm.findClass RX11 = some m.cls := findClass_of_methodNamed B.named
  have hlocks := B.notSynchronized
  subst hsz
  have hD := hD0.self (sz := s.heap.size)
  generalize hAe : va_A (zR dA ad σ) s.heap.size = A at hD ⊢
  have hA : ∀ q : Nat, s.heap.size ≤ q → A q := fun q h => by rw [← hAe]; exact Or.inr h
  have hS : va_S A s.heap s.heap [] := va_S.rf
  have hl := lv_entry ([.ref (ad 0 1000), .int (Int32.ofInt a1)]) (n := 5) (Nat.le_of_ble_eq_true rfl)
  rw [lg_entry_eq]
  generalize (lg_sl ([.ref (ad 0 1000), .int (Int32.ofInt a1)]) ++ List.replicate (5 - (lg_sl ([.ref (ad 0 1000), .int (Int32.ofInt a1)])).length) Slot.unset).toArray = ls at hl ⊢
  have hl : lv_has ls 5 [(0, .ref (ad 0 1000)), (1, .int (Int32.ofInt a1))] := hl
  have hret : ∀ (v : Int) (σ : ZS) (H : Heap) (locs : List Loc) (ls : Array Slot) (pc : Nat), Q v σ → va_P D vwC (zR dA ad σ) H → va_D A (zR dA ad σ) → va_S A s.heap H locs → decode cX11_assemble pc = .ok (.ireturn, 1) → W p l e (gR 11 0 0) s m #[.ref (ad 0 1000), .int (Int32.ofInt a1)] below meth c H locs 0 0 (MQ below (va_Qi (zQi Q) (gAt D dA A (zR dA ad)) A) #[.ref (ad 0 1000), .int (Int32.ofInt a1)] s 0 0 A) (F0 m pc ls [.int (Int32.ofInt v)]) := fun v σ H locs ls pc hw hP hD hS hd => g_iret hx hb hr rfl hlocks hK σ hP hD hS ⟨v, rfl, hw⟩ (Nat.le_of_ble_eq_true rfl) (Nat.le_of_ble_eq_true rfl) hd
  generalize MQ below (va_Qi (zQi Q) (gAt D dA A (zR dA ad)) A) #[.ref (ad 0 1000), .int (Int32.ofInt a1)] s 0 0 A = QQ at hret ⊢
  have b114 : ∀ (v1 v3 : Int) (K114 : Int → ZS → Prop), (∀ (v4 : Int) (σ : ZS), K114 v4 σ → ∀ (H : Heap) (locs : List Loc) (ls : Array Slot), va_P D vwC (zR dA ad σ) H → va_D A (zR dA ad σ) → va_S A s.heap H locs → lv_has ls 5 [(0, .ref (ad 0 1000)), (1, .int (Int32.ofInt v1)), (3, .int (Int32.ofInt v3)), (4, .int (Int32.ofInt v4))] → W p l e (gR 11 0 0) s m #[.ref (ad 0 1000), .int (Int32.ofInt a1)] below meth c H locs 0 0 QQ (F0 m 114 ls [])) → ∀ (v4 : Int) (σ : ZS), wpbX11_assemble_114 K114 v1 v3 v4 σ Q → ∀ (H : Heap) (locs : List Loc) (ls : Array Slot), va_P D vwC (zR dA ad σ) H → va_D A (zR dA ad σ) → va_S A s.heap H locs → lv_has ls 5 [(0, .ref (ad 0 1000)), (1, .int (Int32.ofInt v1)), (3, .int (Int32.ofInt v3)), (4, .int (Int32.ofInt v4))] → W p l e (gR 11 0 0) s m #[.ref (ad 0 1000), .int (Int32.ofInt a1)] below meth c H locs 0 0 QQ (F0 m 114 ls []) := by
    intro v1 v3 K114 hK114
    have j160 : ∀ (v4 : Int) (σ : ZS), ∀ (H : Heap) (locs : List Loc) (ls : Array Slot), va_P D vwC (zR dA ad σ) H → va_D A (zR dA ad σ) → va_S A s.heap H locs → lv_has ls 5 [(0, .ref (ad 0 1000)), (1, .int (Int32.ofInt v1)), (3, .int (Int32.ofInt v3)), (4, .int (Int32.ofInt v4))] → wpX11_assemble_160 K114 v1 v3 v4 σ Q → W p l e (gR 11 0 0) s m #[.ref (ad 0 1000), .int (Int32.ofInt a1)] below meth c H locs 0 0 QQ (F0 m 160 ls []) := by
      intro v4 σ H locs ls hP hD hS hl hw
      unfold wpX11_assemble_160 at hw
      refine lv_iinc (v := Int32.ofInt (v4 + 1)) (lv' := [(4, .int (Int32.ofInt (v4 + 1))), (0, .ref (ad 0 1000)), (1, .int (Int32.ofInt v1)), (3, .int (Int32.ofInt v3))]) hx hb dX11_assemble_160 hl (k := 3) rfl (Int32.ofInt_add _ _).symm (by decide) rfl (fun ls hl => ?_)
      refine lv_goto (tgt := 114) hx hb dX11_assemble_163 (by decide) ?_
      exact hK114 (v4 + 1) σ hw _ _ _ hP hD hS (lv_sub hl [1, 2, 3, 0] rfl)
    intro v4 σ hw H locs ls hP hD hS hl
    unfold wpbX11_assemble_114 at hw
    refine lv_iload hx hb dX11_assemble_114 (lv_at hl 3 rfl) ?_
    refine lv_aload_n hx hb dX11_assemble_116 rfl (lv_at hl 0 rfl) ?_
    refine zgR0_31 hx hb hg hown hK hP q1646 dX11_assemble_117 ?_
    obtain ⟨o1, hw⟩ := hw
    obtain ⟨o2, hw⟩ := hw
    refine z_icmp_ge (tgt := 166) hx hb o1 o2 dX11_assemble_120 (by decide) (fun k3 => ?_) (fun k3 => ?_)
    · replace hw := hw.1 k3
      refine lv_aload_n hx hb dX11_assemble_166 rfl (lv_at hl 0 rfl) ?_
      refine lv_iload_n hx hb dX11_assemble_167 rfl (lv_at hl 1 rfl) ?_
      refine z_Vv (n := 1) (As := [.int (Int32.ofInt v1)]) (rest := []) hx hb hml hg hown hK hP hD hS hA (kX11_write l D dA ad v1 σ _ _ hw) (zoR0) rfl q2053 q160 q2050 q2052 q115 (by decide +kernel) ⟨(Nat.le_of_ble_eq_true rfl), (Nat.le_of_ble_eq_true rfl)⟩ rfl hl.1 rfl (Nat.le_of_ble_eq_true rfl) dX11_assemble_168 ⟨(Nat.le_of_ble_eq_true rfl), (Nat.le_of_ble_eq_true rfl)⟩ (fun σ5 H locs hw hP hD hS => ?_)
      refine lv_aload_n hx hb dX11_assemble_171 rfl (lv_at hl 0 rfl) ?_
      refine lv_iconst (v := Int32.ofInt (-1)) hx hb dX11_assemble_172 (by decide) ?_
      refine zpR0_3 (v := (-1)) hx hb hg hown hK hP hD hS q1618 dX11_assemble_173 (fun H locs hP hD hS => ?_)
      refine lv_aload_n hx hb dX11_assemble_176 rfl (lv_at hl 0 rfl) ?_
      refine lv_iconst (v := Int32.ofInt (-1)) hx hb dX11_assemble_177 (by decide) ?_
      refine zpR0_4 (v := (-1)) hx hb hg hown hK hP hD hS q1619 dX11_assemble_178 (fun H locs hP hD hS => ?_)
      refine lv_iload_n hx hb dX11_assemble_181 rfl (lv_at hl 2 rfl) ?_
      exact hret v3 (zsI (zsI σ5 0 3 (-1)) 0 4 (-1)) _ _ _ _ hw hP hD hS dX11_assemble_182
    · replace hw := hw.2 k3
      refine lv_aload_n hx hb dX11_assemble_123 rfl (lv_at hl 0 rfl) ?_
      refine zgR0_24 hx hb hg hown hK hP q1639 dX11_assemble_124 ?_
      refine lv_iload hx hb dX11_assemble_127 (lv_at hl 3 rfl) ?_
      obtain ⟨o6, hw⟩ := hw
      refine zlR0_24 hx hb o6 hK hP dX11_assemble_129 ?_
      refine lv_iconst (v := Int32.ofInt 5) hx hb dX11_assemble_130 (by decide) ?_
      obtain ⟨o7, hw⟩ := hw
      refine z_icmp_ne (tgt := 160) hx hb o7 (by decide) dX11_assemble_131 (by decide) (fun k8 => ?_) (fun k8 => ?_)
      · replace hw := hw.1 k8
        exact j160 v4 σ _ _ _ hP hD hS (lv_sub hl [0, 1, 2, 3] rfl) hw
      · replace hw := hw.2 k8
        refine lv_aload_n hx hb dX11_assemble_134 rfl (lv_at hl 0 rfl) ?_
        refine lv_iload hx hb dX11_assemble_135 (lv_at hl 3 rfl) ?_
        refine z_Vi (n := 1) (As := [.int (Int32.ofInt v4)]) (rest := []) hx hb hml hg hown hK hP hD hS hA (kX11_distance l D dA ad v4 σ _ _ hw) (zoR0) rfl q2046 q160 q2043 q2045 q114 (by decide +kernel) ⟨(Nat.le_of_ble_eq_true rfl), (Nat.le_of_ble_eq_true rfl)⟩ rfl hl.1 rfl (Nat.le_of_ble_eq_true rfl) dX11_assemble_137 ⟨(Nat.le_of_ble_eq_true rfl), (Nat.le_of_ble_eq_true rfl)⟩ (fun x9 σ10 H locs hw hP hD hS => ?_)
        refine z_Si (n := 1) (As := [.int (Int32.ofInt x9)]) (rest := []) hx hb hml hg hown hK hP hD hS hA (kX11_isShort l D dA ad x9 σ10 _ _ hw) q2049 q160 q2047 q2048 (by decide +kernel) ⟨(Nat.le_of_ble_eq_true rfl), (Nat.le_of_ble_eq_true rfl)⟩ rfl hl.1 rfl (Nat.le_of_ble_eq_true rfl) dX11_assemble_140 ⟨(Nat.le_of_ble_eq_true rfl), (Nat.le_of_ble_eq_true rfl)⟩ (fun x11 σ12 H locs hw hP hD hS => ?_)
        obtain ⟨o13, hw⟩ := hw
        refine z_if_ne (tgt := 160) hx hb o13 dX11_assemble_143 (by decide) (fun k14 => ?_) (fun k14 => ?_)
        · replace hw := hw.1 k14
          exact j160 v4 σ12 _ _ _ hP hD hS (lv_sub hl [0, 1, 2, 3] rfl) hw
        · replace hw := hw.2 k14
          refine lv_aload_n hx hb dX11_assemble_146 rfl (lv_at hl 0 rfl) ?_
          refine lv_iconst (v := Int32.ofInt 3) hx hb dX11_assemble_147 (by decide) ?_
          refine lv_aload_n hx hb dX11_assemble_148 rfl (lv_at hl 0 rfl) ?_
          refine zgR0_27 hx hb hg hown hK hP q1642 dX11_assemble_149 ?_
          refine lv_iload hx hb dX11_assemble_152 (lv_at hl 3 rfl) ?_
          refine zlR0_27 hx hb o6 hK hP dX11_assemble_154 ?_
          refine lv_iconst (v := Int32.ofInt 5) hx hb dX11_assemble_155 (by decide) ?_
          refine z_Vi (n := 3) (As := [.int (Int32.ofInt 3), .int (Int32.ofInt (zA σ12 0 27 v4)), .int (Int32.ofInt 5)]) (rest := []) hx hb hml hg hown hK hP hD hS hA (kX11_tell l D dA ad 3 (zA σ12 0 27 v4) 5 σ12 _ _ hw) (zoR0) rfl q2030 q160 q2027 q2029 q110 (by decide +kernel) ⟨(Nat.le_of_ble_eq_true rfl), (Nat.le_of_ble_eq_true rfl)⟩ rfl hl.1 rfl (Nat.le_of_ble_eq_true rfl) dX11_assemble_156 ⟨(Nat.le_of_ble_eq_true rfl), (Nat.le_of_ble_eq_true rfl)⟩ (fun x15 σ16 H locs hw hP hD hS => ?_)
          exact hret x15 σ16 _ _ _ _ hw hP hD hS dX11_assemble_159
  have j114 : ∀ (v1 v3 v4 : Int) (σ : ZS), ∀ (H : Heap) (locs : List Loc) (ls : Array Slot), va_P D vwC (zR dA ad σ) H → va_D A (zR dA ad σ) → va_S A s.heap H locs → lv_has ls 5 [(0, .ref (ad 0 1000)), (1, .int (Int32.ofInt v1)), (3, .int (Int32.ofInt v3)), (4, .int (Int32.ofInt v4))] → wpX11_assemble_114 v1 v3 v4 σ Q → W p l e (gR 11 0 0) s m #[.ref (ad 0 1000), .int (Int32.ofInt a1)] below meth c H locs 0 0 QQ (F0 m 114 ls []) := by
    intro v1 v3 v4 σ H locs ls hP hD hS hl hw
    exact hw (fun v4 σ => ∀ (H : Heap) (locs : List Loc) (ls : Array Slot), va_P D vwC (zR dA ad σ) H → va_D A (zR dA ad σ) → va_S A s.heap H locs → lv_has ls 5 [(0, .ref (ad 0 1000)), (1, .int (Int32.ofInt v1)), (3, .int (Int32.ofInt v3)), (4, .int (Int32.ofInt v4))] → W p l e (gR 11 0 0) s m #[.ref (ad 0 1000), .int (Int32.ofInt a1)] below meth c H locs 0 0 QQ (F0 m 114 ls [])) (b114 v1 v3 (fun v4 σ => ∀ (H : Heap) (locs : List Loc) (ls : Array Slot), va_P D vwC (zR dA ad σ) H → va_D A (zR dA ad σ) → va_S A s.heap H locs → lv_has ls 5 [(0, .ref (ad 0 1000)), (1, .int (Int32.ofInt v1)), (3, .int (Int32.ofInt v3)), (4, .int (Int32.ofInt v4))] → W p l e (gR 11 0 0) s m #[.ref (ad 0 1000), .int (Int32.ofInt a1)] below meth c H locs 0 0 QQ (F0 m 114 ls [])) (fun v4 σ h => h)) _ _ _ hP hD hS hl
  have b71 : ∀ (v1 : Int) (K71 : Int → Int → ZS → Prop), (∀ (v3 v4 : Int) (σ : ZS), K71 v3 v4 σ → ∀ (H : Heap) (locs : List Loc) (ls : Array Slot), va_P D vwC (zR dA ad σ) H → va_D A (zR dA ad σ) → va_S A s.heap H locs → lv_has ls 5 [(0, .ref (ad 0 1000)), (1, .int (Int32.ofInt v1)), (3, .int (Int32.ofInt v3)), (4, .int (Int32.ofInt v4))] → W p l e (gR 11 0 0) s m #[.ref (ad 0 1000), .int (Int32.ofInt a1)] below meth c H locs 0 0 QQ (F0 m 71 ls [])) → ∀ (v3 v4 : Int) (σ : ZS), wpbX11_assemble_71 K71 v1 v3 v4 σ Q → ∀ (H : Heap) (locs : List Loc) (ls : Array Slot), va_P D vwC (zR dA ad σ) H → va_D A (zR dA ad σ) → va_S A s.heap H locs → lv_has ls 5 [(0, .ref (ad 0 1000)), (1, .int (Int32.ofInt v1)), (3, .int (Int32.ofInt v3)), (4, .int (Int32.ofInt v4))] → W p l e (gR 11 0 0) s m #[.ref (ad 0 1000), .int (Int32.ofInt a1)] below meth c H locs 0 0 QQ (F0 m 71 ls []) := by
    intro v1 K71 hK71
    intro v3 v4 σ hw H locs ls hP hD hS hl
    unfold wpbX11_assemble_71 at hw
    refine lv_iload hx hb dX11_assemble_71 (lv_at hl 3 rfl) ?_
    refine lv_aload_n hx hb dX11_assemble_73 rfl (lv_at hl 0 rfl) ?_
    refine zgR0_34 hx hb hg hown hK hP q1649 dX11_assemble_74 ?_
    obtain ⟨o17, hw⟩ := hw
    obtain ⟨o18, hw⟩ := hw
    refine z_icmp_ge (tgt := 96) hx hb o17 o18 dX11_assemble_77 (by decide) (fun k19 => ?_) (fun k19 => ?_)
    · replace hw := hw.1 k19
      refine lv_iload_n hx hb dX11_assemble_96 rfl (lv_at hl 2 rfl) ?_
      refine lv_sipush (v := Int32.ofInt 400) hx hb dX11_assemble_97 (by decide) ?_
      obtain ⟨o20, hw⟩ := hw
      refine z_icmp_le (tgt := 111) hx hb o20 (by decide) dX11_assemble_100 (by decide) (fun k21 => ?_) (fun k21 => ?_)
      · replace hw := hw.1 k21
        refine lv_iconst (v := Int32.ofInt 0) hx hb dX11_assemble_111 (by decide) ?_
        refine lv_istore (lv' := [(4, .int (Int32.ofInt 0)), (0, .ref (ad 0 1000)), (1, .int (Int32.ofInt v1)), (3, .int (Int32.ofInt v3))]) hx hb dX11_assemble_112 hl (by decide) rfl (fun ls hl => ?_)
        exact j114 v1 v3 0 σ _ _ _ hP hD hS (lv_sub hl [1, 2, 3, 0] rfl) hw
      · replace hw := hw.2 k21
        refine lv_aload_n hx hb dX11_assemble_103 rfl (lv_at hl 0 rfl) ?_
        refine lv_iconst (v := Int32.ofInt 4) hx hb dX11_assemble_104 (by decide) ?_
        refine lv_iconst (v := Int32.ofInt (-1)) hx hb dX11_assemble_105 (by decide) ?_
        refine lv_iconst (v := Int32.ofInt 4) hx hb dX11_assemble_106 (by decide) ?_
        refine z_Vi (n := 3) (As := [.int (Int32.ofInt 4), .int (Int32.ofInt (-1)), .int (Int32.ofInt 4)]) (rest := []) hx hb hml hg hown hK hP hD hS hA (kX11_tell l D dA ad 4 (-1) 4 σ _ _ hw) (zoR0) rfl q2030 q160 q2027 q2029 q110 (by decide +kernel) ⟨(Nat.le_of_ble_eq_true rfl), (Nat.le_of_ble_eq_true rfl)⟩ rfl hl.1 rfl (Nat.le_of_ble_eq_true rfl) dX11_assemble_107 ⟨(Nat.le_of_ble_eq_true rfl), (Nat.le_of_ble_eq_true rfl)⟩ (fun x22 σ23 H locs hw hP hD hS => ?_)
        exact hret x22 σ23 _ _ _ _ hw hP hD hS dX11_assemble_110
    · replace hw := hw.2 k19
      refine lv_iload_n hx hb dX11_assemble_80 rfl (lv_at hl 2 rfl) ?_
      refine lv_aload_n hx hb dX11_assemble_81 rfl (lv_at hl 0 rfl) ?_
      refine zgR0_36 hx hb hg hown hK hP q1651 dX11_assemble_82 ?_
      refine lv_iload hx hb dX11_assemble_85 (lv_at hl 3 rfl) ?_
      obtain ⟨o24, hw⟩ := hw
      refine zlR0_36 hx hb o24 hK hP dX11_assemble_87 ?_
      refine z_iadd hx hb dX11_assemble_88 ?_
      refine lv_istore_n (lv' := [(3, .int (Int32.ofInt (v3 + (zA σ 0 36 v4)))), (0, .ref (ad 0 1000)), (1, .int (Int32.ofInt v1)), (4, .int (Int32.ofInt v4))]) hx hb dX11_assemble_89 rfl hl (by decide) rfl (fun ls hl => ?_)
      refine lv_iinc (v := Int32.ofInt (v4 + 1)) (lv' := [(4, .int (Int32.ofInt (v4 + 1))), (3, .int (Int32.ofInt (v3 + (zA σ 0 36 v4)))), (0, .ref (ad 0 1000)), (1, .int (Int32.ofInt v1))]) hx hb dX11_assemble_90 hl (k := 3) rfl (Int32.ofInt_add _ _).symm (by decide) rfl (fun ls hl => ?_)
      refine lv_goto (tgt := 71) hx hb dX11_assemble_93 (by decide) ?_
      exact hK71 (v3 + (zA σ 0 36 v4)) (v4 + 1) σ hw _ _ _ hP hD hS (lv_sub hl [2, 3, 1, 0] rfl)
  have j71 : ∀ (v1 v3 v4 : Int) (σ : ZS), ∀ (H : Heap) (locs : List Loc) (ls : Array Slot), va_P D vwC (zR dA ad σ) H → va_D A (zR dA ad σ) → va_S A s.heap H locs → lv_has ls 5 [(0, .ref (ad 0 1000)), (1, .int (Int32.ofInt v1)), (3, .int (Int32.ofInt v3)), (4, .int (Int32.ofInt v4))] → wpX11_assemble_71 v1 v3 v4 σ Q → W p l e (gR 11 0 0) s m #[.ref (ad 0 1000), .int (Int32.ofInt a1)] below meth c H locs 0 0 QQ (F0 m 71 ls []) := by
    intro v1 v3 v4 σ H locs ls hP hD hS hl hw
    exact hw (fun v3 v4 σ => ∀ (H : Heap) (locs : List Loc) (ls : Array Slot), va_P D vwC (zR dA ad σ) H → va_D A (zR dA ad σ) → va_S A s.heap H locs → lv_has ls 5 [(0, .ref (ad 0 1000)), (1, .int (Int32.ofInt v1)), (3, .int (Int32.ofInt v3)), (4, .int (Int32.ofInt v4))] → W p l e (gR 11 0 0) s m #[.ref (ad 0 1000), .int (Int32.ofInt a1)] below meth c H locs 0 0 QQ (F0 m 71 ls [])) (b71 v1 (fun v3 v4 σ => ∀ (H : Heap) (locs : List Loc) (ls : Array Slot), va_P D vwC (zR dA ad σ) H → va_D A (zR dA ad σ) → va_S A s.heap H locs → lv_has ls 5 [(0, .ref (ad 0 1000)), (1, .int (Int32.ofInt v1)), (3, .int (Int32.ofInt v3)), (4, .int (Int32.ofInt v4))] → W p l e (gR 11 0 0) s m #[.ref (ad 0 1000), .int (Int32.ofInt a1)] below meth c H locs 0 0 QQ (F0 m 71 ls [])) (fun v3 v4 σ h => h)) _ _ _ hP hD hS hl
  have j14 : ∀ (σ : ZS), ∀ (H : Heap) (locs : List Loc) (ls : Array Slot), va_P D vwC (zR dA ad σ) H → va_D A (zR dA ad σ) → va_S A s.heap H locs → lv_has ls 5 [(0, .ref (ad 0 1000))] → wpX11_assemble_14 σ Q → W p l e (gR 11 0 0) s m #[.ref (ad 0 1000), .int (Int32.ofInt a1)] below meth c H locs 0 0 QQ (F0 m 14 ls []) := by
    intro σ H locs ls hP hD hS hl hw
    unfold wpX11_assemble_14 at hw
    refine lv_aload_n hx hb dX11_assemble_14 rfl (lv_at hl 0 rfl) ?_
    refine lv_iconst (v := Int32.ofInt 1) hx hb dX11_assemble_15 (by decide) ?_
    refine z_Vi (n := 1) (As := [.int (Int32.ofInt 1)]) (rest := []) hx hb hml hg hown hK hP hD hS hA (kX11_raise l D dA ad 1 σ _ _ hw) (zoR0) rfl q1883 q160 q1880 q1882 q77 (by decide +kernel) ⟨(Nat.le_of_ble_eq_true rfl), (Nat.le_of_ble_eq_true rfl)⟩ rfl hl.1 rfl (Nat.le_of_ble_eq_true rfl) dX11_assemble_16 ⟨(Nat.le_of_ble_eq_true rfl), (Nat.le_of_ble_eq_true rfl)⟩ (fun x25 σ26 H locs hw hP hD hS => ?_)
    exact hret x25 σ26 _ _ _ _ hw hP hD hS dX11_assemble_19
  unfold wpX11_assemble at hw
  refine lv_aload_n hx hb dX11_assemble_0 rfl (lv_at hl 0 rfl) ?_
  refine lv_iconst (v := Int32.ofInt 0) hx hb dX11_assemble_1 (by decide) ?_
  refine zpR0_0 (v := 0) hx hb hg hown hK hP hD hS q1615 dX11_assemble_2 (fun H locs hP hD hS => ?_)
  refine lv_iload_n hx hb dX11_assemble_5 rfl (lv_at hl 1 rfl) ?_
  obtain ⟨o27, hw⟩ := hw
  refine z_if_lt (tgt := 14) hx hb o27 dX11_assemble_6 (by decide) (fun k28 => ?_) (fun k28 => ?_)
  · replace hw := hw.1 k28
    exact j14 (zsI σ 0 0 0) _ _ _ hP hD hS (lv_sub hl [0] rfl) hw
  · replace hw := hw.2 k28
    refine lv_iload_n hx hb dX11_assemble_9 rfl (lv_at hl 1 rfl) ?_
    refine lv_iconst (v := Int32.ofInt 2) hx hb dX11_assemble_10 (by decide) ?_
    refine z_icmp_le (tgt := 20) hx hb o27 (by decide) dX11_assemble_11 (by decide) (fun k29 => ?_) (fun k29 => ?_)
    · replace hw := hw.1 k29
      refine lv_aload_n hx hb dX11_assemble_20 rfl (lv_at hl 0 rfl) ?_
      refine z_Vi (n := 0) (As := []) (rest := []) hx hb hml hg hown hK hP hD hS hA (kX11_parse l D dA ad (zsI σ 0 0 0) _ _ hw) (zoR0) rfl q1891 q160 q1888 q1890 q78 (by decide +kernel) ⟨(Nat.le_of_ble_eq_true rfl), (Nat.le_of_ble_eq_true rfl)⟩ rfl hl.1 rfl (Nat.le_of_ble_eq_true rfl) dX11_assemble_21 ⟨(Nat.le_of_ble_eq_true rfl), (Nat.le_of_ble_eq_true rfl)⟩ (fun x30 σ31 H locs hw hP hD hS => ?_)
      refine lv_istore_n (lv' := [(2, .int (Int32.ofInt x30)), (0, .ref (ad 0 1000)), (1, .int (Int32.ofInt a1))]) hx hb dX11_assemble_24 rfl hl (by decide) rfl (fun ls hl => ?_)
      refine lv_aload_n hx hb dX11_assemble_25 rfl (lv_at hl 1 rfl) ?_
      refine lv_iconst (v := Int32.ofInt 0) hx hb dX11_assemble_26 (by decide) ?_
      refine zpR0_2 (v := 0) hx hb hg hown hK hP hD hS q1617 dX11_assemble_27 (fun H locs hP hD hS => ?_)
      refine lv_iload_n hx hb dX11_assemble_30 rfl (lv_at hl 0 rfl) ?_
      obtain ⟨o32, hw⟩ := hw
      refine z_if_ne (tgt := 40) hx hb o32 dX11_assemble_31 (by decide) (fun k33 => ?_) (fun k33 => ?_)
      · replace hw := hw.1 k33
        refine lv_aload_n hx hb dX11_assemble_40 rfl (lv_at hl 1 rfl) ?_
        refine z_Vv (n := 0) (As := []) (rest := []) hx hb hml hg hown hK hP hD hS hA (kX11_judge l D dA ad (zsI σ31 0 2 0) _ _ hw) (zoR0) rfl q2026 q160 q2023 q2025 q109 (by decide +kernel) ⟨(Nat.le_of_ble_eq_true rfl), (Nat.le_of_ble_eq_true rfl)⟩ rfl hl.1 rfl (Nat.le_of_ble_eq_true rfl) dX11_assemble_41 ⟨(Nat.le_of_ble_eq_true rfl), (Nat.le_of_ble_eq_true rfl)⟩ (fun σ35 H locs hw hP hD hS => ?_)
        refine lv_aload_n hx hb dX11_assemble_44 rfl (lv_at hl 1 rfl) ?_
        refine zgR0_18 hx hb hg hown hK hP q1633 dX11_assemble_45 ?_
        obtain ⟨o36, hw⟩ := hw
        refine z_if_lt (tgt := 62) hx hb o36 dX11_assemble_48 (by decide) (fun k37 => ?_) (fun k37 => ?_)
        · replace hw := hw.1 k37
          refine lv_aload_n hx hb dX11_assemble_62 rfl (lv_at hl 1 rfl) ?_
          refine z_Vv (n := 0) (As := []) (rest := []) hx hb hml hg hown hK hP hD hS hA (kX11_settle l D dA ad σ35 _ _ hw) (zoR0) rfl q2034 q160 q2031 q2033 q111 (by decide +kernel) ⟨(Nat.le_of_ble_eq_true rfl), (Nat.le_of_ble_eq_true rfl)⟩ rfl hl.1 rfl (Nat.le_of_ble_eq_true rfl) dX11_assemble_63 ⟨(Nat.le_of_ble_eq_true rfl), (Nat.le_of_ble_eq_true rfl)⟩ (fun σ39 H locs hw hP hD hS => ?_)
          refine lv_iconst (v := Int32.ofInt 0) hx hb dX11_assemble_66 (by decide) ?_
          refine lv_istore_n (lv' := [(3, .int (Int32.ofInt 0)), (2, .int (Int32.ofInt x30)), (0, .ref (ad 0 1000)), (1, .int (Int32.ofInt a1))]) hx hb dX11_assemble_67 rfl hl (by decide) rfl (fun ls hl => ?_)
          refine lv_iconst (v := Int32.ofInt 0) hx hb dX11_assemble_68 (by decide) ?_
          refine lv_istore (lv' := [(4, .int (Int32.ofInt 0)), (3, .int (Int32.ofInt 0)), (2, .int (Int32.ofInt x30)), (0, .ref (ad 0 1000)), (1, .int (Int32.ofInt a1))]) hx hb dX11_assemble_69 hl (by decide) rfl (fun ls hl => ?_)
          exact j71 a1 0 0 σ39 _ _ _ hP hD hS (lv_sub hl [3, 4, 1, 0] rfl) hw
        · replace hw := hw.2 k37
          refine lv_aload_n hx hb dX11_assemble_51 rfl (lv_at hl 1 rfl) ?_
          refine lv_iconst (v := Int32.ofInt 2) hx hb dX11_assemble_52 (by decide) ?_
          refine lv_aload_n hx hb dX11_assemble_53 rfl (lv_at hl 1 rfl) ?_
          refine zgR0_18 hx hb hg hown hK hP q1633 dX11_assemble_54 ?_
          refine lv_iconst (v := Int32.ofInt 3) hx hb dX11_assemble_57 (by decide) ?_
          refine z_Vi (n := 3) (As := [.int (Int32.ofInt 2), .int (Int32.ofInt (zI σ35 0 18)), .int (Int32.ofInt 3)]) (rest := []) hx hb hml hg hown hK hP hD hS hA (kX11_tell l D dA ad 2 (zI σ35 0 18) 3 σ35 _ _ hw) (zoR0) rfl q2030 q160 q2027 q2029 q110 (by decide +kernel) ⟨(Nat.le_of_ble_eq_true rfl), (Nat.le_of_ble_eq_true rfl)⟩ rfl hl.1 rfl (Nat.le_of_ble_eq_true rfl) dX11_assemble_58 ⟨(Nat.le_of_ble_eq_true rfl), (Nat.le_of_ble_eq_true rfl)⟩ (fun x40 σ41 H locs hw hP hD hS => ?_)
          exact hret x40 σ41 _ _ _ _ hw hP hD hS dX11_assemble_61
      · replace hw := hw.2 k33
        refine lv_aload_n hx hb dX11_assemble_34 rfl (lv_at hl 1 rfl) ?_
        refine lv_iconst (v := Int32.ofInt 2) hx hb dX11_assemble_35 (by decide) ?_
        refine z_Vi (n := 1) (As := [.int (Int32.ofInt 2)]) (rest := []) hx hb hml hg hown hK hP hD hS hA (kX11_raise l D dA ad 2 (zsI σ31 0 2 0) _ _ hw) (zoR0) rfl q1883 q160 q1880 q1882 q77 (by decide +kernel) ⟨(Nat.le_of_ble_eq_true rfl), (Nat.le_of_ble_eq_true rfl)⟩ rfl hl.1 rfl (Nat.le_of_ble_eq_true rfl) dX11_assemble_36 ⟨(Nat.le_of_ble_eq_true rfl), (Nat.le_of_ble_eq_true rfl)⟩ (fun x42 σ43 H locs hw hP hD hS => ?_)
        exact hret x42 σ43 _ _ _ _ hw hP hD hS dX11_assemble_39
    · replace hw := hw.2 k29
      exact j14 (zsI σ 0 0 0) _ _ _ hP hD hS (lv_sub hl [0] rfl) hw
def wpX11_drop_14 (σ : ZS) (Q : Int → ZS → Prop) : Prop := Q 0 (zsI σ 0 0 1)
def wpX11_drop (a1 : Int) (σ : ZS) (Q : Int → ZS → Prop) : Prop := (-2147483648 ≤ a1 ∧ a1 ≤ 2147483647) ∧ (a1 < 0 → wpX11_drop_14 (zsI σ 0 0 0) Q) ∧ (¬ a1 < 0 → (a1 ≤ 2 → (0 ≤ a1 ∧ a1 < 3) ∧ (0 ≤ (zA σ 0 43 a1) ∧ (zA σ 0 43 a1) ≤ 1) ∧ Q (zA σ 0 43 a1) (zsA (zsI σ 0 0 0) 0 43 a1 0)) ∧ (¬ a1 ≤ 2 → wpX11_drop_14 (zsI σ 0 0 0) Q))
set_option maxHeartbeats 4000000 in
set_option maxRecDepth 100000 in
theorem kX11_drop (l : Launch) (D : va_G) (dA : Nat → ClassId) (ad : Int → Nat → Nat) (a1 : Int) (σ : ZS) (Q : Int → ZS → Prop) (sz : Nat) (hw : wpX11_drop a1 σ Q) : Met l yX11_drop (gws yX11_drop cX11_drop 3 (some .boolean)) (gR 1 0 0) (gPre D dA [.ref (ad 0 1000), .int (Int32.ofInt a1)] (zR dA ad σ) sz) (va_Qi (zQi Q) (gAt D dA (va_A (zR dA ad σ) sz) (zR dA ad)) (va_A (zR dA ad σ) sz)) 0 0 (va_A (zR dA ad σ) sz) := by
  refine Met.ofW (cc := cX11_drop) (maxL := 3) (ret := (some .boolean)) (by decide) rfl ?_
  intro p e s m args below meth c s₁ B hml hv
  obtain ⟨rfl, hsz, hP, hK, hD0⟩ := hv
  have hx := B.exec
  have hb := B.bytes
  have hr := B.returns
  have hts := atoms_spec (ws := gws yX11_drop cX11_drop 3 (some .boolean)) B.pre
  have hg : ∀ w ∈ gw, w.before _ s = true := fun w h => hts w (List.mem_cons_of_mem _ h)
  have hown : s.vm.findClass RX11 = some m.cls := findClass_of_methodNamed B.named
  have hlocks := B.notSynchronized
  subst hsz
  have hD := hD0.self (sz := s.heap.size)
  generalize hAe : va_A (zR dA ad σ) s.heap.size = A at hD ⊢
  have hA : ∀ q : Nat, s.heap.size ≤ q → A q := fun q h => by rw [← hAe]; exact Or.inr h
  have hS : va_S A s.heap s.heap [] := va_S.rf
  have hl := lv_entry ([.ref (ad 0 1000), .int (Int32.ofInt a1)]) (n := 3) (Nat.le_of_ble_eq_true rfl)
  rw [lg_entry_eq]
  generalize (lg_sl ([.ref (ad 0 1000), .int (Int32.ofInt a1)]) ++ List.replicate (3 - (lg_sl ([.ref (ad 0 1000), .int (Int32.ofInt a1)])).length) Slot.unset).toArray = ls at hl ⊢
  have hl : lv_has ls 3 [(0, .ref (ad 0 1000)), (1, .int (Int32.ofInt a1))] := hl
  have hret : ∀ (v : Int) (σ : ZS) (H : Heap) (locs : List Loc) (ls : Array Slot) (pc : Nat), (0 ≤ v ∧ v ≤ 1) → Q v σ → va_P D vwC (zR dA ad σ) H → va_D A (zR dA ad σ) → va_S A s.heap H locs → decode cX11_drop pc = .ok (.ireturn, 1) → W p l e (gR 1 0 0) s m #[.ref (ad 0 1000), .int (Int32.ofInt a1)] below meth c H locs 0 0 (MQ below (va_Qi (zQi Q) (gAt D dA A (zR dA ad)) A) #[.ref (ad 0 1000), .int (Int32.ofInt a1)] s 0 0 A) (F0 m pc ls [.int (Int32.ofInt v)]) := fun v σ H locs ls pc hv hw hP hD hS hd => g_iret hx hb hr (z_nb hv) hlocks hK σ hP hD hS ⟨v, rfl, hw⟩ (Nat.le_of_ble_eq_true rfl) (Nat.le_of_ble_eq_true rfl) hd
  generalize MQ below (va_Qi (zQi Q) (gAt D dA A (zR dA ad)) A) #[.ref (ad 0 1000), .int (Int32.ofInt a1)] s 0 0 A = QQ at hret ⊢
  have j14 : ∀ (σ : ZS), ∀ (H : Heap) (locs : List Loc) (ls : Array Slot), va_P D vwC (zR dA ad σ) H → va_D A (zR dA ad σ) → va_S A s.heap H locs → lv_has ls 3 [(0, .ref (ad 0 1000))] → wpX11_drop_14 σ Q → W p l e (gR 1 0 0) s m #[.ref (ad 0 1000), .int (Int32.ofInt a1)] below meth c H locs 0 0 QQ (F0 m 14 ls []) := by
    intro σ H locs ls hP hD hS hl hw
    unfold wpX11_drop_14 at hw
    refine lv_aload_n hx hb dX11_drop_14 rfl (lv_at hl 0 rfl) ?_
    refine lv_iconst (v := Int32.ofInt 1) hx hb dX11_drop_15 (by decide) ?_
    refine zpR0_0 (v := 1) hx hb hg hown hK hP hD hS q1615 dX11_drop_16 (fun H locs hP hD hS => ?_)
    refine lv_iconst (v := Int32.ofInt 0) hx hb dX11_drop_19 (by decide) ?_
    exact hret 0 (zsI σ 0 0 1) _ _ _ _ (by decide) hw hP hD hS dX11_drop_20
  unfold wpX11_drop at hw
  refine lv_aload_n hx hb dX11_drop_0 rfl (lv_at hl 0 rfl) ?_
  refine lv_iconst (v := Int32.ofInt 0) hx hb dX11_drop_1 (by decide) ?_
  refine zpR0_0 (v := 0) hx hb hg hown hK hP hD hS q1615 dX11_drop_2 (fun H locs hP hD hS => ?_)
  refine lv_iload_n hx hb dX11_drop_5 rfl (lv_at hl 1 rfl) ?_
  obtain ⟨o1, hw⟩ := hw
  refine z_if_lt (tgt := 14) hx hb o1 dX11_drop_6 (by decide) (fun k2 => ?_) (fun k2 => ?_)
  · replace hw := hw.1 k2
    exact j14 (zsI σ 0 0 0) _ _ _ hP hD hS (lv_sub hl [0] rfl) hw
  · replace hw := hw.2 k2
    refine lv_iload_n hx hb dX11_drop_9 rfl (lv_at hl 1 rfl) ?_
    refine lv_iconst (v := Int32.ofInt 2) hx hb dX11_drop_10 (by decide) ?_
    refine z_icmp_le (tgt := 21) hx hb o1 (by decide) dX11_drop_11 (by decide) (fun k3 => ?_) (fun k3 => ?_)
    · replace hw := hw.1 k3
      refine lv_aload_n hx hb dX11_drop_21 rfl (lv_at hl 0 rfl) ?_
      refine zgR0_43 hx hb hg hown hK hP q1658 dX11_drop_22 ?_
      refine lv_iload_n hx hb dX11_drop_25 rfl (lv_at hl 1 rfl) ?_
      obtain ⟨o4, hw⟩ := hw
      refine zlR0_43 hx hb o4 hK hP dX11_drop_26 ?_
      refine g_nrm (y := Int32.ofInt (zA σ 0 43 a1)) rfl ?_
      refine lv_istore_n (lv' := [(2, .int (Int32.ofInt (zA σ 0 43 a1))), (0, .ref (ad 0 1000)), (1, .int (Int32.ofInt a1))]) hx hb dX11_drop_27 rfl hl (by decide) rfl (fun ls hl => ?_)
      refine lv_aload_n hx hb dX11_drop_28 rfl (lv_at hl 1 rfl) ?_
      refine zgR0_43 hx hb hg hown hK hP q1658 dX11_drop_29 ?_
      refine lv_iload_n hx hb dX11_drop_32 rfl (lv_at hl 2 rfl) ?_
      refine lv_iconst (v := Int32.ofInt 0) hx hb dX11_drop_33 (by decide) ?_
      refine zsR0_43 (v := 0) hx hb o4 (by decide) hK hP hD hS dX11_drop_34 (fun H locs hP hD hS => ?_)
      refine lv_iload_n hx hb dX11_drop_35 rfl (lv_at hl 0 rfl) ?_
      obtain ⟨o5, hw⟩ := hw
      exact hret (zA σ 0 43 a1) (zsA (zsI σ 0 0 0) 0 43 a1 0) _ _ _ _ o5 hw hP hD hS dX11_drop_36
    · replace hw := hw.2 k3
      exact j14 (zsI σ 0 0 0) _ _ _ hP hD hS (lv_sub hl [0] rfl) hw
def wpX11_publicIn_54 (σ : ZS) (Q : Int → ZS → Prop) : Prop := Q (-1) σ
def wpbX11_publicIn_3 (K3 : Int → ZS → Prop) (v1 v2 v4 : Int) (σ : ZS) (Q : Int → ZS → Prop) : Prop := (0 ≤ v1 ∧ v1 < 3) ∧ (-2147483648 ≤ v4 ∧ v4 ≤ 2147483647) ∧ (-2147483648 ≤ (zA σ 0 56 v1) ∧ (zA σ 0 56 v1) ≤ 2147483647) ∧ ((zA σ 0 56 v1) ≤ v4 → wpX11_publicIn_54 σ Q) ∧ (¬ (zA σ 0 56 v1) ≤ v4 → (-2147483648 ≤ (zA σ 0 43 v1) ∧ (zA σ 0 43 v1) ≤ 2147483647) ∧ ((zA σ 0 43 v1) = 0 → wpX11_publicIn_54 σ Q) ∧ (¬ (zA σ 0 43 v1) = 0 → (0 ≤ ((80 * v1) + v4) ∧ ((80 * v1) + v4) < 240) ∧ (-9223372036854775808 ≤ (zA σ 0 57 ((80 * v1) + v4)) ∧ (zA σ 0 57 ((80 * v1) + v4)) ≤ 9223372036854775807) ∧ (-9223372036854775808 ≤ v2 ∧ v2 ≤ 9223372036854775807) ∧ (¬ (zA σ 0 57 ((80 * v1) + v4)) = v2 → K3 (v4 + 1) σ) ∧ ((zA σ 0 57 ((80 * v1) + v4)) = v2 → Q ((80 * v1) + v4) σ)))
def wpX11_publicIn_3 (v1 v2 v4 : Int) (σ : ZS) (Q : Int → ZS → Prop) : Prop := lfp1 (fun K3 v4 σ => wpbX11_publicIn_3 K3 v1 v2 v4 σ Q) v4 σ
def wpX11_publicIn (a1 a2 : Int) (σ : ZS) (Q : Int → ZS → Prop) : Prop := wpX11_publicIn_3 a1 a2 0 σ Q
set_option maxHeartbeats 4000000 in
set_option maxRecDepth 100000 in
theorem kX11_publicIn (l : Launch) (D : va_G) (dA : Nat → ClassId) (ad : Int → Nat → Nat) (a1 a2 : Int) (σ : ZS) (Q : Int → ZS → Prop) (sz : Nat) (hw : wpX11_publicIn a1 a2 σ Q) : Met l yX11_publicIn (gws yX11_publicIn cX11_publicIn 5 (some .int)) (gR 1 0 0) (gPre D dA [.ref (ad 0 1000), .int (Int32.ofInt a1), .long (Int64.ofInt a2)] (zR dA ad σ) sz) (va_Qi (zQi Q) (gAt D dA (va_A (zR dA ad σ) sz) (zR dA ad)) (va_A (zR dA ad σ) sz)) 0 0 (va_A (zR dA ad σ) sz) := by
  refine Met.ofW (cc := cX11_publicIn) (maxL := 5) (ret := (some .int)) (by decide) rfl ?_
  intro p e s m args below meth c s₁ B hml hv
  obtain ⟨rfl, hsz, hP, hK, hD0⟩ := hv
  have hx := B.exec
  have hb := B.bytes
  have hr := B.returns
  have hts := atoms_spec (ws := gws yX11_publicIn cX11_publicIn 5 (some .int)) B.pre
  have hg : ∀ w ∈ gw, w.before _ s = true := fun w h => hts w (List.mem_cons_of_mem _ h)
  have hown : s.vm.findClass RX11 = some m.cls := findClass_of_methodNamed B.named
  have hlocks := B.notSynchronized
  subst hsz
  have hD := hD0.self (sz := s.heap.size)
  generalize hAe : va_A (zR dA ad σ) s.heap.size = A at hD ⊢
  have hA : ∀ q : Nat, s.heap.size ≤ q → A q := fun q h => by rw [← hAe]; exact Or.inr h
  have hS : va_S A s.heap s.heap [] := va_S.rf
  have hl := lv_entry ([.ref (ad 0 1000), .int (Int32.ofInt a1), .long (Int64.ofInt a2)]) (n := 5) (Nat.le_of_ble_eq_true rfl)
  rw [lg_entry_eq]
  generalize (lg_sl ([.ref (ad 0 1000), .int (Int32.ofInt a1), .long (Int64.ofInt a2)]) ++ List.replicate (5 - (lg_sl ([.ref (ad 0 1000), .int (Int32.ofInt a1), .long (Int64.ofInt a2)])).length) Slot.unset).toArray = ls at hl ⊢
  have hl : lv_has ls 5 [(0, .ref (ad 0 1000)), (1, .int (Int32.ofInt a1)), (2, .long (Int64.ofInt a2))] := hl
  have hret : ∀ (v : Int) (σ : ZS) (H : Heap) (locs : List Loc) (ls : Array Slot) (pc : Nat), Q v σ → va_P D vwC (zR dA ad σ) H → va_D A (zR dA ad σ) → va_S A s.heap H locs → decode cX11_publicIn pc = .ok (.ireturn, 1) → W p l e (gR 1 0 0) s m #[.ref (ad 0 1000), .int (Int32.ofInt a1), .long (Int64.ofInt a2)] below meth c H locs 0 0 (MQ below (va_Qi (zQi Q) (gAt D dA A (zR dA ad)) A) #[.ref (ad 0 1000), .int (Int32.ofInt a1), .long (Int64.ofInt a2)] s 0 0 A) (F0 m pc ls [.int (Int32.ofInt v)]) := fun v σ H locs ls pc hw hP hD hS hd => g_iret hx hb hr rfl hlocks hK σ hP hD hS ⟨v, rfl, hw⟩ (Nat.le_of_ble_eq_true rfl) (Nat.le_of_ble_eq_true rfl) hd
  generalize MQ below (va_Qi (zQi Q) (gAt D dA A (zR dA ad)) A) #[.ref (ad 0 1000), .int (Int32.ofInt a1), .long (Int64.ofInt a2)] s 0 0 A = QQ at hret ⊢
  have j54 : ∀ (σ : ZS), ∀ (H : Heap) (locs : List Loc) (ls : Array Slot), va_P D vwC (zR dA ad σ) H → va_D A (zR dA ad σ) → va_S A s.heap H locs → lv_has ls 5 [] → wpX11_publicIn_54 σ Q → W p l e (gR 1 0 0) s m #[.ref (ad 0 1000), .int (Int32.ofInt a1), .long (Int64.ofInt a2)] below meth c H locs 0 0 QQ (F0 m 54 ls []) := by
    intro σ H locs ls hP hD hS hl hw
    unfold wpX11_publicIn_54 at hw
    refine lv_iconst (v := Int32.ofInt (-1)) hx hb dX11_publicIn_54 (by decide) ?_
    exact hret (-1) σ _ _ _ _ hw hP hD hS dX11_publicIn_55
  have b3 : ∀ (v1 v2 : Int) (K3 : Int → ZS → Prop), (∀ (v4 : Int) (σ : ZS), K3 v4 σ → ∀ (H : Heap) (locs : List Loc) (ls : Array Slot), va_P D vwC (zR dA ad σ) H → va_D A (zR dA ad σ) → va_S A s.heap H locs → lv_has ls 5 [(0, .ref (ad 0 1000)), (1, .int (Int32.ofInt v1)), (2, .long (Int64.ofInt v2)), (4, .int (Int32.ofInt v4))] → W p l e (gR 1 0 0) s m #[.ref (ad 0 1000), .int (Int32.ofInt a1), .long (Int64.ofInt a2)] below meth c H locs 0 0 QQ (F0 m 3 ls [])) → ∀ (v4 : Int) (σ : ZS), wpbX11_publicIn_3 K3 v1 v2 v4 σ Q → ∀ (H : Heap) (locs : List Loc) (ls : Array Slot), va_P D vwC (zR dA ad σ) H → va_D A (zR dA ad σ) → va_S A s.heap H locs → lv_has ls 5 [(0, .ref (ad 0 1000)), (1, .int (Int32.ofInt v1)), (2, .long (Int64.ofInt v2)), (4, .int (Int32.ofInt v4))] → W p l e (gR 1 0 0) s m #[.ref (ad 0 1000), .int (Int32.ofInt a1), .long (Int64.ofInt a2)] below meth c H locs 0 0 QQ (F0 m 3 ls []) := by
    intro v1 v2 K3 hK3
    intro v4 σ hw H locs ls hP hD hS hl
    unfold wpbX11_publicIn_3 at hw
    refine lv_iload hx hb dX11_publicIn_3 (lv_at hl 3 rfl) ?_
    refine lv_aload_n hx hb dX11_publicIn_5 rfl (lv_at hl 0 rfl) ?_
    refine zgR0_56 hx hb hg hown hK hP q1671 dX11_publicIn_6 ?_
    refine lv_iload_n hx hb dX11_publicIn_9 rfl (lv_at hl 1 rfl) ?_
    obtain ⟨o1, hw⟩ := hw
    refine zlR0_56 hx hb o1 hK hP dX11_publicIn_10 ?_
    obtain ⟨o2, hw⟩ := hw
    obtain ⟨o3, hw⟩ := hw
    refine z_icmp_ge (tgt := 54) hx hb o2 o3 dX11_publicIn_11 (by decide) (fun k4 => ?_) (fun k4 => ?_)
    · replace hw := hw.1 k4
      exact j54 σ _ _ _ hP hD hS (lv_sub hl [] rfl) hw
    · replace hw := hw.2 k4
      refine lv_aload_n hx hb dX11_publicIn_14 rfl (lv_at hl 0 rfl) ?_
      refine zgR0_43 hx hb hg hown hK hP q1658 dX11_publicIn_15 ?_
      refine lv_iload_n hx hb dX11_publicIn_18 rfl (lv_at hl 1 rfl) ?_
      refine zlR0_43 hx hb o1 hK hP dX11_publicIn_19 ?_
      obtain ⟨o5, hw⟩ := hw
      refine z_if_eq (tgt := 54) hx hb o5 dX11_publicIn_20 (by decide) (fun k6 => ?_) (fun k6 => ?_)
      · replace hw := hw.1 k6
        exact j54 σ _ _ _ hP hD hS (lv_sub hl [] rfl) hw
      · replace hw := hw.2 k6
        refine lv_aload_n hx hb dX11_publicIn_23 rfl (lv_at hl 0 rfl) ?_
        refine zgR0_57 hx hb hg hown hK hP q1672 dX11_publicIn_24 ?_
        refine lv_bipush (v := Int32.ofInt 80) hx hb dX11_publicIn_27 (by decide) ?_
        refine lv_iload_n hx hb dX11_publicIn_29 rfl (lv_at hl 1 rfl) ?_
        refine z_imul hx hb dX11_publicIn_30 ?_
        refine lv_iload hx hb dX11_publicIn_31 (lv_at hl 3 rfl) ?_
        refine z_iadd hx hb dX11_publicIn_33 ?_
        obtain ⟨o7, hw⟩ := hw
        refine zlR0_57 hx hb o7 hK hP dX11_publicIn_34 ?_
        refine lv_lload_n hx hb dX11_publicIn_35 rfl (lv_at hl 2 rfl) ?_
        obtain ⟨o8, hw⟩ := hw
        obtain ⟨o9, hw⟩ := hw
        refine z_lc_ne (tgt := 48) hx hb o8 o9 dX11_publicIn_36 dX11_publicIn_37 (by decide) (fun k10 => ?_) (fun k10 => ?_)
        · replace hw := hw.1 k10
          refine lv_iinc (v := Int32.ofInt (v4 + 1)) (lv' := [(4, .int (Int32.ofInt (v4 + 1))), (0, .ref (ad 0 1000)), (1, .int (Int32.ofInt v1)), (2, .long (Int64.ofInt v2))]) hx hb dX11_publicIn_48 hl (k := 3) rfl (Int32.ofInt_add _ _).symm (by decide) rfl (fun ls hl => ?_)
          refine lv_goto (tgt := 3) hx hb dX11_publicIn_51 (by decide) ?_
          exact hK3 (v4 + 1) σ hw _ _ _ hP hD hS (lv_sub hl [1, 2, 3, 0] rfl)
        · replace hw := hw.2 k10
          refine lv_bipush (v := Int32.ofInt 80) hx hb dX11_publicIn_40 (by decide) ?_
          refine lv_iload_n hx hb dX11_publicIn_42 rfl (lv_at hl 1 rfl) ?_
          refine z_imul hx hb dX11_publicIn_43 ?_
          refine lv_iload hx hb dX11_publicIn_44 (lv_at hl 3 rfl) ?_
          refine z_iadd hx hb dX11_publicIn_46 ?_
          exact hret ((80 * v1) + v4) σ _ _ _ _ hw hP hD hS dX11_publicIn_47
  have j3 : ∀ (v1 v2 v4 : Int) (σ : ZS), ∀ (H : Heap) (locs : List Loc) (ls : Array Slot), va_P D vwC (zR dA ad σ) H → va_D A (zR dA ad σ) → va_S A s.heap H locs → lv_has ls 5 [(0, .ref (ad 0 1000)), (1, .int (Int32.ofInt v1)), (2, .long (Int64.ofInt v2)), (4, .int (Int32.ofInt v4))] → wpX11_publicIn_3 v1 v2 v4 σ Q → W p l e (gR 1 0 0) s m #[.ref (ad 0 1000), .int (Int32.ofInt a1), .long (Int64.ofInt a2)] below meth c H locs 0 0 QQ (F0 m 3 ls []) := by
    intro v1 v2 v4 σ H locs ls hP hD hS hl hw
    exact hw (fun v4 σ => ∀ (H : Heap) (locs : List Loc) (ls : Array Slot), va_P D vwC (zR dA ad σ) H → va_D A (zR dA ad σ) → va_S A s.heap H locs → lv_has ls 5 [(0, .ref (ad 0 1000)), (1, .int (Int32.ofInt v1)), (2, .long (Int64.ofInt v2)), (4, .int (Int32.ofInt v4))] → W p l e (gR 1 0 0) s m #[.ref (ad 0 1000), .int (Int32.ofInt a1), .long (Int64.ofInt a2)] below meth c H locs 0 0 QQ (F0 m 3 ls [])) (b3 v1 v2 (fun v4 σ => ∀ (H : Heap) (locs : List Loc) (ls : Array Slot), va_P D vwC (zR dA ad σ) H → va_D A (zR dA ad σ) → va_S A s.heap H locs → lv_has ls 5 [(0, .ref (ad 0 1000)), (1, .int (Int32.ofInt v1)), (2, .long (Int64.ofInt v2)), (4, .int (Int32.ofInt v4))] → W p l e (gR 1 0 0) s m #[.ref (ad 0 1000), .int (Int32.ofInt a1), .long (Int64.ofInt a2)] below meth c H locs 0 0 QQ (F0 m 3 ls [])) (fun v4 σ h => h)) _ _ _ hP hD hS hl
  unfold wpX11_publicIn at hw
  refine lv_iconst (v := Int32.ofInt 0) hx hb dX11_publicIn_0 (by decide) ?_
  refine lv_istore (lv' := [(4, .int (Int32.ofInt 0)), (0, .ref (ad 0 1000)), (1, .int (Int32.ofInt a1)), (2, .long (Int64.ofInt a2))]) hx hb dX11_publicIn_1 hl (by decide) rfl (fun ls hl => ?_)
  exact j3 a1 a2 0 σ _ _ _ hP hD hS (lv_sub hl [1, 2, 3, 0] rfl) hw
def wpbX11_publicOf_2 (K2 : Int → ZS → Prop) (v1 v3 : Int) (σ : ZS) (Q : Int → ZS → Prop) : Prop := (-2147483648 ≤ v3 ∧ v3 ≤ 2147483647) ∧ (3 ≤ v3 → Q (-1) σ) ∧ (¬ 3 ≤ v3 → wpX11_publicIn v3 v1 σ (fun (x3 : Int) (σ4 : ZS) => (-2147483648 ≤ x3 ∧ x3 ≤ 2147483647) ∧ (x3 < 0 → K2 (v3 + 1) σ4) ∧ (¬ x3 < 0 → Q x3 σ4)))
def wpX11_publicOf_2 (v1 v3 : Int) (σ : ZS) (Q : Int → ZS → Prop) : Prop := lfp1 (fun K2 v3 σ => wpbX11_publicOf_2 K2 v1 v3 σ Q) v3 σ
def wpX11_publicOf (a1 : Int) (σ : ZS) (Q : Int → ZS → Prop) : Prop := wpX11_publicOf_2 a1 0 σ Q
set_option maxHeartbeats 4000000 in
set_option maxRecDepth 100000 in
theorem kX11_publicOf (l : Launch) (D : va_G) (dA : Nat → ClassId) (ad : Int → Nat → Nat) (a1 : Int) (σ : ZS) (Q : Int → ZS → Prop) (sz : Nat) (hw : wpX11_publicOf a1 σ Q) : Met l yX11_publicOf (gws yX11_publicOf cX11_publicOf 5 (some .int)) (gR 2 0 0) (gPre D dA [.ref (ad 0 1000), .long (Int64.ofInt a1)] (zR dA ad σ) sz) (va_Qi (zQi Q) (gAt D dA (va_A (zR dA ad σ) sz) (zR dA ad)) (va_A (zR dA ad σ) sz)) 0 0 (va_A (zR dA ad σ) sz) := by
  refine Met.ofW (cc := cX11_publicOf) (maxL := 5) (ret := (some .int)) (by decide) rfl ?_
  intro p e s m args below meth c s₁ B hml hv
  obtain ⟨rfl, hsz, hP, hK, hD0⟩ := hv
  have hx := B.exec
  have hb := B.bytes
  have hr := B.returns
  have hts := atoms_spec (ws := gws yX11_publicOf cX11_publicOf 5 (some .int)) B.pre
  have hg : ∀ w ∈ gw, w.before _ s = true := fun w h => hts w (List.mem_cons_of_mem _ h)
  have hown : s.vm.findClass RX11 = some m.cls := findClass_of_methodNamed B.named
  have hlocks := B.notSynchronized
  subst hsz
  have hD := hD0.self (sz := s.heap.size)
  generalize hAe : va_A (zR dA ad σ) s.heap.size = A at hD ⊢
  have hA : ∀ q : Nat, s.heap.size ≤ q → A q := fun q h => by rw [← hAe]; exact Or.inr h
  have hS : va_S A s.heap s.heap [] := va_S.rf
  have hl := lv_entry ([.ref (ad 0 1000), .long (Int64.ofInt a1)]) (n := 5) (Nat.le_of_ble_eq_true rfl)
  rw [lg_entry_eq]
  generalize (lg_sl ([.ref (ad 0 1000), .long (Int64.ofInt a1)]) ++ List.replicate (5 - (lg_sl ([.ref (ad 0 1000), .long (Int64.ofInt a1)])).length) Slot.unset).toArray = ls at hl ⊢
  have hl : lv_has ls 5 [(0, .ref (ad 0 1000)), (1, .long (Int64.ofInt a1))] := hl
  have hret : ∀ (v : Int) (σ : ZS) (H : Heap) (locs : List Loc) (ls : Array Slot) (pc : Nat), Q v σ → va_P D vwC (zR dA ad σ) H → va_D A (zR dA ad σ) → va_S A s.heap H locs → decode cX11_publicOf pc = .ok (.ireturn, 1) → W p l e (gR 2 0 0) s m #[.ref (ad 0 1000), .long (Int64.ofInt a1)] below meth c H locs 0 0 (MQ below (va_Qi (zQi Q) (gAt D dA A (zR dA ad)) A) #[.ref (ad 0 1000), .long (Int64.ofInt a1)] s 0 0 A) (F0 m pc ls [.int (Int32.ofInt v)]) := fun v σ H locs ls pc hw hP hD hS hd => g_iret hx hb hr rfl hlocks hK σ hP hD hS ⟨v, rfl, hw⟩ (Nat.le_of_ble_eq_true rfl) (Nat.le_of_ble_eq_true rfl) hd
  generalize MQ below (va_Qi (zQi Q) (gAt D dA A (zR dA ad)) A) #[.ref (ad 0 1000), .long (Int64.ofInt a1)] s 0 0 A = QQ at hret ⊢
  have b2 : ∀ (v1 : Int) (K2 : Int → ZS → Prop), (∀ (v3 : Int) (σ : ZS), K2 v3 σ → ∀ (H : Heap) (locs : List Loc) (ls : Array Slot), va_P D vwC (zR dA ad σ) H → va_D A (zR dA ad σ) → va_S A s.heap H locs → lv_has ls 5 [(0, .ref (ad 0 1000)), (1, .long (Int64.ofInt v1)), (3, .int (Int32.ofInt v3))] → W p l e (gR 2 0 0) s m #[.ref (ad 0 1000), .long (Int64.ofInt a1)] below meth c H locs 0 0 QQ (F0 m 2 ls [])) → ∀ (v3 : Int) (σ : ZS), wpbX11_publicOf_2 K2 v1 v3 σ Q → ∀ (H : Heap) (locs : List Loc) (ls : Array Slot), va_P D vwC (zR dA ad σ) H → va_D A (zR dA ad σ) → va_S A s.heap H locs → lv_has ls 5 [(0, .ref (ad 0 1000)), (1, .long (Int64.ofInt v1)), (3, .int (Int32.ofInt v3))] → W p l e (gR 2 0 0) s m #[.ref (ad 0 1000), .long (Int64.ofInt a1)] below meth c H locs 0 0 QQ (F0 m 2 ls []) := by
    intro v1 K2 hK2
    intro v3 σ hw H locs ls hP hD hS hl
    unfold wpbX11_publicOf_2 at hw
    refine lv_iload_n hx hb dX11_publicOf_2 rfl (lv_at hl 2 rfl) ?_
    refine lv_iconst (v := Int32.ofInt 3) hx hb dX11_publicOf_3 (by decide) ?_
    obtain ⟨o1, hw⟩ := hw
    refine z_icmp_ge (tgt := 29) hx hb o1 (by decide) dX11_publicOf_4 (by decide) (fun k2 => ?_) (fun k2 => ?_)
    · replace hw := hw.1 k2
      refine lv_iconst (v := Int32.ofInt (-1)) hx hb dX11_publicOf_29 (by decide) ?_
      exact hret (-1) σ _ _ _ _ hw hP hD hS dX11_publicOf_30
    · replace hw := hw.2 k2
      refine lv_aload_n hx hb dX11_publicOf_7 rfl (lv_at hl 0 rfl) ?_
      refine lv_iload_n hx hb dX11_publicOf_8 rfl (lv_at hl 2 rfl) ?_
      refine lv_lload_n hx hb dX11_publicOf_9 rfl (lv_at hl 1 rfl) ?_
      refine z_Vi (n := 2) (As := [.int (Int32.ofInt v3), .long (Int64.ofInt v1)]) (rest := []) hx hb hml hg hown hK hP hD hS hA (kX11_publicIn l D dA ad v3 v1 σ _ _ hw) (zoR0) rfl q2081 q160 q2078 q2080 q120 (by decide +kernel) ⟨(Nat.le_of_ble_eq_true rfl), (Nat.le_of_ble_eq_true rfl)⟩ rfl hl.1 rfl (Nat.le_of_ble_eq_true rfl) dX11_publicOf_10 ⟨(Nat.le_of_ble_eq_true rfl), (Nat.le_of_ble_eq_true rfl)⟩ (fun x3 σ4 H locs hw hP hD hS => ?_)
      refine lv_istore (lv' := [(4, .int (Int32.ofInt x3)), (0, .ref (ad 0 1000)), (1, .long (Int64.ofInt v1)), (3, .int (Int32.ofInt v3))]) hx hb dX11_publicOf_13 hl (by decide) rfl (fun ls hl => ?_)
      refine lv_iload hx hb dX11_publicOf_15 (lv_at hl 0 rfl) ?_
      obtain ⟨o5, hw⟩ := hw
      refine z_if_lt (tgt := 23) hx hb o5 dX11_publicOf_17 (by decide) (fun k6 => ?_) (fun k6 => ?_)
      · replace hw := hw.1 k6
        refine lv_iinc (v := Int32.ofInt (v3 + 1)) (lv' := [(3, .int (Int32.ofInt (v3 + 1))), (4, .int (Int32.ofInt x3)), (0, .ref (ad 0 1000)), (1, .long (Int64.ofInt v1))]) hx hb dX11_publicOf_23 hl (k := 3) rfl (Int32.ofInt_add _ _).symm (by decide) rfl (fun ls hl => ?_)
        refine lv_goto (tgt := 2) hx hb dX11_publicOf_26 (by decide) ?_
        exact hK2 (v3 + 1) σ4 hw _ _ _ hP hD hS (lv_sub hl [2, 3, 0] rfl)
      · replace hw := hw.2 k6
        refine lv_iload hx hb dX11_publicOf_20 (lv_at hl 0 rfl) ?_
        exact hret x3 σ4 _ _ _ _ hw hP hD hS dX11_publicOf_22
  have j2 : ∀ (v1 v3 : Int) (σ : ZS), ∀ (H : Heap) (locs : List Loc) (ls : Array Slot), va_P D vwC (zR dA ad σ) H → va_D A (zR dA ad σ) → va_S A s.heap H locs → lv_has ls 5 [(0, .ref (ad 0 1000)), (1, .long (Int64.ofInt v1)), (3, .int (Int32.ofInt v3))] → wpX11_publicOf_2 v1 v3 σ Q → W p l e (gR 2 0 0) s m #[.ref (ad 0 1000), .long (Int64.ofInt a1)] below meth c H locs 0 0 QQ (F0 m 2 ls []) := by
    intro v1 v3 σ H locs ls hP hD hS hl hw
    exact hw (fun v3 σ => ∀ (H : Heap) (locs : List Loc) (ls : Array Slot), va_P D vwC (zR dA ad σ) H → va_D A (zR dA ad σ) → va_S A s.heap H locs → lv_has ls 5 [(0, .ref (ad 0 1000)), (1, .long (Int64.ofInt v1)), (3, .int (Int32.ofInt v3))] → W p l e (gR 2 0 0) s m #[.ref (ad 0 1000), .long (Int64.ofInt a1)] below meth c H locs 0 0 QQ (F0 m 2 ls [])) (b2 v1 (fun v3 σ => ∀ (H : Heap) (locs : List Loc) (ls : Array Slot), va_P D vwC (zR dA ad σ) H → va_D A (zR dA ad σ) → va_S A s.heap H locs → lv_has ls 5 [(0, .ref (ad 0 1000)), (1, .long (Int64.ofInt v1)), (3, .int (Int32.ofInt v3))] → W p l e (gR 2 0 0) s m #[.ref (ad 0 1000), .long (Int64.ofInt a1)] below meth c H locs 0 0 QQ (F0 m 2 ls [])) (fun v3 σ h => h)) _ _ _ hP hD hS hl
  unfold wpX11_publicOf at hw
  refine lv_iconst (v := Int32.ofInt 0) hx hb dX11_publicOf_0 (by decide) ?_
  refine lv_istore_n (lv' := [(3, .int (Int32.ofInt 0)), (0, .ref (ad 0 1000)), (1, .long (Int64.ofInt a1))]) hx hb dX11_publicOf_1 rfl hl (by decide) rfl (fun ls hl => ?_)
  exact j2 a1 0 σ _ _ _ hP hD hS (lv_sub hl [1, 2, 0] rfl) hw
def wpX11_twice_68 (K2 : Int → ZS → Prop) (v1 : Int) (σ : ZS) (Q : Int → ZS → Prop) : Prop := K2 (v1 + 1) σ
def wpbX11_twice_30 (K2 : Int → ZS → Prop) (K9 : Int → ZS → Prop) (K30 : Int → ZS → Prop) (v1 v2 v3 : Int) (σ : ZS) (Q : Int → ZS → Prop) : Prop := (-2147483648 ≤ v3 ∧ v3 ≤ 2147483647) ∧ (-2147483648 ≤ v1 ∧ v1 ≤ 2147483647) ∧ (v1 ≤ v3 → K9 (v2 + 1) σ) ∧ (¬ v1 ≤ v3 → (0 ≤ ((80 * v1) + v2) ∧ ((80 * v1) + v2) < 240) ∧ wpX11_publicIn v3 (zA σ 0 57 ((80 * v1) + v2)) σ (fun (x5 : Int) (σ6 : ZS) => (-2147483648 ≤ x5 ∧ x5 ≤ 2147483647) ∧ (x5 < 0 → K30 (v3 + 1) σ6) ∧ (¬ x5 < 0 → Q v1 σ6)))
def wpX11_twice_30 (K2 : Int → ZS → Prop) (K9 : Int → ZS → Prop) (v1 v2 v3 : Int) (σ : ZS) (Q : Int → ZS → Prop) : Prop := lfp1 (fun K30 v3 σ => wpbX11_twice_30 K2 K9 K30 v1 v2 v3 σ Q) v3 σ
def wpbX11_twice_9 (K2 : Int → ZS → Prop) (K9 : Int → ZS → Prop) (v1 v2 : Int) (σ : ZS) (Q : Int → ZS → Prop) : Prop := (0 ≤ v1 ∧ v1 < 3) ∧ (-2147483648 ≤ v2 ∧ v2 ≤ 2147483647) ∧ (-2147483648 ≤ (zA σ 0 56 v1) ∧ (zA σ 0 56 v1) ≤ 2147483647) ∧ ((zA σ 0 56 v1) ≤ v2 → wpX11_twice_68 K2 v1 σ Q) ∧ (¬ (zA σ 0 56 v1) ≤ v2 → (-2147483648 ≤ (zA σ 0 43 v1) ∧ (zA σ 0 43 v1) ≤ 2147483647) ∧ ((zA σ 0 43 v1) = 0 → wpX11_twice_68 K2 v1 σ Q) ∧ (¬ (zA σ 0 43 v1) = 0 → wpX11_twice_30 K2 K9 v1 v2 0 σ Q))
def wpX11_twice_9 (K2 : Int → ZS → Prop) (v1 v2 : Int) (σ : ZS) (Q : Int → ZS → Prop) : Prop := lfp1 (fun K9 v2 σ => wpbX11_twice_9 K2 K9 v1 v2 σ Q) v2 σ
def wpbX11_twice_2 (K2 : Int → ZS → Prop) (v1 : Int) (σ : ZS) (Q : Int → ZS → Prop) : Prop := (-2147483648 ≤ v1 ∧ v1 ≤ 2147483647) ∧ (3 ≤ v1 → Q (-1) σ) ∧ (¬ 3 ≤ v1 → wpX11_twice_9 K2 v1 0 σ Q)
def wpX11_twice_2 (v1 : Int) (σ : ZS) (Q : Int → ZS → Prop) : Prop := lfp1 (fun K2 v1 σ => wpbX11_twice_2 K2 v1 σ Q) v1 σ
def wpX11_twice (σ : ZS) (Q : Int → ZS → Prop) : Prop := wpX11_twice_2 1 σ Q
set_option maxHeartbeats 4000000 in
set_option maxRecDepth 100000 in
theorem kX11_twice (l : Launch) (D : va_G) (dA : Nat → ClassId) (ad : Int → Nat → Nat) (σ : ZS) (Q : Int → ZS → Prop) (sz : Nat) (hw : wpX11_twice σ Q) : Met l yX11_twice (gws yX11_twice cX11_twice 4 (some .int)) (gR 2 0 0) (gPre D dA [.ref (ad 0 1000)] (zR dA ad σ) sz) (va_Qi (zQi Q) (gAt D dA (va_A (zR dA ad σ) sz) (zR dA ad)) (va_A (zR dA ad σ) sz)) 0 0 (va_A (zR dA ad σ) sz) := by
  refine Met.ofW (cc := cX11_twice) (maxL := 4) (ret := (some .int)) (by decide) rfl ?_
  intro p e s m args below meth c s₁ B hml hv
  obtain ⟨rfl, hsz, hP, hK, hD0⟩ := hv
  have hx := B.exec
  have hb := B.bytes
  have hr := B.returns
  have hts := atoms_spec (ws := gws yX11_twice cX11_twice 4 (some .int)) B.pre
  have hg : ∀ w ∈ gw, w.before _ s = true := fun w h => hts w (List.mem_cons_of_mem _ h)
  have hown : s.vm.findClass RX11 = some m.cls := findClass_of_methodNamed B.named
  have hlocks := B.notSynchronized
  subst hsz
  have hD := hD0.self (sz := s.heap.size)
  generalize hAe : va_A (zR dA ad σ) s.heap.size = A at hD ⊢
  have hA : ∀ q : Nat, s.heap.size ≤ q → A q := fun q h => by rw [← hAe]; exact Or.inr h
  have hS : va_S A s.heap s.heap [] := va_S.rf
  have hl := lv_entry ([.ref (ad 0 1000)]) (n := 4) (Nat.le_of_ble_eq_true rfl)
  rw [lg_entry_eq]
  generalize (lg_sl ([.ref (ad 0 1000)]) ++ List.replicate (4 - (lg_sl ([.ref (ad 0 1000)])).length) Slot.unset).toArray = ls at hl ⊢
  have hl : lv_has ls 4 [(0, .ref (ad 0 1000))] := hl
  have hret : ∀ (v : Int) (σ : ZS) (H : Heap) (locs : List Loc) (ls : Array Slot) (pc : Nat), Q v σ → va_P D vwC (zR dA ad σ) H → va_D A (zR dA ad σ) → va_S A s.heap H locs → decode cX11_twice pc = .ok (.ireturn, 1) → W p l e (gR 2 0 0) s m #[.ref (ad 0 1000)] below meth c H locs 0 0 (MQ below (va_Qi (zQi Q) (gAt D dA A (zR dA ad)) A) #[.ref (ad 0 1000)] s 0 0 A) (F0 m pc ls [.int (Int32.ofInt v)]) := fun v σ H locs ls pc hw hP hD hS hd => g_iret hx hb hr rfl hlocks hK σ hP hD hS ⟨v, rfl, hw⟩ (Nat.le_of_ble_eq_true rfl) (Nat.le_of_ble_eq_true rfl) hd
  generalize MQ below (va_Qi (zQi Q) (gAt D dA A (zR dA ad)) A) #[.ref (ad 0 1000)] s 0 0 A = QQ at hret ⊢
  have b2 : ∀ (K2 : Int → ZS → Prop), (∀ (v1 : Int) (σ : ZS), K2 v1 σ → ∀ (H : Heap) (locs : List Loc) (ls : Array Slot), va_P D vwC (zR dA ad σ) H → va_D A (zR dA ad σ) → va_S A s.heap H locs → lv_has ls 4 [(0, .ref (ad 0 1000)), (1, .int (Int32.ofInt v1))] → W p l e (gR 2 0 0) s m #[.ref (ad 0 1000)] below meth c H locs 0 0 QQ (F0 m 2 ls [])) → ∀ (v1 : Int) (σ : ZS), wpbX11_twice_2 K2 v1 σ Q → ∀ (H : Heap) (locs : List Loc) (ls : Array Slot), va_P D vwC (zR dA ad σ) H → va_D A (zR dA ad σ) → va_S A s.heap H locs → lv_has ls 4 [(0, .ref (ad 0 1000)), (1, .int (Int32.ofInt v1))] → W p l e (gR 2 0 0) s m #[.ref (ad 0 1000)] below meth c H locs 0 0 QQ (F0 m 2 ls []) := by
    intro K2 hK2
    have j68 : ∀ (v1 : Int) (σ : ZS), ∀ (H : Heap) (locs : List Loc) (ls : Array Slot), va_P D vwC (zR dA ad σ) H → va_D A (zR dA ad σ) → va_S A s.heap H locs → lv_has ls 4 [(0, .ref (ad 0 1000)), (1, .int (Int32.ofInt v1))] → wpX11_twice_68 K2 v1 σ Q → W p l e (gR 2 0 0) s m #[.ref (ad 0 1000)] below meth c H locs 0 0 QQ (F0 m 68 ls []) := by
      intro v1 σ H locs ls hP hD hS hl hw
      unfold wpX11_twice_68 at hw
      refine lv_iinc (v := Int32.ofInt (v1 + 1)) (lv' := [(1, .int (Int32.ofInt (v1 + 1))), (0, .ref (ad 0 1000))]) hx hb dX11_twice_68 hl (k := 1) rfl (Int32.ofInt_add _ _).symm (by decide) rfl (fun ls hl => ?_)
      refine lv_goto (tgt := 2) hx hb dX11_twice_71 (by decide) ?_
      exact hK2 (v1 + 1) σ hw _ _ _ hP hD hS (lv_sub hl [1, 0] rfl)
    have b9 : ∀ (v1 : Int) (K9 : Int → ZS → Prop), (∀ (v2 : Int) (σ : ZS), K9 v2 σ → ∀ (H : Heap) (locs : List Loc) (ls : Array Slot), va_P D vwC (zR dA ad σ) H → va_D A (zR dA ad σ) → va_S A s.heap H locs → lv_has ls 4 [(0, .ref (ad 0 1000)), (1, .int (Int32.ofInt v1)), (2, .int (Int32.ofInt v2))] → W p l e (gR 2 0 0) s m #[.ref (ad 0 1000)] below meth c H locs 0 0 QQ (F0 m 9 ls [])) → ∀ (v2 : Int) (σ : ZS), wpbX11_twice_9 K2 K9 v1 v2 σ Q → ∀ (H : Heap) (locs : List Loc) (ls : Array Slot), va_P D vwC (zR dA ad σ) H → va_D A (zR dA ad σ) → va_S A s.heap H locs → lv_has ls 4 [(0, .ref (ad 0 1000)), (1, .int (Int32.ofInt v1)), (2, .int (Int32.ofInt v2))] → W p l e (gR 2 0 0) s m #[.ref (ad 0 1000)] below meth c H locs 0 0 QQ (F0 m 9 ls []) := by
      intro v1 K9 hK9
      have b30 : ∀ (v2 : Int) (K30 : Int → ZS → Prop), (∀ (v3 : Int) (σ : ZS), K30 v3 σ → ∀ (H : Heap) (locs : List Loc) (ls : Array Slot), va_P D vwC (zR dA ad σ) H → va_D A (zR dA ad σ) → va_S A s.heap H locs → lv_has ls 4 [(0, .ref (ad 0 1000)), (1, .int (Int32.ofInt v1)), (2, .int (Int32.ofInt v2)), (3, .int (Int32.ofInt v3))] → W p l e (gR 2 0 0) s m #[.ref (ad 0 1000)] below meth c H locs 0 0 QQ (F0 m 30 ls [])) → ∀ (v3 : Int) (σ : ZS), wpbX11_twice_30 K2 K9 K30 v1 v2 v3 σ Q → ∀ (H : Heap) (locs : List Loc) (ls : Array Slot), va_P D vwC (zR dA ad σ) H → va_D A (zR dA ad σ) → va_S A s.heap H locs → lv_has ls 4 [(0, .ref (ad 0 1000)), (1, .int (Int32.ofInt v1)), (2, .int (Int32.ofInt v2)), (3, .int (Int32.ofInt v3))] → W p l e (gR 2 0 0) s m #[.ref (ad 0 1000)] below meth c H locs 0 0 QQ (F0 m 30 ls []) := by
        intro v2 K30 hK30
        intro v3 σ hw H locs ls hP hD hS hl
        unfold wpbX11_twice_30 at hw
        refine lv_iload_n hx hb dX11_twice_30 rfl (lv_at hl 3 rfl) ?_
        refine lv_iload_n hx hb dX11_twice_31 rfl (lv_at hl 1 rfl) ?_
        obtain ⟨o1, hw⟩ := hw
        obtain ⟨o2, hw⟩ := hw
        refine z_icmp_ge (tgt := 62) hx hb o1 o2 dX11_twice_32 (by decide) (fun k3 => ?_) (fun k3 => ?_)
        · replace hw := hw.1 k3
          refine lv_iinc (v := Int32.ofInt (v2 + 1)) (lv' := [(2, .int (Int32.ofInt (v2 + 1))), (0, .ref (ad 0 1000)), (1, .int (Int32.ofInt v1)), (3, .int (Int32.ofInt v3))]) hx hb dX11_twice_62 hl (k := 2) rfl (Int32.ofInt_add _ _).symm (by decide) rfl (fun ls hl => ?_)
          refine lv_goto (tgt := 9) hx hb dX11_twice_65 (by decide) ?_
          exact hK9 (v2 + 1) σ hw _ _ _ hP hD hS (lv_sub hl [1, 2, 0] rfl)
        · replace hw := hw.2 k3
          refine lv_aload_n hx hb dX11_twice_35 rfl (lv_at hl 0 rfl) ?_
          refine lv_iload_n hx hb dX11_twice_36 rfl (lv_at hl 3 rfl) ?_
          refine lv_aload_n hx hb dX11_twice_37 rfl (lv_at hl 0 rfl) ?_
          refine zgR0_57 hx hb hg hown hK hP q1672 dX11_twice_38 ?_
          refine lv_bipush (v := Int32.ofInt 80) hx hb dX11_twice_41 (by decide) ?_
          refine lv_iload_n hx hb dX11_twice_43 rfl (lv_at hl 1 rfl) ?_
          refine z_imul hx hb dX11_twice_44 ?_
          refine lv_iload_n hx hb dX11_twice_45 rfl (lv_at hl 2 rfl) ?_
          refine z_iadd hx hb dX11_twice_46 ?_
          obtain ⟨o4, hw⟩ := hw
          refine zlR0_57 hx hb o4 hK hP dX11_twice_47 ?_
          refine z_Vi (n := 2) (As := [.int (Int32.ofInt v3), .long (Int64.ofInt (zA σ 0 57 ((80 * v1) + v2)))]) (rest := []) hx hb hml hg hown hK hP hD hS hA (kX11_publicIn l D dA ad v3 (zA σ 0 57 ((80 * v1) + v2)) σ _ _ hw) (zoR0) rfl q2081 q160 q2078 q2080 q120 (by decide +kernel) ⟨(Nat.le_of_ble_eq_true rfl), (Nat.le_of_ble_eq_true rfl)⟩ rfl hl.1 rfl (Nat.le_of_ble_eq_true rfl) dX11_twice_48 ⟨(Nat.le_of_ble_eq_true rfl), (Nat.le_of_ble_eq_true rfl)⟩ (fun x5 σ6 H locs hw hP hD hS => ?_)
          obtain ⟨o7, hw⟩ := hw
          refine z_if_lt (tgt := 56) hx hb o7 dX11_twice_51 (by decide) (fun k8 => ?_) (fun k8 => ?_)
          · replace hw := hw.1 k8
            refine lv_iinc (v := Int32.ofInt (v3 + 1)) (lv' := [(3, .int (Int32.ofInt (v3 + 1))), (0, .ref (ad 0 1000)), (1, .int (Int32.ofInt v1)), (2, .int (Int32.ofInt v2))]) hx hb dX11_twice_56 hl (k := 3) rfl (Int32.ofInt_add _ _).symm (by decide) rfl (fun ls hl => ?_)
            refine lv_goto (tgt := 30) hx hb dX11_twice_59 (by decide) ?_
            exact hK30 (v3 + 1) σ6 hw _ _ _ hP hD hS (lv_sub hl [1, 2, 3, 0] rfl)
          · replace hw := hw.2 k8
            refine lv_iload_n hx hb dX11_twice_54 rfl (lv_at hl 1 rfl) ?_
            exact hret v1 σ6 _ _ _ _ hw hP hD hS dX11_twice_55
      have j30 : ∀ (v2 v3 : Int) (σ : ZS), ∀ (H : Heap) (locs : List Loc) (ls : Array Slot), va_P D vwC (zR dA ad σ) H → va_D A (zR dA ad σ) → va_S A s.heap H locs → lv_has ls 4 [(0, .ref (ad 0 1000)), (1, .int (Int32.ofInt v1)), (2, .int (Int32.ofInt v2)), (3, .int (Int32.ofInt v3))] → wpX11_twice_30 K2 K9 v1 v2 v3 σ Q → W p l e (gR 2 0 0) s m #[.ref (ad 0 1000)] below meth c H locs 0 0 QQ (F0 m 30 ls []) := by
        intro v2 v3 σ H locs ls hP hD hS hl hw
        exact hw (fun v3 σ => ∀ (H : Heap) (locs : List Loc) (ls : Array Slot), va_P D vwC (zR dA ad σ) H → va_D A (zR dA ad σ) → va_S A s.heap H locs → lv_has ls 4 [(0, .ref (ad 0 1000)), (1, .int (Int32.ofInt v1)), (2, .int (Int32.ofInt v2)), (3, .int (Int32.ofInt v3))] → W p l e (gR 2 0 0) s m #[.ref (ad 0 1000)] below meth c H locs 0 0 QQ (F0 m 30 ls [])) (b30 v2 (fun v3 σ => ∀ (H : Heap) (locs : List Loc) (ls : Array Slot), va_P D vwC (zR dA ad σ) H → va_D A (zR dA ad σ) → va_S A s.heap H locs → lv_has ls 4 [(0, .ref (ad 0 1000)), (1, .int (Int32.ofInt v1)), (2, .int (Int32.ofInt v2)), (3, .int (Int32.ofInt v3))] → W p l e (gR 2 0 0) s m #[.ref (ad 0 1000)] below meth c H locs 0 0 QQ (F0 m 30 ls [])) (fun v3 σ h => h)) _ _ _ hP hD hS hl
      intro v2 σ hw H locs ls hP hD hS hl
      unfold wpbX11_twice_9 at hw
      refine lv_iload_n hx hb dX11_twice_9 rfl (lv_at hl 2 rfl) ?_
      refine lv_aload_n hx hb dX11_twice_10 rfl (lv_at hl 0 rfl) ?_
      refine zgR0_56 hx hb hg hown hK hP q1671 dX11_twice_11 ?_
      refine lv_iload_n hx hb dX11_twice_14 rfl (lv_at hl 1 rfl) ?_
      obtain ⟨o9, hw⟩ := hw
      refine zlR0_56 hx hb o9 hK hP dX11_twice_15 ?_
      obtain ⟨o10, hw⟩ := hw
      obtain ⟨o11, hw⟩ := hw
      refine z_icmp_ge (tgt := 68) hx hb o10 o11 dX11_twice_16 (by decide) (fun k12 => ?_) (fun k12 => ?_)
      · replace hw := hw.1 k12
        exact j68 v1 σ _ _ _ hP hD hS (lv_sub hl [0, 1] rfl) hw
      · replace hw := hw.2 k12
        refine lv_aload_n hx hb dX11_twice_19 rfl (lv_at hl 0 rfl) ?_
        refine zgR0_43 hx hb hg hown hK hP q1658 dX11_twice_20 ?_
        refine lv_iload_n hx hb dX11_twice_23 rfl (lv_at hl 1 rfl) ?_
        refine zlR0_43 hx hb o9 hK hP dX11_twice_24 ?_
        obtain ⟨o13, hw⟩ := hw
        refine z_if_eq (tgt := 68) hx hb o13 dX11_twice_25 (by decide) (fun k14 => ?_) (fun k14 => ?_)
        · replace hw := hw.1 k14
          exact j68 v1 σ _ _ _ hP hD hS (lv_sub hl [0, 1] rfl) hw
        · replace hw := hw.2 k14
          refine lv_iconst (v := Int32.ofInt 0) hx hb dX11_twice_28 (by decide) ?_
          refine lv_istore_n (lv' := [(3, .int (Int32.ofInt 0)), (0, .ref (ad 0 1000)), (1, .int (Int32.ofInt v1)), (2, .int (Int32.ofInt v2))]) hx hb dX11_twice_29 rfl hl (by decide) rfl (fun ls hl => ?_)
          exact j30 v2 0 σ _ _ _ hP hD hS (lv_sub hl [1, 2, 3, 0] rfl) hw
    have j9 : ∀ (v1 v2 : Int) (σ : ZS), ∀ (H : Heap) (locs : List Loc) (ls : Array Slot), va_P D vwC (zR dA ad σ) H → va_D A (zR dA ad σ) → va_S A s.heap H locs → lv_has ls 4 [(0, .ref (ad 0 1000)), (1, .int (Int32.ofInt v1)), (2, .int (Int32.ofInt v2))] → wpX11_twice_9 K2 v1 v2 σ Q → W p l e (gR 2 0 0) s m #[.ref (ad 0 1000)] below meth c H locs 0 0 QQ (F0 m 9 ls []) := by
      intro v1 v2 σ H locs ls hP hD hS hl hw
      exact hw (fun v2 σ => ∀ (H : Heap) (locs : List Loc) (ls : Array Slot), va_P D vwC (zR dA ad σ) H → va_D A (zR dA ad σ) → va_S A s.heap H locs → lv_has ls 4 [(0, .ref (ad 0 1000)), (1, .int (Int32.ofInt v1)), (2, .int (Int32.ofInt v2))] → W p l e (gR 2 0 0) s m #[.ref (ad 0 1000)] below meth c H locs 0 0 QQ (F0 m 9 ls [])) (b9 v1 (fun v2 σ => ∀ (H : Heap) (locs : List Loc) (ls : Array Slot), va_P D vwC (zR dA ad σ) H → va_D A (zR dA ad σ) → va_S A s.heap H locs → lv_has ls 4 [(0, .ref (ad 0 1000)), (1, .int (Int32.ofInt v1)), (2, .int (Int32.ofInt v2))] → W p l e (gR 2 0 0) s m #[.ref (ad 0 1000)] below meth c H locs 0 0 QQ (F0 m 9 ls [])) (fun v2 σ h => h)) _ _ _ hP hD hS hl
    intro v1 σ hw H locs ls hP hD hS hl
    unfold wpbX11_twice_2 at hw
    refine lv_iload_n hx hb dX11_twice_2 rfl (lv_at hl 1 rfl) ?_
    refine lv_iconst (v := Int32.ofInt 3) hx hb dX11_twice_3 (by decide) ?_
    obtain ⟨o15, hw⟩ := hw
    refine z_icmp_ge (tgt := 74) hx hb o15 (by decide) dX11_twice_4 (by decide) (fun k16 => ?_) (fun k16 => ?_)
    · replace hw := hw.1 k16
      refine lv_iconst (v := Int32.ofInt (-1)) hx hb dX11_twice_74 (by decide) ?_
      exact hret (-1) σ _ _ _ _ hw hP hD hS dX11_twice_75
    · replace hw := hw.2 k16
      refine lv_iconst (v := Int32.ofInt 0) hx hb dX11_twice_7 (by decide) ?_
      refine lv_istore_n (lv' := [(2, .int (Int32.ofInt 0)), (0, .ref (ad 0 1000)), (1, .int (Int32.ofInt v1))]) hx hb dX11_twice_8 rfl hl (by decide) rfl (fun ls hl => ?_)
      exact j9 v1 0 σ _ _ _ hP hD hS (lv_sub hl [1, 2, 0] rfl) hw
  have j2 : ∀ (v1 : Int) (σ : ZS), ∀ (H : Heap) (locs : List Loc) (ls : Array Slot), va_P D vwC (zR dA ad σ) H → va_D A (zR dA ad σ) → va_S A s.heap H locs → lv_has ls 4 [(0, .ref (ad 0 1000)), (1, .int (Int32.ofInt v1))] → wpX11_twice_2 v1 σ Q → W p l e (gR 2 0 0) s m #[.ref (ad 0 1000)] below meth c H locs 0 0 QQ (F0 m 2 ls []) := by
    intro v1 σ H locs ls hP hD hS hl hw
    exact hw (fun v1 σ => ∀ (H : Heap) (locs : List Loc) (ls : Array Slot), va_P D vwC (zR dA ad σ) H → va_D A (zR dA ad σ) → va_S A s.heap H locs → lv_has ls 4 [(0, .ref (ad 0 1000)), (1, .int (Int32.ofInt v1))] → W p l e (gR 2 0 0) s m #[.ref (ad 0 1000)] below meth c H locs 0 0 QQ (F0 m 2 ls [])) (b2 (fun v1 σ => ∀ (H : Heap) (locs : List Loc) (ls : Array Slot), va_P D vwC (zR dA ad σ) H → va_D A (zR dA ad σ) → va_S A s.heap H locs → lv_has ls 4 [(0, .ref (ad 0 1000)), (1, .int (Int32.ofInt v1))] → W p l e (gR 2 0 0) s m #[.ref (ad 0 1000)] below meth c H locs 0 0 QQ (F0 m 2 ls [])) (fun v1 σ h => h)) _ _ _ hP hD hS hl
  unfold wpX11_twice at hw
  refine lv_iconst (v := Int32.ofInt 1) hx hb dX11_twice_0 (by decide) ?_
  refine lv_istore_n (lv' := [(1, .int (Int32.ofInt 1)), (0, .ref (ad 0 1000))]) hx hb dX11_twice_1 rfl hl (by decide) rfl (fun ls hl => ?_)
  exact j2 1 σ _ _ _ hP hD hS (lv_sub hl [1, 0] rfl) hw
def wpX11_missing_70 (K2 : Int → ZS → Prop) (v1 : Int) (σ : ZS) (Q : Int → ZS → Prop) : Prop := K2 (v1 + 1) σ
def wpX11_missing_64 (K2 : Int → ZS → Prop) (K9 : Int → ZS → Prop) (v1 v2 : Int) (σ : ZS) (Q : Int → ZS → Prop) : Prop := K9 (v2 + 1) σ
def wpbX11_missing_9 (K2 : Int → ZS → Prop) (K9 : Int → ZS → Prop) (v1 v2 : Int) (σ : ZS) (Q : Int → ZS → Prop) : Prop := (0 ≤ v1 ∧ v1 < 3) ∧ (-2147483648 ≤ v2 ∧ v2 ≤ 2147483647) ∧ (-2147483648 ≤ (zA σ 0 50 v1) ∧ (zA σ 0 50 v1) ≤ 2147483647) ∧ ((zA σ 0 50 v1) ≤ v2 → wpX11_missing_70 K2 v1 σ Q) ∧ (¬ (zA σ 0 50 v1) ≤ v2 → (-2147483648 ≤ (zA σ 0 43 v1) ∧ (zA σ 0 43 v1) ≤ 2147483647) ∧ ((zA σ 0 43 v1) = 0 → wpX11_missing_70 K2 v1 σ Q) ∧ (¬ (zA σ 0 43 v1) = 0 → (0 ≤ ((200 * v1) + v2) ∧ ((200 * v1) + v2) < 600) ∧ (-2147483648 ≤ (zA σ 0 54 ((200 * v1) + v2)) ∧ (zA σ 0 54 ((200 * v1) + v2)) ≤ 2147483647) ∧ (0 ≤ (zA σ 0 54 ((200 * v1) + v2)) → wpX11_missing_64 K2 K9 v1 v2 σ Q) ∧ (¬ 0 ≤ (zA σ 0 54 ((200 * v1) + v2)) → wpX11_publicOf (zA σ 0 55 ((200 * v1) + v2)) σ (fun (x10 : Int) (σ11 : ZS) => (-2147483648 ≤ x10 ∧ x10 ≤ 2147483647) ∧ (0 ≤ x10 → wpX11_missing_64 K2 K9 v1 v2 σ11 Q) ∧ (¬ 0 ≤ x10 → Q v1 σ11)))))
def wpX11_missing_9 (K2 : Int → ZS → Prop) (v1 v2 : Int) (σ : ZS) (Q : Int → ZS → Prop) : Prop := lfp1 (fun K9 v2 σ => wpbX11_missing_9 K2 K9 v1 v2 σ Q) v2 σ
def wpbX11_missing_2 (K2 : Int → ZS → Prop) (v1 : Int) (σ : ZS) (Q : Int → ZS → Prop) : Prop := (-2147483648 ≤ v1 ∧ v1 ≤ 2147483647) ∧ (3 ≤ v1 → Q (-1) σ) ∧ (¬ 3 ≤ v1 → wpX11_missing_9 K2 v1 0 σ Q)
def wpX11_missing_2 (v1 : Int) (σ : ZS) (Q : Int → ZS → Prop) : Prop := lfp1 (fun K2 v1 σ => wpbX11_missing_2 K2 v1 σ Q) v1 σ
def wpX11_missing (σ : ZS) (Q : Int → ZS → Prop) : Prop := wpX11_missing_2 0 σ Q
set_option maxHeartbeats 4000000 in
set_option maxRecDepth 100000 in
theorem kX11_missing (l : Launch) (D : va_G) (dA : Nat → ClassId) (ad : Int → Nat → Nat) (σ : ZS) (Q : Int → ZS → Prop) (sz : Nat) (hw : wpX11_missing σ Q) : Met l yX11_missing (gws yX11_missing cX11_missing 3 (some .int)) (gR 3 0 0) (gPre D dA [.ref (ad 0 1000)] (zR dA ad σ) sz) (va_Qi (zQi Q) (gAt D dA (va_A (zR dA ad σ) sz) (zR dA ad)) (va_A (zR dA ad σ) sz)) 0 0 (va_A (zR dA ad σ) sz) := by
  refine Met.ofW (cc := cX11_missing) (maxL := 3) (ret := (some .int)) (by decide) rfl ?_
  intro p e s m args below meth c s₁ B hml hv
  obtain ⟨rfl, hsz, hP, hK, hD0⟩ := hv
  have hx := B.exec
  have hb := B.bytes
  have hr := B.returns
  have hts := atoms_spec (ws := gws yX11_missing cX11_missing 3 (some .int)) B.pre
  have hg : ∀ w ∈ gw, w.before _ s = true := fun w h => hts w (List.mem_cons_of_mem _ h)
  have hown : s.vm.findClass RX11 = some m.cls := findClass_of_methodNamed B.named
  have hlocks := B.notSynchronized
  subst hsz
  have hD := hD0.self (sz := s.heap.size)
  generalize hAe : va_A (zR dA ad σ) s.heap.size = A at hD ⊢
  have hA : ∀ q : Nat, s.heap.size ≤ q → A q := fun q h => by rw [← hAe]; exact Or.inr h
  have hS : va_S A s.heap s.heap [] := va_S.rf
  have hl := lv_entry ([.ref (ad 0 1000)]) (n := 3) (Nat.le_of_ble_eq_true rfl)
  rw [lg_entry_eq]
  generalize (lg_sl ([.ref (ad 0 1000)]) ++ List.replicate (3 - (lg_sl ([.ref (ad 0 1000)])).length) Slot.unset).toArray = ls at hl ⊢
  have hl : lv_has ls 3 [(0, .ref (ad 0 1000))] := hl
  have hret : ∀ (v : Int) (σ : ZS) (H : Heap) (locs : List Loc) (ls : Array Slot) (pc : Nat), Q v σ → va_P D vwC (zR dA ad σ) H → va_D A (zR dA ad σ) → va_S A s.heap H locs → decode cX11_missing pc = .ok (.ireturn, 1) → W p l e (gR 3 0 0) s m #[.ref (ad 0 1000)] below meth c H locs 0 0 (MQ below (va_Qi (zQi Q) (gAt D dA A (zR dA ad)) A) #[.ref (ad 0 1000)] s 0 0 A) (F0 m pc ls [.int (Int32.ofInt v)]) := fun v σ H locs ls pc hw hP hD hS hd => g_iret hx hb hr rfl hlocks hK σ hP hD hS ⟨v, rfl, hw⟩ (Nat.le_of_ble_eq_true rfl) (Nat.le_of_ble_eq_true rfl) hd
  generalize MQ below (va_Qi (zQi Q) (gAt D dA A (zR dA ad)) A) #[.ref (ad 0 1000)] s 0 0 A = QQ at hret ⊢
  have b2 : ∀ (K2 : Int → ZS → Prop), (∀ (v1 : Int) (σ : ZS), K2 v1 σ → ∀ (H : Heap) (locs : List Loc) (ls : Array Slot), va_P D vwC (zR dA ad σ) H → va_D A (zR dA ad σ) → va_S A s.heap H locs → lv_has ls 3 [(0, .ref (ad 0 1000)), (1, .int (Int32.ofInt v1))] → W p l e (gR 3 0 0) s m #[.ref (ad 0 1000)] below meth c H locs 0 0 QQ (F0 m 2 ls [])) → ∀ (v1 : Int) (σ : ZS), wpbX11_missing_2 K2 v1 σ Q → ∀ (H : Heap) (locs : List Loc) (ls : Array Slot), va_P D vwC (zR dA ad σ) H → va_D A (zR dA ad σ) → va_S A s.heap H locs → lv_has ls 3 [(0, .ref (ad 0 1000)), (1, .int (Int32.ofInt v1))] → W p l e (gR 3 0 0) s m #[.ref (ad 0 1000)] below meth c H locs 0 0 QQ (F0 m 2 ls []) := by
    intro K2 hK2
    have j70 : ∀ (v1 : Int) (σ : ZS), ∀ (H : Heap) (locs : List Loc) (ls : Array Slot), va_P D vwC (zR dA ad σ) H → va_D A (zR dA ad σ) → va_S A s.heap H locs → lv_has ls 3 [(0, .ref (ad 0 1000)), (1, .int (Int32.ofInt v1))] → wpX11_missing_70 K2 v1 σ Q → W p l e (gR 3 0 0) s m #[.ref (ad 0 1000)] below meth c H locs 0 0 QQ (F0 m 70 ls []) := by
      intro v1 σ H locs ls hP hD hS hl hw
      unfold wpX11_missing_70 at hw
      refine lv_iinc (v := Int32.ofInt (v1 + 1)) (lv' := [(1, .int (Int32.ofInt (v1 + 1))), (0, .ref (ad 0 1000))]) hx hb dX11_missing_70 hl (k := 1) rfl (Int32.ofInt_add _ _).symm (by decide) rfl (fun ls hl => ?_)
      refine lv_goto (tgt := 2) hx hb dX11_missing_73 (by decide) ?_
      exact hK2 (v1 + 1) σ hw _ _ _ hP hD hS (lv_sub hl [1, 0] rfl)
    have b9 : ∀ (v1 : Int) (K9 : Int → ZS → Prop), (∀ (v2 : Int) (σ : ZS), K9 v2 σ → ∀ (H : Heap) (locs : List Loc) (ls : Array Slot), va_P D vwC (zR dA ad σ) H → va_D A (zR dA ad σ) → va_S A s.heap H locs → lv_has ls 3 [(0, .ref (ad 0 1000)), (1, .int (Int32.ofInt v1)), (2, .int (Int32.ofInt v2))] → W p l e (gR 3 0 0) s m #[.ref (ad 0 1000)] below meth c H locs 0 0 QQ (F0 m 9 ls [])) → ∀ (v2 : Int) (σ : ZS), wpbX11_missing_9 K2 K9 v1 v2 σ Q → ∀ (H : Heap) (locs : List Loc) (ls : Array Slot), va_P D vwC (zR dA ad σ) H → va_D A (zR dA ad σ) → va_S A s.heap H locs → lv_has ls 3 [(0, .ref (ad 0 1000)), (1, .int (Int32.ofInt v1)), (2, .int (Int32.ofInt v2))] → W p l e (gR 3 0 0) s m #[.ref (ad 0 1000)] below meth c H locs 0 0 QQ (F0 m 9 ls []) := by
      intro v1 K9 hK9
      have j64 : ∀ (v2 : Int) (σ : ZS), ∀ (H : Heap) (locs : List Loc) (ls : Array Slot), va_P D vwC (zR dA ad σ) H → va_D A (zR dA ad σ) → va_S A s.heap H locs → lv_has ls 3 [(0, .ref (ad 0 1000)), (1, .int (Int32.ofInt v1)), (2, .int (Int32.ofInt v2))] → wpX11_missing_64 K2 K9 v1 v2 σ Q → W p l e (gR 3 0 0) s m #[.ref (ad 0 1000)] below meth c H locs 0 0 QQ (F0 m 64 ls []) := by
        intro v2 σ H locs ls hP hD hS hl hw
        unfold wpX11_missing_64 at hw
        refine lv_iinc (v := Int32.ofInt (v2 + 1)) (lv' := [(2, .int (Int32.ofInt (v2 + 1))), (0, .ref (ad 0 1000)), (1, .int (Int32.ofInt v1))]) hx hb dX11_missing_64 hl (k := 2) rfl (Int32.ofInt_add _ _).symm (by decide) rfl (fun ls hl => ?_)
        refine lv_goto (tgt := 9) hx hb dX11_missing_67 (by decide) ?_
        exact hK9 (v2 + 1) σ hw _ _ _ hP hD hS (lv_sub hl [1, 2, 0] rfl)
      intro v2 σ hw H locs ls hP hD hS hl
      unfold wpbX11_missing_9 at hw
      refine lv_iload_n hx hb dX11_missing_9 rfl (lv_at hl 2 rfl) ?_
      refine lv_aload_n hx hb dX11_missing_10 rfl (lv_at hl 0 rfl) ?_
      refine zgR0_50 hx hb hg hown hK hP q1665 dX11_missing_11 ?_
      refine lv_iload_n hx hb dX11_missing_14 rfl (lv_at hl 1 rfl) ?_
      obtain ⟨o1, hw⟩ := hw
      refine zlR0_50 hx hb o1 hK hP dX11_missing_15 ?_
      obtain ⟨o2, hw⟩ := hw
      obtain ⟨o3, hw⟩ := hw
      refine z_icmp_ge (tgt := 70) hx hb o2 o3 dX11_missing_16 (by decide) (fun k4 => ?_) (fun k4 => ?_)
      · replace hw := hw.1 k4
        exact j70 v1 σ _ _ _ hP hD hS (lv_sub hl [0, 1] rfl) hw
      · replace hw := hw.2 k4
        refine lv_aload_n hx hb dX11_missing_19 rfl (lv_at hl 0 rfl) ?_
        refine zgR0_43 hx hb hg hown hK hP q1658 dX11_missing_20 ?_
        refine lv_iload_n hx hb dX11_missing_23 rfl (lv_at hl 1 rfl) ?_
        refine zlR0_43 hx hb o1 hK hP dX11_missing_24 ?_
        obtain ⟨o5, hw⟩ := hw
        refine z_if_eq (tgt := 70) hx hb o5 dX11_missing_25 (by decide) (fun k6 => ?_) (fun k6 => ?_)
        · replace hw := hw.1 k6
          exact j70 v1 σ _ _ _ hP hD hS (lv_sub hl [0, 1] rfl) hw
        · replace hw := hw.2 k6
          refine lv_aload_n hx hb dX11_missing_28 rfl (lv_at hl 0 rfl) ?_
          refine zgR0_54 hx hb hg hown hK hP q1669 dX11_missing_29 ?_
          refine lv_sipush (v := Int32.ofInt 200) hx hb dX11_missing_32 (by decide) ?_
          refine lv_iload_n hx hb dX11_missing_35 rfl (lv_at hl 1 rfl) ?_
          refine z_imul hx hb dX11_missing_36 ?_
          refine lv_iload_n hx hb dX11_missing_37 rfl (lv_at hl 2 rfl) ?_
          refine z_iadd hx hb dX11_missing_38 ?_
          obtain ⟨o7, hw⟩ := hw
          refine zlR0_54 hx hb o7 hK hP dX11_missing_39 ?_
          obtain ⟨o8, hw⟩ := hw
          refine z_if_ge (tgt := 64) hx hb o8 dX11_missing_40 (by decide) (fun k9 => ?_) (fun k9 => ?_)
          · replace hw := hw.1 k9
            exact j64 v2 σ _ _ _ hP hD hS (lv_sub hl [0, 1, 2] rfl) hw
          · replace hw := hw.2 k9
            refine lv_aload_n hx hb dX11_missing_43 rfl (lv_at hl 0 rfl) ?_
            refine lv_aload_n hx hb dX11_missing_44 rfl (lv_at hl 0 rfl) ?_
            refine zgR0_55 hx hb hg hown hK hP q1670 dX11_missing_45 ?_
            refine lv_sipush (v := Int32.ofInt 200) hx hb dX11_missing_48 (by decide) ?_
            refine lv_iload_n hx hb dX11_missing_51 rfl (lv_at hl 1 rfl) ?_
            refine z_imul hx hb dX11_missing_52 ?_
            refine lv_iload_n hx hb dX11_missing_53 rfl (lv_at hl 2 rfl) ?_
            refine z_iadd hx hb dX11_missing_54 ?_
            refine zlR0_55 hx hb o7 hK hP dX11_missing_55 ?_
            refine z_Vi (n := 1) (As := [.long (Int64.ofInt (zA σ 0 55 ((200 * v1) + v2)))]) (rest := []) hx hb hml hg hown hK hP hD hS hA (kX11_publicOf l D dA ad (zA σ 0 55 ((200 * v1) + v2)) σ _ _ hw) (zoR0) rfl q2089 q160 q2086 q2088 q122 (by decide +kernel) ⟨(Nat.le_of_ble_eq_true rfl), (Nat.le_of_ble_eq_true rfl)⟩ rfl hl.1 rfl (Nat.le_of_ble_eq_true rfl) dX11_missing_56 ⟨(Nat.le_of_ble_eq_true rfl), (Nat.le_of_ble_eq_true rfl)⟩ (fun x10 σ11 H locs hw hP hD hS => ?_)
            obtain ⟨o12, hw⟩ := hw
            refine z_if_ge (tgt := 64) hx hb o12 dX11_missing_59 (by decide) (fun k13 => ?_) (fun k13 => ?_)
            · replace hw := hw.1 k13
              exact j64 v2 σ11 _ _ _ hP hD hS (lv_sub hl [0, 1, 2] rfl) hw
            · replace hw := hw.2 k13
              refine lv_iload_n hx hb dX11_missing_62 rfl (lv_at hl 1 rfl) ?_
              exact hret v1 σ11 _ _ _ _ hw hP hD hS dX11_missing_63
    have j9 : ∀ (v1 v2 : Int) (σ : ZS), ∀ (H : Heap) (locs : List Loc) (ls : Array Slot), va_P D vwC (zR dA ad σ) H → va_D A (zR dA ad σ) → va_S A s.heap H locs → lv_has ls 3 [(0, .ref (ad 0 1000)), (1, .int (Int32.ofInt v1)), (2, .int (Int32.ofInt v2))] → wpX11_missing_9 K2 v1 v2 σ Q → W p l e (gR 3 0 0) s m #[.ref (ad 0 1000)] below meth c H locs 0 0 QQ (F0 m 9 ls []) := by
      intro v1 v2 σ H locs ls hP hD hS hl hw
      exact hw (fun v2 σ => ∀ (H : Heap) (locs : List Loc) (ls : Array Slot), va_P D vwC (zR dA ad σ) H → va_D A (zR dA ad σ) → va_S A s.heap H locs → lv_has ls 3 [(0, .ref (ad 0 1000)), (1, .int (Int32.ofInt v1)), (2, .int (Int32.ofInt v2))] → W p l e (gR 3 0 0) s m #[.ref (ad 0 1000)] below meth c H locs 0 0 QQ (F0 m 9 ls [])) (b9 v1 (fun v2 σ => ∀ (H : Heap) (locs : List Loc) (ls : Array Slot), va_P D vwC (zR dA ad σ) H → va_D A (zR dA ad σ) → va_S A s.heap H locs → lv_has ls 3 [(0, .ref (ad 0 1000)), (1, .int (Int32.ofInt v1)), (2, .int (Int32.ofInt v2))] → W p l e (gR 3 0 0) s m #[.ref (ad 0 1000)] below meth c H locs 0 0 QQ (F0 m 9 ls [])) (fun v2 σ h => h)) _ _ _ hP hD hS hl
    intro v1 σ hw H locs ls hP hD hS hl
    unfold wpbX11_missing_2 at hw
    refine lv_iload_n hx hb dX11_missing_2 rfl (lv_at hl 1 rfl) ?_
    refine lv_iconst (v := Int32.ofInt 3) hx hb dX11_missing_3 (by decide) ?_
    obtain ⟨o14, hw⟩ := hw
    refine z_icmp_ge (tgt := 76) hx hb o14 (by decide) dX11_missing_4 (by decide) (fun k15 => ?_) (fun k15 => ?_)
    · replace hw := hw.1 k15
      refine lv_iconst (v := Int32.ofInt (-1)) hx hb dX11_missing_76 (by decide) ?_
      exact hret (-1) σ _ _ _ _ hw hP hD hS dX11_missing_77
    · replace hw := hw.2 k15
      refine lv_iconst (v := Int32.ofInt 0) hx hb dX11_missing_7 (by decide) ?_
      refine lv_istore_n (lv' := [(2, .int (Int32.ofInt 0)), (0, .ref (ad 0 1000)), (1, .int (Int32.ofInt v1))]) hx hb dX11_missing_8 rfl hl (by decide) rfl (fun ls hl => ?_)
      exact j9 v1 0 σ _ _ _ hP hD hS (lv_sub hl [1, 2, 0] rfl) hw
  have j2 : ∀ (v1 : Int) (σ : ZS), ∀ (H : Heap) (locs : List Loc) (ls : Array Slot), va_P D vwC (zR dA ad σ) H → va_D A (zR dA ad σ) → va_S A s.heap H locs → lv_has ls 3 [(0, .ref (ad 0 1000)), (1, .int (Int32.ofInt v1))] → wpX11_missing_2 v1 σ Q → W p l e (gR 3 0 0) s m #[.ref (ad 0 1000)] below meth c H locs 0 0 QQ (F0 m 2 ls []) := by
    intro v1 σ H locs ls hP hD hS hl hw
    exact hw (fun v1 σ => ∀ (H : Heap) (locs : List Loc) (ls : Array Slot), va_P D vwC (zR dA ad σ) H → va_D A (zR dA ad σ) → va_S A s.heap H locs → lv_has ls 3 [(0, .ref (ad 0 1000)), (1, .int (Int32.ofInt v1))] → W p l e (gR 3 0 0) s m #[.ref (ad 0 1000)] below meth c H locs 0 0 QQ (F0 m 2 ls [])) (b2 (fun v1 σ => ∀ (H : Heap) (locs : List Loc) (ls : Array Slot), va_P D vwC (zR dA ad σ) H → va_D A (zR dA ad σ) → va_S A s.heap H locs → lv_has ls 3 [(0, .ref (ad 0 1000)), (1, .int (Int32.ofInt v1))] → W p l e (gR 3 0 0) s m #[.ref (ad 0 1000)] below meth c H locs 0 0 QQ (F0 m 2 ls [])) (fun v1 σ h => h)) _ _ _ hP hD hS hl
  unfold wpX11_missing at hw
  refine lv_iconst (v := Int32.ofInt 0) hx hb dX11_missing_0 (by decide) ?_
  refine lv_istore_n (lv' := [(1, .int (Int32.ofInt 0)), (0, .ref (ad 0 1000))]) hx hb dX11_missing_1 rfl hl (by decide) rfl (fun ls hl => ?_)
  exact j2 0 σ _ _ _ hP hD hS (lv_sub hl [1, 0] rfl) hw
def wpbX11_combine_195 (K195 : Int → Int → ZS → Prop) (v1 v2 : Int) (σ : ZS) (Q : ZS → Prop) : Prop := (-2147483648 ≤ v2 ∧ v2 ≤ 2147483647) ∧ (-2147483648 ≤ (zI σ 0 73) ∧ (zI σ 0 73) ≤ 2147483647) ∧ ((zI σ 0 73) ≤ v2 → Q (zsA σ 0 67 0 v1)) ∧ (¬ (zI σ 0 73) ≤ v2 → (0 ≤ (v1 + 15) ∧ (v1 + 15) ≤ 2147483647) ∧ (0 ≤ v2 ∧ v2 < 72) ∧ K195 ((zA (zsA σ 0 70 v2 (((v1 + 15) / 16) * 16)) 0 70 v2) + (zA σ 0 69 v2)) (v2 + 1) (zsA σ 0 70 v2 (((v1 + 15) / 16) * 16)))
def wpX11_combine_195 (v1 v2 : Int) (σ : ZS) (Q : ZS → Prop) : Prop := lfp2 (fun K195 v1 v2 σ => wpbX11_combine_195 K195 v1 v2 σ Q) v1 v2 σ
def wpX11_combine_185 (K7 : Int → ZS → Prop) (v1 : Int) (σ : ZS) (Q : ZS → Prop) : Prop := K7 (v1 + 1) σ
def wpX11_combine_115 (K7 : Int → ZS → Prop) (K14 : Int → ZS → Prop) (v1 v2 v3 v4 : Int) (σ : ZS) (Q : ZS → Prop) : Prop := (0 ≤ v3 ∧ v3 < 72) ∧ (0 ≤ v4 ∧ v4 < 72) ∧ (0 ≤ (((zA σ 0 69 v4) + (zA σ 0 46 v3)) - 1) ∧ (((zA σ 0 69 v4) + (zA σ 0 46 v3)) - 1) ≤ 2147483647) ∧ (0 < (zA σ 0 46 v3) ∧ (zA σ 0 46 v3) ≤ 2147483647) ∧ K14 (v2 + 1) (zsA (zsA (zsA σ 0 71 v3 v4) 0 72 v3 (((((zA σ 0 69 v4) + (zA σ 0 46 v3)) - 1) / (zA σ 0 46 v3)) * (zA σ 0 46 v3))) 0 69 v4 ((zA (zsA (zsA σ 0 71 v3 v4) 0 72 v3 (((((zA σ 0 69 v4) + (zA σ 0 46 v3)) - 1) / (zA σ 0 46 v3)) * (zA σ 0 46 v3))) 0 72 v3) + (zA σ 0 48 v3)))
def wpX11_combine_75 (K7 : Int → ZS → Prop) (K14 : Int → ZS → Prop) (v1 v2 v3 v4 : Int) (σ : ZS) (Q : ZS → Prop) : Prop := (-2147483648 ≤ v4 ∧ v4 ≤ 2147483647) ∧ (-2147483648 ≤ (zI σ 0 73) ∧ (zI σ 0 73) ≤ 2147483647) ∧ (¬ v4 = (zI σ 0 73) → wpX11_combine_115 K7 K14 v1 v2 v3 v4 σ Q) ∧ (v4 = (zI σ 0 73) → (0 ≤ v3 ∧ v3 < 72) ∧ (0 ≤ v4 ∧ v4 < 72) ∧ wpX11_combine_115 K7 K14 v1 v2 v3 v4 (zsI (zsA (zsA σ 0 68 v4 (zA σ 0 45 v3)) 0 69 v4 0) 0 73 ((zI σ 0 73) + 1)) Q)
def wpbX11_combine_43 (K7 : Int → ZS → Prop) (K14 : Int → ZS → Prop) (K43 : Int → ZS → Prop) (v1 v2 v3 v4 : Int) (σ : ZS) (Q : ZS → Prop) : Prop := (-2147483648 ≤ v4 ∧ v4 ≤ 2147483647) ∧ (-2147483648 ≤ (zI σ 0 73) ∧ (zI σ 0 73) ≤ 2147483647) ∧ ((zI σ 0 73) ≤ v4 → wpX11_combine_75 K7 K14 v1 v2 v3 v4 σ Q) ∧ (¬ (zI σ 0 73) ≤ v4 → (0 ≤ v4 ∧ v4 < 72) ∧ (0 ≤ v3 ∧ v3 < 72) ∧ (-9223372036854775808 ≤ (zA σ 0 68 v4) ∧ (zA σ 0 68 v4) ≤ 9223372036854775807) ∧ (-9223372036854775808 ≤ (zA σ 0 45 v3) ∧ (zA σ 0 45 v3) ≤ 9223372036854775807) ∧ ((zA σ 0 68 v4) = (zA σ 0 45 v3) → wpX11_combine_75 K7 K14 v1 v2 v3 v4 σ Q) ∧ (¬ (zA σ 0 68 v4) = (zA σ 0 45 v3) → K43 (v4 + 1) σ))
def wpX11_combine_43 (K7 : Int → ZS → Prop) (K14 : Int → ZS → Prop) (v1 v2 v3 v4 : Int) (σ : ZS) (Q : ZS → Prop) : Prop := lfp1 (fun K43 v4 σ => wpbX11_combine_43 K7 K14 K43 v1 v2 v3 v4 σ Q) v4 σ
def wpbX11_combine_14 (K7 : Int → ZS → Prop) (K14 : Int → ZS → Prop) (v1 v2 : Int) (σ : ZS) (Q : ZS → Prop) : Prop := (0 ≤ v1 ∧ v1 < 3) ∧ (-2147483648 ≤ v2 ∧ v2 ≤ 2147483647) ∧ (-2147483648 ≤ (zA σ 0 44 v1) ∧ (zA σ 0 44 v1) ≤ 2147483647) ∧ ((zA σ 0 44 v1) ≤ v2 → wpX11_combine_185 K7 v1 σ Q) ∧ (¬ (zA σ 0 44 v1) ≤ v2 → (-2147483648 ≤ (zA σ 0 43 v1) ∧ (zA σ 0 43 v1) ≤ 2147483647) ∧ ((zA σ 0 43 v1) = 0 → wpX11_combine_185 K7 v1 σ Q) ∧ (¬ (zA σ 0 43 v1) = 0 → wpX11_combine_43 K7 K14 v1 v2 ((24 * v1) + v2) 0 σ Q))
def wpX11_combine_14 (K7 : Int → ZS → Prop) (v1 v2 : Int) (σ : ZS) (Q : ZS → Prop) : Prop := lfp1 (fun K14 v2 σ => wpbX11_combine_14 K7 K14 v1 v2 σ Q) v2 σ
def wpbX11_combine_7 (K7 : Int → ZS → Prop) (v1 : Int) (σ : ZS) (Q : ZS → Prop) : Prop := (-2147483648 ≤ v1 ∧ v1 ≤ 2147483647) ∧ (3 ≤ v1 → wpX11_combine_195 0 0 σ Q) ∧ (¬ 3 ≤ v1 → wpX11_combine_14 K7 v1 0 σ Q)
def wpX11_combine_7 (v1 : Int) (σ : ZS) (Q : ZS → Prop) : Prop := lfp1 (fun K7 v1 σ => wpbX11_combine_7 K7 v1 σ Q) v1 σ
def wpX11_combine (σ : ZS) (Q : ZS → Prop) : Prop := wpX11_combine_7 0 (zsI σ 0 73 0) Q
set_option maxHeartbeats 4000000 in
set_option maxRecDepth 100000 in
theorem kX11_combine (l : Launch) (D : va_G) (dA : Nat → ClassId) (ad : Int → Nat → Nat) (σ : ZS) (Q : ZS → Prop) (sz : Nat) (hw : wpX11_combine σ Q) : Met l yX11_combine (gws yX11_combine cX11_combine 5 none) (gR 1 0 0) (gPre D dA [.ref (ad 0 1000)] (zR dA ad σ) sz) (va_Qv Q (gAt D dA (va_A (zR dA ad σ) sz) (zR dA ad)) (va_A (zR dA ad σ) sz)) 0 0 (va_A (zR dA ad σ) sz) := by
  refine Met.ofW (cc := cX11_combine) (maxL := 5) (ret := none) (by decide) rfl ?_
  intro p e s m args below meth c s₁ B hml hv
  obtain ⟨rfl, hsz, hP, hK, hD0⟩ := hv
  have hx := B.exec
  have hb := B.bytes
  have hr := B.returns
  have hts := atoms_spec (ws := gws yX11_combine cX11_combine 5 none) B.pre
  have hg : ∀ w ∈ gw, w.before _ s = true := fun w h => hts w (List.mem_cons_of_mem _ h)
  have hown : s.vm.findClass RX11 = some m.cls := findClass_of_methodNamed B.named
  have hlocks := B.notSynchronized
  subst hsz
  have hD := hD0.self (sz := s.heap.size)
  generalize hAe : va_A (zR dA ad σ) s.heap.size = A at hD ⊢
  have hA : ∀ q : Nat, s.heap.size ≤ q → A q := fun q h => by rw [← hAe]; exact Or.inr h
  have hS : va_S A s.heap s.heap [] := va_S.rf
  have hl := lv_entry ([.ref (ad 0 1000)]) (n := 5) (Nat.le_of_ble_eq_true rfl)
  rw [lg_entry_eq]
  generalize (lg_sl ([.ref (ad 0 1000)]) ++ List.replicate (5 - (lg_sl ([.ref (ad 0 1000)])).length) Slot.unset).toArray = ls at hl ⊢
  have hl : lv_has ls 5 [(0, .ref (ad 0 1000))] := hl
  have hret : ∀ (σ : ZS) (H : Heap) (locs : List Loc) (ls : Array Slot) (pc : Nat), Q σ → va_P D vwC (zR dA ad σ) H → va_D A (zR dA ad σ) → va_S A s.heap H locs → decode cX11_combine pc = .ok (.return_, 1) → W p l e (gR 1 0 0) s m #[.ref (ad 0 1000)] below meth c H locs 0 0 (MQ below (va_Qv Q (gAt D dA A (zR dA ad)) A) #[.ref (ad 0 1000)] s 0 0 A) (F0 m pc ls []) := fun σ H locs ls pc hw hP hD hS hd => g_vret hx hb hr hlocks hK σ hP hD hS hw (Nat.le_of_ble_eq_true rfl) (Nat.le_of_ble_eq_true rfl) hd
  generalize MQ below (va_Qv Q (gAt D dA A (zR dA ad)) A) #[.ref (ad 0 1000)] s 0 0 A = QQ at hret ⊢
  have b195 : ∀ (K195 : Int → Int → ZS → Prop), (∀ (v1 v2 : Int) (σ : ZS), K195 v1 v2 σ → ∀ (H : Heap) (locs : List Loc) (ls : Array Slot), va_P D vwC (zR dA ad σ) H → va_D A (zR dA ad σ) → va_S A s.heap H locs → lv_has ls 5 [(0, .ref (ad 0 1000)), (1, .int (Int32.ofInt v1)), (2, .int (Int32.ofInt v2))] → W p l e (gR 1 0 0) s m #[.ref (ad 0 1000)] below meth c H locs 0 0 QQ (F0 m 195 ls [])) → ∀ (v1 v2 : Int) (σ : ZS), wpbX11_combine_195 K195 v1 v2 σ Q → ∀ (H : Heap) (locs : List Loc) (ls : Array Slot), va_P D vwC (zR dA ad σ) H → va_D A (zR dA ad σ) → va_S A s.heap H locs → lv_has ls 5 [(0, .ref (ad 0 1000)), (1, .int (Int32.ofInt v1)), (2, .int (Int32.ofInt v2))] → W p l e (gR 1 0 0) s m #[.ref (ad 0 1000)] below meth c H locs 0 0 QQ (F0 m 195 ls []) := by
    intro K195 hK195
    intro v1 v2 σ hw H locs ls hP hD hS hl
    unfold wpbX11_combine_195 at hw
    refine lv_iload_n hx hb dX11_combine_195 rfl (lv_at hl 2 rfl) ?_
    refine lv_aload_n hx hb dX11_combine_196 rfl (lv_at hl 0 rfl) ?_
    refine zgR0_73 hx hb hg hown hK hP q1688 dX11_combine_197 ?_
    obtain ⟨o1, hw⟩ := hw
    obtain ⟨o2, hw⟩ := hw
    refine z_icmp_ge (tgt := 239) hx hb o1 o2 dX11_combine_200 (by decide) (fun k3 => ?_) (fun k3 => ?_)
    · replace hw := hw.1 k3
      refine lv_aload_n hx hb dX11_combine_239 rfl (lv_at hl 0 rfl) ?_
      refine zgR0_67 hx hb hg hown hK hP q1682 dX11_combine_240 ?_
      refine lv_iconst (v := Int32.ofInt 0) hx hb dX11_combine_243 (by decide) ?_
      refine lv_iload_n hx hb dX11_combine_244 rfl (lv_at hl 1 rfl) ?_
      refine zsR0_67 (v := v1) hx hb (by decide) hK hP hD hS dX11_combine_245 (fun H locs hP hD hS => ?_)
      exact hret (zsA σ 0 67 0 v1) _ _ _ _ hw hP hD hS dX11_combine_246
    · replace hw := hw.2 k3
      refine lv_aload_n hx hb dX11_combine_203 rfl (lv_at hl 0 rfl) ?_
      refine zgR0_70 hx hb hg hown hK hP q1685 dX11_combine_204 ?_
      refine lv_iload_n hx hb dX11_combine_207 rfl (lv_at hl 2 rfl) ?_
      refine lv_iload_n hx hb dX11_combine_208 rfl (lv_at hl 1 rfl) ?_
      refine lv_bipush (v := Int32.ofInt 15) hx hb dX11_combine_209 (by decide) ?_
      refine z_iadd hx hb dX11_combine_211 ?_
      refine lv_bipush (v := Int32.ofInt 16) hx hb dX11_combine_212 (by decide) ?_
      obtain ⟨o4, hw⟩ := hw
      refine z_idiv hx hb o4 (by decide) dX11_combine_214 ?_
      refine lv_bipush (v := Int32.ofInt 16) hx hb dX11_combine_215 (by decide) ?_
      refine z_imul hx hb dX11_combine_217 ?_
      obtain ⟨o5, hw⟩ := hw
      refine zsR0_70 (v := (((v1 + 15) / 16) * 16)) hx hb o5 hK hP hD hS dX11_combine_218 (fun H locs hP hD hS => ?_)
      refine lv_aload_n hx hb dX11_combine_219 rfl (lv_at hl 0 rfl) ?_
      refine zgR0_70 hx hb hg hown hK hP q1685 dX11_combine_220 ?_
      refine lv_iload_n hx hb dX11_combine_223 rfl (lv_at hl 2 rfl) ?_
      refine zlR0_70 hx hb o5 hK hP dX11_combine_224 ?_
      refine lv_aload_n hx hb dX11_combine_225 rfl (lv_at hl 0 rfl) ?_
      refine zgR0_69 hx hb hg hown hK hP q1684 dX11_combine_226 ?_
      refine lv_iload_n hx hb dX11_combine_229 rfl (lv_at hl 2 rfl) ?_
      refine zlR0_69 hx hb o5 hK hP dX11_combine_230 ?_
      refine g_nrm (y := Int32.ofInt (zA σ 0 69 v2)) rfl ?_
      refine z_iadd hx hb dX11_combine_231 ?_
      refine lv_istore_n (lv' := [(1, .int (Int32.ofInt ((zA (zsA σ 0 70 v2 (((v1 + 15) / 16) * 16)) 0 70 v2) + (zA σ 0 69 v2)))), (0, .ref (ad 0 1000)), (2, .int (Int32.ofInt v2))]) hx hb dX11_combine_232 rfl hl (by decide) rfl (fun ls hl => ?_)
      refine lv_iinc (v := Int32.ofInt (v2 + 1)) (lv' := [(2, .int (Int32.ofInt (v2 + 1))), (1, .int (Int32.ofInt ((zA (zsA σ 0 70 v2 (((v1 + 15) / 16) * 16)) 0 70 v2) + (zA σ 0 69 v2)))), (0, .ref (ad 0 1000))]) hx hb dX11_combine_233 hl (k := 2) rfl (Int32.ofInt_add _ _).symm (by decide) rfl (fun ls hl => ?_)
      refine lv_goto (tgt := 195) hx hb dX11_combine_236 (by decide) ?_
      exact hK195 ((zA (zsA σ 0 70 v2 (((v1 + 15) / 16) * 16)) 0 70 v2) + (zA σ 0 69 v2)) (v2 + 1) (zsA σ 0 70 v2 (((v1 + 15) / 16) * 16)) hw _ _ _ hP hD hS (lv_sub hl [2, 1, 0] rfl)
  have j195 : ∀ (v1 v2 : Int) (σ : ZS), ∀ (H : Heap) (locs : List Loc) (ls : Array Slot), va_P D vwC (zR dA ad σ) H → va_D A (zR dA ad σ) → va_S A s.heap H locs → lv_has ls 5 [(0, .ref (ad 0 1000)), (1, .int (Int32.ofInt v1)), (2, .int (Int32.ofInt v2))] → wpX11_combine_195 v1 v2 σ Q → W p l e (gR 1 0 0) s m #[.ref (ad 0 1000)] below meth c H locs 0 0 QQ (F0 m 195 ls []) := by
    intro v1 v2 σ H locs ls hP hD hS hl hw
    exact hw (fun v1 v2 σ => ∀ (H : Heap) (locs : List Loc) (ls : Array Slot), va_P D vwC (zR dA ad σ) H → va_D A (zR dA ad σ) → va_S A s.heap H locs → lv_has ls 5 [(0, .ref (ad 0 1000)), (1, .int (Int32.ofInt v1)), (2, .int (Int32.ofInt v2))] → W p l e (gR 1 0 0) s m #[.ref (ad 0 1000)] below meth c H locs 0 0 QQ (F0 m 195 ls [])) (b195 (fun v1 v2 σ => ∀ (H : Heap) (locs : List Loc) (ls : Array Slot), va_P D vwC (zR dA ad σ) H → va_D A (zR dA ad σ) → va_S A s.heap H locs → lv_has ls 5 [(0, .ref (ad 0 1000)), (1, .int (Int32.ofInt v1)), (2, .int (Int32.ofInt v2))] → W p l e (gR 1 0 0) s m #[.ref (ad 0 1000)] below meth c H locs 0 0 QQ (F0 m 195 ls [])) (fun v1 v2 σ h => h)) _ _ _ hP hD hS hl
  have b7 : ∀ (K7 : Int → ZS → Prop), (∀ (v1 : Int) (σ : ZS), K7 v1 σ → ∀ (H : Heap) (locs : List Loc) (ls : Array Slot), va_P D vwC (zR dA ad σ) H → va_D A (zR dA ad σ) → va_S A s.heap H locs → lv_has ls 5 [(0, .ref (ad 0 1000)), (1, .int (Int32.ofInt v1))] → W p l e (gR 1 0 0) s m #[.ref (ad 0 1000)] below meth c H locs 0 0 QQ (F0 m 7 ls [])) → ∀ (v1 : Int) (σ : ZS), wpbX11_combine_7 K7 v1 σ Q → ∀ (H : Heap) (locs : List Loc) (ls : Array Slot), va_P D vwC (zR dA ad σ) H → va_D A (zR dA ad σ) → va_S A s.heap H locs → lv_has ls 5 [(0, .ref (ad 0 1000)), (1, .int (Int32.ofInt v1))] → W p l e (gR 1 0 0) s m #[.ref (ad 0 1000)] below meth c H locs 0 0 QQ (F0 m 7 ls []) := by
    intro K7 hK7
    have j185 : ∀ (v1 : Int) (σ : ZS), ∀ (H : Heap) (locs : List Loc) (ls : Array Slot), va_P D vwC (zR dA ad σ) H → va_D A (zR dA ad σ) → va_S A s.heap H locs → lv_has ls 5 [(0, .ref (ad 0 1000)), (1, .int (Int32.ofInt v1))] → wpX11_combine_185 K7 v1 σ Q → W p l e (gR 1 0 0) s m #[.ref (ad 0 1000)] below meth c H locs 0 0 QQ (F0 m 185 ls []) := by
      intro v1 σ H locs ls hP hD hS hl hw
      unfold wpX11_combine_185 at hw
      refine lv_iinc (v := Int32.ofInt (v1 + 1)) (lv' := [(1, .int (Int32.ofInt (v1 + 1))), (0, .ref (ad 0 1000))]) hx hb dX11_combine_185 hl (k := 1) rfl (Int32.ofInt_add _ _).symm (by decide) rfl (fun ls hl => ?_)
      refine lv_goto (tgt := 7) hx hb dX11_combine_188 (by decide) ?_
      exact hK7 (v1 + 1) σ hw _ _ _ hP hD hS (lv_sub hl [1, 0] rfl)
    have b14 : ∀ (v1 : Int) (K14 : Int → ZS → Prop), (∀ (v2 : Int) (σ : ZS), K14 v2 σ → ∀ (H : Heap) (locs : List Loc) (ls : Array Slot), va_P D vwC (zR dA ad σ) H → va_D A (zR dA ad σ) → va_S A s.heap H locs → lv_has ls 5 [(0, .ref (ad 0 1000)), (1, .int (Int32.ofInt v1)), (2, .int (Int32.ofInt v2))] → W p l e (gR 1 0 0) s m #[.ref (ad 0 1000)] below meth c H locs 0 0 QQ (F0 m 14 ls [])) → ∀ (v2 : Int) (σ : ZS), wpbX11_combine_14 K7 K14 v1 v2 σ Q → ∀ (H : Heap) (locs : List Loc) (ls : Array Slot), va_P D vwC (zR dA ad σ) H → va_D A (zR dA ad σ) → va_S A s.heap H locs → lv_has ls 5 [(0, .ref (ad 0 1000)), (1, .int (Int32.ofInt v1)), (2, .int (Int32.ofInt v2))] → W p l e (gR 1 0 0) s m #[.ref (ad 0 1000)] below meth c H locs 0 0 QQ (F0 m 14 ls []) := by
      intro v1 K14 hK14
      have j115 : ∀ (v2 v3 v4 : Int) (σ : ZS), ∀ (H : Heap) (locs : List Loc) (ls : Array Slot), va_P D vwC (zR dA ad σ) H → va_D A (zR dA ad σ) → va_S A s.heap H locs → lv_has ls 5 [(0, .ref (ad 0 1000)), (1, .int (Int32.ofInt v1)), (2, .int (Int32.ofInt v2)), (3, .int (Int32.ofInt v3)), (4, .int (Int32.ofInt v4))] → wpX11_combine_115 K7 K14 v1 v2 v3 v4 σ Q → W p l e (gR 1 0 0) s m #[.ref (ad 0 1000)] below meth c H locs 0 0 QQ (F0 m 115 ls []) := by
        intro v2 v3 v4 σ H locs ls hP hD hS hl hw
        unfold wpX11_combine_115 at hw
        refine lv_aload_n hx hb dX11_combine_115 rfl (lv_at hl 0 rfl) ?_
        refine zgR0_71 hx hb hg hown hK hP q1686 dX11_combine_116 ?_
        refine lv_iload_n hx hb dX11_combine_119 rfl (lv_at hl 3 rfl) ?_
        refine lv_iload hx hb dX11_combine_120 (lv_at hl 4 rfl) ?_
        obtain ⟨o6, hw⟩ := hw
        refine zsR0_71 (v := v4) hx hb o6 hK hP hD hS dX11_combine_122 (fun H locs hP hD hS => ?_)
        refine lv_aload_n hx hb dX11_combine_123 rfl (lv_at hl 0 rfl) ?_
        refine zgR0_72 hx hb hg hown hK hP q1687 dX11_combine_124 ?_
        refine lv_iload_n hx hb dX11_combine_127 rfl (lv_at hl 3 rfl) ?_
        refine lv_aload_n hx hb dX11_combine_128 rfl (lv_at hl 0 rfl) ?_
        refine zgR0_69 hx hb hg hown hK hP q1684 dX11_combine_129 ?_
        refine lv_iload hx hb dX11_combine_132 (lv_at hl 4 rfl) ?_
        obtain ⟨o7, hw⟩ := hw
        refine zlR0_69 hx hb o7 hK hP dX11_combine_134 ?_
        refine g_nrm (y := Int32.ofInt (zA σ 0 69 v4)) rfl ?_
        refine lv_aload_n hx hb dX11_combine_135 rfl (lv_at hl 0 rfl) ?_
        refine zgR0_46 hx hb hg hown hK hP q1661 dX11_combine_136 ?_
        refine lv_iload_n hx hb dX11_combine_139 rfl (lv_at hl 3 rfl) ?_
        refine zlR0_46 hx hb o6 hK hP dX11_combine_140 ?_
        refine g_nrm (y := Int32.ofInt (zA σ 0 46 v3)) rfl ?_
        refine z_iadd hx hb dX11_combine_141 ?_
        refine lv_iconst (v := Int32.ofInt 1) hx hb dX11_combine_142 (by decide) ?_
        refine z_isub hx hb dX11_combine_143 ?_
        refine lv_aload_n hx hb dX11_combine_144 rfl (lv_at hl 0 rfl) ?_
        refine zgR0_46 hx hb hg hown hK hP q1661 dX11_combine_145 ?_
        refine lv_iload_n hx hb dX11_combine_148 rfl (lv_at hl 3 rfl) ?_
        refine zlR0_46 hx hb o6 hK hP dX11_combine_149 ?_
        refine g_nrm (y := Int32.ofInt (zA σ 0 46 v3)) rfl ?_
        obtain ⟨o8, hw⟩ := hw
        obtain ⟨o9, hw⟩ := hw
        refine z_idiv hx hb o8 o9 dX11_combine_150 ?_
        refine lv_aload_n hx hb dX11_combine_151 rfl (lv_at hl 0 rfl) ?_
        refine zgR0_46 hx hb hg hown hK hP q1661 dX11_combine_152 ?_
        refine lv_iload_n hx hb dX11_combine_155 rfl (lv_at hl 3 rfl) ?_
        refine zlR0_46 hx hb o6 hK hP dX11_combine_156 ?_
        refine g_nrm (y := Int32.ofInt (zA σ 0 46 v3)) rfl ?_
        refine z_imul hx hb dX11_combine_157 ?_
        refine zsR0_72 (v := (((((zA σ 0 69 v4) + (zA σ 0 46 v3)) - 1) / (zA σ 0 46 v3)) * (zA σ 0 46 v3))) hx hb o6 hK hP hD hS dX11_combine_158 (fun H locs hP hD hS => ?_)
        refine lv_aload_n hx hb dX11_combine_159 rfl (lv_at hl 0 rfl) ?_
        refine zgR0_69 hx hb hg hown hK hP q1684 dX11_combine_160 ?_
        refine lv_iload hx hb dX11_combine_163 (lv_at hl 4 rfl) ?_
        refine lv_aload_n hx hb dX11_combine_165 rfl (lv_at hl 0 rfl) ?_
        refine zgR0_72 hx hb hg hown hK hP q1687 dX11_combine_166 ?_
        refine lv_iload_n hx hb dX11_combine_169 rfl (lv_at hl 3 rfl) ?_
        refine zlR0_72 hx hb o6 hK hP dX11_combine_170 ?_
        refine lv_aload_n hx hb dX11_combine_171 rfl (lv_at hl 0 rfl) ?_
        refine zgR0_48 hx hb hg hown hK hP q1663 dX11_combine_172 ?_
        refine lv_iload_n hx hb dX11_combine_175 rfl (lv_at hl 3 rfl) ?_
        refine zlR0_48 hx hb o6 hK hP dX11_combine_176 ?_
        refine g_nrm (y := Int32.ofInt (zA σ 0 48 v3)) rfl ?_
        refine z_iadd hx hb dX11_combine_177 ?_
        refine zsR0_69 (v := ((zA (zsA (zsA σ 0 71 v3 v4) 0 72 v3 (((((zA σ 0 69 v4) + (zA σ 0 46 v3)) - 1) / (zA σ 0 46 v3)) * (zA σ 0 46 v3))) 0 72 v3) + (zA σ 0 48 v3))) hx hb o7 hK hP hD hS dX11_combine_178 (fun H locs hP hD hS => ?_)
        refine lv_iinc (v := Int32.ofInt (v2 + 1)) (lv' := [(2, .int (Int32.ofInt (v2 + 1))), (0, .ref (ad 0 1000)), (1, .int (Int32.ofInt v1)), (3, .int (Int32.ofInt v3)), (4, .int (Int32.ofInt v4))]) hx hb dX11_combine_179 hl (k := 2) rfl (Int32.ofInt_add _ _).symm (by decide) rfl (fun ls hl => ?_)
        refine lv_goto (tgt := 14) hx hb dX11_combine_182 (by decide) ?_
        exact hK14 (v2 + 1) (zsA (zsA (zsA σ 0 71 v3 v4) 0 72 v3 (((((zA σ 0 69 v4) + (zA σ 0 46 v3)) - 1) / (zA σ 0 46 v3)) * (zA σ 0 46 v3))) 0 69 v4 ((zA (zsA (zsA σ 0 71 v3 v4) 0 72 v3 (((((zA σ 0 69 v4) + (zA σ 0 46 v3)) - 1) / (zA σ 0 46 v3)) * (zA σ 0 46 v3))) 0 72 v3) + (zA σ 0 48 v3))) hw _ _ _ hP hD hS (lv_sub hl [1, 2, 0] rfl)
      have j75 : ∀ (v2 v3 v4 : Int) (σ : ZS), ∀ (H : Heap) (locs : List Loc) (ls : Array Slot), va_P D vwC (zR dA ad σ) H → va_D A (zR dA ad σ) → va_S A s.heap H locs → lv_has ls 5 [(0, .ref (ad 0 1000)), (1, .int (Int32.ofInt v1)), (2, .int (Int32.ofInt v2)), (3, .int (Int32.ofInt v3)), (4, .int (Int32.ofInt v4))] → wpX11_combine_75 K7 K14 v1 v2 v3 v4 σ Q → W p l e (gR 1 0 0) s m #[.ref (ad 0 1000)] below meth c H locs 0 0 QQ (F0 m 75 ls []) := by
        intro v2 v3 v4 σ H locs ls hP hD hS hl hw
        unfold wpX11_combine_75 at hw
        refine lv_iload hx hb dX11_combine_75 (lv_at hl 4 rfl) ?_
        refine lv_aload_n hx hb dX11_combine_77 rfl (lv_at hl 0 rfl) ?_
        refine zgR0_73 hx hb hg hown hK hP q1688 dX11_combine_78 ?_
        obtain ⟨o10, hw⟩ := hw
        obtain ⟨o11, hw⟩ := hw
        refine z_icmp_ne (tgt := 115) hx hb o10 o11 dX11_combine_81 (by decide) (fun k12 => ?_) (fun k12 => ?_)
        · replace hw := hw.1 k12
          exact j115 v2 v3 v4 σ _ _ _ hP hD hS (lv_sub hl [0, 1, 2, 3, 4] rfl) hw
        · replace hw := hw.2 k12
          refine lv_aload_n hx hb dX11_combine_84 rfl (lv_at hl 0 rfl) ?_
          refine zgR0_68 hx hb hg hown hK hP q1683 dX11_combine_85 ?_
          refine lv_iload hx hb dX11_combine_88 (lv_at hl 4 rfl) ?_
          refine lv_aload_n hx hb dX11_combine_90 rfl (lv_at hl 0 rfl) ?_
          refine zgR0_45 hx hb hg hown hK hP q1660 dX11_combine_91 ?_
          refine lv_iload_n hx hb dX11_combine_94 rfl (lv_at hl 3 rfl) ?_
          obtain ⟨o13, hw⟩ := hw
          refine zlR0_45 hx hb o13 hK hP dX11_combine_95 ?_
          obtain ⟨o14, hw⟩ := hw
          refine zsR0_68 (v := (zA σ 0 45 v3)) hx hb o14 hK hP hD hS dX11_combine_96 (fun H locs hP hD hS => ?_)
          refine lv_aload_n hx hb dX11_combine_97 rfl (lv_at hl 0 rfl) ?_
          refine zgR0_69 hx hb hg hown hK hP q1684 dX11_combine_98 ?_
          refine lv_iload hx hb dX11_combine_101 (lv_at hl 4 rfl) ?_
          refine lv_iconst (v := Int32.ofInt 0) hx hb dX11_combine_103 (by decide) ?_
          refine zsR0_69 (v := 0) hx hb o14 hK hP hD hS dX11_combine_104 (fun H locs hP hD hS => ?_)
          refine lv_aload_n hx hb dX11_combine_105 rfl (lv_at hl 0 rfl) ?_
          refine lv_dup hx hb dX11_combine_106 rfl ?_
          refine zgR0_73 hx hb hg hown hK hP q1688 dX11_combine_107 ?_
          refine g_nrm (y := Int32.ofInt (zI σ 0 73)) rfl ?_
          refine lv_iconst (v := Int32.ofInt 1) hx hb dX11_combine_110 (by decide) ?_
          refine z_iadd hx hb dX11_combine_111 ?_
          refine zpR0_73 (v := ((zI σ 0 73) + 1)) hx hb hg hown hK hP hD hS q1688 dX11_combine_112 (fun H locs hP hD hS => ?_)
          exact j115 v2 v3 v4 (zsI (zsA (zsA σ 0 68 v4 (zA σ 0 45 v3)) 0 69 v4 0) 0 73 ((zI σ 0 73) + 1)) _ _ _ hP hD hS (lv_sub hl [0, 1, 2, 3, 4] rfl) hw
      have b43 : ∀ (v2 v3 : Int) (K43 : Int → ZS → Prop), (∀ (v4 : Int) (σ : ZS), K43 v4 σ → ∀ (H : Heap) (locs : List Loc) (ls : Array Slot), va_P D vwC (zR dA ad σ) H → va_D A (zR dA ad σ) → va_S A s.heap H locs → lv_has ls 5 [(0, .ref (ad 0 1000)), (1, .int (Int32.ofInt v1)), (2, .int (Int32.ofInt v2)), (3, .int (Int32.ofInt v3)), (4, .int (Int32.ofInt v4))] → W p l e (gR 1 0 0) s m #[.ref (ad 0 1000)] below meth c H locs 0 0 QQ (F0 m 43 ls [])) → ∀ (v4 : Int) (σ : ZS), wpbX11_combine_43 K7 K14 K43 v1 v2 v3 v4 σ Q → ∀ (H : Heap) (locs : List Loc) (ls : Array Slot), va_P D vwC (zR dA ad σ) H → va_D A (zR dA ad σ) → va_S A s.heap H locs → lv_has ls 5 [(0, .ref (ad 0 1000)), (1, .int (Int32.ofInt v1)), (2, .int (Int32.ofInt v2)), (3, .int (Int32.ofInt v3)), (4, .int (Int32.ofInt v4))] → W p l e (gR 1 0 0) s m #[.ref (ad 0 1000)] below meth c H locs 0 0 QQ (F0 m 43 ls []) := by
        intro v2 v3 K43 hK43
        intro v4 σ hw H locs ls hP hD hS hl
        unfold wpbX11_combine_43 at hw
        refine lv_iload hx hb dX11_combine_43 (lv_at hl 4 rfl) ?_
        refine lv_aload_n hx hb dX11_combine_45 rfl (lv_at hl 0 rfl) ?_
        refine zgR0_73 hx hb hg hown hK hP q1688 dX11_combine_46 ?_
        obtain ⟨o15, hw⟩ := hw
        obtain ⟨o16, hw⟩ := hw
        refine z_icmp_ge (tgt := 75) hx hb o15 o16 dX11_combine_49 (by decide) (fun k17 => ?_) (fun k17 => ?_)
        · replace hw := hw.1 k17
          exact j75 v2 v3 v4 σ _ _ _ hP hD hS (lv_sub hl [0, 1, 2, 3, 4] rfl) hw
        · replace hw := hw.2 k17
          refine lv_aload_n hx hb dX11_combine_52 rfl (lv_at hl 0 rfl) ?_
          refine zgR0_68 hx hb hg hown hK hP q1683 dX11_combine_53 ?_
          refine lv_iload hx hb dX11_combine_56 (lv_at hl 4 rfl) ?_
          obtain ⟨o18, hw⟩ := hw
          refine zlR0_68 hx hb o18 hK hP dX11_combine_58 ?_
          refine lv_aload_n hx hb dX11_combine_59 rfl (lv_at hl 0 rfl) ?_
          refine zgR0_45 hx hb hg hown hK hP q1660 dX11_combine_60 ?_
          refine lv_iload_n hx hb dX11_combine_63 rfl (lv_at hl 3 rfl) ?_
          obtain ⟨o19, hw⟩ := hw
          refine zlR0_45 hx hb o19 hK hP dX11_combine_64 ?_
          obtain ⟨o20, hw⟩ := hw
          obtain ⟨o21, hw⟩ := hw
          refine z_lc_eq (tgt := 75) hx hb o20 o21 dX11_combine_65 dX11_combine_66 (by decide) (fun k22 => ?_) (fun k22 => ?_)
          · replace hw := hw.1 k22
            exact j75 v2 v3 v4 σ _ _ _ hP hD hS (lv_sub hl [0, 1, 2, 3, 4] rfl) hw
          · replace hw := hw.2 k22
            refine lv_iinc (v := Int32.ofInt (v4 + 1)) (lv' := [(4, .int (Int32.ofInt (v4 + 1))), (0, .ref (ad 0 1000)), (1, .int (Int32.ofInt v1)), (2, .int (Int32.ofInt v2)), (3, .int (Int32.ofInt v3))]) hx hb dX11_combine_69 hl (k := 4) rfl (Int32.ofInt_add _ _).symm (by decide) rfl (fun ls hl => ?_)
            refine lv_goto (tgt := 43) hx hb dX11_combine_72 (by decide) ?_
            exact hK43 (v4 + 1) σ hw _ _ _ hP hD hS (lv_sub hl [1, 2, 3, 4, 0] rfl)
      have j43 : ∀ (v2 v3 v4 : Int) (σ : ZS), ∀ (H : Heap) (locs : List Loc) (ls : Array Slot), va_P D vwC (zR dA ad σ) H → va_D A (zR dA ad σ) → va_S A s.heap H locs → lv_has ls 5 [(0, .ref (ad 0 1000)), (1, .int (Int32.ofInt v1)), (2, .int (Int32.ofInt v2)), (3, .int (Int32.ofInt v3)), (4, .int (Int32.ofInt v4))] → wpX11_combine_43 K7 K14 v1 v2 v3 v4 σ Q → W p l e (gR 1 0 0) s m #[.ref (ad 0 1000)] below meth c H locs 0 0 QQ (F0 m 43 ls []) := by
        intro v2 v3 v4 σ H locs ls hP hD hS hl hw
        exact hw (fun v4 σ => ∀ (H : Heap) (locs : List Loc) (ls : Array Slot), va_P D vwC (zR dA ad σ) H → va_D A (zR dA ad σ) → va_S A s.heap H locs → lv_has ls 5 [(0, .ref (ad 0 1000)), (1, .int (Int32.ofInt v1)), (2, .int (Int32.ofInt v2)), (3, .int (Int32.ofInt v3)), (4, .int (Int32.ofInt v4))] → W p l e (gR 1 0 0) s m #[.ref (ad 0 1000)] below meth c H locs 0 0 QQ (F0 m 43 ls [])) (b43 v2 v3 (fun v4 σ => ∀ (H : Heap) (locs : List Loc) (ls : Array Slot), va_P D vwC (zR dA ad σ) H → va_D A (zR dA ad σ) → va_S A s.heap H locs → lv_has ls 5 [(0, .ref (ad 0 1000)), (1, .int (Int32.ofInt v1)), (2, .int (Int32.ofInt v2)), (3, .int (Int32.ofInt v3)), (4, .int (Int32.ofInt v4))] → W p l e (gR 1 0 0) s m #[.ref (ad 0 1000)] below meth c H locs 0 0 QQ (F0 m 43 ls [])) (fun v4 σ h => h)) _ _ _ hP hD hS hl
      intro v2 σ hw H locs ls hP hD hS hl
      unfold wpbX11_combine_14 at hw
      refine lv_iload_n hx hb dX11_combine_14 rfl (lv_at hl 2 rfl) ?_
      refine lv_aload_n hx hb dX11_combine_15 rfl (lv_at hl 0 rfl) ?_
      refine zgR0_44 hx hb hg hown hK hP q1659 dX11_combine_16 ?_
      refine lv_iload_n hx hb dX11_combine_19 rfl (lv_at hl 1 rfl) ?_
      obtain ⟨o23, hw⟩ := hw
      refine zlR0_44 hx hb o23 hK hP dX11_combine_20 ?_
      obtain ⟨o24, hw⟩ := hw
      obtain ⟨o25, hw⟩ := hw
      refine z_icmp_ge (tgt := 185) hx hb o24 o25 dX11_combine_21 (by decide) (fun k26 => ?_) (fun k26 => ?_)
      · replace hw := hw.1 k26
        exact j185 v1 σ _ _ _ hP hD hS (lv_sub hl [0, 1] rfl) hw
      · replace hw := hw.2 k26
        refine lv_aload_n hx hb dX11_combine_24 rfl (lv_at hl 0 rfl) ?_
        refine zgR0_43 hx hb hg hown hK hP q1658 dX11_combine_25 ?_
        refine lv_iload_n hx hb dX11_combine_28 rfl (lv_at hl 1 rfl) ?_
        refine zlR0_43 hx hb o23 hK hP dX11_combine_29 ?_
        obtain ⟨o27, hw⟩ := hw
        refine z_if_eq (tgt := 185) hx hb o27 dX11_combine_30 (by decide) (fun k28 => ?_) (fun k28 => ?_)
        · replace hw := hw.1 k28
          exact j185 v1 σ _ _ _ hP hD hS (lv_sub hl [0, 1] rfl) hw
        · replace hw := hw.2 k28
          refine lv_bipush (v := Int32.ofInt 24) hx hb dX11_combine_33 (by decide) ?_
          refine lv_iload_n hx hb dX11_combine_35 rfl (lv_at hl 1 rfl) ?_
          refine z_imul hx hb dX11_combine_36 ?_
          refine lv_iload_n hx hb dX11_combine_37 rfl (lv_at hl 2 rfl) ?_
          refine z_iadd hx hb dX11_combine_38 ?_
          refine lv_istore_n (lv' := [(3, .int (Int32.ofInt ((24 * v1) + v2))), (0, .ref (ad 0 1000)), (1, .int (Int32.ofInt v1)), (2, .int (Int32.ofInt v2))]) hx hb dX11_combine_39 rfl hl (by decide) rfl (fun ls hl => ?_)
          refine lv_iconst (v := Int32.ofInt 0) hx hb dX11_combine_40 (by decide) ?_
          refine lv_istore (lv' := [(4, .int (Int32.ofInt 0)), (3, .int (Int32.ofInt ((24 * v1) + v2))), (0, .ref (ad 0 1000)), (1, .int (Int32.ofInt v1)), (2, .int (Int32.ofInt v2))]) hx hb dX11_combine_41 hl (by decide) rfl (fun ls hl => ?_)
          exact j43 v2 ((24 * v1) + v2) 0 σ _ _ _ hP hD hS (lv_sub hl [2, 3, 4, 1, 0] rfl) hw
    have j14 : ∀ (v1 v2 : Int) (σ : ZS), ∀ (H : Heap) (locs : List Loc) (ls : Array Slot), va_P D vwC (zR dA ad σ) H → va_D A (zR dA ad σ) → va_S A s.heap H locs → lv_has ls 5 [(0, .ref (ad 0 1000)), (1, .int (Int32.ofInt v1)), (2, .int (Int32.ofInt v2))] → wpX11_combine_14 K7 v1 v2 σ Q → W p l e (gR 1 0 0) s m #[.ref (ad 0 1000)] below meth c H locs 0 0 QQ (F0 m 14 ls []) := by
      intro v1 v2 σ H locs ls hP hD hS hl hw
      exact hw (fun v2 σ => ∀ (H : Heap) (locs : List Loc) (ls : Array Slot), va_P D vwC (zR dA ad σ) H → va_D A (zR dA ad σ) → va_S A s.heap H locs → lv_has ls 5 [(0, .ref (ad 0 1000)), (1, .int (Int32.ofInt v1)), (2, .int (Int32.ofInt v2))] → W p l e (gR 1 0 0) s m #[.ref (ad 0 1000)] below meth c H locs 0 0 QQ (F0 m 14 ls [])) (b14 v1 (fun v2 σ => ∀ (H : Heap) (locs : List Loc) (ls : Array Slot), va_P D vwC (zR dA ad σ) H → va_D A (zR dA ad σ) → va_S A s.heap H locs → lv_has ls 5 [(0, .ref (ad 0 1000)), (1, .int (Int32.ofInt v1)), (2, .int (Int32.ofInt v2))] → W p l e (gR 1 0 0) s m #[.ref (ad 0 1000)] below meth c H locs 0 0 QQ (F0 m 14 ls [])) (fun v2 σ h => h)) _ _ _ hP hD hS hl
    intro v1 σ hw H locs ls hP hD hS hl
    unfold wpbX11_combine_7 at hw
    refine lv_iload_n hx hb dX11_combine_7 rfl (lv_at hl 1 rfl) ?_
    refine lv_iconst (v := Int32.ofInt 3) hx hb dX11_combine_8 (by decide) ?_
    obtain ⟨o29, hw⟩ := hw
    refine z_icmp_ge (tgt := 191) hx hb o29 (by decide) dX11_combine_9 (by decide) (fun k30 => ?_) (fun k30 => ?_)
    · replace hw := hw.1 k30
      refine lv_iconst (v := Int32.ofInt 0) hx hb dX11_combine_191 (by decide) ?_
      refine lv_istore_n (lv' := [(1, .int (Int32.ofInt 0)), (0, .ref (ad 0 1000))]) hx hb dX11_combine_192 rfl hl (by decide) rfl (fun ls hl => ?_)
      refine lv_iconst (v := Int32.ofInt 0) hx hb dX11_combine_193 (by decide) ?_
      refine lv_istore_n (lv' := [(2, .int (Int32.ofInt 0)), (1, .int (Int32.ofInt 0)), (0, .ref (ad 0 1000))]) hx hb dX11_combine_194 rfl hl (by decide) rfl (fun ls hl => ?_)
      exact j195 0 0 σ _ _ _ hP hD hS (lv_sub hl [2, 1, 0] rfl) hw
    · replace hw := hw.2 k30
      refine lv_iconst (v := Int32.ofInt 0) hx hb dX11_combine_12 (by decide) ?_
      refine lv_istore_n (lv' := [(2, .int (Int32.ofInt 0)), (0, .ref (ad 0 1000)), (1, .int (Int32.ofInt v1))]) hx hb dX11_combine_13 rfl hl (by decide) rfl (fun ls hl => ?_)
      exact j14 v1 0 σ _ _ _ hP hD hS (lv_sub hl [1, 2, 0] rfl) hw
  have j7 : ∀ (v1 : Int) (σ : ZS), ∀ (H : Heap) (locs : List Loc) (ls : Array Slot), va_P D vwC (zR dA ad σ) H → va_D A (zR dA ad σ) → va_S A s.heap H locs → lv_has ls 5 [(0, .ref (ad 0 1000)), (1, .int (Int32.ofInt v1))] → wpX11_combine_7 v1 σ Q → W p l e (gR 1 0 0) s m #[.ref (ad 0 1000)] below meth c H locs 0 0 QQ (F0 m 7 ls []) := by
    intro v1 σ H locs ls hP hD hS hl hw
    exact hw (fun v1 σ => ∀ (H : Heap) (locs : List Loc) (ls : Array Slot), va_P D vwC (zR dA ad σ) H → va_D A (zR dA ad σ) → va_S A s.heap H locs → lv_has ls 5 [(0, .ref (ad 0 1000)), (1, .int (Int32.ofInt v1))] → W p l e (gR 1 0 0) s m #[.ref (ad 0 1000)] below meth c H locs 0 0 QQ (F0 m 7 ls [])) (b7 (fun v1 σ => ∀ (H : Heap) (locs : List Loc) (ls : Array Slot), va_P D vwC (zR dA ad σ) H → va_D A (zR dA ad σ) → va_S A s.heap H locs → lv_has ls 5 [(0, .ref (ad 0 1000)), (1, .int (Int32.ofInt v1))] → W p l e (gR 1 0 0) s m #[.ref (ad 0 1000)] below meth c H locs 0 0 QQ (F0 m 7 ls [])) (fun v1 σ h => h)) _ _ _ hP hD hS hl
  unfold wpX11_combine at hw
  refine lv_aload_n hx hb dX11_combine_0 rfl (lv_at hl 0 rfl) ?_
  refine lv_iconst (v := Int32.ofInt 0) hx hb dX11_combine_1 (by decide) ?_
  refine zpR0_73 (v := 0) hx hb hg hown hK hP hD hS q1688 dX11_combine_2 (fun H locs hP hD hS => ?_)
  refine lv_iconst (v := Int32.ofInt 0) hx hb dX11_combine_5 (by decide) ?_
  refine lv_istore_n (lv' := [(1, .int (Int32.ofInt 0)), (0, .ref (ad 0 1000))]) hx hb dX11_combine_6 rfl hl (by decide) rfl (fun ls hl => ?_)
  exact j7 0 (zsI σ 0 73 0) _ _ _ hP hD hS (lv_sub hl [1, 0] rfl) hw
def wpX11_aboutSegment (a1 a2 : Int) (σ : ZS) (Q : Int → ZS → Prop) : Prop := (0 ≤ a2 ∧ a2 < 600) ∧ (-2147483648 ≤ (zA σ 0 54 a2) ∧ (zA σ 0 54 a2) ≤ 2147483647) ∧ ((zA σ 0 54 a2) < 0 → wpX11_publicOf (zA σ 0 55 a2) σ (fun (x4 : Int) (σ5 : ZS) => (0 ≤ x4 ∧ x4 ≤ 2147483647) ∧ (0 ≤ x4 ∧ x4 < 240) ∧ (0 ≤ ((24 * (x4 / 80)) + (zA σ5 0 58 x4)) ∧ ((24 * (x4 / 80)) + (zA σ5 0 58 x4)) < 72) ∧ Q (zA σ5 0 71 ((24 * (x4 / 80)) + (zA σ5 0 58 x4))) σ5)) ∧ (¬ (zA σ 0 54 a2) < 0 → (0 ≤ ((24 * a1) + (zA σ 0 54 a2)) ∧ ((24 * a1) + (zA σ 0 54 a2)) < 72) ∧ Q (zA σ 0 71 ((24 * a1) + (zA σ 0 54 a2))) σ)
set_option maxHeartbeats 4000000 in
set_option maxRecDepth 100000 in
theorem kX11_aboutSegment (l : Launch) (D : va_G) (dA : Nat → ClassId) (ad : Int → Nat → Nat) (a1 a2 : Int) (σ : ZS) (Q : Int → ZS → Prop) (sz : Nat) (hw : wpX11_aboutSegment a1 a2 σ Q) : Met l yX11_aboutSegment (gws yX11_aboutSegment cX11_aboutSegment 4 (some .int)) (gR 3 0 0) (gPre D dA [.ref (ad 0 1000), .int (Int32.ofInt a1), .int (Int32.ofInt a2)] (zR dA ad σ) sz) (va_Qi (zQi Q) (gAt D dA (va_A (zR dA ad σ) sz) (zR dA ad)) (va_A (zR dA ad σ) sz)) 0 0 (va_A (zR dA ad σ) sz) := by
  refine Met.ofW (cc := cX11_aboutSegment) (maxL := 4) (ret := (some .int)) (by decide) rfl ?_
  intro p e s m args below meth c s₁ B hml hv
  obtain ⟨rfl, hsz, hP, hK, hD0⟩ := hv
  have hx := B.exec
  have hb := B.bytes
  have hr := B.returns
  have hts := atoms_spec (ws := gws yX11_aboutSegment cX11_aboutSegment 4 (some .int)) B.pre
  have hg : ∀ w ∈ gw, w.before _ s = true := fun w h => hts w (List.mem_cons_of_mem _ h)
  have hown : s.vm.findClass RX11 = some m.cls := findClass_of_methodNamed B.named
  have hlocks := B.notSynchronized
  subst hsz
  have hD := hD0.self (sz := s.heap.size)
  generalize hAe : va_A (zR dA ad σ) s.heap.size = A at hD ⊢
  have hA : ∀ q : Nat, s.heap.size ≤ q → A q := fun q h => by rw [← hAe]; exact Or.inr h
  have hS : va_S A s.heap s.heap [] := va_S.rf
  have hl := lv_entry ([.ref (ad 0 1000), .int (Int32.ofInt a1), .int (Int32.ofInt a2)]) (n := 4) (Nat.le_of_ble_eq_true rfl)
  rw [lg_entry_eq]
  generalize (lg_sl ([.ref (ad 0 1000), .int (Int32.ofInt a1), .int (Int32.ofInt a2)]) ++ List.replicate (4 - (lg_sl ([.ref (ad 0 1000), .int (Int32.ofInt a1), .int (Int32.ofInt a2)])).length) Slot.unset).toArray = ls at hl ⊢
  have hl : lv_has ls 4 [(0, .ref (ad 0 1000)), (1, .int (Int32.ofInt a1)), (2, .int (Int32.ofInt a2))] := hl
  have hret : ∀ (v : Int) (σ : ZS) (H : Heap) (locs : List Loc) (ls : Array Slot) (pc : Nat), Q v σ → va_P D vwC (zR dA ad σ) H → va_D A (zR dA ad σ) → va_S A s.heap H locs → decode cX11_aboutSegment pc = .ok (.ireturn, 1) → W p l e (gR 3 0 0) s m #[.ref (ad 0 1000), .int (Int32.ofInt a1), .int (Int32.ofInt a2)] below meth c H locs 0 0 (MQ below (va_Qi (zQi Q) (gAt D dA A (zR dA ad)) A) #[.ref (ad 0 1000), .int (Int32.ofInt a1), .int (Int32.ofInt a2)] s 0 0 A) (F0 m pc ls [.int (Int32.ofInt v)]) := fun v σ H locs ls pc hw hP hD hS hd => g_iret hx hb hr rfl hlocks hK σ hP hD hS ⟨v, rfl, hw⟩ (Nat.le_of_ble_eq_true rfl) (Nat.le_of_ble_eq_true rfl) hd
  generalize MQ below (va_Qi (zQi Q) (gAt D dA A (zR dA ad)) A) #[.ref (ad 0 1000), .int (Int32.ofInt a1), .int (Int32.ofInt a2)] s 0 0 A = QQ at hret ⊢
  unfold wpX11_aboutSegment at hw
  refine lv_aload_n hx hb dX11_aboutSegment_0 rfl (lv_at hl 0 rfl) ?_
  refine zgR0_54 hx hb hg hown hK hP q1669 dX11_aboutSegment_1 ?_
  refine lv_iload_n hx hb dX11_aboutSegment_4 rfl (lv_at hl 2 rfl) ?_
  obtain ⟨o1, hw⟩ := hw
  refine zlR0_54 hx hb o1 hK hP dX11_aboutSegment_5 ?_
  obtain ⟨o2, hw⟩ := hw
  refine z_if_lt (tgt := 26) hx hb o2 dX11_aboutSegment_6 (by decide) (fun k3 => ?_) (fun k3 => ?_)
  · replace hw := hw.1 k3
    refine lv_aload_n hx hb dX11_aboutSegment_26 rfl (lv_at hl 0 rfl) ?_
    refine lv_aload_n hx hb dX11_aboutSegment_27 rfl (lv_at hl 0 rfl) ?_
    refine zgR0_55 hx hb hg hown hK hP q1670 dX11_aboutSegment_28 ?_
    refine lv_iload_n hx hb dX11_aboutSegment_31 rfl (lv_at hl 2 rfl) ?_
    refine zlR0_55 hx hb o1 hK hP dX11_aboutSegment_32 ?_
    refine z_Vi (n := 1) (As := [.long (Int64.ofInt (zA σ 0 55 a2))]) (rest := []) hx hb hml hg hown hK hP hD hS hA (kX11_publicOf l D dA ad (zA σ 0 55 a2) σ _ _ hw) (zoR0) rfl q2089 q160 q2086 q2088 q122 (by decide +kernel) ⟨(Nat.le_of_ble_eq_true rfl), (Nat.le_of_ble_eq_true rfl)⟩ rfl hl.1 rfl (Nat.le_of_ble_eq_true rfl) dX11_aboutSegment_33 ⟨(Nat.le_of_ble_eq_true rfl), (Nat.le_of_ble_eq_true rfl)⟩ (fun x4 σ5 H locs hw hP hD hS => ?_)
    refine lv_istore_n (lv' := [(3, .int (Int32.ofInt x4)), (0, .ref (ad 0 1000)), (1, .int (Int32.ofInt a1)), (2, .int (Int32.ofInt a2))]) hx hb dX11_aboutSegment_36 rfl hl (by decide) rfl (fun ls hl => ?_)
    refine lv_aload_n hx hb dX11_aboutSegment_37 rfl (lv_at hl 1 rfl) ?_
    refine zgR0_71 hx hb hg hown hK hP q1686 dX11_aboutSegment_38 ?_
    refine lv_bipush (v := Int32.ofInt 24) hx hb dX11_aboutSegment_41 (by decide) ?_
    refine lv_iload_n hx hb dX11_aboutSegment_43 rfl (lv_at hl 0 rfl) ?_
    refine lv_bipush (v := Int32.ofInt 80) hx hb dX11_aboutSegment_44 (by decide) ?_
    obtain ⟨o6, hw⟩ := hw
    refine z_idiv hx hb o6 (by decide) dX11_aboutSegment_46 ?_
    refine z_imul hx hb dX11_aboutSegment_47 ?_
    refine lv_aload_n hx hb dX11_aboutSegment_48 rfl (lv_at hl 1 rfl) ?_
    refine zgR0_58 hx hb hg hown hK hP q1673 dX11_aboutSegment_49 ?_
    refine lv_iload_n hx hb dX11_aboutSegment_52 rfl (lv_at hl 0 rfl) ?_
    obtain ⟨o7, hw⟩ := hw
    refine zlR0_58 hx hb o7 hK hP dX11_aboutSegment_53 ?_
    refine z_iadd hx hb dX11_aboutSegment_54 ?_
    obtain ⟨o8, hw⟩ := hw
    refine zlR0_71 hx hb o8 hK hP dX11_aboutSegment_55 ?_
    exact hret (zA σ5 0 71 ((24 * (x4 / 80)) + (zA σ5 0 58 x4))) σ5 _ _ _ _ hw hP hD hS dX11_aboutSegment_56
  · replace hw := hw.2 k3
    refine lv_aload_n hx hb dX11_aboutSegment_9 rfl (lv_at hl 0 rfl) ?_
    refine zgR0_71 hx hb hg hown hK hP q1686 dX11_aboutSegment_10 ?_
    refine lv_bipush (v := Int32.ofInt 24) hx hb dX11_aboutSegment_13 (by decide) ?_
    refine lv_iload_n hx hb dX11_aboutSegment_15 rfl (lv_at hl 1 rfl) ?_
    refine z_imul hx hb dX11_aboutSegment_16 ?_
    refine lv_aload_n hx hb dX11_aboutSegment_17 rfl (lv_at hl 0 rfl) ?_
    refine zgR0_54 hx hb hg hown hK hP q1669 dX11_aboutSegment_18 ?_
    refine lv_iload_n hx hb dX11_aboutSegment_21 rfl (lv_at hl 2 rfl) ?_
    refine zlR0_54 hx hb o1 hK hP dX11_aboutSegment_22 ?_
    refine z_iadd hx hb dX11_aboutSegment_23 ?_
    obtain ⟨o9, hw⟩ := hw
    refine zlR0_71 hx hb o9 hK hP dX11_aboutSegment_24 ?_
    exact hret (zA σ 0 71 ((24 * a1) + (zA σ 0 54 a2))) σ _ _ _ _ hw hP hD hS dX11_aboutSegment_25
def wpX11_aboutOffset (a1 a2 : Int) (σ : ZS) (Q : Int → ZS → Prop) : Prop := (0 ≤ a2 ∧ a2 < 600) ∧ (-2147483648 ≤ (zA σ 0 54 a2) ∧ (zA σ 0 54 a2) ≤ 2147483647) ∧ ((zA σ 0 54 a2) < 0 → wpX11_publicOf (zA σ 0 55 a2) σ (fun (x4 : Int) (σ5 : ZS) => (0 ≤ x4 ∧ x4 ≤ 2147483647) ∧ (0 ≤ x4 ∧ x4 < 240) ∧ (0 ≤ ((24 * (x4 / 80)) + (zA σ5 0 58 x4)) ∧ ((24 * (x4 / 80)) + (zA σ5 0 58 x4)) < 72) ∧ Q ((zA σ5 0 72 ((24 * (x4 / 80)) + (zA σ5 0 58 x4))) + (zA σ5 0 59 x4)) σ5)) ∧ (¬ (zA σ 0 54 a2) < 0 → (0 ≤ ((24 * a1) + (zA σ 0 54 a2)) ∧ ((24 * a1) + (zA σ 0 54 a2)) < 72) ∧ Q (zA σ 0 72 ((24 * a1) + (zA σ 0 54 a2))) σ)
set_option maxHeartbeats 4000000 in
set_option maxRecDepth 100000 in
theorem kX11_aboutOffset (l : Launch) (D : va_G) (dA : Nat → ClassId) (ad : Int → Nat → Nat) (a1 a2 : Int) (σ : ZS) (Q : Int → ZS → Prop) (sz : Nat) (hw : wpX11_aboutOffset a1 a2 σ Q) : Met l yX11_aboutOffset (gws yX11_aboutOffset cX11_aboutOffset 4 (some .int)) (gR 3 0 0) (gPre D dA [.ref (ad 0 1000), .int (Int32.ofInt a1), .int (Int32.ofInt a2)] (zR dA ad σ) sz) (va_Qi (zQi Q) (gAt D dA (va_A (zR dA ad σ) sz) (zR dA ad)) (va_A (zR dA ad σ) sz)) 0 0 (va_A (zR dA ad σ) sz) := by
  refine Met.ofW (cc := cX11_aboutOffset) (maxL := 4) (ret := (some .int)) (by decide) rfl ?_
  intro p e s m args below meth c s₁ B hml hv
  obtain ⟨rfl, hsz, hP, hK, hD0⟩ := hv
  have hx := B.exec
  have hb := B.bytes
  have hr := B.returns
  have hts := atoms_spec (ws := gws yX11_aboutOffset cX11_aboutOffset 4 (some .int)) B.pre
  have hg : ∀ w ∈ gw, w.before _ s = true := fun w h => hts w (List.mem_cons_of_mem _ h)
  have hown : s.vm.findClass RX11 = some m.cls := findClass_of_methodNamed B.named
  have hlocks := B.notSynchronized
  subst hsz
  have hD := hD0.self (sz := s.heap.size)
  generalize hAe : va_A (zR dA ad σ) s.heap.size = A at hD ⊢
  have hA : ∀ q : Nat, s.heap.size ≤ q → A q := fun q h => by rw [← hAe]; exact Or.inr h
  have hS : va_S A s.heap s.heap [] := va_S.rf
  have hl := lv_entry ([.ref (ad 0 1000), .int (Int32.ofInt a1), .int (Int32.ofInt a2)]) (n := 4) (Nat.le_of_ble_eq_true rfl)
  rw [lg_entry_eq]
  generalize (lg_sl ([.ref (ad 0 1000), .int (Int32.ofInt a1), .int (Int32.ofInt a2)]) ++ List.replicate (4 - (lg_sl ([.ref (ad 0 1000), .int (Int32.ofInt a1), .int (Int32.ofInt a2)])).length) Slot.unset).toArray = ls at hl ⊢
  have hl : lv_has ls 4 [(0, .ref (ad 0 1000)), (1, .int (Int32.ofInt a1)), (2, .int (Int32.ofInt a2))] := hl
  have hret : ∀ (v : Int) (σ : ZS) (H : Heap) (locs : List Loc) (ls : Array Slot) (pc : Nat), Q v σ → va_P D vwC (zR dA ad σ) H → va_D A (zR dA ad σ) → va_S A s.heap H locs → decode cX11_aboutOffset pc = .ok (.ireturn, 1) → W p l e (gR 3 0 0) s m #[.ref (ad 0 1000), .int (Int32.ofInt a1), .int (Int32.ofInt a2)] below meth c H locs 0 0 (MQ below (va_Qi (zQi Q) (gAt D dA A (zR dA ad)) A) #[.ref (ad 0 1000), .int (Int32.ofInt a1), .int (Int32.ofInt a2)] s 0 0 A) (F0 m pc ls [.int (Int32.ofInt v)]) := fun v σ H locs ls pc hw hP hD hS hd => g_iret hx hb hr rfl hlocks hK σ hP hD hS ⟨v, rfl, hw⟩ (Nat.le_of_ble_eq_true rfl) (Nat.le_of_ble_eq_true rfl) hd
  generalize MQ below (va_Qi (zQi Q) (gAt D dA A (zR dA ad)) A) #[.ref (ad 0 1000), .int (Int32.ofInt a1), .int (Int32.ofInt a2)] s 0 0 A = QQ at hret ⊢
  unfold wpX11_aboutOffset at hw
  refine lv_aload_n hx hb dX11_aboutOffset_0 rfl (lv_at hl 0 rfl) ?_
  refine zgR0_54 hx hb hg hown hK hP q1669 dX11_aboutOffset_1 ?_
  refine lv_iload_n hx hb dX11_aboutOffset_4 rfl (lv_at hl 2 rfl) ?_
  obtain ⟨o1, hw⟩ := hw
  refine zlR0_54 hx hb o1 hK hP dX11_aboutOffset_5 ?_
  obtain ⟨o2, hw⟩ := hw
  refine z_if_lt (tgt := 26) hx hb o2 dX11_aboutOffset_6 (by decide) (fun k3 => ?_) (fun k3 => ?_)
  · replace hw := hw.1 k3
    refine lv_aload_n hx hb dX11_aboutOffset_26 rfl (lv_at hl 0 rfl) ?_
    refine lv_aload_n hx hb dX11_aboutOffset_27 rfl (lv_at hl 0 rfl) ?_
    refine zgR0_55 hx hb hg hown hK hP q1670 dX11_aboutOffset_28 ?_
    refine lv_iload_n hx hb dX11_aboutOffset_31 rfl (lv_at hl 2 rfl) ?_
    refine zlR0_55 hx hb o1 hK hP dX11_aboutOffset_32 ?_
    refine z_Vi (n := 1) (As := [.long (Int64.ofInt (zA σ 0 55 a2))]) (rest := []) hx hb hml hg hown hK hP hD hS hA (kX11_publicOf l D dA ad (zA σ 0 55 a2) σ _ _ hw) (zoR0) rfl q2089 q160 q2086 q2088 q122 (by decide +kernel) ⟨(Nat.le_of_ble_eq_true rfl), (Nat.le_of_ble_eq_true rfl)⟩ rfl hl.1 rfl (Nat.le_of_ble_eq_true rfl) dX11_aboutOffset_33 ⟨(Nat.le_of_ble_eq_true rfl), (Nat.le_of_ble_eq_true rfl)⟩ (fun x4 σ5 H locs hw hP hD hS => ?_)
    refine lv_istore_n (lv' := [(3, .int (Int32.ofInt x4)), (0, .ref (ad 0 1000)), (1, .int (Int32.ofInt a1)), (2, .int (Int32.ofInt a2))]) hx hb dX11_aboutOffset_36 rfl hl (by decide) rfl (fun ls hl => ?_)
    refine lv_aload_n hx hb dX11_aboutOffset_37 rfl (lv_at hl 1 rfl) ?_
    refine zgR0_72 hx hb hg hown hK hP q1687 dX11_aboutOffset_38 ?_
    refine lv_bipush (v := Int32.ofInt 24) hx hb dX11_aboutOffset_41 (by decide) ?_
    refine lv_iload_n hx hb dX11_aboutOffset_43 rfl (lv_at hl 0 rfl) ?_
    refine lv_bipush (v := Int32.ofInt 80) hx hb dX11_aboutOffset_44 (by decide) ?_
    obtain ⟨o6, hw⟩ := hw
    refine z_idiv hx hb o6 (by decide) dX11_aboutOffset_46 ?_
    refine z_imul hx hb dX11_aboutOffset_47 ?_
    refine lv_aload_n hx hb dX11_aboutOffset_48 rfl (lv_at hl 1 rfl) ?_
    refine zgR0_58 hx hb hg hown hK hP q1673 dX11_aboutOffset_49 ?_
    refine lv_iload_n hx hb dX11_aboutOffset_52 rfl (lv_at hl 0 rfl) ?_
    obtain ⟨o7, hw⟩ := hw
    refine zlR0_58 hx hb o7 hK hP dX11_aboutOffset_53 ?_
    refine z_iadd hx hb dX11_aboutOffset_54 ?_
    obtain ⟨o8, hw⟩ := hw
    refine zlR0_72 hx hb o8 hK hP dX11_aboutOffset_55 ?_
    refine lv_aload_n hx hb dX11_aboutOffset_56 rfl (lv_at hl 1 rfl) ?_
    refine zgR0_59 hx hb hg hown hK hP q1674 dX11_aboutOffset_57 ?_
    refine lv_iload_n hx hb dX11_aboutOffset_60 rfl (lv_at hl 0 rfl) ?_
    refine zlR0_59 hx hb o7 hK hP dX11_aboutOffset_61 ?_
    refine z_iadd hx hb dX11_aboutOffset_62 ?_
    exact hret ((zA σ5 0 72 ((24 * (x4 / 80)) + (zA σ5 0 58 x4))) + (zA σ5 0 59 x4)) σ5 _ _ _ _ hw hP hD hS dX11_aboutOffset_63
  · replace hw := hw.2 k3
    refine lv_aload_n hx hb dX11_aboutOffset_9 rfl (lv_at hl 0 rfl) ?_
    refine zgR0_72 hx hb hg hown hK hP q1687 dX11_aboutOffset_10 ?_
    refine lv_bipush (v := Int32.ofInt 24) hx hb dX11_aboutOffset_13 (by decide) ?_
    refine lv_iload_n hx hb dX11_aboutOffset_15 rfl (lv_at hl 1 rfl) ?_
    refine z_imul hx hb dX11_aboutOffset_16 ?_
    refine lv_aload_n hx hb dX11_aboutOffset_17 rfl (lv_at hl 0 rfl) ?_
    refine zgR0_54 hx hb hg hown hK hP q1669 dX11_aboutOffset_18 ?_
    refine lv_iload_n hx hb dX11_aboutOffset_21 rfl (lv_at hl 2 rfl) ?_
    refine zlR0_54 hx hb o1 hK hP dX11_aboutOffset_22 ?_
    refine z_iadd hx hb dX11_aboutOffset_23 ?_
    obtain ⟨o9, hw⟩ := hw
    refine zlR0_72 hx hb o9 hK hP dX11_aboutOffset_24 ?_
    exact hret (zA σ 0 72 ((24 * a1) + (zA σ 0 54 a2))) σ _ _ _ _ hw hP hD hS dX11_aboutOffset_25
def wpX11_far_79 (K2 : Int → ZS → Prop) (v1 : Int) (σ : ZS) (Q : Int → ZS → Prop) : Prop := K2 (v1 + 1) σ
def wpX11_far_73 (K2 : Int → ZS → Prop) (K9 : Int → ZS → Prop) (v1 v2 : Int) (σ : ZS) (Q : Int → ZS → Prop) : Prop := K9 (v2 + 1) σ
def wpbX11_far_9 (K2 : Int → ZS → Prop) (K9 : Int → ZS → Prop) (v1 v2 : Int) (σ : ZS) (Q : Int → ZS → Prop) : Prop := (0 ≤ v1 ∧ v1 < 3) ∧ (-2147483648 ≤ v2 ∧ v2 ≤ 2147483647) ∧ (-2147483648 ≤ (zA σ 0 50 v1) ∧ (zA σ 0 50 v1) ≤ 2147483647) ∧ ((zA σ 0 50 v1) ≤ v2 → wpX11_far_79 K2 v1 σ Q) ∧ (¬ (zA σ 0 50 v1) ≤ v2 → (-2147483648 ≤ (zA σ 0 43 v1) ∧ (zA σ 0 43 v1) ≤ 2147483647) ∧ ((zA σ 0 43 v1) = 0 → wpX11_far_79 K2 v1 σ Q) ∧ (¬ (zA σ 0 43 v1) = 0 → (0 ≤ ((200 * v1) + v2) ∧ ((200 * v1) + v2) < 600) ∧ (-2147483648 ≤ (zA σ 0 51 ((200 * v1) + v2)) ∧ (zA σ 0 51 ((200 * v1) + v2)) ≤ 2147483647) ∧ (¬ (zA σ 0 51 ((200 * v1) + v2)) = 2 → wpX11_far_73 K2 K9 v1 v2 σ Q) ∧ ((zA σ 0 51 ((200 * v1) + v2)) = 2 → wpX11_aboutSegment v1 ((200 * v1) + v2) σ (fun (x10 : Int) (σ11 : ZS) => (0 ≤ ((24 * v1) + (zA σ11 0 52 ((200 * v1) + v2))) ∧ ((24 * v1) + (zA σ11 0 52 ((200 * v1) + v2))) < 72) ∧ (-2147483648 ≤ x10 ∧ x10 ≤ 2147483647) ∧ (-2147483648 ≤ (zA σ11 0 71 ((24 * v1) + (zA σ11 0 52 ((200 * v1) + v2)))) ∧ (zA σ11 0 71 ((24 * v1) + (zA σ11 0 52 ((200 * v1) + v2)))) ≤ 2147483647) ∧ (x10 = (zA σ11 0 71 ((24 * v1) + (zA σ11 0 52 ((200 * v1) + v2)))) → wpX11_far_73 K2 K9 v1 v2 σ11 Q) ∧ (¬ x10 = (zA σ11 0 71 ((24 * v1) + (zA σ11 0 52 ((200 * v1) + v2)))) → Q v1 σ11)))))
def wpX11_far_9 (K2 : Int → ZS → Prop) (v1 v2 : Int) (σ : ZS) (Q : Int → ZS → Prop) : Prop := lfp1 (fun K9 v2 σ => wpbX11_far_9 K2 K9 v1 v2 σ Q) v2 σ
def wpbX11_far_2 (K2 : Int → ZS → Prop) (v1 : Int) (σ : ZS) (Q : Int → ZS → Prop) : Prop := (-2147483648 ≤ v1 ∧ v1 ≤ 2147483647) ∧ (3 ≤ v1 → Q (-1) σ) ∧ (¬ 3 ≤ v1 → wpX11_far_9 K2 v1 0 σ Q)
def wpX11_far_2 (v1 : Int) (σ : ZS) (Q : Int → ZS → Prop) : Prop := lfp1 (fun K2 v1 σ => wpbX11_far_2 K2 v1 σ Q) v1 σ
def wpX11_far (σ : ZS) (Q : Int → ZS → Prop) : Prop := wpX11_far_2 0 σ Q
set_option maxHeartbeats 4000000 in
set_option maxRecDepth 100000 in
theorem kX11_far (l : Launch) (D : va_G) (dA : Nat → ClassId) (ad : Int → Nat → Nat) (σ : ZS) (Q : Int → ZS → Prop) (sz : Nat) (hw : wpX11_far σ Q) : Met l yX11_far (gws yX11_far cX11_far 4 (some .int)) (gR 4 0 0) (gPre D dA [.ref (ad 0 1000)] (zR dA ad σ) sz) (va_Qi (zQi Q) (gAt D dA (va_A (zR dA ad σ) sz) (zR dA ad)) (va_A (zR dA ad σ) sz)) 0 0 (va_A (zR dA ad σ) sz) := by
  refine Met.ofW (cc := cX11_far) (maxL := 4) (ret := (some .int)) (by decide) rfl ?_
  intro p e s m args below meth c s₁ B hml hv
  obtain ⟨rfl, hsz, hP, hK, hD0⟩ := hv
  have hx := B.exec
  have hb := B.bytes
  have hr := B.returns
  have hts := atoms_spec (ws := gws yX11_far cX11_far 4 (some .int)) B.pre
  have hg : ∀ w ∈ gw, w.before _ s = true := fun w h => hts w (List.mem_cons_of_mem _ h)
  have hown : s.vm.findClass RX11 = some m.cls := findClass_of_methodNamed B.named
  have hlocks := B.notSynchronized
  subst hsz
  have hD := hD0.self (sz := s.heap.size)
  generalize hAe : va_A (zR dA ad σ) s.heap.size = A at hD ⊢
  have hA : ∀ q : Nat, s.heap.size ≤ q → A q := fun q h => by rw [← hAe]; exact Or.inr h
  have hS : va_S A s.heap s.heap [] := va_S.rf
  have hl := lv_entry ([.ref (ad 0 1000)]) (n := 4) (Nat.le_of_ble_eq_true rfl)
  rw [lg_entry_eq]
  generalize (lg_sl ([.ref (ad 0 1000)]) ++ List.replicate (4 - (lg_sl ([.ref (ad 0 1000)])).length) Slot.unset).toArray = ls at hl ⊢
  have hl : lv_has ls 4 [(0, .ref (ad 0 1000))] := hl
  have hret : ∀ (v : Int) (σ : ZS) (H : Heap) (locs : List Loc) (ls : Array Slot) (pc : Nat), Q v σ → va_P D vwC (zR dA ad σ) H → va_D A (zR dA ad σ) → va_S A s.heap H locs → decode cX11_far pc = .ok (.ireturn, 1) → W p l e (gR 4 0 0) s m #[.ref (ad 0 1000)] below meth c H locs 0 0 (MQ below (va_Qi (zQi Q) (gAt D dA A (zR dA ad)) A) #[.ref (ad 0 1000)] s 0 0 A) (F0 m pc ls [.int (Int32.ofInt v)]) := fun v σ H locs ls pc hw hP hD hS hd => g_iret hx hb hr rfl hlocks hK σ hP hD hS ⟨v, rfl, hw⟩ (Nat.le_of_ble_eq_true rfl) (Nat.le_of_ble_eq_true rfl) hd
  generalize MQ below (va_Qi (zQi Q) (gAt D dA A (zR dA ad)) A) #[.ref (ad 0 1000)] s 0 0 A = QQ at hret ⊢
  have b2 : ∀ (K2 : Int → ZS → Prop), (∀ (v1 : Int) (σ : ZS), K2 v1 σ → ∀ (H : Heap) (locs : List Loc) (ls : Array Slot), va_P D vwC (zR dA ad σ) H → va_D A (zR dA ad σ) → va_S A s.heap H locs → lv_has ls 4 [(0, .ref (ad 0 1000)), (1, .int (Int32.ofInt v1))] → W p l e (gR 4 0 0) s m #[.ref (ad 0 1000)] below meth c H locs 0 0 QQ (F0 m 2 ls [])) → ∀ (v1 : Int) (σ : ZS), wpbX11_far_2 K2 v1 σ Q → ∀ (H : Heap) (locs : List Loc) (ls : Array Slot), va_P D vwC (zR dA ad σ) H → va_D A (zR dA ad σ) → va_S A s.heap H locs → lv_has ls 4 [(0, .ref (ad 0 1000)), (1, .int (Int32.ofInt v1))] → W p l e (gR 4 0 0) s m #[.ref (ad 0 1000)] below meth c H locs 0 0 QQ (F0 m 2 ls []) := by
    intro K2 hK2
    have j79 : ∀ (v1 : Int) (σ : ZS), ∀ (H : Heap) (locs : List Loc) (ls : Array Slot), va_P D vwC (zR dA ad σ) H → va_D A (zR dA ad σ) → va_S A s.heap H locs → lv_has ls 4 [(0, .ref (ad 0 1000)), (1, .int (Int32.ofInt v1))] → wpX11_far_79 K2 v1 σ Q → W p l e (gR 4 0 0) s m #[.ref (ad 0 1000)] below meth c H locs 0 0 QQ (F0 m 79 ls []) := by
      intro v1 σ H locs ls hP hD hS hl hw
      unfold wpX11_far_79 at hw
      refine lv_iinc (v := Int32.ofInt (v1 + 1)) (lv' := [(1, .int (Int32.ofInt (v1 + 1))), (0, .ref (ad 0 1000))]) hx hb dX11_far_79 hl (k := 1) rfl (Int32.ofInt_add _ _).symm (by decide) rfl (fun ls hl => ?_)
      refine lv_goto (tgt := 2) hx hb dX11_far_82 (by decide) ?_
      exact hK2 (v1 + 1) σ hw _ _ _ hP hD hS (lv_sub hl [1, 0] rfl)
    have b9 : ∀ (v1 : Int) (K9 : Int → ZS → Prop), (∀ (v2 : Int) (σ : ZS), K9 v2 σ → ∀ (H : Heap) (locs : List Loc) (ls : Array Slot), va_P D vwC (zR dA ad σ) H → va_D A (zR dA ad σ) → va_S A s.heap H locs → lv_has ls 4 [(0, .ref (ad 0 1000)), (1, .int (Int32.ofInt v1)), (2, .int (Int32.ofInt v2))] → W p l e (gR 4 0 0) s m #[.ref (ad 0 1000)] below meth c H locs 0 0 QQ (F0 m 9 ls [])) → ∀ (v2 : Int) (σ : ZS), wpbX11_far_9 K2 K9 v1 v2 σ Q → ∀ (H : Heap) (locs : List Loc) (ls : Array Slot), va_P D vwC (zR dA ad σ) H → va_D A (zR dA ad σ) → va_S A s.heap H locs → lv_has ls 4 [(0, .ref (ad 0 1000)), (1, .int (Int32.ofInt v1)), (2, .int (Int32.ofInt v2))] → W p l e (gR 4 0 0) s m #[.ref (ad 0 1000)] below meth c H locs 0 0 QQ (F0 m 9 ls []) := by
      intro v1 K9 hK9
      have j73 : ∀ (v2 : Int) (σ : ZS), ∀ (H : Heap) (locs : List Loc) (ls : Array Slot), va_P D vwC (zR dA ad σ) H → va_D A (zR dA ad σ) → va_S A s.heap H locs → lv_has ls 4 [(0, .ref (ad 0 1000)), (1, .int (Int32.ofInt v1)), (2, .int (Int32.ofInt v2))] → wpX11_far_73 K2 K9 v1 v2 σ Q → W p l e (gR 4 0 0) s m #[.ref (ad 0 1000)] below meth c H locs 0 0 QQ (F0 m 73 ls []) := by
        intro v2 σ H locs ls hP hD hS hl hw
        unfold wpX11_far_73 at hw
        refine lv_iinc (v := Int32.ofInt (v2 + 1)) (lv' := [(2, .int (Int32.ofInt (v2 + 1))), (0, .ref (ad 0 1000)), (1, .int (Int32.ofInt v1))]) hx hb dX11_far_73 hl (k := 2) rfl (Int32.ofInt_add _ _).symm (by decide) rfl (fun ls hl => ?_)
        refine lv_goto (tgt := 9) hx hb dX11_far_76 (by decide) ?_
        exact hK9 (v2 + 1) σ hw _ _ _ hP hD hS (lv_sub hl [1, 2, 0] rfl)
      intro v2 σ hw H locs ls hP hD hS hl
      unfold wpbX11_far_9 at hw
      refine lv_iload_n hx hb dX11_far_9 rfl (lv_at hl 2 rfl) ?_
      refine lv_aload_n hx hb dX11_far_10 rfl (lv_at hl 0 rfl) ?_
      refine zgR0_50 hx hb hg hown hK hP q1665 dX11_far_11 ?_
      refine lv_iload_n hx hb dX11_far_14 rfl (lv_at hl 1 rfl) ?_
      obtain ⟨o1, hw⟩ := hw
      refine zlR0_50 hx hb o1 hK hP dX11_far_15 ?_
      obtain ⟨o2, hw⟩ := hw
      obtain ⟨o3, hw⟩ := hw
      refine z_icmp_ge (tgt := 79) hx hb o2 o3 dX11_far_16 (by decide) (fun k4 => ?_) (fun k4 => ?_)
      · replace hw := hw.1 k4
        exact j79 v1 σ _ _ _ hP hD hS (lv_sub hl [0, 1] rfl) hw
      · replace hw := hw.2 k4
        refine lv_aload_n hx hb dX11_far_19 rfl (lv_at hl 0 rfl) ?_
        refine zgR0_43 hx hb hg hown hK hP q1658 dX11_far_20 ?_
        refine lv_iload_n hx hb dX11_far_23 rfl (lv_at hl 1 rfl) ?_
        refine zlR0_43 hx hb o1 hK hP dX11_far_24 ?_
        obtain ⟨o5, hw⟩ := hw
        refine z_if_eq (tgt := 79) hx hb o5 dX11_far_25 (by decide) (fun k6 => ?_) (fun k6 => ?_)
        · replace hw := hw.1 k6
          exact j79 v1 σ _ _ _ hP hD hS (lv_sub hl [0, 1] rfl) hw
        · replace hw := hw.2 k6
          refine lv_sipush (v := Int32.ofInt 200) hx hb dX11_far_28 (by decide) ?_
          refine lv_iload_n hx hb dX11_far_31 rfl (lv_at hl 1 rfl) ?_
          refine z_imul hx hb dX11_far_32 ?_
          refine lv_iload_n hx hb dX11_far_33 rfl (lv_at hl 2 rfl) ?_
          refine z_iadd hx hb dX11_far_34 ?_
          refine lv_istore_n (lv' := [(3, .int (Int32.ofInt ((200 * v1) + v2))), (0, .ref (ad 0 1000)), (1, .int (Int32.ofInt v1)), (2, .int (Int32.ofInt v2))]) hx hb dX11_far_35 rfl hl (by decide) rfl (fun ls hl => ?_)
          refine lv_aload_n hx hb dX11_far_36 rfl (lv_at hl 1 rfl) ?_
          refine zgR0_51 hx hb hg hown hK hP q1666 dX11_far_37 ?_
          refine lv_iload_n hx hb dX11_far_40 rfl (lv_at hl 0 rfl) ?_
          obtain ⟨o7, hw⟩ := hw
          refine zlR0_51 hx hb o7 hK hP dX11_far_41 ?_
          refine lv_iconst (v := Int32.ofInt 2) hx hb dX11_far_42 (by decide) ?_
          obtain ⟨o8, hw⟩ := hw
          refine z_icmp_ne (tgt := 73) hx hb o8 (by decide) dX11_far_43 (by decide) (fun k9 => ?_) (fun k9 => ?_)
          · replace hw := hw.1 k9
            exact j73 v2 σ _ _ _ hP hD hS (lv_sub hl [1, 2, 3] rfl) hw
          · replace hw := hw.2 k9
            refine lv_aload_n hx hb dX11_far_46 rfl (lv_at hl 1 rfl) ?_
            refine lv_iload_n hx hb dX11_far_47 rfl (lv_at hl 2 rfl) ?_
            refine lv_iload_n hx hb dX11_far_48 rfl (lv_at hl 0 rfl) ?_
            refine z_Vi (n := 2) (As := [.int (Int32.ofInt v1), .int (Int32.ofInt ((200 * v1) + v2))]) (rest := []) hx hb hml hg hown hK hP hD hS hA (kX11_aboutSegment l D dA ad v1 ((200 * v1) + v2) σ _ _ hw) (zoR0) rfl q2102 q160 q2099 q2101 q125 (by decide +kernel) ⟨(Nat.le_of_ble_eq_true rfl), (Nat.le_of_ble_eq_true rfl)⟩ rfl hl.1 rfl (Nat.le_of_ble_eq_true rfl) dX11_far_49 ⟨(Nat.le_of_ble_eq_true rfl), (Nat.le_of_ble_eq_true rfl)⟩ (fun x10 σ11 H locs hw hP hD hS => ?_)
            refine lv_aload_n hx hb dX11_far_52 rfl (lv_at hl 1 rfl) ?_
            refine zgR0_71 hx hb hg hown hK hP q1686 dX11_far_53 ?_
            refine lv_bipush (v := Int32.ofInt 24) hx hb dX11_far_56 (by decide) ?_
            refine lv_iload_n hx hb dX11_far_58 rfl (lv_at hl 2 rfl) ?_
            refine z_imul hx hb dX11_far_59 ?_
            refine lv_aload_n hx hb dX11_far_60 rfl (lv_at hl 1 rfl) ?_
            refine zgR0_52 hx hb hg hown hK hP q1667 dX11_far_61 ?_
            refine lv_iload_n hx hb dX11_far_64 rfl (lv_at hl 0 rfl) ?_
            refine zlR0_52 hx hb o7 hK hP dX11_far_65 ?_
            refine z_iadd hx hb dX11_far_66 ?_
            obtain ⟨o12, hw⟩ := hw
            refine zlR0_71 hx hb o12 hK hP dX11_far_67 ?_
            obtain ⟨o13, hw⟩ := hw
            obtain ⟨o14, hw⟩ := hw
            refine z_icmp_eq (tgt := 73) hx hb o13 o14 dX11_far_68 (by decide) (fun k15 => ?_) (fun k15 => ?_)
            · replace hw := hw.1 k15
              exact j73 v2 σ11 _ _ _ hP hD hS (lv_sub hl [1, 2, 3] rfl) hw
            · replace hw := hw.2 k15
              refine lv_iload_n hx hb dX11_far_71 rfl (lv_at hl 2 rfl) ?_
              exact hret v1 σ11 _ _ _ _ hw hP hD hS dX11_far_72
    have j9 : ∀ (v1 v2 : Int) (σ : ZS), ∀ (H : Heap) (locs : List Loc) (ls : Array Slot), va_P D vwC (zR dA ad σ) H → va_D A (zR dA ad σ) → va_S A s.heap H locs → lv_has ls 4 [(0, .ref (ad 0 1000)), (1, .int (Int32.ofInt v1)), (2, .int (Int32.ofInt v2))] → wpX11_far_9 K2 v1 v2 σ Q → W p l e (gR 4 0 0) s m #[.ref (ad 0 1000)] below meth c H locs 0 0 QQ (F0 m 9 ls []) := by
      intro v1 v2 σ H locs ls hP hD hS hl hw
      exact hw (fun v2 σ => ∀ (H : Heap) (locs : List Loc) (ls : Array Slot), va_P D vwC (zR dA ad σ) H → va_D A (zR dA ad σ) → va_S A s.heap H locs → lv_has ls 4 [(0, .ref (ad 0 1000)), (1, .int (Int32.ofInt v1)), (2, .int (Int32.ofInt v2))] → W p l e (gR 4 0 0) s m #[.ref (ad 0 1000)] below meth c H locs 0 0 QQ (F0 m 9 ls [])) (b9 v1 (fun v2 σ => ∀ (H : Heap) (locs : List Loc) (ls : Array Slot), va_P D vwC (zR dA ad σ) H → va_D A (zR dA ad σ) → va_S A s.heap H locs → lv_has ls 4 [(0, .ref (ad 0 1000)), (1, .int (Int32.ofInt v1)), (2, .int (Int32.ofInt v2))] → W p l e (gR 4 0 0) s m #[.ref (ad 0 1000)] below meth c H locs 0 0 QQ (F0 m 9 ls [])) (fun v2 σ h => h)) _ _ _ hP hD hS hl
    intro v1 σ hw H locs ls hP hD hS hl
    unfold wpbX11_far_2 at hw
    refine lv_iload_n hx hb dX11_far_2 rfl (lv_at hl 1 rfl) ?_
    refine lv_iconst (v := Int32.ofInt 3) hx hb dX11_far_3 (by decide) ?_
    obtain ⟨o16, hw⟩ := hw
    refine z_icmp_ge (tgt := 85) hx hb o16 (by decide) dX11_far_4 (by decide) (fun k17 => ?_) (fun k17 => ?_)
    · replace hw := hw.1 k17
      refine lv_iconst (v := Int32.ofInt (-1)) hx hb dX11_far_85 (by decide) ?_
      exact hret (-1) σ _ _ _ _ hw hP hD hS dX11_far_86
    · replace hw := hw.2 k17
      refine lv_iconst (v := Int32.ofInt 0) hx hb dX11_far_7 (by decide) ?_
      refine lv_istore_n (lv' := [(2, .int (Int32.ofInt 0)), (0, .ref (ad 0 1000)), (1, .int (Int32.ofInt v1))]) hx hb dX11_far_8 rfl hl (by decide) rfl (fun ls hl => ?_)
      exact j9 v1 0 σ _ _ _ hP hD hS (lv_sub hl [1, 2, 0] rfl) hw
  have j2 : ∀ (v1 : Int) (σ : ZS), ∀ (H : Heap) (locs : List Loc) (ls : Array Slot), va_P D vwC (zR dA ad σ) H → va_D A (zR dA ad σ) → va_S A s.heap H locs → lv_has ls 4 [(0, .ref (ad 0 1000)), (1, .int (Int32.ofInt v1))] → wpX11_far_2 v1 σ Q → W p l e (gR 4 0 0) s m #[.ref (ad 0 1000)] below meth c H locs 0 0 QQ (F0 m 2 ls []) := by
    intro v1 σ H locs ls hP hD hS hl hw
    exact hw (fun v1 σ => ∀ (H : Heap) (locs : List Loc) (ls : Array Slot), va_P D vwC (zR dA ad σ) H → va_D A (zR dA ad σ) → va_S A s.heap H locs → lv_has ls 4 [(0, .ref (ad 0 1000)), (1, .int (Int32.ofInt v1))] → W p l e (gR 4 0 0) s m #[.ref (ad 0 1000)] below meth c H locs 0 0 QQ (F0 m 2 ls [])) (b2 (fun v1 σ => ∀ (H : Heap) (locs : List Loc) (ls : Array Slot), va_P D vwC (zR dA ad σ) H → va_D A (zR dA ad σ) → va_S A s.heap H locs → lv_has ls 4 [(0, .ref (ad 0 1000)), (1, .int (Int32.ofInt v1))] → W p l e (gR 4 0 0) s m #[.ref (ad 0 1000)] below meth c H locs 0 0 QQ (F0 m 2 ls [])) (fun v1 σ h => h)) _ _ _ hP hD hS hl
  unfold wpX11_far at hw
  refine lv_iconst (v := Int32.ofInt 0) hx hb dX11_far_0 (by decide) ?_
  refine lv_istore_n (lv' := [(1, .int (Int32.ofInt 0)), (0, .ref (ad 0 1000))]) hx hb dX11_far_1 rfl hl (by decide) rfl (fun ls hl => ?_)
  exact j2 0 σ _ _ _ hP hD hS (lv_sub hl [1, 0] rfl) hw
