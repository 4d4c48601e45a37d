theorem q119 : Cond.selects RX11 yX11_twice yX11_twice ∈ gw := gw_in (i := 119) (by decide +kernel) rfl
theorem q121 : Cond.selects RX11 yX11_missing yX11_missing ∈ gw := gw_in (i := 121) (by decide +kernel) rfl
theorem q123 : Cond.selects RX11 yX11_combine yX11_combine ∈ gw := gw_in (i := 123) (by decide +kernel) rfl
theorem q124 : Cond.selects RX11 yX11_far yX11_far ∈ gw := gw_in (i := 124) (by decide +kernel) rfl
theorem q126 : Cond.selects RX11 yX11_solve yX11_solve ∈ gw := gw_in (i := 126) (by decide +kernel) rfl
theorem q127 : Cond.selects RX11 yX11_aboutOffset yX11_aboutOffset ∈ gw := gw_in (i := 127) (by decide +kernel) rfl
theorem q129 : Cond.selects RX11 yX11_fetch yX11_fetch ∈ gw := gw_in (i := 129) (by decide +kernel) rfl
theorem q130 : Cond.selects RX11 yX11_where yX11_where ∈ gw := gw_in (i := 130) (by decide +kernel) rfl
theorem q1675 : Cond.fieldLink RX11 515 "SegmentBenchModel" "hasImage" "Z" ∈ gw := gw_in (i := 1675) (by decide +kernel) rfl
theorem q1676 : Cond.fieldLink RX11 226 "SegmentBenchModel" "image" "[I" ∈ gw := gw_in (i := 1676) (by decide +kernel) rfl
theorem q1677 : Cond.fieldLink RX11 512 "SegmentBenchModel" "imageLength" "I" ∈ gw := gw_in (i := 1677) (by decide +kernel) rfl
theorem q1678 : Cond.fieldLink RX11 229 "SegmentBenchModel" "relocation" "[I" ∈ gw := gw_in (i := 1678) (by decide +kernel) rfl
theorem q1679 : Cond.fieldLink RX11 495 "SegmentBenchModel" "relocations" "I" ∈ gw := gw_in (i := 1679) (by decide +kernel) rfl
theorem q1680 : Cond.fieldLink RX11 521 "SegmentBenchModel" "mainParagraph" "I" ∈ gw := gw_in (i := 1680) (by decide +kernel) rfl
theorem q1681 : Cond.fieldLink RX11 524 "SegmentBenchModel" "mainOffset" "I" ∈ gw := gw_in (i := 1681) (by decide +kernel) rfl
theorem q1689 : Cond.fieldLink RX11 250 "SegmentBenchModel" "memory" "[I" ∈ gw := gw_in (i := 1689) (by decide +kernel) rfl
theorem q1690 : Cond.fieldLink RX11 253 "SegmentBenchModel" "\x72" "[I" ∈ gw := gw_in (i := 1690) (by decide +kernel) rfl
theorem q1691 : Cond.fieldLink RX11 256 "SegmentBenchModel" "halted" "Z" ∈ gw := gw_in (i := 1691) (by decide +kernel) rfl
theorem q1692 : Cond.fieldLink RX11 527 "SegmentBenchModel" "done" "I" ∈ gw := gw_in (i := 1692) (by decide +kernel) rfl
theorem q1693 : Cond.fieldLink RX11 530 "SegmentBenchModel" "ints" "I" ∈ gw := gw_in (i := 1693) (by decide +kernel) rfl
theorem q1695 : Cond.fieldLink RX11 536 "SegmentBenchModel" "ip" "I" ∈ gw := gw_in (i := 1695) (by decide +kernel) rfl
theorem q2074 : Cond.methodLink RX11 498 yX11_twice ∈ gw := gw_in (i := 2074) (by decide +kernel) rfl
theorem q2076 : Cond.instanceMethod yX11_twice ∈ gw := gw_in (i := 2076) (by decide +kernel) rfl
theorem q2077 : Cond.code yX11_twice cX11_twice 4 (some .int) ∈ gw := gw_in (i := 2077) (by decide +kernel) rfl
theorem q2082 : Cond.methodLink RX11 501 yX11_missing ∈ gw := gw_in (i := 2082) (by decide +kernel) rfl
theorem q2084 : Cond.instanceMethod yX11_missing ∈ gw := gw_in (i := 2084) (by decide +kernel) rfl
theorem q2085 : Cond.code yX11_missing cX11_missing 3 (some .int) ∈ gw := gw_in (i := 2085) (by decide +kernel) rfl
theorem q2090 : Cond.constantLong RX11 504 (1835100526) ∈ gw := gw_in (i := 2090) (by decide +kernel) rfl
theorem q2091 : Cond.methodLink RX11 506 yX11_combine ∈ gw := gw_in (i := 2091) (by decide +kernel) rfl
theorem q2093 : Cond.instanceMethod yX11_combine ∈ gw := gw_in (i := 2093) (by decide +kernel) rfl
theorem q2094 : Cond.code yX11_combine cX11_combine 5 none ∈ gw := gw_in (i := 2094) (by decide +kernel) rfl
theorem q2095 : Cond.methodLink RX11 509 yX11_far ∈ gw := gw_in (i := 2095) (by decide +kernel) rfl
theorem q2097 : Cond.instanceMethod yX11_far ∈ gw := gw_in (i := 2097) (by decide +kernel) rfl
theorem q2098 : Cond.code yX11_far cX11_far 4 (some .int) ∈ gw := gw_in (i := 2098) (by decide +kernel) rfl
theorem q2103 : Cond.methodLink RX11 518 yX11_solve ∈ gw := gw_in (i := 2103) (by decide +kernel) rfl
theorem q2105 : Cond.instanceMethod yX11_solve ∈ gw := gw_in (i := 2105) (by decide +kernel) rfl
theorem q2106 : Cond.code yX11_solve cX11_solve 7 none ∈ gw := gw_in (i := 2106) (by decide +kernel) rfl
theorem q2107 : Cond.methodLink RX11 492 yX11_aboutOffset ∈ gw := gw_in (i := 2107) (by decide +kernel) rfl
theorem q2109 : Cond.instanceMethod yX11_aboutOffset ∈ gw := gw_in (i := 2109) (by decide +kernel) rfl
theorem q2110 : Cond.code yX11_aboutOffset cX11_aboutOffset 4 (some .int) ∈ gw := gw_in (i := 2110) (by decide +kernel) rfl
theorem q2123 : Cond.methodLink RX11 539 yX11_fetch ∈ gw := gw_in (i := 2123) (by decide +kernel) rfl
theorem q2125 : Cond.instanceMethod yX11_fetch ∈ gw := gw_in (i := 2125) (by decide +kernel) rfl
theorem q2126 : Cond.code yX11_fetch cX11_fetch 2 (some .int) ∈ gw := gw_in (i := 2126) (by decide +kernel) rfl
theorem q2127 : Cond.methodLink RX11 533 yX11_where ∈ gw := gw_in (i := 2127) (by decide +kernel) rfl
theorem q2129 : Cond.instanceMethod yX11_where ∈ gw := gw_in (i := 2129) (by decide +kernel) rfl
theorem q2130 : Cond.code yX11_where cX11_where 3 (some .int) ∈ gw := gw_in (i := 2130) (by decide +kernel) rfl
theorem dX11_solve_0 : decode cX11_solve 0 = .ok (.bipush 24, 2) := by decide +kernel
theorem dX11_solve_2 : decode cX11_solve 2 = .ok (.iload_n 1, 1) := by decide +kernel
theorem dX11_solve_3 : decode cX11_solve 3 = .ok (.imul, 1) := by decide +kernel
theorem dX11_solve_4 : decode cX11_solve 4 = .ok (.aload_n 0, 1) := by decide +kernel
theorem dX11_solve_5 : decode cX11_solve 5 = .ok (.getfield 202, 3) := by decide +kernel
theorem dX11_solve_8 : decode cX11_solve 8 = .ok (.iload_n 2, 1) := by decide +kernel
theorem dX11_solve_9 : decode cX11_solve 9 = .ok (.iaload, 1) := by decide +kernel
theorem dX11_solve_10 : decode cX11_solve 10 = .ok (.iadd, 1) := by decide +kernel
theorem dX11_solve_11 : decode cX11_solve 11 = .ok (.istore_n 3, 1) := by decide +kernel
theorem dX11_solve_12 : decode cX11_solve 12 = .ok (.aload_n 0, 1) := by decide +kernel
theorem dX11_solve_13 : decode cX11_solve 13 = .ok (.getfield 247, 3) := by decide +kernel
theorem dX11_solve_16 : decode cX11_solve 16 = .ok (.iload_n 3, 1) := by decide +kernel
theorem dX11_solve_17 : decode cX11_solve 17 = .ok (.iaload, 1) := by decide +kernel
theorem dX11_solve_18 : decode cX11_solve 18 = .ok (.aload_n 0, 1) := by decide +kernel
theorem dX11_solve_19 : decode cX11_solve 19 = .ok (.getfield 205, 3) := by decide +kernel
theorem dX11_solve_22 : decode cX11_solve 22 = .ok (.iload_n 2, 1) := by decide +kernel
theorem dX11_solve_23 : decode cX11_solve 23 = .ok (.iaload, 1) := by decide +kernel
theorem dX11_solve_24 : decode cX11_solve 24 = .ok (.iadd, 1) := by decide +kernel
theorem dX11_solve_25 : decode cX11_solve 25 = .ok (.istore 4, 2) := by decide +kernel
theorem dX11_solve_27 : decode cX11_solve 27 = .ok (.aload_n 0, 1) := by decide +kernel
theorem dX11_solve_28 : decode cX11_solve 28 = .ok (.getfield 241, 3) := by decide +kernel
theorem dX11_solve_31 : decode cX11_solve 31 = .ok (.aload_n 0, 1) := by decide +kernel
theorem dX11_solve_32 : decode cX11_solve 32 = .ok (.getfield 244, 3) := by decide +kernel
theorem dX11_solve_35 : decode cX11_solve 35 = .ok (.iload_n 3, 1) := by decide +kernel
theorem dX11_solve_36 : decode cX11_solve 36 = .ok (.iaload, 1) := by decide +kernel
theorem dX11_solve_37 : decode cX11_solve 37 = .ok (.iaload, 1) := by decide +kernel
theorem dX11_solve_38 : decode cX11_solve 38 = .ok (.iload 4, 2) := by decide +kernel
theorem dX11_solve_40 : decode cX11_solve 40 = .ok (.iadd, 1) := by decide +kernel
theorem dX11_solve_41 : decode cX11_solve 41 = .ok (.istore 5, 2) := by decide +kernel
theorem dX11_solve_43 : decode cX11_solve 43 = .ok (.aload_n 0, 1) := by decide +kernel
theorem dX11_solve_44 : decode cX11_solve 44 = .ok (.getfield 226, 3) := by decide +kernel
theorem dX11_solve_47 : decode cX11_solve 47 = .ok (.iload 5, 2) := by decide +kernel
theorem dX11_solve_49 : decode cX11_solve 49 = .ok (.iaload, 1) := by decide +kernel
theorem dX11_solve_50 : decode cX11_solve 50 = .ok (.aload_n 0, 1) := by decide +kernel
theorem dX11_solve_51 : decode cX11_solve 51 = .ok (.getfield 226, 3) := by decide +kernel
theorem dX11_solve_54 : decode cX11_solve 54 = .ok (.iload 5, 2) := by decide +kernel
theorem dX11_solve_56 : decode cX11_solve 56 = .ok (.iconst 1, 1) := by decide +kernel
theorem dX11_solve_57 : decode cX11_solve 57 = .ok (.iadd, 1) := by decide +kernel
theorem dX11_solve_58 : decode cX11_solve 58 = .ok (.iaload, 1) := by decide +kernel
theorem dX11_solve_59 : decode cX11_solve 59 = .ok (.bipush 8, 2) := by decide +kernel
theorem dX11_solve_61 : decode cX11_solve 61 = .ok (.ishl, 1) := by decide +kernel
theorem dX11_solve_62 : decode cX11_solve 62 = .ok (.ior, 1) := by decide +kernel
theorem dX11_solve_63 : decode cX11_solve 63 = .ok (.istore 6, 2) := by decide +kernel
theorem dX11_solve_65 : decode cX11_solve 65 = .ok (.aload_n 0, 1) := by decide +kernel
theorem dX11_solve_66 : decode cX11_solve 66 = .ok (.getfield 199, 3) := by decide +kernel
theorem dX11_solve_69 : decode cX11_solve 69 = .ok (.iload_n 2, 1) := by decide +kernel
theorem dX11_solve_70 : decode cX11_solve 70 = .ok (.iaload, 1) := by decide +kernel
theorem dX11_solve_71 : decode cX11_solve 71 = .ok (.ifCond .ne 14, 3) := by decide +kernel
theorem dX11_solve_74 : decode cX11_solve 74 = .ok (.iload 6, 2) := by decide +kernel
theorem dX11_solve_76 : decode cX11_solve 76 = .ok (.aload_n 0, 1) := by decide +kernel
theorem dX11_solve_77 : decode cX11_solve 77 = .ok (.iload_n 1, 1) := by decide +kernel
theorem dX11_solve_78 : decode cX11_solve 78 = .ok (.iload_n 2, 1) := by decide +kernel
theorem dX11_solve_79 : decode cX11_solve 79 = .ok (.invokevirtual 492, 3) := by decide +kernel
theorem dX11_solve_82 : decode cX11_solve 82 = .ok (.iadd, 1) := by decide +kernel
theorem dX11_solve_83 : decode cX11_solve 83 = .ok (.istore 6, 2) := by decide +kernel
theorem dX11_solve_85 : decode cX11_solve 85 = .ok (.aload_n 0, 1) := by decide +kernel
theorem dX11_solve_86 : decode cX11_solve 86 = .ok (.getfield 199, 3) := by decide +kernel
theorem dX11_solve_89 : decode cX11_solve 89 = .ok (.iload_n 2, 1) := by decide +kernel
theorem dX11_solve_90 : decode cX11_solve 90 = .ok (.iaload, 1) := by decide +kernel
theorem dX11_solve_91 : decode cX11_solve 91 = .ok (.iconst 1, 1) := by decide +kernel
theorem dX11_solve_92 : decode cX11_solve 92 = .ok (.if_icmp .ne 40, 3) := by decide +kernel
theorem dX11_solve_95 : decode cX11_solve 95 = .ok (.aload_n 0, 1) := by decide +kernel
theorem dX11_solve_96 : decode cX11_solve 96 = .ok (.getfield 241, 3) := by decide +kernel
theorem dX11_solve_99 : decode cX11_solve 99 = .ok (.aload_n 0, 1) := by decide +kernel
theorem dX11_solve_100 : decode cX11_solve 100 = .ok (.iload_n 1, 1) := by decide +kernel
theorem dX11_solve_101 : decode cX11_solve 101 = .ok (.iload_n 2, 1) := by decide +kernel
theorem dX11_solve_102 : decode cX11_solve 102 = .ok (.invokevirtual 488, 3) := by decide +kernel
theorem dX11_solve_105 : decode cX11_solve 105 = .ok (.iaload, 1) := by decide +kernel
theorem dX11_solve_106 : decode cX11_solve 106 = .ok (.bipush 16, 2) := by decide +kernel
theorem dX11_solve_108 : decode cX11_solve 108 = .ok (.idiv, 1) := by decide +kernel
theorem dX11_solve_109 : decode cX11_solve 109 = .ok (.istore 6, 2) := by decide +kernel
theorem dX11_solve_111 : decode cX11_solve 111 = .ok (.aload_n 0, 1) := by decide +kernel
theorem dX11_solve_112 : decode cX11_solve 112 = .ok (.getfield 229, 3) := by decide +kernel
theorem dX11_solve_115 : decode cX11_solve 115 = .ok (.aload_n 0, 1) := by decide +kernel
theorem dX11_solve_116 : decode cX11_solve 116 = .ok (.getfield 495, 3) := by decide +kernel
theorem dX11_solve_119 : decode cX11_solve 119 = .ok (.iload 5, 2) := by decide +kernel
theorem dX11_solve_121 : decode cX11_solve 121 = .ok (.iastore, 1) := by decide +kernel
theorem dX11_solve_122 : decode cX11_solve 122 = .ok (.aload_n 0, 1) := by decide +kernel
theorem dX11_solve_123 : decode cX11_solve 123 = .ok (.dup, 1) := by decide +kernel
theorem dX11_solve_124 : decode cX11_solve 124 = .ok (.getfield 495, 3) := by decide +kernel
theorem dX11_solve_127 : decode cX11_solve 127 = .ok (.iconst 1, 1) := by decide +kernel
theorem dX11_solve_128 : decode cX11_solve 128 = .ok (.iadd, 1) := by decide +kernel
theorem dX11_solve_129 : decode cX11_solve 129 = .ok (.putfield 495, 3) := by decide +kernel
theorem dX11_solve_132 : decode cX11_solve 132 = .ok (.aload_n 0, 1) := by decide +kernel
theorem dX11_solve_133 : decode cX11_solve 133 = .ok (.getfield 199, 3) := by decide +kernel
theorem dX11_solve_136 : decode cX11_solve 136 = .ok (.iload_n 2, 1) := by decide +kernel
theorem dX11_solve_137 : decode cX11_solve 137 = .ok (.iaload, 1) := by decide +kernel
theorem dX11_solve_138 : decode cX11_solve 138 = .ok (.iconst 2, 1) := by decide +kernel
theorem dX11_solve_139 : decode cX11_solve 139 = .ok (.if_icmp .ne 16, 3) := by decide +kernel
theorem dX11_solve_142 : decode cX11_solve 142 = .ok (.aload_n 0, 1) := by decide +kernel
theorem dX11_solve_143 : decode cX11_solve 143 = .ok (.iload_n 1, 1) := by decide +kernel
theorem dX11_solve_144 : decode cX11_solve 144 = .ok (.iload_n 2, 1) := by decide +kernel
theorem dX11_solve_145 : decode cX11_solve 145 = .ok (.invokevirtual 492, 3) := by decide +kernel
theorem dX11_solve_148 : decode cX11_solve 148 = .ok (.iload 4, 2) := by decide +kernel
theorem dX11_solve_150 : decode cX11_solve 150 = .ok (.isub, 1) := by decide +kernel
theorem dX11_solve_151 : decode cX11_solve 151 = .ok (.iconst 2, 1) := by decide +kernel
theorem dX11_solve_152 : decode cX11_solve 152 = .ok (.isub, 1) := by decide +kernel
theorem dX11_solve_153 : decode cX11_solve 153 = .ok (.istore 6, 2) := by decide +kernel
theorem dX11_solve_155 : decode cX11_solve 155 = .ok (.aload_n 0, 1) := by decide +kernel
theorem dX11_solve_156 : decode cX11_solve 156 = .ok (.getfield 226, 3) := by decide +kernel
theorem dX11_solve_159 : decode cX11_solve 159 = .ok (.iload 5, 2) := by decide +kernel
theorem dX11_solve_161 : decode cX11_solve 161 = .ok (.iload 6, 2) := by decide +kernel
theorem dX11_solve_163 : decode cX11_solve 163 = .ok (.sipush 255, 3) := by decide +kernel
theorem dX11_solve_166 : decode cX11_solve 166 = .ok (.iand, 1) := by decide +kernel
theorem dX11_solve_167 : decode cX11_solve 167 = .ok (.iastore, 1) := by decide +kernel
theorem dX11_solve_168 : decode cX11_solve 168 = .ok (.aload_n 0, 1) := by decide +kernel
theorem dX11_solve_169 : decode cX11_solve 169 = .ok (.getfield 226, 3) := by decide +kernel
theorem dX11_solve_172 : decode cX11_solve 172 = .ok (.iload 5, 2) := by decide +kernel
theorem dX11_solve_174 : decode cX11_solve 174 = .ok (.iconst 1, 1) := by decide +kernel
theorem dX11_solve_175 : decode cX11_solve 175 = .ok (.iadd, 1) := by decide +kernel
theorem dX11_solve_176 : decode cX11_solve 176 = .ok (.iload 6, 2) := by decide +kernel
theorem dX11_solve_178 : decode cX11_solve 178 = .ok (.bipush 8, 2) := by decide +kernel
theorem dX11_solve_180 : decode cX11_solve 180 = .ok (.ishr, 1) := by decide +kernel
theorem dX11_solve_181 : decode cX11_solve 181 = .ok (.sipush 255, 3) := by decide +kernel
theorem dX11_solve_184 : decode cX11_solve 184 = .ok (.iand, 1) := by decide +kernel
theorem dX11_solve_185 : decode cX11_solve 185 = .ok (.iastore, 1) := by decide +kernel
theorem dX11_solve_186 : decode cX11_solve 186 = .ok (.return_, 1) := by decide +kernel
theorem dX11_link_0 : decode cX11_link 0 = .ok (.aload_n 0, 1) := by decide +kernel
theorem dX11_link_1 : decode cX11_link 1 = .ok (.iconst 0, 1) := by decide +kernel
theorem dX11_link_2 : decode cX11_link 2 = .ok (.putfield 263, 3) := by decide +kernel
theorem dX11_link_5 : decode cX11_link 5 = .ok (.aload_n 0, 1) := by decide +kernel
theorem dX11_link_6 : decode cX11_link 6 = .ok (.getfield 175, 3) := by decide +kernel
theorem dX11_link_9 : decode cX11_link 9 = .ok (.iconst 0, 1) := by decide +kernel
theorem dX11_link_10 : decode cX11_link 10 = .ok (.baload, 1) := by decide +kernel
theorem dX11_link_11 : decode cX11_link 11 = .ok (.ifCond .ne 27, 3) := by decide +kernel
theorem dX11_link_14 : decode cX11_link 14 = .ok (.aload_n 0, 1) := by decide +kernel
theorem dX11_link_15 : decode cX11_link 15 = .ok (.getfield 175, 3) := by decide +kernel
theorem dX11_link_18 : decode cX11_link 18 = .ok (.iconst 1, 1) := by decide +kernel
theorem dX11_link_19 : decode cX11_link 19 = .ok (.baload, 1) := by decide +kernel
theorem dX11_link_20 : decode cX11_link 20 = .ok (.ifCond .ne 18, 3) := by decide +kernel
theorem dX11_link_23 : decode cX11_link 23 = .ok (.aload_n 0, 1) := by decide +kernel
theorem dX11_link_24 : decode cX11_link 24 = .ok (.getfield 175, 3) := by decide +kernel
theorem dX11_link_27 : decode cX11_link 27 = .ok (.iconst 2, 1) := by decide +kernel
theorem dX11_link_28 : decode cX11_link 28 = .ok (.baload, 1) := by decide +kernel
theorem dX11_link_29 : decode cX11_link 29 = .ok (.ifCond .ne 9, 3) := by decide +kernel
theorem dX11_link_32 : decode cX11_link 32 = .ok (.aload_n 0, 1) := by decide +kernel
theorem dX11_link_33 : decode cX11_link 33 = .ok (.iconst 1, 1) := by decide +kernel
theorem dX11_link_34 : decode cX11_link 34 = .ok (.invokevirtual 448, 3) := by decide +kernel
theorem dX11_link_37 : decode cX11_link 37 = .ok (.ireturn, 1) := by decide +kernel
theorem dX11_link_38 : decode cX11_link 38 = .ok (.aload_n 0, 1) := by decide +kernel
theorem dX11_link_39 : decode cX11_link 39 = .ok (.invokevirtual 498, 3) := by decide +kernel
theorem dX11_link_42 : decode cX11_link 42 = .ok (.istore_n 1, 1) := by decide +kernel
theorem dX11_link_43 : decode cX11_link 43 = .ok (.iload_n 1, 1) := by decide +kernel
theorem dX11_link_44 : decode cX11_link 44 = .ok (.ifCond .lt 11, 3) := by decide +kernel
theorem dX11_link_55 : decode cX11_link 55 = .ok (.aload_n 0, 1) := by decide +kernel
theorem dX11_link_56 : decode cX11_link 56 = .ok (.invokevirtual 501, 3) := by decide +kernel
theorem dX11_link_59 : decode cX11_link 59 = .ok (.istore_n 1, 1) := by decide +kernel
theorem dX11_link_60 : decode cX11_link 60 = .ok (.iload_n 1, 1) := by decide +kernel
theorem dX11_link_61 : decode cX11_link 61 = .ok (.ifCond .lt 12, 3) := by decide +kernel
theorem dX11_link_73 : decode cX11_link 73 = .ok (.aload_n 0, 1) := by decide +kernel
theorem dX11_link_74 : decode cX11_link 74 = .ok (.ldc2_w 504, 3) := by decide +kernel
theorem dX11_link_77 : decode cX11_link 77 = .ok (.invokevirtual 481, 3) := by decide +kernel
theorem dX11_link_80 : decode cX11_link 80 = .ok (.istore_n 2, 1) := by decide +kernel
theorem dX11_link_81 : decode cX11_link 81 = .ok (.iload_n 2, 1) := by decide +kernel
theorem dX11_link_82 : decode cX11_link 82 = .ok (.ifCond .ge 12, 3) := by decide +kernel
theorem dX11_link_94 : decode cX11_link 94 = .ok (.aload_n 0, 1) := by decide +kernel
theorem dX11_link_95 : decode cX11_link 95 = .ok (.invokevirtual 506, 3) := by decide +kernel
theorem dX11_link_98 : decode cX11_link 98 = .ok (.aload_n 0, 1) := by decide +kernel
theorem dX11_link_99 : decode cX11_link 99 = .ok (.getfield 232, 3) := by decide +kernel
theorem dX11_link_102 : decode cX11_link 102 = .ok (.iconst 0, 1) := by decide +kernel
theorem dX11_link_103 : decode cX11_link 103 = .ok (.iaload, 1) := by decide +kernel
theorem dX11_link_104 : decode cX11_link 104 = .ok (.istore_n 3, 1) := by decide +kernel
theorem dX11_link_105 : decode cX11_link 105 = .ok (.iload_n 3, 1) := by decide +kernel
theorem dX11_link_106 : decode cX11_link 106 = .ok (.sipush 1200, 3) := by decide +kernel
theorem dX11_link_109 : decode cX11_link 109 = .ok (.if_icmp .le 12, 3) := by decide +kernel
theorem dX11_link_121 : decode cX11_link 121 = .ok (.aload_n 0, 1) := by decide +kernel
theorem dX11_link_122 : decode cX11_link 122 = .ok (.invokevirtual 509, 3) := by decide +kernel
theorem dX11_link_125 : decode cX11_link 125 = .ok (.istore_n 1, 1) := by decide +kernel
theorem dX11_link_126 : decode cX11_link 126 = .ok (.iload_n 1, 1) := by decide +kernel
theorem dX11_link_127 : decode cX11_link 127 = .ok (.ifCond .lt 12, 3) := by decide +kernel
theorem dX11_link_139 : decode cX11_link 139 = .ok (.iconst 0, 1) := by decide +kernel
theorem dX11_link_140 : decode cX11_link 140 = .ok (.istore 4, 2) := by decide +kernel
theorem dX11_link_130 : decode cX11_link 130 = .ok (.aload_n 0, 1) := by decide +kernel
theorem dX11_link_131 : decode cX11_link 131 = .ok (.bipush 7, 2) := by decide +kernel
theorem dX11_link_133 : decode cX11_link 133 = .ok (.iload_n 1, 1) := by decide +kernel
theorem dX11_link_134 : decode cX11_link 134 = .ok (.iconst 5, 1) := by decide +kernel
theorem dX11_link_135 : decode cX11_link 135 = .ok (.invokevirtual 457, 3) := by decide +kernel
theorem dX11_link_138 : decode cX11_link 138 = .ok (.ireturn, 1) := by decide +kernel
theorem dX11_link_112 : decode cX11_link 112 = .ok (.aload_n 0, 1) := by decide +kernel
theorem dX11_link_113 : decode cX11_link 113 = .ok (.bipush 9, 2) := by decide +kernel
theorem dX11_link_115 : decode cX11_link 115 = .ok (.iconst (-1), 1) := by decide +kernel
theorem dX11_link_116 : decode cX11_link 116 = .ok (.iconst 4, 1) := by decide +kernel
theorem dX11_link_117 : decode cX11_link 117 = .ok (.invokevirtual 457, 3) := by decide +kernel
theorem dX11_link_120 : decode cX11_link 120 = .ok (.ireturn, 1) := by decide +kernel
theorem dX11_link_85 : decode cX11_link 85 = .ok (.aload_n 0, 1) := by decide +kernel
theorem dX11_link_86 : decode cX11_link 86 = .ok (.bipush 8, 2) := by decide +kernel
theorem dX11_link_88 : decode cX11_link 88 = .ok (.iconst (-1), 1) := by decide +kernel
theorem dX11_link_89 : decode cX11_link 89 = .ok (.iconst 3, 1) := by decide +kernel
theorem dX11_link_90 : decode cX11_link 90 = .ok (.invokevirtual 457, 3) := by decide +kernel
theorem dX11_link_93 : decode cX11_link 93 = .ok (.ireturn, 1) := by decide +kernel
theorem dX11_link_64 : decode cX11_link 64 = .ok (.aload_n 0, 1) := by decide +kernel
theorem dX11_link_65 : decode cX11_link 65 = .ok (.bipush 6, 2) := by decide +kernel
theorem dX11_link_67 : decode cX11_link 67 = .ok (.iload_n 1, 1) := by decide +kernel
theorem dX11_link_68 : decode cX11_link 68 = .ok (.iconst 3, 1) := by decide +kernel
theorem dX11_link_69 : decode cX11_link 69 = .ok (.invokevirtual 457, 3) := by decide +kernel
theorem dX11_link_72 : decode cX11_link 72 = .ok (.ireturn, 1) := by decide +kernel
theorem dX11_link_47 : decode cX11_link 47 = .ok (.aload_n 0, 1) := by decide +kernel
theorem dX11_link_48 : decode cX11_link 48 = .ok (.iconst 5, 1) := by decide +kernel
theorem dX11_link_49 : decode cX11_link 49 = .ok (.iload_n 1, 1) := by decide +kernel
theorem dX11_link_50 : decode cX11_link 50 = .ok (.iconst 2, 1) := by decide +kernel
theorem dX11_link_51 : decode cX11_link 51 = .ok (.invokevirtual 457, 3) := by decide +kernel
theorem dX11_link_54 : decode cX11_link 54 = .ok (.ireturn, 1) := by decide +kernel
theorem dX11_link_142 : decode cX11_link 142 = .ok (.iload 4, 2) := by decide +kernel
theorem dX11_link_144 : decode cX11_link 144 = .ok (.sipush 1200, 3) := by decide +kernel
theorem dX11_link_147 : decode cX11_link 147 = .ok (.if_icmp .ge 17, 3) := by decide +kernel
theorem dX11_link_164 : decode cX11_link 164 = .ok (.aload_n 0, 1) := by decide +kernel
theorem dX11_link_165 : decode cX11_link 165 = .ok (.iload_n 3, 1) := by decide +kernel
theorem dX11_link_166 : decode cX11_link 166 = .ok (.putfield 512, 3) := by decide +kernel
theorem dX11_link_169 : decode cX11_link 169 = .ok (.aload_n 0, 1) := by decide +kernel
theorem dX11_link_170 : decode cX11_link 170 = .ok (.iconst 1, 1) := by decide +kernel
theorem dX11_link_171 : decode cX11_link 171 = .ok (.putfield 515, 3) := by decide +kernel
theorem dX11_link_174 : decode cX11_link 174 = .ok (.aload_n 0, 1) := by decide +kernel
theorem dX11_link_175 : decode cX11_link 175 = .ok (.iconst 0, 1) := by decide +kernel
theorem dX11_link_176 : decode cX11_link 176 = .ok (.putfield 495, 3) := by decide +kernel
theorem dX11_link_179 : decode cX11_link 179 = .ok (.iconst 0, 1) := by decide +kernel
theorem dX11_link_180 : decode cX11_link 180 = .ok (.istore_n 1, 1) := by decide +kernel
theorem dX11_link_150 : decode cX11_link 150 = .ok (.aload_n 0, 1) := by decide +kernel
theorem dX11_link_151 : decode cX11_link 151 = .ok (.getfield 226, 3) := by decide +kernel
theorem dX11_link_154 : decode cX11_link 154 = .ok (.iload 4, 2) := by decide +kernel
theorem dX11_link_156 : decode cX11_link 156 = .ok (.iconst 0, 1) := by decide +kernel
theorem dX11_link_157 : decode cX11_link 157 = .ok (.iastore, 1) := by decide +kernel
theorem dX11_link_158 : decode cX11_link 158 = .ok (.iinc 4 1, 3) := by decide +kernel
theorem dX11_link_161 : decode cX11_link 161 = .ok (.goto (-19), 3) := by decide +kernel
theorem dX11_link_181 : decode cX11_link 181 = .ok (.iload_n 1, 1) := by decide +kernel
theorem dX11_link_182 : decode cX11_link 182 = .ok (.iconst 3, 1) := by decide +kernel
theorem dX11_link_183 : decode cX11_link 183 = .ok (.if_icmp .ge 117, 3) := by decide +kernel
theorem dX11_link_300 : decode cX11_link 300 = .ok (.iconst 0, 1) := by decide +kernel
theorem dX11_link_301 : decode cX11_link 301 = .ok (.istore_n 1, 1) := by decide +kernel
theorem dX11_link_186 : decode cX11_link 186 = .ok (.iconst 0, 1) := by decide +kernel
theorem dX11_link_187 : decode cX11_link 187 = .ok (.istore 4, 2) := by decide +kernel
theorem dX11_link_302 : decode cX11_link 302 = .ok (.iload_n 1, 1) := by decide +kernel
theorem dX11_link_303 : decode cX11_link 303 = .ok (.iconst 3, 1) := by decide +kernel
theorem dX11_link_304 : decode cX11_link 304 = .ok (.if_icmp .ge 51, 3) := by decide +kernel
theorem dX11_link_355 : decode cX11_link 355 = .ok (.bipush 24, 2) := by decide +kernel
theorem dX11_link_357 : decode cX11_link 357 = .ok (.iload_n 2, 1) := by decide +kernel
theorem dX11_link_358 : decode cX11_link 358 = .ok (.bipush 80, 2) := by decide +kernel
theorem dX11_link_360 : decode cX11_link 360 = .ok (.idiv, 1) := by decide +kernel
theorem dX11_link_361 : decode cX11_link 361 = .ok (.imul, 1) := by decide +kernel
theorem dX11_link_362 : decode cX11_link 362 = .ok (.aload_n 0, 1) := by decide +kernel
theorem dX11_link_363 : decode cX11_link 363 = .ok (.getfield 220, 3) := by decide +kernel
theorem dX11_link_366 : decode cX11_link 366 = .ok (.iload_n 2, 1) := by decide +kernel
theorem dX11_link_367 : decode cX11_link 367 = .ok (.iaload, 1) := by decide +kernel
theorem dX11_link_368 : decode cX11_link 368 = .ok (.iadd, 1) := by decide +kernel
theorem dX11_link_369 : decode cX11_link 369 = .ok (.istore 4, 2) := by decide +kernel
theorem dX11_link_371 : decode cX11_link 371 = .ok (.aload_n 0, 1) := by decide +kernel
theorem dX11_link_372 : decode cX11_link 372 = .ok (.aload_n 0, 1) := by decide +kernel
theorem dX11_link_373 : decode cX11_link 373 = .ok (.getfield 241, 3) := by decide +kernel
theorem dX11_link_376 : decode cX11_link 376 = .ok (.aload_n 0, 1) := by decide +kernel
theorem dX11_link_377 : decode cX11_link 377 = .ok (.getfield 244, 3) := by decide +kernel
theorem dX11_link_380 : decode cX11_link 380 = .ok (.iload 4, 2) := by decide +kernel
theorem dX11_link_382 : decode cX11_link 382 = .ok (.iaload, 1) := by decide +kernel
theorem dX11_link_383 : decode cX11_link 383 = .ok (.iaload, 1) := by decide +kernel
theorem dX11_link_384 : decode cX11_link 384 = .ok (.bipush 16, 2) := by decide +kernel
theorem dX11_link_386 : decode cX11_link 386 = .ok (.idiv, 1) := by decide +kernel
theorem dX11_link_387 : decode cX11_link 387 = .ok (.putfield 521, 3) := by decide +kernel
theorem dX11_link_390 : decode cX11_link 390 = .ok (.aload_n 0, 1) := by decide +kernel
theorem dX11_link_391 : decode cX11_link 391 = .ok (.aload_n 0, 1) := by decide +kernel
theorem dX11_link_392 : decode cX11_link 392 = .ok (.getfield 247, 3) := by decide +kernel
theorem dX11_link_395 : decode cX11_link 395 = .ok (.iload 4, 2) := by decide +kernel
theorem dX11_link_397 : decode cX11_link 397 = .ok (.iaload, 1) := by decide +kernel
theorem dX11_link_398 : decode cX11_link 398 = .ok (.aload_n 0, 1) := by decide +kernel
theorem dX11_link_399 : decode cX11_link 399 = .ok (.getfield 223, 3) := by decide +kernel
theorem dX11_link_402 : decode cX11_link 402 = .ok (.iload_n 2, 1) := by decide +kernel
theorem dX11_link_403 : decode cX11_link 403 = .ok (.iaload, 1) := by decide +kernel
theorem dX11_link_404 : decode cX11_link 404 = .ok (.iadd, 1) := by decide +kernel
theorem dX11_link_405 : decode cX11_link 405 = .ok (.putfield 524, 3) := by decide +kernel
theorem dX11_link_408 : decode cX11_link 408 = .ok (.aload_n 0, 1) := by decide +kernel
theorem dX11_link_409 : decode cX11_link 409 = .ok (.iconst (-1), 1) := by decide +kernel
theorem dX11_link_410 : decode cX11_link 410 = .ok (.putfield 13, 3) := by decide +kernel
theorem dX11_link_413 : decode cX11_link 413 = .ok (.aload_n 0, 1) := by decide +kernel
theorem dX11_link_414 : decode cX11_link 414 = .ok (.iconst (-1), 1) := by decide +kernel
theorem dX11_link_415 : decode cX11_link 415 = .ok (.putfield 17, 3) := by decide +kernel
theorem dX11_link_418 : decode cX11_link 418 = .ok (.iload_n 3, 1) := by decide +kernel
theorem dX11_link_419 : decode cX11_link 419 = .ok (.ireturn, 1) := by decide +kernel
theorem dX11_link_307 : decode cX11_link 307 = .ok (.iconst 0, 1) := by decide +kernel
theorem dX11_link_308 : decode cX11_link 308 = .ok (.istore 4, 2) := by decide +kernel
theorem dX11_link_189 : decode cX11_link 189 = .ok (.iload 4, 2) := by decide +kernel
theorem dX11_link_191 : decode cX11_link 191 = .ok (.aload_n 0, 1) := by decide +kernel
theorem dX11_link_192 : decode cX11_link 192 = .ok (.getfield 178, 3) := by decide +kernel
theorem dX11_link_195 : decode cX11_link 195 = .ok (.iload_n 1, 1) := by decide +kernel
theorem dX11_link_196 : decode cX11_link 196 = .ok (.iaload, 1) := by decide +kernel
theorem dX11_link_197 : decode cX11_link 197 = .ok (.if_icmp .ge 97, 3) := by decide +kernel
theorem dX11_link_200 : decode cX11_link 200 = .ok (.aload_n 0, 1) := by decide +kernel
theorem dX11_link_201 : decode cX11_link 201 = .ok (.getfield 175, 3) := by decide +kernel
theorem dX11_link_204 : decode cX11_link 204 = .ok (.iload_n 1, 1) := by decide +kernel
theorem dX11_link_205 : decode cX11_link 205 = .ok (.baload, 1) := by decide +kernel
theorem dX11_link_206 : decode cX11_link 206 = .ok (.ifCond .eq 88, 3) := by decide +kernel
theorem dX11_link_209 : decode cX11_link 209 = .ok (.bipush 24, 2) := by decide +kernel
theorem dX11_link_211 : decode cX11_link 211 = .ok (.iload_n 1, 1) := by decide +kernel
theorem dX11_link_212 : decode cX11_link 212 = .ok (.imul, 1) := by decide +kernel
theorem dX11_link_213 : decode cX11_link 213 = .ok (.iload 4, 2) := by decide +kernel
theorem dX11_link_215 : decode cX11_link 215 = .ok (.iadd, 1) := by decide +kernel
theorem dX11_link_216 : decode cX11_link 216 = .ok (.istore 5, 2) := by decide +kernel
theorem dX11_link_218 : decode cX11_link 218 = .ok (.iconst 0, 1) := by decide +kernel
theorem dX11_link_219 : decode cX11_link 219 = .ok (.istore 6, 2) := by decide +kernel
theorem dX11_link_310 : decode cX11_link 310 = .ok (.iload 4, 2) := by decide +kernel
theorem dX11_link_312 : decode cX11_link 312 = .ok (.aload_n 0, 1) := by decide +kernel
theorem dX11_link_313 : decode cX11_link 313 = .ok (.getfield 196, 3) := by decide +kernel
theorem dX11_link_316 : decode cX11_link 316 = .ok (.iload_n 1, 1) := by decide +kernel
theorem dX11_link_317 : decode cX11_link 317 = .ok (.iaload, 1) := by decide +kernel
theorem dX11_link_318 : decode cX11_link 318 = .ok (.if_icmp .ge 31, 3) := by decide +kernel
theorem dX11_link_321 : decode cX11_link 321 = .ok (.aload_n 0, 1) := by decide +kernel
theorem dX11_link_322 : decode cX11_link 322 = .ok (.getfield 175, 3) := by decide +kernel
theorem dX11_link_325 : decode cX11_link 325 = .ok (.iload_n 1, 1) := by decide +kernel
theorem dX11_link_326 : decode cX11_link 326 = .ok (.baload, 1) := by decide +kernel
theorem dX11_link_327 : decode cX11_link 327 = .ok (.ifCond .eq 22, 3) := by decide +kernel
theorem dX11_link_330 : decode cX11_link 330 = .ok (.aload_n 0, 1) := by decide +kernel
theorem dX11_link_331 : decode cX11_link 331 = .ok (.iload_n 1, 1) := by decide +kernel
theorem dX11_link_332 : decode cX11_link 332 = .ok (.sipush 200, 3) := by decide +kernel
theorem dX11_link_335 : decode cX11_link 335 = .ok (.iload_n 1, 1) := by decide +kernel
theorem dX11_link_336 : decode cX11_link 336 = .ok (.imul, 1) := by decide +kernel
theorem dX11_link_337 : decode cX11_link 337 = .ok (.iload 4, 2) := by decide +kernel
theorem dX11_link_339 : decode cX11_link 339 = .ok (.iadd, 1) := by decide +kernel
theorem dX11_link_340 : decode cX11_link 340 = .ok (.invokevirtual 518, 3) := by decide +kernel
theorem dX11_link_343 : decode cX11_link 343 = .ok (.iinc 4 1, 3) := by decide +kernel
theorem dX11_link_346 : decode cX11_link 346 = .ok (.goto (-36), 3) := by decide +kernel
theorem dX11_link_294 : decode cX11_link 294 = .ok (.iinc 1 1, 3) := by decide +kernel
theorem dX11_link_297 : decode cX11_link 297 = .ok (.goto (-116), 3) := by decide +kernel
theorem dX11_link_221 : decode cX11_link 221 = .ok (.iload 6, 2) := by decide +kernel
theorem dX11_link_223 : decode cX11_link 223 = .ok (.aload_n 0, 1) := by decide +kernel
theorem dX11_link_224 : decode cX11_link 224 = .ok (.getfield 190, 3) := by decide +kernel
theorem dX11_link_227 : decode cX11_link 227 = .ok (.iload 5, 2) := by decide +kernel
theorem dX11_link_229 : decode cX11_link 229 = .ok (.iaload, 1) := by decide +kernel
theorem dX11_link_230 : decode cX11_link 230 = .ok (.if_icmp .ge 58, 3) := by decide +kernel
theorem dX11_link_288 : decode cX11_link 288 = .ok (.iinc 4 1, 3) := by decide +kernel
theorem dX11_link_291 : decode cX11_link 291 = .ok (.goto (-102), 3) := by decide +kernel
theorem dX11_link_233 : decode cX11_link 233 = .ok (.aload_n 0, 1) := by decide +kernel
theorem dX11_link_234 : decode cX11_link 234 = .ok (.getfield 226, 3) := by decide +kernel
theorem dX11_link_237 : decode cX11_link 237 = .ok (.aload_n 0, 1) := by decide +kernel
theorem dX11_link_238 : decode cX11_link 238 = .ok (.getfield 241, 3) := by decide +kernel
theorem dX11_link_241 : decode cX11_link 241 = .ok (.aload_n 0, 1) := by decide +kernel
theorem dX11_link_242 : decode cX11_link 242 = .ok (.getfield 244, 3) := by decide +kernel
theorem dX11_link_245 : decode cX11_link 245 = .ok (.iload 5, 2) := by decide +kernel
theorem dX11_link_247 : decode cX11_link 247 = .ok (.iaload, 1) := by decide +kernel
theorem dX11_link_248 : decode cX11_link 248 = .ok (.iaload, 1) := by decide +kernel
theorem dX11_link_249 : decode cX11_link 249 = .ok (.aload_n 0, 1) := by decide +kernel
theorem dX11_link_250 : decode cX11_link 250 = .ok (.getfield 247, 3) := by decide +kernel
theorem dX11_link_253 : decode cX11_link 253 = .ok (.iload 5, 2) := by decide +kernel
theorem dX11_link_255 : decode cX11_link 255 = .ok (.iaload, 1) := by decide +kernel
theorem dX11_link_256 : decode cX11_link 256 = .ok (.iadd, 1) := by decide +kernel
theorem dX11_link_257 : decode cX11_link 257 = .ok (.iload 6, 2) := by decide +kernel
theorem dX11_link_259 : decode cX11_link 259 = .ok (.iadd, 1) := by decide +kernel
theorem dX11_link_260 : decode cX11_link 260 = .ok (.aload_n 0, 1) := by decide +kernel
theorem dX11_link_261 : decode cX11_link 261 = .ok (.getfield 193, 3) := by decide +kernel
theorem dX11_link_264 : decode cX11_link 264 = .ok (.sipush 400, 3) := by decide +kernel
theorem dX11_link_267 : decode cX11_link 267 = .ok (.iload_n 1, 1) := by decide +kernel
theorem dX11_link_268 : decode cX11_link 268 = .ok (.imul, 1) := by decide +kernel
theorem dX11_link_269 : decode cX11_link 269 = .ok (.aload_n 0, 1) := by decide +kernel
theorem dX11_link_270 : decode cX11_link 270 = .ok (.getfield 187, 3) := by decide +kernel
theorem dX11_link_273 : decode cX11_link 273 = .ok (.iload 5, 2) := by decide +kernel
theorem dX11_link_275 : decode cX11_link 275 = .ok (.iaload, 1) := by decide +kernel
theorem dX11_link_276 : decode cX11_link 276 = .ok (.iadd, 1) := by decide +kernel
theorem dX11_link_277 : decode cX11_link 277 = .ok (.iload 6, 2) := by decide +kernel
theorem dX11_link_279 : decode cX11_link 279 = .ok (.iadd, 1) := by decide +kernel
theorem dX11_link_280 : decode cX11_link 280 = .ok (.iaload, 1) := by decide +kernel
theorem dX11_link_281 : decode cX11_link 281 = .ok (.iastore, 1) := by decide +kernel
theorem dX11_link_282 : decode cX11_link 282 = .ok (.iinc 6 1, 3) := by decide +kernel
theorem dX11_link_285 : decode cX11_link 285 = .ok (.goto (-64), 3) := by decide +kernel
theorem dX11_link_349 : decode cX11_link 349 = .ok (.iinc 1 1, 3) := by decide +kernel
theorem dX11_link_352 : decode cX11_link 352 = .ok (.goto (-50), 3) := by decide +kernel
theorem dX11_load_0 : decode cX11_load 0 = .ok (.aload_n 0, 1) := by decide +kernel
theorem dX11_load_1 : decode cX11_load 1 = .ok (.iconst 0, 1) := by decide +kernel
theorem dX11_load_2 : decode cX11_load 2 = .ok (.putfield 263, 3) := by decide +kernel
theorem dX11_load_5 : decode cX11_load 5 = .ok (.iload_n 1, 1) := by decide +kernel
theorem dX11_load_6 : decode cX11_load 6 = .ok (.ifCond .lt 10, 3) := by decide +kernel
theorem dX11_load_9 : decode cX11_load 9 = .ok (.iload_n 1, 1) := by decide +kernel
theorem dX11_load_10 : decode cX11_load 10 = .ok (.sipush 255, 3) := by decide +kernel
theorem dX11_load_13 : decode cX11_load 13 = .ok (.if_icmp .le 9, 3) := by decide +kernel
theorem dX11_load_22 : decode cX11_load 22 = .ok (.aload_n 0, 1) := by decide +kernel
theorem dX11_load_23 : decode cX11_load 23 = .ok (.getfield 515, 3) := by decide +kernel
theorem dX11_load_26 : decode cX11_load 26 = .ok (.ifCond .ne 9, 3) := by decide +kernel
theorem dX11_load_35 : decode cX11_load 35 = .ok (.iconst 0, 1) := by decide +kernel
theorem dX11_load_36 : decode cX11_load 36 = .ok (.istore_n 2, 1) := by decide +kernel
theorem dX11_load_29 : decode cX11_load 29 = .ok (.aload_n 0, 1) := by decide +kernel
theorem dX11_load_30 : decode cX11_load 30 = .ok (.iconst 2, 1) := by decide +kernel
theorem dX11_load_31 : decode cX11_load 31 = .ok (.invokevirtual 448, 3) := by decide +kernel
theorem dX11_load_34 : decode cX11_load 34 = .ok (.ireturn, 1) := by decide +kernel
theorem dX11_load_16 : decode cX11_load 16 = .ok (.aload_n 0, 1) := by decide +kernel
theorem dX11_load_17 : decode cX11_load 17 = .ok (.iconst 1, 1) := by decide +kernel
theorem dX11_load_18 : decode cX11_load 18 = .ok (.invokevirtual 448, 3) := by decide +kernel
theorem dX11_load_21 : decode cX11_load 21 = .ok (.ireturn, 1) := by decide +kernel
theorem dX11_load_37 : decode cX11_load 37 = .ok (.iload_n 2, 1) := by decide +kernel
theorem dX11_load_38 : decode cX11_load 38 = .ok (.sipush 4096, 3) := by decide +kernel
theorem dX11_load_41 : decode cX11_load 41 = .ok (.if_icmp .ge 16, 3) := by decide +kernel
theorem dX11_load_57 : decode cX11_load 57 = .ok (.iconst 0, 1) := by decide +kernel
theorem dX11_load_58 : decode cX11_load 58 = .ok (.istore_n 2, 1) := by decide +kernel
theorem dX11_load_44 : decode cX11_load 44 = .ok (.aload_n 0, 1) := by decide +kernel
theorem dX11_load_45 : decode cX11_load 45 = .ok (.getfield 250, 3) := by decide +kernel
theorem dX11_load_48 : decode cX11_load 48 = .ok (.iload_n 2, 1) := by decide +kernel
theorem dX11_load_49 : decode cX11_load 49 = .ok (.iconst 0, 1) := by decide +kernel
theorem dX11_load_50 : decode cX11_load 50 = .ok (.iastore, 1) := by decide +kernel
theorem dX11_load_51 : decode cX11_load 51 = .ok (.iinc 2 1, 3) := by decide +kernel
theorem dX11_load_54 : decode cX11_load 54 = .ok (.goto (-17), 3) := by decide +kernel
theorem dX11_load_59 : decode cX11_load 59 = .ok (.iload_n 2, 1) := by decide +kernel
theorem dX11_load_60 : decode cX11_load 60 = .ok (.aload_n 0, 1) := by decide +kernel
theorem dX11_load_61 : decode cX11_load 61 = .ok (.getfield 512, 3) := by decide +kernel
theorem dX11_load_64 : decode cX11_load 64 = .ok (.if_icmp .ge 30, 3) := by decide +kernel
theorem dX11_load_94 : decode cX11_load 94 = .ok (.iconst 0, 1) := by decide +kernel
theorem dX11_load_95 : decode cX11_load 95 = .ok (.istore_n 2, 1) := by decide +kernel
theorem dX11_load_67 : decode cX11_load 67 = .ok (.aload_n 0, 1) := by decide +kernel
theorem dX11_load_68 : decode cX11_load 68 = .ok (.getfield 250, 3) := by decide +kernel
theorem dX11_load_71 : decode cX11_load 71 = .ok (.bipush 16, 2) := by decide +kernel
theorem dX11_load_73 : decode cX11_load 73 = .ok (.iload_n 1, 1) := by decide +kernel
theorem dX11_load_74 : decode cX11_load 74 = .ok (.imul, 1) := by decide +kernel
theorem dX11_load_75 : decode cX11_load 75 = .ok (.iload_n 2, 1) := by decide +kernel
theorem dX11_load_76 : decode cX11_load 76 = .ok (.iadd, 1) := by decide +kernel
theorem dX11_load_77 : decode cX11_load 77 = .ok (.sipush 4095, 3) := by decide +kernel
theorem dX11_load_80 : decode cX11_load 80 = .ok (.iand, 1) := by decide +kernel
theorem dX11_load_81 : decode cX11_load 81 = .ok (.aload_n 0, 1) := by decide +kernel
theorem dX11_load_82 : decode cX11_load 82 = .ok (.getfield 226, 3) := by decide +kernel
theorem dX11_load_85 : decode cX11_load 85 = .ok (.iload_n 2, 1) := by decide +kernel
theorem dX11_load_86 : decode cX11_load 86 = .ok (.iaload, 1) := by decide +kernel
theorem dX11_load_87 : decode cX11_load 87 = .ok (.iastore, 1) := by decide +kernel
theorem dX11_load_88 : decode cX11_load 88 = .ok (.iinc 2 1, 3) := by decide +kernel
theorem dX11_load_91 : decode cX11_load 91 = .ok (.goto (-32), 3) := by decide +kernel
theorem dX11_load_96 : decode cX11_load 96 = .ok (.iload_n 2, 1) := by decide +kernel
theorem dX11_load_97 : decode cX11_load 97 = .ok (.aload_n 0, 1) := by decide +kernel
theorem dX11_load_98 : decode cX11_load 98 = .ok (.getfield 495, 3) := by decide +kernel
theorem dX11_load_101 : decode cX11_load 101 = .ok (.if_icmp .ge 88, 3) := by decide +kernel
theorem dX11_load_189 : decode cX11_load 189 = .ok (.iconst 0, 1) := by decide +kernel
theorem dX11_load_190 : decode cX11_load 190 = .ok (.istore_n 2, 1) := by decide +kernel
theorem dX11_load_104 : decode cX11_load 104 = .ok (.bipush 16, 2) := by decide +kernel
theorem dX11_load_106 : decode cX11_load 106 = .ok (.iload_n 1, 1) := by decide +kernel
theorem dX11_load_107 : decode cX11_load 107 = .ok (.imul, 1) := by decide +kernel
theorem dX11_load_108 : decode cX11_load 108 = .ok (.aload_n 0, 1) := by decide +kernel
theorem dX11_load_109 : decode cX11_load 109 = .ok (.getfield 229, 3) := by decide +kernel
theorem dX11_load_112 : decode cX11_load 112 = .ok (.iload_n 2, 1) := by decide +kernel
theorem dX11_load_113 : decode cX11_load 113 = .ok (.iaload, 1) := by decide +kernel
theorem dX11_load_114 : decode cX11_load 114 = .ok (.iadd, 1) := by decide +kernel
theorem dX11_load_115 : decode cX11_load 115 = .ok (.istore_n 3, 1) := by decide +kernel
theorem dX11_load_116 : decode cX11_load 116 = .ok (.aload_n 0, 1) := by decide +kernel
theorem dX11_load_117 : decode cX11_load 117 = .ok (.getfield 250, 3) := by decide +kernel
theorem dX11_load_120 : decode cX11_load 120 = .ok (.iload_n 3, 1) := by decide +kernel
theorem dX11_load_121 : decode cX11_load 121 = .ok (.sipush 4095, 3) := by decide +kernel
theorem dX11_load_124 : decode cX11_load 124 = .ok (.iand, 1) := by decide +kernel
theorem dX11_load_125 : decode cX11_load 125 = .ok (.iaload, 1) := by decide +kernel
theorem dX11_load_126 : decode cX11_load 126 = .ok (.aload_n 0, 1) := by decide +kernel
theorem dX11_load_127 : decode cX11_load 127 = .ok (.getfield 250, 3) := by decide +kernel
theorem dX11_load_130 : decode cX11_load 130 = .ok (.iload_n 3, 1) := by decide +kernel
theorem dX11_load_131 : decode cX11_load 131 = .ok (.iconst 1, 1) := by decide +kernel
theorem dX11_load_132 : decode cX11_load 132 = .ok (.iadd, 1) := by decide +kernel
theorem dX11_load_133 : decode cX11_load 133 = .ok (.sipush 4095, 3) := by decide +kernel
theorem dX11_load_136 : decode cX11_load 136 = .ok (.iand, 1) := by decide +kernel
theorem dX11_load_137 : decode cX11_load 137 = .ok (.iaload, 1) := by decide +kernel
theorem dX11_load_138 : decode cX11_load 138 = .ok (.bipush 8, 2) := by decide +kernel
theorem dX11_load_140 : decode cX11_load 140 = .ok (.ishl, 1) := by decide +kernel
theorem dX11_load_141 : decode cX11_load 141 = .ok (.ior, 1) := by decide +kernel
theorem dX11_load_142 : decode cX11_load 142 = .ok (.iload_n 1, 1) := by decide +kernel
theorem dX11_load_143 : decode cX11_load 143 = .ok (.iadd, 1) := by decide +kernel
theorem dX11_load_144 : decode cX11_load 144 = .ok (.istore 4, 2) := by decide +kernel
theorem dX11_load_146 : decode cX11_load 146 = .ok (.aload_n 0, 1) := by decide +kernel
theorem dX11_load_147 : decode cX11_load 147 = .ok (.getfield 250, 3) := by decide +kernel
theorem dX11_load_150 : decode cX11_load 150 = .ok (.iload_n 3, 1) := by decide +kernel
theorem dX11_load_151 : decode cX11_load 151 = .ok (.sipush 4095, 3) := by decide +kernel
theorem dX11_load_154 : decode cX11_load 154 = .ok (.iand, 1) := by decide +kernel
theorem dX11_load_155 : decode cX11_load 155 = .ok (.iload 4, 2) := by decide +kernel
theorem dX11_load_157 : decode cX11_load 157 = .ok (.sipush 255, 3) := by decide +kernel
theorem dX11_load_160 : decode cX11_load 160 = .ok (.iand, 1) := by decide +kernel
theorem dX11_load_161 : decode cX11_load 161 = .ok (.iastore, 1) := by decide +kernel
theorem dX11_load_162 : decode cX11_load 162 = .ok (.aload_n 0, 1) := by decide +kernel
theorem dX11_load_163 : decode cX11_load 163 = .ok (.getfield 250, 3) := by decide +kernel
theorem dX11_load_166 : decode cX11_load 166 = .ok (.iload_n 3, 1) := by decide +kernel
theorem dX11_load_167 : decode cX11_load 167 = .ok (.iconst 1, 1) := by decide +kernel
theorem dX11_load_168 : decode cX11_load 168 = .ok (.iadd, 1) := by decide +kernel
theorem dX11_load_169 : decode cX11_load 169 = .ok (.sipush 4095, 3) := by decide +kernel
theorem dX11_load_172 : decode cX11_load 172 = .ok (.iand, 1) := by decide +kernel
theorem dX11_load_173 : decode cX11_load 173 = .ok (.iload 4, 2) := by decide +kernel
theorem dX11_load_175 : decode cX11_load 175 = .ok (.bipush 8, 2) := by decide +kernel
theorem dX11_load_177 : decode cX11_load 177 = .ok (.ishr, 1) := by decide +kernel
theorem dX11_load_178 : decode cX11_load 178 = .ok (.sipush 255, 3) := by decide +kernel
theorem dX11_load_181 : decode cX11_load 181 = .ok (.iand, 1) := by decide +kernel
theorem dX11_load_182 : decode cX11_load 182 = .ok (.iastore, 1) := by decide +kernel
theorem dX11_load_183 : decode cX11_load 183 = .ok (.iinc 2 1, 3) := by decide +kernel
theorem dX11_load_186 : decode cX11_load 186 = .ok (.goto (-90), 3) := by decide +kernel
theorem dX11_load_191 : decode cX11_load 191 = .ok (.iload_n 2, 1) := by decide +kernel
theorem dX11_load_192 : decode cX11_load 192 = .ok (.bipush 16, 2) := by decide +kernel
theorem dX11_load_194 : decode cX11_load 194 = .ok (.if_icmp .ge 16, 3) := by decide +kernel
theorem dX11_load_210 : decode cX11_load 210 = .ok (.aload_n 0, 1) := by decide +kernel
theorem dX11_load_211 : decode cX11_load 211 = .ok (.getfield 253, 3) := by decide +kernel
theorem dX11_load_214 : decode cX11_load 214 = .ok (.bipush 8, 2) := by decide +kernel
theorem dX11_load_216 : decode cX11_load 216 = .ok (.iload_n 1, 1) := by decide +kernel
theorem dX11_load_217 : decode cX11_load 217 = .ok (.iastore, 1) := by decide +kernel
theorem dX11_load_218 : decode cX11_load 218 = .ok (.aload_n 0, 1) := by decide +kernel
theorem dX11_load_219 : decode cX11_load 219 = .ok (.getfield 253, 3) := by decide +kernel
theorem dX11_load_222 : decode cX11_load 222 = .ok (.bipush 10, 2) := by decide +kernel
theorem dX11_load_224 : decode cX11_load 224 = .ok (.iload_n 1, 1) := by decide +kernel
theorem dX11_load_225 : decode cX11_load 225 = .ok (.iastore, 1) := by decide +kernel
theorem dX11_load_226 : decode cX11_load 226 = .ok (.aload_n 0, 1) := by decide +kernel
theorem dX11_load_227 : decode cX11_load 227 = .ok (.getfield 253, 3) := by decide +kernel
theorem dX11_load_230 : decode cX11_load 230 = .ok (.bipush 11, 2) := by decide +kernel
theorem dX11_load_232 : decode cX11_load 232 = .ok (.iload_n 1, 1) := by decide +kernel
theorem dX11_load_233 : decode cX11_load 233 = .ok (.iastore, 1) := by decide +kernel
theorem dX11_load_234 : decode cX11_load 234 = .ok (.aload_n 0, 1) := by decide +kernel
theorem dX11_load_235 : decode cX11_load 235 = .ok (.getfield 253, 3) := by decide +kernel
theorem dX11_load_238 : decode cX11_load 238 = .ok (.bipush 9, 2) := by decide +kernel
theorem dX11_load_240 : decode cX11_load 240 = .ok (.iload_n 1, 1) := by decide +kernel
theorem dX11_load_241 : decode cX11_load 241 = .ok (.aload_n 0, 1) := by decide +kernel
theorem dX11_load_242 : decode cX11_load 242 = .ok (.getfield 521, 3) := by decide +kernel
theorem dX11_load_245 : decode cX11_load 245 = .ok (.iadd, 1) := by decide +kernel
theorem dX11_load_246 : decode cX11_load 246 = .ok (.ldc_w 300, 3) := by decide +kernel
theorem dX11_load_249 : decode cX11_load 249 = .ok (.iand, 1) := by decide +kernel
theorem dX11_load_250 : decode cX11_load 250 = .ok (.iastore, 1) := by decide +kernel
theorem dX11_load_251 : decode cX11_load 251 = .ok (.aload_n 0, 1) := by decide +kernel
theorem dX11_load_252 : decode cX11_load 252 = .ok (.getfield 253, 3) := by decide +kernel
theorem dX11_load_255 : decode cX11_load 255 = .ok (.bipush 12, 2) := by decide +kernel
theorem dX11_load_257 : decode cX11_load 257 = .ok (.aload_n 0, 1) := by decide +kernel
theorem dX11_load_258 : decode cX11_load 258 = .ok (.getfield 524, 3) := by decide +kernel
theorem dX11_load_261 : decode cX11_load 261 = .ok (.iastore, 1) := by decide +kernel
theorem dX11_load_262 : decode cX11_load 262 = .ok (.aload_n 0, 1) := by decide +kernel
theorem dX11_load_263 : decode cX11_load 263 = .ok (.iconst 0, 1) := by decide +kernel
theorem dX11_load_264 : decode cX11_load 264 = .ok (.putfield 256, 3) := by decide +kernel
theorem dX11_load_267 : decode cX11_load 267 = .ok (.aload_n 0, 1) := by decide +kernel
theorem dX11_load_268 : decode cX11_load 268 = .ok (.iconst 0, 1) := by decide +kernel
theorem dX11_load_269 : decode cX11_load 269 = .ok (.putfield 527, 3) := by decide +kernel
theorem dX11_load_272 : decode cX11_load 272 = .ok (.aload_n 0, 1) := by decide +kernel
theorem dX11_load_273 : decode cX11_load 273 = .ok (.iconst 0, 1) := by decide +kernel
theorem dX11_load_274 : decode cX11_load 274 = .ok (.putfield 530, 3) := by decide +kernel
theorem dX11_load_277 : decode cX11_load 277 = .ok (.aload_n 0, 1) := by decide +kernel
theorem dX11_load_278 : decode cX11_load 278 = .ok (.getfield 524, 3) := by decide +kernel
theorem dX11_load_281 : decode cX11_load 281 = .ok (.ireturn, 1) := by decide +kernel
theorem dX11_load_197 : decode cX11_load 197 = .ok (.aload_n 0, 1) := by decide +kernel
theorem dX11_load_198 : decode cX11_load 198 = .ok (.getfield 253, 3) := by decide +kernel
theorem dX11_load_201 : decode cX11_load 201 = .ok (.iload_n 2, 1) := by decide +kernel
theorem dX11_load_202 : decode cX11_load 202 = .ok (.iconst 0, 1) := by decide +kernel
theorem dX11_load_203 : decode cX11_load 203 = .ok (.iastore, 1) := by decide +kernel
theorem dX11_load_204 : decode cX11_load 204 = .ok (.iinc 2 1, 3) := by decide +kernel
theorem dX11_load_207 : decode cX11_load 207 = .ok (.goto (-16), 3) := by decide +kernel
theorem dX11_where_0 : decode cX11_where 0 = .ok (.bipush 16, 2) := by decide +kernel
theorem dX11_where_2 : decode cX11_where 2 = .ok (.iload_n 1, 1) := by decide +kernel
theorem dX11_where_3 : decode cX11_where 3 = .ok (.imul, 1) := by decide +kernel
theorem dX11_where_4 : decode cX11_where 4 = .ok (.iload_n 2, 1) := by decide +kernel
theorem dX11_where_5 : decode cX11_where 5 = .ok (.ldc_w 300, 3) := by decide +kernel
theorem dX11_where_8 : decode cX11_where 8 = .ok (.iand, 1) := by decide +kernel
theorem dX11_where_9 : decode cX11_where 9 = .ok (.iadd, 1) := by decide +kernel
theorem dX11_where_10 : decode cX11_where 10 = .ok (.sipush 4095, 3) := by decide +kernel
theorem dX11_where_13 : decode cX11_where 13 = .ok (.iand, 1) := by decide +kernel
theorem dX11_where_14 : decode cX11_where 14 = .ok (.ireturn, 1) := by decide +kernel
theorem dX11_get_0 : decode cX11_get 0 = .ok (.aload_n 0, 1) := by decide +kernel
theorem dX11_get_1 : decode cX11_get 1 = .ok (.getfield 250, 3) := by decide +kernel
theorem dX11_get_4 : decode cX11_get 4 = .ok (.aload_n 0, 1) := by decide +kernel
theorem dX11_get_5 : decode cX11_get 5 = .ok (.iload_n 1, 1) := by decide +kernel
theorem dX11_get_6 : decode cX11_get 6 = .ok (.iload_n 2, 1) := by decide +kernel
theorem dX11_get_7 : decode cX11_get 7 = .ok (.invokevirtual 533, 3) := by decide +kernel
theorem dX11_get_10 : decode cX11_get 10 = .ok (.iaload, 1) := by decide +kernel
theorem dX11_get_11 : decode cX11_get 11 = .ok (.aload_n 0, 1) := by decide +kernel
theorem dX11_get_12 : decode cX11_get 12 = .ok (.getfield 250, 3) := by decide +kernel
theorem dX11_get_15 : decode cX11_get 15 = .ok (.aload_n 0, 1) := by decide +kernel
theorem dX11_get_16 : decode cX11_get 16 = .ok (.iload_n 1, 1) := by decide +kernel
theorem dX11_get_17 : decode cX11_get 17 = .ok (.iload_n 2, 1) := by decide +kernel
theorem dX11_get_18 : decode cX11_get 18 = .ok (.iconst 1, 1) := by decide +kernel
theorem dX11_get_19 : decode cX11_get 19 = .ok (.iadd, 1) := by decide +kernel
theorem dX11_get_20 : decode cX11_get 20 = .ok (.invokevirtual 533, 3) := by decide +kernel
theorem dX11_get_23 : decode cX11_get 23 = .ok (.iaload, 1) := by decide +kernel
theorem dX11_get_24 : decode cX11_get 24 = .ok (.bipush 8, 2) := by decide +kernel
theorem dX11_get_26 : decode cX11_get 26 = .ok (.ishl, 1) := by decide +kernel
theorem dX11_get_27 : decode cX11_get 27 = .ok (.ior, 1) := by decide +kernel
theorem dX11_get_28 : decode cX11_get 28 = .ok (.ireturn, 1) := by decide +kernel
theorem dX11_store_0 : decode cX11_store 0 = .ok (.aload_n 0, 1) := by decide +kernel
theorem dX11_store_1 : decode cX11_store 1 = .ok (.getfield 250, 3) := by decide +kernel
theorem dX11_store_4 : decode cX11_store 4 = .ok (.aload_n 0, 1) := by decide +kernel
theorem dX11_store_5 : decode cX11_store 5 = .ok (.iload_n 1, 1) := by decide +kernel
theorem dX11_store_6 : decode cX11_store 6 = .ok (.iload_n 2, 1) := by decide +kernel
theorem dX11_store_7 : decode cX11_store 7 = .ok (.invokevirtual 533, 3) := by decide +kernel
theorem dX11_store_10 : decode cX11_store 10 = .ok (.iload_n 3, 1) := by decide +kernel
theorem dX11_store_11 : decode cX11_store 11 = .ok (.sipush 255, 3) := by decide +kernel
theorem dX11_store_14 : decode cX11_store 14 = .ok (.iand, 1) := by decide +kernel
theorem dX11_store_15 : decode cX11_store 15 = .ok (.iastore, 1) := by decide +kernel
theorem dX11_store_16 : decode cX11_store 16 = .ok (.aload_n 0, 1) := by decide +kernel
theorem dX11_store_17 : decode cX11_store 17 = .ok (.getfield 250, 3) := by decide +kernel
theorem dX11_store_20 : decode cX11_store 20 = .ok (.aload_n 0, 1) := by decide +kernel
theorem dX11_store_21 : decode cX11_store 21 = .ok (.iload_n 1, 1) := by decide +kernel
theorem dX11_store_22 : decode cX11_store 22 = .ok (.iload_n 2, 1) := by decide +kernel
theorem dX11_store_23 : decode cX11_store 23 = .ok (.iconst 1, 1) := by decide +kernel
theorem dX11_store_24 : decode cX11_store 24 = .ok (.iadd, 1) := by decide +kernel
theorem dX11_store_25 : decode cX11_store 25 = .ok (.invokevirtual 533, 3) := by decide +kernel
theorem dX11_store_28 : decode cX11_store 28 = .ok (.iload_n 3, 1) := by decide +kernel
theorem dX11_store_29 : decode cX11_store 29 = .ok (.bipush 8, 2) := by decide +kernel
theorem dX11_store_31 : decode cX11_store 31 = .ok (.ishr, 1) := by decide +kernel
theorem dX11_store_32 : decode cX11_store 32 = .ok (.sipush 255, 3) := by decide +kernel
theorem dX11_store_35 : decode cX11_store 35 = .ok (.iand, 1) := by decide +kernel
theorem dX11_store_36 : decode cX11_store 36 = .ok (.iastore, 1) := by decide +kernel
theorem dX11_store_37 : decode cX11_store 37 = .ok (.return_, 1) := by decide +kernel
theorem dX11_fetch_0 : decode cX11_fetch 0 = .ok (.aload_n 0, 1) := by decide +kernel
theorem dX11_fetch_1 : decode cX11_fetch 1 = .ok (.getfield 250, 3) := by decide +kernel
theorem dX11_fetch_4 : decode cX11_fetch 4 = .ok (.aload_n 0, 1) := by decide +kernel
theorem dX11_fetch_5 : decode cX11_fetch 5 = .ok (.aload_n 0, 1) := by decide +kernel
theorem dX11_fetch_6 : decode cX11_fetch 6 = .ok (.getfield 253, 3) := by decide +kernel
theorem dX11_fetch_9 : decode cX11_fetch 9 = .ok (.bipush 9, 2) := by decide +kernel
theorem dX11_fetch_11 : decode cX11_fetch 11 = .ok (.iaload, 1) := by decide +kernel
theorem dX11_fetch_12 : decode cX11_fetch 12 = .ok (.aload_n 0, 1) := by decide +kernel
theorem dX11_fetch_13 : decode cX11_fetch 13 = .ok (.getfield 536, 3) := by decide +kernel
theorem dX11_fetch_16 : decode cX11_fetch 16 = .ok (.invokevirtual 533, 3) := by decide +kernel
theorem dX11_fetch_19 : decode cX11_fetch 19 = .ok (.iaload, 1) := by decide +kernel
theorem dX11_fetch_20 : decode cX11_fetch 20 = .ok (.istore_n 1, 1) := by decide +kernel
theorem dX11_fetch_21 : decode cX11_fetch 21 = .ok (.aload_n 0, 1) := by decide +kernel
theorem dX11_fetch_22 : decode cX11_fetch 22 = .ok (.aload_n 0, 1) := by decide +kernel
theorem dX11_fetch_23 : decode cX11_fetch 23 = .ok (.getfield 536, 3) := by decide +kernel
theorem dX11_fetch_26 : decode cX11_fetch 26 = .ok (.iconst 1, 1) := by decide +kernel
theorem dX11_fetch_27 : decode cX11_fetch 27 = .ok (.iadd, 1) := by decide +kernel
theorem dX11_fetch_28 : decode cX11_fetch 28 = .ok (.ldc_w 300, 3) := by decide +kernel
theorem dX11_fetch_31 : decode cX11_fetch 31 = .ok (.iand, 1) := by decide +kernel
theorem dX11_fetch_32 : decode cX11_fetch 32 = .ok (.putfield 536, 3) := by decide +kernel
theorem dX11_fetch_35 : decode cX11_fetch 35 = .ok (.iload_n 1, 1) := by decide +kernel
theorem dX11_fetch_36 : decode cX11_fetch 36 = .ok (.ireturn, 1) := by decide +kernel
theorem dX11_fetchTwo_0 : decode cX11_fetchTwo 0 = .ok (.aload_n 0, 1) := by decide +kernel
theorem dX11_fetchTwo_1 : decode cX11_fetchTwo 1 = .ok (.invokevirtual 539, 3) := by decide +kernel
theorem dX11_fetchTwo_4 : decode cX11_fetchTwo 4 = .ok (.istore_n 1, 1) := by decide +kernel
theorem dX11_fetchTwo_5 : decode cX11_fetchTwo 5 = .ok (.iload_n 1, 1) := by decide +kernel
theorem dX11_fetchTwo_6 : decode cX11_fetchTwo 6 = .ok (.aload_n 0, 1) := by decide +kernel
theorem dX11_fetchTwo_7 : decode cX11_fetchTwo 7 = .ok (.invokevirtual 539, 3) := by decide +kernel
theorem dX11_fetchTwo_10 : decode cX11_fetchTwo 10 = .ok (.bipush 8, 2) := by decide +kernel
theorem dX11_fetchTwo_12 : decode cX11_fetchTwo 12 = .ok (.ishl, 1) := by decide +kernel
theorem dX11_fetchTwo_13 : decode cX11_fetchTwo 13 = .ok (.ior, 1) := by decide +kernel
theorem dX11_fetchTwo_14 : decode cX11_fetchTwo 14 = .ok (.ireturn, 1) := by decide +kernel
def wpX11_solve_155 (v5 v6 : Int) (σ : ZS) (Q : ZS → Prop) : Prop := (0 ≤ v5 ∧ v5 < 1200) ∧ (-2147483648 ≤ v6 ∧ v6 ≤ 2147483647) ∧ (0 ≤ (v5 + 1) ∧ (v5 + 1) < 1200) ∧ Q (zsA (zsA σ 0 61 v5 (v6 % 256)) 0 61 (v5 + 1) ((v6 / 256) % 256))
def wpX11_solve_132 (v1 v2 v4 v5 v6 : Int) (σ : ZS) (Q : ZS → Prop) : Prop := (0 ≤ v2 ∧ v2 < 600) ∧ (-2147483648 ≤ (zA σ 0 51 v2) ∧ (zA σ 0 51 v2) ≤ 2147483647) ∧ (¬ (zA σ 0 51 v2) = 2 → wpX11_solve_155 v5 v6 σ Q) ∧ ((zA σ 0 51 v2) = 2 → wpX11_aboutOffset v1 v2 σ (fun (x7 : Int) (σ8 : ZS) => wpX11_solve_155 v5 ((x7 - v4) - 2) σ8 Q))
def wpX11_solve_85 (v1 v2 v4 v5 v6 : Int) (σ : ZS) (Q : ZS → Prop) : Prop := (0 ≤ v2 ∧ v2 < 600) ∧ (-2147483648 ≤ (zA σ 0 51 v2) ∧ (zA σ 0 51 v2) ≤ 2147483647) ∧ (¬ (zA σ 0 51 v2) = 1 → wpX11_solve_132 v1 v2 v4 v5 v6 σ Q) ∧ ((zA σ 0 51 v2) = 1 → wpX11_aboutSegment v1 v2 σ (fun (x12 : Int) (σ13 : ZS) => (0 ≤ x12 ∧ x12 < 72) ∧ (0 ≤ (zA σ13 0 70 x12) ∧ (zA σ13 0 70 x12) ≤ 2147483647) ∧ (0 ≤ (zI σ13 0 64) ∧ (zI σ13 0 64) < 600) ∧ wpX11_solve_132 v1 v2 v4 v5 ((zA σ13 0 70 x12) / 16) (zsI (zsA σ13 0 63 (zI σ13 0 64) v5) 0 64 ((zI σ13 0 64) + 1)) Q))
def wpX11_solve (a1 a2 : Int) (σ : ZS) (Q : ZS → Prop) : Prop := (0 ≤ a2 ∧ a2 < 600) ∧ (0 ≤ ((24 * a1) + (zA σ 0 52 a2)) ∧ ((24 * a1) + (zA σ 0 52 a2)) < 72) ∧ (0 ≤ (zA σ 0 71 ((24 * a1) + (zA σ 0 52 a2))) ∧ (zA σ 0 71 ((24 * a1) + (zA σ 0 52 a2))) < 72) ∧ (0 ≤ ((zA σ 0 70 (zA σ 0 71 ((24 * a1) + (zA σ 0 52 a2)))) + ((zA σ 0 72 ((24 * a1) + (zA σ 0 52 a2))) + (zA σ 0 53 a2))) ∧ ((zA σ 0 70 (zA σ 0 71 ((24 * a1) + (zA σ 0 52 a2)))) + ((zA σ 0 72 ((24 * a1) + (zA σ 0 52 a2))) + (zA σ 0 53 a2))) < 1200) ∧ (0 ≤ (((zA σ 0 70 (zA σ 0 71 ((24 * a1) + (zA σ 0 52 a2)))) + ((zA σ 0 72 ((24 * a1) + (zA σ 0 52 a2))) + (zA σ 0 53 a2))) + 1) ∧ (((zA σ 0 70 (zA σ 0 71 ((24 * a1) + (zA σ 0 52 a2)))) + ((zA σ 0 72 ((24 * a1) + (zA σ 0 52 a2))) + (zA σ 0 53 a2))) + 1) < 1200) ∧ (-2147483648 ≤ (zA σ 0 51 a2) ∧ (zA σ 0 51 a2) ≤ 2147483647) ∧ (¬ (zA σ 0 51 a2) = 0 → wpX11_solve_85 a1 a2 ((zA σ 0 72 ((24 * a1) + (zA σ 0 52 a2))) + (zA σ 0 53 a2)) ((zA σ 0 70 (zA σ 0 71 ((24 * a1) + (zA σ 0 52 a2)))) + ((zA σ 0 72 ((24 * a1) + (zA σ 0 52 a2))) + (zA σ 0 53 a2))) (zor (zA σ 0 61 ((zA σ 0 70 (zA σ 0 71 ((24 * a1) + (zA σ 0 52 a2)))) + ((zA σ 0 72 ((24 * a1) + (zA σ 0 52 a2))) + (zA σ 0 53 a2)))) ((zA σ 0 61 (((zA σ 0 70 (zA σ 0 71 ((24 * a1) + (zA σ 0 52 a2)))) + ((zA σ 0 72 ((24 * a1) + (zA σ 0 52 a2))) + (zA σ 0 53 a2))) + 1)) * 256)) σ Q) ∧ ((zA σ 0 51 a2) = 0 → wpX11_aboutOffset a1 a2 σ (fun (x24 : Int) (σ25 : ZS) => wpX11_solve_85 a1 a2 ((zA σ 0 72 ((24 * a1) + (zA σ 0 52 a2))) + (zA σ 0 53 a2)) ((zA σ 0 70 (zA σ 0 71 ((24 * a1) + (zA σ 0 52 a2)))) + ((zA σ 0 72 ((24 * a1) + (zA σ 0 52 a2))) + (zA σ 0 53 a2))) ((zor (zA σ 0 61 ((zA σ 0 70 (zA σ 0 71 ((24 * a1) + (zA σ 0 52 a2)))) + ((zA σ 0 72 ((24 * a1) + (zA σ 0 52 a2))) + (zA σ 0 53 a2)))) ((zA σ 0 61 (((zA σ 0 70 (zA σ 0 71 ((24 * a1) + (zA σ 0 52 a2)))) + ((zA σ 0 72 ((24 * a1) + (zA σ 0 52 a2))) + (zA σ 0 53 a2))) + 1)) * 256)) + x24) σ25 Q))
set_option maxHeartbeats 4000000 in
set_option maxRecDepth 100000 in
theorem kX11_solve (l : Launch) (D : va_G) (dA : Nat → ClassId) (ad : Int → Nat → Nat) (a1 a2 : Int) (σ : ZS) (Q : ZS → Prop) (sz : Nat) (hw : wpX11_solve a1 a2 σ Q) : Met l yX11_solve (gws yX11_solve cX11_solve 7 none) (gR 4 0 0) (gPre D dA [.ref (ad 0 1000), .int (Int32.ofInt a1), .int (Int32.ofInt a2)] (zR dA ad σ) sz) (va_Qv Q (gAt D dA (va_A (zR dA ad σ) sz) (zR dA ad)) (va_A (zR dA ad σ) sz)) 0 0 (va_A (zR dA ad σ) sz) := by
  refine Met.ofW (cc := cX11_solve) (maxL := 7) (ret := none) (by decide) rfl ?_
  intro p e s m args below meth c s₁ B hml hv
  obtain ⟨rfl, hsz, hP, hK, hD0⟩ := hv
  have hx := B.exec
  have hb := B.bytes
  have hr := B.returns
  have hts := atoms_spec (ws := gws yX11_solve cX11_solve 7 none) B.pre
  have hg : ∀ w ∈ gw, w.before _ s = true := fun w h => hts w (List.mem_cons_of_mem _ h)
  have hown : s.vm.findClass RX11 = some m.cls := findClass_of_methodNamed B.named
  have hlocks := B.notSynchronized
  subst hsz
  have hD := hD0.self (sz := s.heap.size)
  generalize hAe : va_A (zR dA ad σ) s.heap.size = A at hD ⊢
  have hA : ∀ q : Nat, s.heap.size ≤ q → A q := fun q h => by rw [← hAe]; exact Or.inr h
  have hS : va_S A s.heap s.heap [] := va_S.rf
  have hl := lv_entry ([.ref (ad 0 1000), .int (Int32.ofInt a1), .int (Int32.ofInt a2)]) (n := 7) (Nat.le_of_ble_eq_true rfl)
  rw [lg_entry_eq]
  generalize (lg_sl ([.ref (ad 0 1000), .int (Int32.ofInt a1), .int (Int32.ofInt a2)]) ++ List.replicate (7 - (lg_sl ([.ref (ad 0 1000), .int (Int32.ofInt a1), .int (Int32.ofInt a2)])).length) Slot.unset).toArray = ls at hl ⊢
  have hl : lv_has ls 7 [(0, .ref (ad 0 1000)), (1, .int (Int32.ofInt a1)), (2, .int (Int32.ofInt a2))] := hl
  have hret : ∀ (σ : ZS) (H : Heap) (locs : List Loc) (ls : Array Slot) (pc : Nat), Q σ → va_P D vwC (zR dA ad σ) H → va_D A (zR dA ad σ) → va_S A s.heap H locs → decode cX11_solve pc = .ok (.return_, 1) → W p l e (gR 4 0 0) s m #[.ref (ad 0 1000), .int (Int32.ofInt a1), .int (Int32.ofInt a2)] below meth c H locs 0 0 (MQ below (va_Qv Q (gAt D dA A (zR dA ad)) A) #[.ref (ad 0 1000), .int (Int32.ofInt a1), .int (Int32.ofInt a2)] s 0 0 A) (F0 m pc ls []) := fun σ H locs ls pc hw hP hD hS hd => g_vret hx hb hr hlocks hK σ hP hD hS hw (Nat.le_of_ble_eq_true rfl) (Nat.le_of_ble_eq_true rfl) hd
  generalize MQ below (va_Qv Q (gAt D dA A (zR dA ad)) A) #[.ref (ad 0 1000), .int (Int32.ofInt a1), .int (Int32.ofInt a2)] s 0 0 A = QQ at hret ⊢
  have j155 : ∀ (v5 v6 : Int) (σ : ZS), ∀ (H : Heap) (locs : List Loc) (ls : Array Slot), va_P D vwC (zR dA ad σ) H → va_D A (zR dA ad σ) → va_S A s.heap H locs → lv_has ls 7 [(0, .ref (ad 0 1000)), (5, .int (Int32.ofInt v5)), (6, .int (Int32.ofInt v6))] → wpX11_solve_155 v5 v6 σ Q → W p l e (gR 4 0 0) s m #[.ref (ad 0 1000), .int (Int32.ofInt a1), .int (Int32.ofInt a2)] below meth c H locs 0 0 QQ (F0 m 155 ls []) := by
    intro v5 v6 σ H locs ls hP hD hS hl hw
    unfold wpX11_solve_155 at hw
    refine lv_aload_n hx hb dX11_solve_155 rfl (lv_at hl 0 rfl) ?_
    refine zgR0_61 hx hb hg hown hK hP q1676 dX11_solve_156 ?_
    refine lv_iload hx hb dX11_solve_159 (lv_at hl 1 rfl) ?_
    refine lv_iload hx hb dX11_solve_161 (lv_at hl 2 rfl) ?_
    refine lv_sipush (v := Int32.ofInt 255) hx hb dX11_solve_163 (by decide) ?_
    refine z_iandK (M := 256) hx hb 8 (by decide) (by decide) (by decide) dX11_solve_166 ?_
    obtain ⟨o1, hw⟩ := hw
    refine zsR0_61 (v := (v6 % 256)) hx hb o1 hK hP hD hS dX11_solve_167 (fun H locs hP hD hS => ?_)
    refine lv_aload_n hx hb dX11_solve_168 rfl (lv_at hl 0 rfl) ?_
    refine zgR0_61 hx hb hg hown hK hP q1676 dX11_solve_169 ?_
    refine lv_iload hx hb dX11_solve_172 (lv_at hl 1 rfl) ?_
    refine lv_iconst (v := Int32.ofInt 1) hx hb dX11_solve_174 (by decide) ?_
    refine z_iadd hx hb dX11_solve_175 ?_
    refine lv_iload hx hb dX11_solve_176 (lv_at hl 2 rfl) ?_
    refine lv_bipush (v := Int32.ofInt 8) hx hb dX11_solve_178 (by decide) ?_
    obtain ⟨o2, hw⟩ := hw
    refine z_ishrK (M := 256) hx hb 8 (by decide) (by decide) (by decide) o2 dX11_solve_180 ?_
    refine lv_sipush (v := Int32.ofInt 255) hx hb dX11_solve_181 (by decide) ?_
    refine z_iandK (M := 256) hx hb 8 (by decide) (by decide) (by decide) dX11_solve_184 ?_
    obtain ⟨o3, hw⟩ := hw
    refine zsR0_61 (v := ((v6 / 256) % 256)) hx hb o3 hK hP hD hS dX11_solve_185 (fun H locs hP hD hS => ?_)
    exact hret (zsA (zsA σ 0 61 v5 (v6 % 256)) 0 61 (v5 + 1) ((v6 / 256) % 256)) _ _ _ _ hw hP hD hS dX11_solve_186
  have j132 : ∀ (v1 v2 v4 v5 v6 : Int) (σ : ZS), ∀ (H : Heap) (locs : List Loc) (ls : Array Slot), va_P D vwC (zR dA ad σ) H → va_D A (zR dA ad σ) → va_S A s.heap H locs → lv_has ls 7 [(0, .ref (ad 0 1000)), (1, .int (Int32.ofInt v1)), (2, .int (Int32.ofInt v2)), (4, .int (Int32.ofInt v4)), (5, .int (Int32.ofInt v5)), (6, .int (Int32.ofInt v6))] → wpX11_solve_132 v1 v2 v4 v5 v6 σ Q → W p l e (gR 4 0 0) s m #[.ref (ad 0 1000), .int (Int32.ofInt a1), .int (Int32.ofInt a2)] below meth c H locs 0 0 QQ (F0 m 132 ls []) := by
    intro v1 v2 v4 v5 v6 σ H locs ls hP hD hS hl hw
    unfold wpX11_solve_132 at hw
    refine lv_aload_n hx hb dX11_solve_132 rfl (lv_at hl 0 rfl) ?_
    refine zgR0_51 hx hb hg hown hK hP q1666 dX11_solve_133 ?_
    refine lv_iload_n hx hb dX11_solve_136 rfl (lv_at hl 2 rfl) ?_
    obtain ⟨o4, hw⟩ := hw
    refine zlR0_51 hx hb o4 hK hP dX11_solve_137 ?_
    refine lv_iconst (v := Int32.ofInt 2) hx hb dX11_solve_138 (by decide) ?_
    obtain ⟨o5, hw⟩ := hw
    refine z_icmp_ne (tgt := 155) hx hb o5 (by decide) dX11_solve_139 (by decide) (fun k6 => ?_) (fun k6 => ?_)
    · replace hw := hw.1 k6
      exact j155 v5 v6 σ _ _ _ hP hD hS (lv_sub hl [0, 4, 5] rfl) hw
    · replace hw := hw.2 k6
      refine lv_aload_n hx hb dX11_solve_142 rfl (lv_at hl 0 rfl) ?_
      refine lv_iload_n hx hb dX11_solve_143 rfl (lv_at hl 1 rfl) ?_
      refine lv_iload_n hx hb dX11_solve_144 rfl (lv_at hl 2 rfl) ?_
      refine z_Vi (n := 2) (As := [.int (Int32.ofInt v1), .int (Int32.ofInt v2)]) (rest := []) hx hb hml hg hown hK hP hD hS hA (kX11_aboutOffset l D dA ad v1 v2 σ _ _ hw) (zoR0) rfl q2110 q160 q2107 q2109 q127 (by decide +kernel) ⟨(Nat.le_of_ble_eq_true rfl), (Nat.le_of_ble_eq_true rfl)⟩ rfl hl.1 rfl (Nat.le_of_ble_eq_true rfl) dX11_solve_145 ⟨(Nat.le_of_ble_eq_true rfl), (Nat.le_of_ble_eq_true rfl)⟩ (fun x7 σ8 H locs hw hP hD hS => ?_)
      refine lv_iload hx hb dX11_solve_148 (lv_at hl 3 rfl) ?_
      refine z_isub hx hb dX11_solve_150 ?_
      refine lv_iconst (v := Int32.ofInt 2) hx hb dX11_solve_151 (by decide) ?_
      refine z_isub hx hb dX11_solve_152 ?_
      refine lv_istore (lv' := [(6, .int (Int32.ofInt ((x7 - v4) - 2))), (0, .ref (ad 0 1000)), (1, .int (Int32.ofInt v1)), (2, .int (Int32.ofInt v2)), (4, .int (Int32.ofInt v4)), (5, .int (Int32.ofInt v5))]) hx hb dX11_solve_153 hl (by decide) rfl (fun ls hl => ?_)
      exact j155 v5 ((x7 - v4) - 2) σ8 _ _ _ hP hD hS (lv_sub hl [1, 5, 0] rfl) hw
  have j85 : ∀ (v1 v2 v4 v5 v6 : Int) (σ : ZS), ∀ (H : Heap) (locs : List Loc) (ls : Array Slot), va_P D vwC (zR dA ad σ) H → va_D A (zR dA ad σ) → va_S A s.heap H locs → lv_has ls 7 [(0, .ref (ad 0 1000)), (1, .int (Int32.ofInt v1)), (2, .int (Int32.ofInt v2)), (4, .int (Int32.ofInt v4)), (5, .int (Int32.ofInt v5)), (6, .int (Int32.ofInt v6))] → wpX11_solve_85 v1 v2 v4 v5 v6 σ Q → W p l e (gR 4 0 0) s m #[.ref (ad 0 1000), .int (Int32.ofInt a1), .int (Int32.ofInt a2)] below meth c H locs 0 0 QQ (F0 m 85 ls []) := by
    intro v1 v2 v4 v5 v6 σ H locs ls hP hD hS hl hw
    unfold wpX11_solve_85 at hw
    refine lv_aload_n hx hb dX11_solve_85 rfl (lv_at hl 0 rfl) ?_
    refine zgR0_51 hx hb hg hown hK hP q1666 dX11_solve_86 ?_
    refine lv_iload_n hx hb dX11_solve_89 rfl (lv_at hl 2 rfl) ?_
    obtain ⟨o9, hw⟩ := hw
    refine zlR0_51 hx hb o9 hK hP dX11_solve_90 ?_
    refine lv_iconst (v := Int32.ofInt 1) hx hb dX11_solve_91 (by decide) ?_
    obtain ⟨o10, hw⟩ := hw
    refine z_icmp_ne (tgt := 132) hx hb o10 (by decide) dX11_solve_92 (by decide) (fun k11 => ?_) (fun k11 => ?_)
    · replace hw := hw.1 k11
      exact j132 v1 v2 v4 v5 v6 σ _ _ _ hP hD hS (lv_sub hl [0, 1, 2, 3, 4, 5] rfl) hw
    · replace hw := hw.2 k11
      refine lv_aload_n hx hb dX11_solve_95 rfl (lv_at hl 0 rfl) ?_
      refine zgR0_70 hx hb hg hown hK hP q1685 dX11_solve_96 ?_
      refine lv_aload_n hx hb dX11_solve_99 rfl (lv_at hl 0 rfl) ?_
      refine lv_iload_n hx hb dX11_solve_100 rfl (lv_at hl 1 rfl) ?_
      refine lv_iload_n hx hb dX11_solve_101 rfl (lv_at hl 2 rfl) ?_
      refine z_Vi (n := 2) (As := [.int (Int32.ofInt v1), .int (Int32.ofInt v2)]) (rest := [.ref (ad 0 70)]) hx hb hml hg hown hK hP hD hS hA (kX11_aboutSegment l D dA ad v1 v2 σ _ _ hw) (zoR0) rfl q2102 q160 q2099 q2101 q125 (by decide +kernel) ⟨(Nat.le_of_ble_eq_true rfl), (Nat.le_of_ble_eq_true rfl)⟩ rfl hl.1 rfl (Nat.le_of_ble_eq_true rfl) dX11_solve_102 ⟨(Nat.le_of_ble_eq_true rfl), (Nat.le_of_ble_eq_true rfl)⟩ (fun x12 σ13 H locs hw hP hD hS => ?_)
      obtain ⟨o14, hw⟩ := hw
      refine zlR0_70 hx hb o14 hK hP dX11_solve_105 ?_
      refine lv_bipush (v := Int32.ofInt 16) hx hb dX11_solve_106 (by decide) ?_
      obtain ⟨o15, hw⟩ := hw
      refine z_idiv hx hb o15 (by decide) dX11_solve_108 ?_
      refine lv_istore (lv' := [(6, .int (Int32.ofInt ((zA σ13 0 70 x12) / 16))), (0, .ref (ad 0 1000)), (1, .int (Int32.ofInt v1)), (2, .int (Int32.ofInt v2)), (4, .int (Int32.ofInt v4)), (5, .int (Int32.ofInt v5))]) hx hb dX11_solve_109 hl (by decide) rfl (fun ls hl => ?_)
      refine lv_aload_n hx hb dX11_solve_111 rfl (lv_at hl 1 rfl) ?_
      refine zgR0_63 hx hb hg hown hK hP q1678 dX11_solve_112 ?_
      refine lv_aload_n hx hb dX11_solve_115 rfl (lv_at hl 1 rfl) ?_
      refine zgR0_64 hx hb hg hown hK hP q1679 dX11_solve_116 ?_
      refine lv_iload hx hb dX11_solve_119 (lv_at hl 5 rfl) ?_
      obtain ⟨o16, hw⟩ := hw
      refine zsR0_63 (v := v5) hx hb o16 hK hP hD hS dX11_solve_121 (fun H locs hP hD hS => ?_)
      refine lv_aload_n hx hb dX11_solve_122 rfl (lv_at hl 1 rfl) ?_
      refine lv_dup hx hb dX11_solve_123 rfl ?_
      refine zgR0_64 hx hb hg hown hK hP q1679 dX11_solve_124 ?_
      refine g_nrm (y := Int32.ofInt (zI σ13 0 64)) rfl ?_
      refine lv_iconst (v := Int32.ofInt 1) hx hb dX11_solve_127 (by decide) ?_
      refine z_iadd hx hb dX11_solve_128 ?_
      refine zpR0_64 (v := ((zI σ13 0 64) + 1)) hx hb hg hown hK hP hD hS q1679 dX11_solve_129 (fun H locs hP hD hS => ?_)
      exact j132 v1 v2 v4 v5 ((zA σ13 0 70 x12) / 16) (zsI (zsA σ13 0 63 (zI σ13 0 64) v5) 0 64 ((zI σ13 0 64) + 1)) _ _ _ hP hD hS (lv_sub hl [1, 2, 3, 4, 5, 0] rfl) hw
  unfold wpX11_solve at hw
  refine lv_bipush (v := Int32.ofInt 24) hx hb dX11_solve_0 (by decide) ?_
  refine lv_iload_n hx hb dX11_solve_2 rfl (lv_at hl 1 rfl) ?_
  refine z_imul hx hb dX11_solve_3 ?_
  refine lv_aload_n hx hb dX11_solve_4 rfl (lv_at hl 0 rfl) ?_
  refine zgR0_52 hx hb hg hown hK hP q1667 dX11_solve_5 ?_
  refine lv_iload_n hx hb dX11_solve_8 rfl (lv_at hl 2 rfl) ?_
  obtain ⟨o17, hw⟩ := hw
  refine zlR0_52 hx hb o17 hK hP dX11_solve_9 ?_
  refine z_iadd hx hb dX11_solve_10 ?_
  refine lv_istore_n (lv' := [(3, .int (Int32.ofInt ((24 * a1) + (zA σ 0 52 a2)))), (0, .ref (ad 0 1000)), (1, .int (Int32.ofInt a1)), (2, .int (Int32.ofInt a2))]) hx hb dX11_solve_11 rfl hl (by decide) rfl (fun ls hl => ?_)
  refine lv_aload_n hx hb dX11_solve_12 rfl (lv_at hl 1 rfl) ?_
  refine zgR0_72 hx hb hg hown hK hP q1687 dX11_solve_13 ?_
  refine lv_iload_n hx hb dX11_solve_16 rfl (lv_at hl 0 rfl) ?_
  obtain ⟨o18, hw⟩ := hw
  refine zlR0_72 hx hb o18 hK hP dX11_solve_17 ?_
  refine lv_aload_n hx hb dX11_solve_18 rfl (lv_at hl 1 rfl) ?_
  refine zgR0_53 hx hb hg hown hK hP q1668 dX11_solve_19 ?_
  refine lv_iload_n hx hb dX11_solve_22 rfl (lv_at hl 3 rfl) ?_
  refine zlR0_53 hx hb o17 hK hP dX11_solve_23 ?_
  refine z_iadd hx hb dX11_solve_24 ?_
  refine lv_istore (lv' := [(4, .int (Int32.ofInt ((zA σ 0 72 ((24 * a1) + (zA σ 0 52 a2))) + (zA σ 0 53 a2)))), (3, .int (Int32.ofInt ((24 * a1) + (zA σ 0 52 a2)))), (0, .ref (ad 0 1000)), (1, .int (Int32.ofInt a1)), (2, .int (Int32.ofInt a2))]) hx hb dX11_solve_25 hl (by decide) rfl (fun ls hl => ?_)
  refine lv_aload_n hx hb dX11_solve_27 rfl (lv_at hl 2 rfl) ?_
  refine zgR0_70 hx hb hg hown hK hP q1685 dX11_solve_28 ?_
  refine lv_aload_n hx hb dX11_solve_31 rfl (lv_at hl 2 rfl) ?_
  refine zgR0_71 hx hb hg hown hK hP q1686 dX11_solve_32 ?_
  refine lv_iload_n hx hb dX11_solve_35 rfl (lv_at hl 1 rfl) ?_
  refine zlR0_71 hx hb o18 hK hP dX11_solve_36 ?_
  obtain ⟨o19, hw⟩ := hw
  refine zlR0_70 hx hb o19 hK hP dX11_solve_37 ?_
  refine lv_iload hx hb dX11_solve_38 (lv_at hl 0 rfl) ?_
  refine z_iadd hx hb dX11_solve_40 ?_
  refine lv_istore (lv' := [(5, .int (Int32.ofInt ((zA σ 0 70 (zA σ 0 71 ((24 * a1) + (zA σ 0 52 a2)))) + ((zA σ 0 72 ((24 * a1) + (zA σ 0 52 a2))) + (zA σ 0 53 a2))))), (4, .int (Int32.ofInt ((zA σ 0 72 ((24 * a1) + (zA σ 0 52 a2))) + (zA σ 0 53 a2)))), (3, .int (Int32.ofInt ((24 * a1) + (zA σ 0 52 a2)))), (0, .ref (ad 0 1000)), (1, .int (Int32.ofInt a1)), (2, .int (Int32.ofInt a2))]) hx hb dX11_solve_41 hl (by decide) rfl (fun ls hl => ?_)
  refine lv_aload_n hx hb dX11_solve_43 rfl (lv_at hl 3 rfl) ?_
  refine zgR0_61 hx hb hg hown hK hP q1676 dX11_solve_44 ?_
  refine lv_iload hx hb dX11_solve_47 (lv_at hl 0 rfl) ?_
  obtain ⟨o20, hw⟩ := hw
  refine zlR0_61 hx hb o20 hK hP dX11_solve_49 ?_
  refine lv_aload_n hx hb dX11_solve_50 rfl (lv_at hl 3 rfl) ?_
  refine zgR0_61 hx hb hg hown hK hP q1676 dX11_solve_51 ?_
  refine lv_iload hx hb dX11_solve_54 (lv_at hl 0 rfl) ?_
  refine lv_iconst (v := Int32.ofInt 1) hx hb dX11_solve_56 (by decide) ?_
  refine z_iadd hx hb dX11_solve_57 ?_
  obtain ⟨o21, hw⟩ := hw
  refine zlR0_61 hx hb o21 hK hP dX11_solve_58 ?_
  refine lv_bipush (v := Int32.ofInt 8) hx hb dX11_solve_59 (by decide) ?_
  refine z_ishlK (M := 256) hx hb 8 (by decide) (by decide) dX11_solve_61 ?_
  refine z_ior hx hb dX11_solve_62 ?_
  refine lv_istore (lv' := [(6, .int (Int32.ofInt (zor (zA σ 0 61 ((zA σ 0 70 (zA σ 0 71 ((24 * a1) + (zA σ 0 52 a2)))) + ((zA σ 0 72 ((24 * a1) + (zA σ 0 52 a2))) + (zA σ 0 53 a2)))) ((zA σ 0 61 (((zA σ 0 70 (zA σ 0 71 ((24 * a1) + (zA σ 0 52 a2)))) + ((zA σ 0 72 ((24 * a1) + (zA σ 0 52 a2))) + (zA σ 0 53 a2))) + 1)) * 256)))), (5, .int (Int32.ofInt ((zA σ 0 70 (zA σ 0 71 ((24 * a1) + (zA σ 0 52 a2)))) + ((zA σ 0 72 ((24 * a1) + (zA σ 0 52 a2))) + (zA σ 0 53 a2))))), (4, .int (Int32.ofInt ((zA σ 0 72 ((24 * a1) + (zA σ 0 52 a2))) + (zA σ 0 53 a2)))), (3, .int (Int32.ofInt ((24 * a1) + (zA σ 0 52 a2)))), (0, .ref (ad 0 1000)), (1, .int (Int32.ofInt a1)), (2, .int (Int32.ofInt a2))]) hx hb dX11_solve_63 hl (by decide) rfl (fun ls hl => ?_)
  refine lv_aload_n hx hb dX11_solve_65 rfl (lv_at hl 4 rfl) ?_
  refine zgR0_51 hx hb hg hown hK hP q1666 dX11_solve_66 ?_
  refine lv_iload_n hx hb dX11_solve_69 rfl (lv_at hl 6 rfl) ?_
  refine zlR0_51 hx hb o17 hK hP dX11_solve_70 ?_
  obtain ⟨o22, hw⟩ := hw
  refine z_if_ne (tgt := 85) hx hb o22 dX11_solve_71 (by decide) (fun k23 => ?_) (fun k23 => ?_)
  · replace hw := hw.1 k23
    exact j85 a1 a2 ((zA σ 0 72 ((24 * a1) + (zA σ 0 52 a2))) + (zA σ 0 53 a2)) ((zA σ 0 70 (zA σ 0 71 ((24 * a1) + (zA σ 0 52 a2)))) + ((zA σ 0 72 ((24 * a1) + (zA σ 0 52 a2))) + (zA σ 0 53 a2))) (zor (zA σ 0 61 ((zA σ 0 70 (zA σ 0 71 ((24 * a1) + (zA σ 0 52 a2)))) + ((zA σ 0 72 ((24 * a1) + (zA σ 0 52 a2))) + (zA σ 0 53 a2)))) ((zA σ 0 61 (((zA σ 0 70 (zA σ 0 71 ((24 * a1) + (zA σ 0 52 a2)))) + ((zA σ 0 72 ((24 * a1) + (zA σ 0 52 a2))) + (zA σ 0 53 a2))) + 1)) * 256)) σ _ _ _ hP hD hS (lv_sub hl [4, 5, 6, 2, 1, 0] rfl) hw
  · replace hw := hw.2 k23
    refine lv_iload hx hb dX11_solve_74 (lv_at hl 0 rfl) ?_
    refine lv_aload_n hx hb dX11_solve_76 rfl (lv_at hl 4 rfl) ?_
    refine lv_iload_n hx hb dX11_solve_77 rfl (lv_at hl 5 rfl) ?_
    refine lv_iload_n hx hb dX11_solve_78 rfl (lv_at hl 6 rfl) ?_
    refine z_Vi (n := 2) (As := [.int (Int32.ofInt a1), .int (Int32.ofInt a2)]) (rest := [.int (Int32.ofInt (zor (zA σ 0 61 ((zA σ 0 70 (zA σ 0 71 ((24 * a1) + (zA σ 0 52 a2)))) + ((zA σ 0 72 ((24 * a1) + (zA σ 0 52 a2))) + (zA σ 0 53 a2)))) ((zA σ 0 61 (((zA σ 0 70 (zA σ 0 71 ((24 * a1) + (zA σ 0 52 a2)))) + ((zA σ 0 72 ((24 * a1) + (zA σ 0 52 a2))) + (zA σ 0 53 a2))) + 1)) * 256)))]) hx hb hml hg hown hK hP hD hS hA (kX11_aboutOffset l D dA ad a1 a2 σ _ _ hw) (zoR0) rfl q2110 q160 q2107 q2109 q127 (by decide +kernel) ⟨(Nat.le_of_ble_eq_true rfl), (Nat.le_of_ble_eq_true rfl)⟩ rfl hl.1 rfl (Nat.le_of_ble_eq_true rfl) dX11_solve_79 ⟨(Nat.le_of_ble_eq_true rfl), (Nat.le_of_ble_eq_true rfl)⟩ (fun x24 σ25 H locs hw hP hD hS => ?_)
    refine z_iadd hx hb dX11_solve_82 ?_
    refine lv_istore (lv' := [(6, .int (Int32.ofInt ((zor (zA σ 0 61 ((zA σ 0 70 (zA σ 0 71 ((24 * a1) + (zA σ 0 52 a2)))) + ((zA σ 0 72 ((24 * a1) + (zA σ 0 52 a2))) + (zA σ 0 53 a2)))) ((zA σ 0 61 (((zA σ 0 70 (zA σ 0 71 ((24 * a1) + (zA σ 0 52 a2)))) + ((zA σ 0 72 ((24 * a1) + (zA σ 0 52 a2))) + (zA σ 0 53 a2))) + 1)) * 256)) + x24))), (5, .int (Int32.ofInt ((zA σ 0 70 (zA σ 0 71 ((24 * a1) + (zA σ 0 52 a2)))) + ((zA σ 0 72 ((24 * a1) + (zA σ 0 52 a2))) + (zA σ 0 53 a2))))), (4, .int (Int32.ofInt ((zA σ 0 72 ((24 * a1) + (zA σ 0 52 a2))) + (zA σ 0 53 a2)))), (3, .int (Int32.ofInt ((24 * a1) + (zA σ 0 52 a2)))), (0, .ref (ad 0 1000)), (1, .int (Int32.ofInt a1)), (2, .int (Int32.ofInt a2))]) hx hb dX11_solve_83 hl (by decide) rfl (fun ls hl => ?_)
    exact j85 a1 a2 ((zA σ 0 72 ((24 * a1) + (zA σ 0 52 a2))) + (zA σ 0 53 a2)) ((zA σ 0 70 (zA σ 0 71 ((24 * a1) + (zA σ 0 52 a2)))) + ((zA σ 0 72 ((24 * a1) + (zA σ 0 52 a2))) + (zA σ 0 53 a2))) ((zor (zA σ 0 61 ((zA σ 0 70 (zA σ 0 71 ((24 * a1) + (zA σ 0 52 a2)))) + ((zA σ 0 72 ((24 * a1) + (zA σ 0 52 a2))) + (zA σ 0 53 a2)))) ((zA σ 0 61 (((zA σ 0 70 (zA σ 0 71 ((24 * a1) + (zA σ 0 52 a2)))) + ((zA σ 0 72 ((24 * a1) + (zA σ 0 52 a2))) + (zA σ 0 53 a2))) + 1)) * 256)) + x24) σ25 _ _ _ hP hD hS (lv_sub hl [4, 5, 6, 2, 1, 0] rfl) hw
def wpX11_link_349 (K302 : Int → ZS → Prop) (v1 v2 v3 : Int) (σ : ZS) (Q : Int → ZS → Prop) : Prop := K302 (v1 + 1) σ
def wpbX11_link_310 (K302 : Int → ZS → Prop) (K310 : Int → ZS → Prop) (v1 v2 v3 v4 : Int) (σ : ZS) (Q : Int → ZS → Prop) : Prop := (0 ≤ v1 ∧ v1 < 3) ∧ (-2147483648 ≤ v4 ∧ v4 ≤ 2147483647) ∧ (-2147483648 ≤ (zA σ 0 50 v1) ∧ (zA σ 0 50 v1) ≤ 2147483647) ∧ ((zA σ 0 50 v1) ≤ v4 → wpX11_link_349 K302 v1 v2 v3 σ Q) ∧ (¬ (zA σ 0 50 v1) ≤ v4 → (-2147483648 ≤ (zA σ 0 43 v1) ∧ (zA σ 0 43 v1) ≤ 2147483647) ∧ ((zA σ 0 43 v1) = 0 → wpX11_link_349 K302 v1 v2 v3 σ Q) ∧ (¬ (zA σ 0 43 v1) = 0 → wpX11_solve v1 ((200 * v1) + v4) σ (fun (σ8 : ZS) => K310 (v4 + 1) σ8)))
def wpX11_link_310 (K302 : Int → ZS → Prop) (v1 v2 v3 v4 : Int) (σ : ZS) (Q : Int → ZS → Prop) : Prop := lfp1 (fun K310 v4 σ => wpbX11_link_310 K302 K310 v1 v2 v3 v4 σ Q) v4 σ
def wpbX11_link_302 (K302 : Int → ZS → Prop) (v2 v3 v1 : Int) (σ : ZS) (Q : Int → ZS → Prop) : Prop := (-2147483648 ≤ v1 ∧ v1 ≤ 2147483647) ∧ (3 ≤ v1 → (0 ≤ v2 ∧ v2 ≤ 2147483647) ∧ (0 ≤ v2 ∧ v2 < 240) ∧ (0 ≤ ((24 * (v2 / 80)) + (zA σ 0 58 v2)) ∧ ((24 * (v2 / 80)) + (zA σ 0 58 v2)) < 72) ∧ (0 ≤ (zA σ 0 71 ((24 * (v2 / 80)) + (zA σ 0 58 v2))) ∧ (zA σ 0 71 ((24 * (v2 / 80)) + (zA σ 0 58 v2))) < 72) ∧ (0 ≤ (zA σ 0 70 (zA σ 0 71 ((24 * (v2 / 80)) + (zA σ 0 58 v2)))) ∧ (zA σ 0 70 (zA σ 0 71 ((24 * (v2 / 80)) + (zA σ 0 58 v2)))) ≤ 2147483647) ∧ Q v3 (zsI (zsI (zsI (zsI σ 0 65 ((zA σ 0 70 (zA σ 0 71 ((24 * (v2 / 80)) + (zA σ 0 58 v2)))) / 16)) 0 66 ((zA σ 0 72 ((24 * (v2 / 80)) + (zA σ 0 58 v2))) + (zA σ 0 59 v2))) 0 3 (-1)) 0 4 (-1))) ∧ (¬ 3 ≤ v1 → wpX11_link_310 K302 v1 v2 v3 0 σ Q)
def wpX11_link_302 (v1 v2 v3 : Int) (σ : ZS) (Q : Int → ZS → Prop) : Prop := lfp1 (fun K302 v1 σ => wpbX11_link_302 K302 v2 v3 v1 σ Q) v1 σ
def wpX11_link_294 (K181 : Int → ZS → Prop) (v1 v2 v3 : Int) (σ : ZS) (Q : Int → ZS → Prop) : Prop := K181 (v1 + 1) σ
def wpbX11_link_221 (K181 : Int → ZS → Prop) (K189 : Int → ZS → Prop) (K221 : Int → ZS → Prop) (v1 v2 v3 v4 v5 v6 : Int) (σ : ZS) (Q : Int → ZS → Prop) : Prop := (0 ≤ v5 ∧ v5 < 72) ∧ (-2147483648 ≤ v6 ∧ v6 ≤ 2147483647) ∧ (-2147483648 ≤ (zA σ 0 48 v5) ∧ (zA σ 0 48 v5) ≤ 2147483647) ∧ ((zA σ 0 48 v5) ≤ v6 → K189 (v4 + 1) σ) ∧ (¬ (zA σ 0 48 v5) ≤ v6 → (0 ≤ (zA σ 0 71 v5) ∧ (zA σ 0 71 v5) < 72) ∧ (0 ≤ (((400 * v1) + (zA σ 0 47 v5)) + v6) ∧ (((400 * v1) + (zA σ 0 47 v5)) + v6) < 1200) ∧ (0 ≤ (((zA σ 0 70 (zA σ 0 71 v5)) + (zA σ 0 72 v5)) + v6) ∧ (((zA σ 0 70 (zA σ 0 71 v5)) + (zA σ 0 72 v5)) + v6) < 1200) ∧ K221 (v6 + 1) (zsA σ 0 61 (((zA σ 0 70 (zA σ 0 71 v5)) + (zA σ 0 72 v5)) + v6) (zA σ 0 49 (((400 * v1) + (zA σ 0 47 v5)) + v6))))
def wpX11_link_221 (K181 : Int → ZS → Prop) (K189 : Int → ZS → Prop) (v1 v2 v3 v4 v5 v6 : Int) (σ : ZS) (Q : Int → ZS → Prop) : Prop := lfp1 (fun K221 v6 σ => wpbX11_link_221 K181 K189 K221 v1 v2 v3 v4 v5 v6 σ Q) v6 σ
def wpbX11_link_189 (K181 : Int → ZS → Prop) (K189 : Int → ZS → Prop) (v1 v2 v3 v4 : Int) (σ : ZS) (Q : Int → ZS → Prop) : Prop := (0 ≤ v1 ∧ v1 < 3) ∧ (-2147483648 ≤ v4 ∧ v4 ≤ 2147483647) ∧ (-2147483648 ≤ (zA σ 0 44 v1) ∧ (zA σ 0 44 v1) ≤ 2147483647) ∧ ((zA σ 0 44 v1) ≤ v4 → wpX11_link_294 K181 v1 v2 v3 σ Q) ∧ (¬ (zA σ 0 44 v1) ≤ v4 → (-2147483648 ≤ (zA σ 0 43 v1) ∧ (zA σ 0 43 v1) ≤ 2147483647) ∧ ((zA σ 0 43 v1) = 0 → wpX11_link_294 K181 v1 v2 v3 σ Q) ∧ (¬ (zA σ 0 43 v1) = 0 → wpX11_link_221 K181 K189 v1 v2 v3 v4 ((24 * v1) + v4) 0 σ Q))
def wpX11_link_189 (K181 : Int → ZS → Prop) (v1 v2 v3 v4 : Int) (σ : ZS) (Q : Int → ZS → Prop) : Prop := lfp1 (fun K189 v4 σ => wpbX11_link_189 K181 K189 v1 v2 v3 v4 σ Q) v4 σ
def wpbX11_link_181 (K181 : Int → ZS → Prop) (v2 v3 v1 : Int) (σ : ZS) (Q : Int → ZS → Prop) : Prop := (-2147483648 ≤ v1 ∧ v1 ≤ 2147483647) ∧ (3 ≤ v1 → wpX11_link_302 0 v2 v3 σ Q) ∧ (¬ 3 ≤ v1 → wpX11_link_189 K181 v1 v2 v3 0 σ Q)
def wpX11_link_181 (v1 v2 v3 : Int) (σ : ZS) (Q : Int → ZS → Prop) : Prop := lfp1 (fun K181 v1 σ => wpbX11_link_181 K181 v2 v3 v1 σ Q) v1 σ
def wpbX11_link_142 (K142 : Int → ZS → Prop) (v2 v3 v4 : Int) (σ : ZS) (Q : Int → ZS → Prop) : Prop := (-2147483648 ≤ v4 ∧ v4 ≤ 2147483647) ∧ (1200 ≤ v4 → wpX11_link_181 0 v2 v3 (zsI (zsI (zsI σ 0 62 v3) 0 60 1) 0 64 0) Q) ∧ (¬ 1200 ≤ v4 → (0 ≤ v4 ∧ v4 < 1200) ∧ K142 (v4 + 1) (zsA σ 0 61 v4 0))
def wpX11_link_142 (v2 v3 v4 : Int) (σ : ZS) (Q : Int → ZS → Prop) : Prop := lfp1 (fun K142 v4 σ => wpbX11_link_142 K142 v2 v3 v4 σ Q) v4 σ
def wpX11_link_38 (σ : ZS) (Q : Int → ZS → Prop) : Prop := wpX11_twice σ (fun (x34 : Int) (σ35 : ZS) => (-2147483648 ≤ x34 ∧ x34 ≤ 2147483647) ∧ (x34 < 0 → wpX11_missing σ35 (fun (x38 : Int) (σ39 : ZS) => (-2147483648 ≤ x38 ∧ x38 ≤ 2147483647) ∧ (x38 < 0 → wpX11_publicOf 1835100526 σ39 (fun (x42 : Int) (σ43 : ZS) => (-2147483648 ≤ x42 ∧ x42 ≤ 2147483647) ∧ (0 ≤ x42 → wpX11_combine σ43 (fun (σ47 : ZS) => (-2147483648 ≤ (zA σ47 0 67 0) ∧ (zA σ47 0 67 0) ≤ 2147483647) ∧ ((zA σ47 0 67 0) ≤ 1200 → wpX11_far σ47 (fun (x50 : Int) (σ51 : ZS) => (-2147483648 ≤ x50 ∧ x50 ≤ 2147483647) ∧ (x50 < 0 → wpX11_link_142 x42 (zA σ47 0 67 0) 0 σ51 Q) ∧ (¬ x50 < 0 → wpX11_tell 7 x50 5 σ51 (fun (x54 : Int) (σ55 : ZS) => Q x54 σ55)))) ∧ (¬ (zA σ47 0 67 0) ≤ 1200 → wpX11_tell 9 (-1) 4 σ47 (fun (x56 : Int) (σ57 : ZS) => Q x56 σ57)))) ∧ (¬ 0 ≤ x42 → wpX11_tell 8 (-1) 3 σ43 (fun (x58 : Int) (σ59 : ZS) => Q x58 σ59)))) ∧ (¬ x38 < 0 → wpX11_tell 6 x38 3 σ39 (fun (x60 : Int) (σ61 : ZS) => Q x60 σ61)))) ∧ (¬ x34 < 0 → wpX11_tell 5 x34 2 σ35 (fun (x62 : Int) (σ63 : ZS) => Q x62 σ63)))
def wpX11_link (σ : ZS) (Q : Int → ZS → Prop) : Prop := (-2147483648 ≤ (zA σ 0 43 0) ∧ (zA σ 0 43 0) ≤ 2147483647) ∧ (¬ (zA σ 0 43 0) = 0 → wpX11_link_38 (zsI σ 0 0 0) Q) ∧ ((zA σ 0 43 0) = 0 → (-2147483648 ≤ (zA σ 0 43 1) ∧ (zA σ 0 43 1) ≤ 2147483647) ∧ (¬ (zA σ 0 43 1) = 0 → wpX11_link_38 (zsI σ 0 0 0) Q) ∧ ((zA σ 0 43 1) = 0 → (-2147483648 ≤ (zA σ 0 43 2) ∧ (zA σ 0 43 2) ≤ 2147483647) ∧ (¬ (zA σ 0 43 2) = 0 → wpX11_link_38 (zsI σ 0 0 0) Q) ∧ ((zA σ 0 43 2) = 0 → wpX11_raise 1 (zsI σ 0 0 0) (fun (x70 : Int) (σ71 : ZS) => Q x70 σ71))))
set_option maxHeartbeats 4000000 in
set_option maxRecDepth 100000 in
theorem kX11_link (l : Launch) (D : va_G) (dA : Nat → ClassId) (ad : Int → Nat → Nat) (σ : ZS) (Q : Int → ZS → Prop) (sz : Nat) (hw : wpX11_link σ Q) : Met l yX11_link (gws yX11_link cX11_link 7 (some .int)) (gR 5 0 0) (gPre D dA [.ref (ad 0 1000)] (zR dA ad σ) sz) (va_Qi (zQi Q) (gAt D dA (va_A (zR dA ad σ) sz) (zR dA ad)) (va_A (zR dA ad σ) sz)) 0 0 (va_A (zR dA ad σ) sz) := by
  refine Met.ofW (cc := cX11_link) (maxL := 7) (ret := (some .int)) (by decide) rfl ?_
  intro p e s m args below meth c s₁ B hml hv
  obtain ⟨rfl, hsz, hP, hK, hD0⟩ := hv
  have hx := B.exec
  have hb := B.bytes
  have hr := B.returns
  have hts := atoms_spec (ws := gws yX11_link cX11_link 7 (some .int)) B.pre
  have hg : ∀ w ∈ gw, w.before _ s = true := fun w h => hts w (List.mem_cons_of_mem _ h)
  have hown : s.vm.findClass RX11 = some m.cls := findClass_of_methodNamed B.named
  have hlocks := B.notSynchronized
  subst hsz
  have hD := hD0.self (sz := s.heap.size)
  generalize hAe : va_A (zR dA ad σ) s.heap.size = A at hD ⊢
  have hA : ∀ q : Nat, s.heap.size ≤ q → A q := fun q h => by rw [← hAe]; exact Or.inr h
  have hS : va_S A s.heap s.heap [] := va_S.rf
  have hl := lv_entry ([.ref (ad 0 1000)]) (n := 7) (Nat.le_of_ble_eq_true rfl)
  rw [lg_entry_eq]
  generalize (lg_sl ([.ref (ad 0 1000)]) ++ List.replicate (7 - (lg_sl ([.ref (ad 0 1000)])).length) Slot.unset).toArray = ls at hl ⊢
  have hl : lv_has ls 7 [(0, .ref (ad 0 1000))] := hl
  have hret : ∀ (v : Int) (σ : ZS) (H : Heap) (locs : List Loc) (ls : Array Slot) (pc : Nat), Q v σ → va_P D vwC (zR dA ad σ) H → va_D A (zR dA ad σ) → va_S A s.heap H locs → decode cX11_link pc = .ok (.ireturn, 1) → W p l e (gR 5 0 0) s m #[.ref (ad 0 1000)] below meth c H locs 0 0 (MQ below (va_Qi (zQi Q) (gAt D dA A (zR dA ad)) A) #[.ref (ad 0 1000)] s 0 0 A) (F0 m pc ls [.int (Int32.ofInt v)]) := fun v σ H locs ls pc hw hP hD hS hd => g_iret hx hb hr rfl hlocks hK σ hP hD hS ⟨v, rfl, hw⟩ (Nat.le_of_ble_eq_true rfl) (Nat.le_of_ble_eq_true rfl) hd
  generalize MQ below (va_Qi (zQi Q) (gAt D dA A (zR dA ad)) A) #[.ref (ad 0 1000)] s 0 0 A = QQ at hret ⊢
  have b302 : ∀ (v2 v3 : Int) (K302 : Int → ZS → Prop), (∀ (v1 : Int) (σ : ZS), K302 v1 σ → ∀ (H : Heap) (locs : List Loc) (ls : Array Slot), va_P D vwC (zR dA ad σ) H → va_D A (zR dA ad σ) → va_S A s.heap H locs → lv_has ls 7 [(0, .ref (ad 0 1000)), (1, .int (Int32.ofInt v1)), (2, .int (Int32.ofInt v2)), (3, .int (Int32.ofInt v3))] → W p l e (gR 5 0 0) s m #[.ref (ad 0 1000)] below meth c H locs 0 0 QQ (F0 m 302 ls [])) → ∀ (v1 : Int) (σ : ZS), wpbX11_link_302 K302 v2 v3 v1 σ Q → ∀ (H : Heap) (locs : List Loc) (ls : Array Slot), va_P D vwC (zR dA ad σ) H → va_D A (zR dA ad σ) → va_S A s.heap H locs → lv_has ls 7 [(0, .ref (ad 0 1000)), (1, .int (Int32.ofInt v1)), (2, .int (Int32.ofInt v2)), (3, .int (Int32.ofInt v3))] → W p l e (gR 5 0 0) s m #[.ref (ad 0 1000)] below meth c H locs 0 0 QQ (F0 m 302 ls []) := by
    intro v2 v3 K302 hK302
    have j349 : ∀ (v1 : Int) (σ : ZS), ∀ (H : Heap) (locs : List Loc) (ls : Array Slot), va_P D vwC (zR dA ad σ) H → va_D A (zR dA ad σ) → va_S A s.heap H locs → lv_has ls 7 [(0, .ref (ad 0 1000)), (1, .int (Int32.ofInt v1)), (2, .int (Int32.ofInt v2)), (3, .int (Int32.ofInt v3))] → wpX11_link_349 K302 v1 v2 v3 σ Q → W p l e (gR 5 0 0) s m #[.ref (ad 0 1000)] below meth c H locs 0 0 QQ (F0 m 349 ls []) := by
      intro v1 σ H locs ls hP hD hS hl hw
      unfold wpX11_link_349 at hw
      refine lv_iinc (v := Int32.ofInt (v1 + 1)) (lv' := [(1, .int (Int32.ofInt (v1 + 1))), (0, .ref (ad 0 1000)), (2, .int (Int32.ofInt v2)), (3, .int (Int32.ofInt v3))]) hx hb dX11_link_349 hl (k := 1) rfl (Int32.ofInt_add _ _).symm (by decide) rfl (fun ls hl => ?_)
      refine lv_goto (tgt := 302) hx hb dX11_link_352 (by decide) ?_
      exact hK302 (v1 + 1) σ hw _ _ _ hP hD hS (lv_sub hl [1, 0, 2, 3] rfl)
    have b310 : ∀ (v1 : Int) (K310 : Int → ZS → Prop), (∀ (v4 : Int) (σ : ZS), K310 v4 σ → ∀ (H : Heap) (locs : List Loc) (ls : Array Slot), va_P D vwC (zR dA ad σ) H → va_D A (zR dA ad σ) → va_S A s.heap H locs → lv_has ls 7 [(0, .ref (ad 0 1000)), (1, .int (Int32.ofInt v1)), (2, .int (Int32.ofInt v2)), (3, .int (Int32.ofInt v3)), (4, .int (Int32.ofInt v4))] → W p l e (gR 5 0 0) s m #[.ref (ad 0 1000)] below meth c H locs 0 0 QQ (F0 m 310 ls [])) → ∀ (v4 : Int) (σ : ZS), wpbX11_link_310 K302 K310 v1 v2 v3 v4 σ Q → ∀ (H : Heap) (locs : List Loc) (ls : Array Slot), va_P D vwC (zR dA ad σ) H → va_D A (zR dA ad σ) → va_S A s.heap H locs → lv_has ls 7 [(0, .ref (ad 0 1000)), (1, .int (Int32.ofInt v1)), (2, .int (Int32.ofInt v2)), (3, .int (Int32.ofInt v3)), (4, .int (Int32.ofInt v4))] → W p l e (gR 5 0 0) s m #[.ref (ad 0 1000)] below meth c H locs 0 0 QQ (F0 m 310 ls []) := by
      intro v1 K310 hK310
      intro v4 σ hw H locs ls hP hD hS hl
      unfold wpbX11_link_310 at hw
      refine lv_iload hx hb dX11_link_310 (lv_at hl 4 rfl) ?_
      refine lv_aload_n hx hb dX11_link_312 rfl (lv_at hl 0 rfl) ?_
      refine zgR0_50 hx hb hg hown hK hP q1665 dX11_link_313 ?_
      refine lv_iload_n hx hb dX11_link_316 rfl (lv_at hl 1 rfl) ?_
      obtain ⟨o1, hw⟩ := hw
      refine zlR0_50 hx hb o1 hK hP dX11_link_317 ?_
      obtain ⟨o2, hw⟩ := hw
      obtain ⟨o3, hw⟩ := hw
      refine z_icmp_ge (tgt := 349) hx hb o2 o3 dX11_link_318 (by decide) (fun k4 => ?_) (fun k4 => ?_)
      · replace hw := hw.1 k4
        exact j349 v1 σ _ _ _ hP hD hS (lv_sub hl [0, 1, 2, 3] rfl) hw
      · replace hw := hw.2 k4
        refine lv_aload_n hx hb dX11_link_321 rfl (lv_at hl 0 rfl) ?_
        refine zgR0_43 hx hb hg hown hK hP q1658 dX11_link_322 ?_
        refine lv_iload_n hx hb dX11_link_325 rfl (lv_at hl 1 rfl) ?_
        refine zlR0_43 hx hb o1 hK hP dX11_link_326 ?_
        obtain ⟨o5, hw⟩ := hw
        refine z_if_eq (tgt := 349) hx hb o5 dX11_link_327 (by decide) (fun k6 => ?_) (fun k6 => ?_)
        · replace hw := hw.1 k6
          exact j349 v1 σ _ _ _ hP hD hS (lv_sub hl [0, 1, 2, 3] rfl) hw
        · replace hw := hw.2 k6
          refine lv_aload_n hx hb dX11_link_330 rfl (lv_at hl 0 rfl) ?_
          refine lv_iload_n hx hb dX11_link_331 rfl (lv_at hl 1 rfl) ?_
          refine lv_sipush (v := Int32.ofInt 200) hx hb dX11_link_332 (by decide) ?_
          refine lv_iload_n hx hb dX11_link_335 rfl (lv_at hl 1 rfl) ?_
          refine z_imul hx hb dX11_link_336 ?_
          refine lv_iload hx hb dX11_link_337 (lv_at hl 4 rfl) ?_
          refine z_iadd hx hb dX11_link_339 ?_
          refine z_Vv (n := 2) (As := [.int (Int32.ofInt v1), .int (Int32.ofInt ((200 * v1) + v4))]) (rest := []) hx hb hml hg hown hK hP hD hS hA (kX11_solve l D dA ad v1 ((200 * v1) + v4) σ _ _ hw) (zoR0) rfl q2106 q160 q2103 q2105 q126 (by decide +kernel) ⟨(Nat.le_of_ble_eq_true rfl), (Nat.le_of_ble_eq_true rfl)⟩ rfl hl.1 rfl (Nat.le_of_ble_eq_true rfl) dX11_link_340 ⟨(Nat.le_of_ble_eq_true rfl), (Nat.le_of_ble_eq_true rfl)⟩ (fun σ8 H locs hw hP hD hS => ?_)
          refine lv_iinc (v := Int32.ofInt (v4 + 1)) (lv' := [(4, .int (Int32.ofInt (v4 + 1))), (0, .ref (ad 0 1000)), (1, .int (Int32.ofInt v1)), (2, .int (Int32.ofInt v2)), (3, .int (Int32.ofInt v3))]) hx hb dX11_link_343 hl (k := 4) rfl (Int32.ofInt_add _ _).symm (by decide) rfl (fun ls hl => ?_)
          refine lv_goto (tgt := 310) hx hb dX11_link_346 (by decide) ?_
          exact hK310 (v4 + 1) σ8 hw _ _ _ hP hD hS (lv_sub hl [1, 2, 3, 4, 0] rfl)
    have j310 : ∀ (v1 v4 : Int) (σ : ZS), ∀ (H : Heap) (locs : List Loc) (ls : Array Slot), va_P D vwC (zR dA ad σ) H → va_D A (zR dA ad σ) → va_S A s.heap H locs → lv_has ls 7 [(0, .ref (ad 0 1000)), (1, .int (Int32.ofInt v1)), (2, .int (Int32.ofInt v2)), (3, .int (Int32.ofInt v3)), (4, .int (Int32.ofInt v4))] → wpX11_link_310 K302 v1 v2 v3 v4 σ Q → W p l e (gR 5 0 0) s m #[.ref (ad 0 1000)] below meth c H locs 0 0 QQ (F0 m 310 ls []) := by
      intro v1 v4 σ H locs ls hP hD hS hl hw
      exact hw (fun v4 σ => ∀ (H : Heap) (locs : List Loc) (ls : Array Slot), va_P D vwC (zR dA ad σ) H → va_D A (zR dA ad σ) → va_S A s.heap H locs → lv_has ls 7 [(0, .ref (ad 0 1000)), (1, .int (Int32.ofInt v1)), (2, .int (Int32.ofInt v2)), (3, .int (Int32.ofInt v3)), (4, .int (Int32.ofInt v4))] → W p l e (gR 5 0 0) s m #[.ref (ad 0 1000)] below meth c H locs 0 0 QQ (F0 m 310 ls [])) (b310 v1 (fun v4 σ => ∀ (H : Heap) (locs : List Loc) (ls : Array Slot), va_P D vwC (zR dA ad σ) H → va_D A (zR dA ad σ) → va_S A s.heap H locs → lv_has ls 7 [(0, .ref (ad 0 1000)), (1, .int (Int32.ofInt v1)), (2, .int (Int32.ofInt v2)), (3, .int (Int32.ofInt v3)), (4, .int (Int32.ofInt v4))] → W p l e (gR 5 0 0) s m #[.ref (ad 0 1000)] below meth c H locs 0 0 QQ (F0 m 310 ls [])) (fun v4 σ h => h)) _ _ _ hP hD hS hl
    intro v1 σ hw H locs ls hP hD hS hl
    unfold wpbX11_link_302 at hw
    refine lv_iload_n hx hb dX11_link_302 rfl (lv_at hl 1 rfl) ?_
    refine lv_iconst (v := Int32.ofInt 3) hx hb dX11_link_303 (by decide) ?_
    obtain ⟨o9, hw⟩ := hw
    refine z_icmp_ge (tgt := 355) hx hb o9 (by decide) dX11_link_304 (by decide) (fun k10 => ?_) (fun k10 => ?_)
    · replace hw := hw.1 k10
      refine lv_bipush (v := Int32.ofInt 24) hx hb dX11_link_355 (by decide) ?_
      refine lv_iload_n hx hb dX11_link_357 rfl (lv_at hl 2 rfl) ?_
      refine lv_bipush (v := Int32.ofInt 80) hx hb dX11_link_358 (by decide) ?_
      obtain ⟨o11, hw⟩ := hw
      refine z_idiv hx hb o11 (by decide) dX11_link_360 ?_
      refine z_imul hx hb dX11_link_361 ?_
      refine lv_aload_n hx hb dX11_link_362 rfl (lv_at hl 0 rfl) ?_
      refine zgR0_58 hx hb hg hown hK hP q1673 dX11_link_363 ?_
      refine lv_iload_n hx hb dX11_link_366 rfl (lv_at hl 2 rfl) ?_
      obtain ⟨o12, hw⟩ := hw
      refine zlR0_58 hx hb o12 hK hP dX11_link_367 ?_
      refine z_iadd hx hb dX11_link_368 ?_
      refine lv_istore (lv' := [(4, .int (Int32.ofInt ((24 * (v2 / 80)) + (zA σ 0 58 v2)))), (0, .ref (ad 0 1000)), (1, .int (Int32.ofInt v1)), (2, .int (Int32.ofInt v2)), (3, .int (Int32.ofInt v3))]) hx hb dX11_link_369 hl (by decide) rfl (fun ls hl => ?_)
      refine lv_aload_n hx hb dX11_link_371 rfl (lv_at hl 1 rfl) ?_
      refine lv_aload_n hx hb dX11_link_372 rfl (lv_at hl 1 rfl) ?_
      refine zgR0_70 hx hb hg hown hK hP q1685 dX11_link_373 ?_
      refine lv_aload_n hx hb dX11_link_376 rfl (lv_at hl 1 rfl) ?_
      refine zgR0_71 hx hb hg hown hK hP q1686 dX11_link_377 ?_
      refine lv_iload hx hb dX11_link_380 (lv_at hl 0 rfl) ?_
      obtain ⟨o13, hw⟩ := hw
      refine zlR0_71 hx hb o13 hK hP dX11_link_382 ?_
      obtain ⟨o14, hw⟩ := hw
      refine zlR0_70 hx hb o14 hK hP dX11_link_383 ?_
      refine lv_bipush (v := Int32.ofInt 16) hx hb dX11_link_384 (by decide) ?_
      obtain ⟨o15, hw⟩ := hw
      refine z_idiv hx hb o15 (by decide) dX11_link_386 ?_
      refine zpR0_65 (v := ((zA σ 0 70 (zA σ 0 71 ((24 * (v2 / 80)) + (zA σ 0 58 v2)))) / 16)) hx hb hg hown hK hP hD hS q1680 dX11_link_387 (fun H locs hP hD hS => ?_)
      refine lv_aload_n hx hb dX11_link_390 rfl (lv_at hl 1 rfl) ?_
      refine lv_aload_n hx hb dX11_link_391 rfl (lv_at hl 1 rfl) ?_
      refine zgR0_72 hx hb hg hown hK hP q1687 dX11_link_392 ?_
      refine lv_iload hx hb dX11_link_395 (lv_at hl 0 rfl) ?_
      refine zlR0_72 hx hb o13 hK hP dX11_link_397 ?_
      refine g_nrm (y := Int32.ofInt (zA σ 0 72 ((24 * (v2 / 80)) + (zA σ 0 58 v2)))) rfl ?_
      refine lv_aload_n hx hb dX11_link_398 rfl (lv_at hl 1 rfl) ?_
      refine zgR0_59 hx hb hg hown hK hP q1674 dX11_link_399 ?_
      refine lv_iload_n hx hb dX11_link_402 rfl (lv_at hl 3 rfl) ?_
      refine zlR0_59 hx hb o12 hK hP dX11_link_403 ?_
      refine g_nrm (y := Int32.ofInt (zA σ 0 59 v2)) rfl ?_
      refine z_iadd hx hb dX11_link_404 ?_
      refine zpR0_66 (v := ((zA σ 0 72 ((24 * (v2 / 80)) + (zA σ 0 58 v2))) + (zA σ 0 59 v2))) hx hb hg hown hK hP hD hS q1681 dX11_link_405 (fun H locs hP hD hS => ?_)
      refine lv_aload_n hx hb dX11_link_408 rfl (lv_at hl 1 rfl) ?_
      refine lv_iconst (v := Int32.ofInt (-1)) hx hb dX11_link_409 (by decide) ?_
      refine zpR0_3 (v := (-1)) hx hb hg hown hK hP hD hS q1618 dX11_link_410 (fun H locs hP hD hS => ?_)
      refine lv_aload_n hx hb dX11_link_413 rfl (lv_at hl 1 rfl) ?_
      refine lv_iconst (v := Int32.ofInt (-1)) hx hb dX11_link_414 (by decide) ?_
      refine zpR0_4 (v := (-1)) hx hb hg hown hK hP hD hS q1619 dX11_link_415 (fun H locs hP hD hS => ?_)
      refine lv_iload_n hx hb dX11_link_418 rfl (lv_at hl 4 rfl) ?_
      exact hret v3 (zsI (zsI (zsI (zsI σ 0 65 ((zA σ 0 70 (zA σ 0 71 ((24 * (v2 / 80)) + (zA σ 0 58 v2)))) / 16)) 0 66 ((zA σ 0 72 ((24 * (v2 / 80)) + (zA σ 0 58 v2))) + (zA σ 0 59 v2))) 0 3 (-1)) 0 4 (-1)) _ _ _ _ hw hP hD hS dX11_link_419
    · replace hw := hw.2 k10
      refine lv_iconst (v := Int32.ofInt 0) hx hb dX11_link_307 (by decide) ?_
      refine lv_istore (lv' := [(4, .int (Int32.ofInt 0)), (0, .ref (ad 0 1000)), (1, .int (Int32.ofInt v1)), (2, .int (Int32.ofInt v2)), (3, .int (Int32.ofInt v3))]) hx hb dX11_link_308 hl (by decide) rfl (fun ls hl => ?_)
      exact j310 v1 0 σ _ _ _ hP hD hS (lv_sub hl [1, 2, 3, 4, 0] rfl) hw
  have j302 : ∀ (v1 v2 v3 : Int) (σ : ZS), ∀ (H : Heap) (locs : List Loc) (ls : Array Slot), va_P D vwC (zR dA ad σ) H → va_D A (zR dA ad σ) → va_S A s.heap H locs → lv_has ls 7 [(0, .ref (ad 0 1000)), (1, .int (Int32.ofInt v1)), (2, .int (Int32.ofInt v2)), (3, .int (Int32.ofInt v3))] → wpX11_link_302 v1 v2 v3 σ Q → W p l e (gR 5 0 0) s m #[.ref (ad 0 1000)] below meth c H locs 0 0 QQ (F0 m 302 ls []) := by
    intro v1 v2 v3 σ H locs ls hP hD hS hl hw
    exact hw (fun v1 σ => ∀ (H : Heap) (locs : List Loc) (ls : Array Slot), va_P D vwC (zR dA ad σ) H → va_D A (zR dA ad σ) → va_S A s.heap H locs → lv_has ls 7 [(0, .ref (ad 0 1000)), (1, .int (Int32.ofInt v1)), (2, .int (Int32.ofInt v2)), (3, .int (Int32.ofInt v3))] → W p l e (gR 5 0 0) s m #[.ref (ad 0 1000)] below meth c H locs 0 0 QQ (F0 m 302 ls [])) (b302 v2 v3 (fun v1 σ => ∀ (H : Heap) (locs : List Loc) (ls : Array Slot), va_P D vwC (zR dA ad σ) H → va_D A (zR dA ad σ) → va_S A s.heap H locs → lv_has ls 7 [(0, .ref (ad 0 1000)), (1, .int (Int32.ofInt v1)), (2, .int (Int32.ofInt v2)), (3, .int (Int32.ofInt v3))] → W p l e (gR 5 0 0) s m #[.ref (ad 0 1000)] below meth c H locs 0 0 QQ (F0 m 302 ls [])) (fun v1 σ h => h)) _ _ _ hP hD hS hl
  have b181 : ∀ (v2 v3 : Int) (K181 : Int → ZS → Prop), (∀ (v1 : Int) (σ : ZS), K181 v1 σ → ∀ (H : Heap) (locs : List Loc) (ls : Array Slot), va_P D vwC (zR dA ad σ) H → va_D A (zR dA ad σ) → va_S A s.heap H locs → lv_has ls 7 [(0, .ref (ad 0 1000)), (1, .int (Int32.ofInt v1)), (2, .int (Int32.ofInt v2)), (3, .int (Int32.ofInt v3))] → W p l e (gR 5 0 0) s m #[.ref (ad 0 1000)] below meth c H locs 0 0 QQ (F0 m 181 ls [])) → ∀ (v1 : Int) (σ : ZS), wpbX11_link_181 K181 v2 v3 v1 σ Q → ∀ (H : Heap) (locs : List Loc) (ls : Array Slot), va_P D vwC (zR dA ad σ) H → va_D A (zR dA ad σ) → va_S A s.heap H locs → lv_has ls 7 [(0, .ref (ad 0 1000)), (1, .int (Int32.ofInt v1)), (2, .int (Int32.ofInt v2)), (3, .int (Int32.ofInt v3))] → W p l e (gR 5 0 0) s m #[.ref (ad 0 1000)] below meth c H locs 0 0 QQ (F0 m 181 ls []) := by
    intro v2 v3 K181 hK181
    have j294 : ∀ (v1 : Int) (σ : ZS), ∀ (H : Heap) (locs : List Loc) (ls : Array Slot), va_P D vwC (zR dA ad σ) H → va_D A (zR dA ad σ) → va_S A s.heap H locs → lv_has ls 7 [(0, .ref (ad 0 1000)), (1, .int (Int32.ofInt v1)), (2, .int (Int32.ofInt v2)), (3, .int (Int32.ofInt v3))] → wpX11_link_294 K181 v1 v2 v3 σ Q → W p l e (gR 5 0 0) s m #[.ref (ad 0 1000)] below meth c H locs 0 0 QQ (F0 m 294 ls []) := by
      intro v1 σ H locs ls hP hD hS hl hw
      unfold wpX11_link_294 at hw
      refine lv_iinc (v := Int32.ofInt (v1 + 1)) (lv' := [(1, .int (Int32.ofInt (v1 + 1))), (0, .ref (ad 0 1000)), (2, .int (Int32.ofInt v2)), (3, .int (Int32.ofInt v3))]) hx hb dX11_link_294 hl (k := 1) rfl (Int32.ofInt_add _ _).symm (by decide) rfl (fun ls hl => ?_)
      refine lv_goto (tgt := 181) hx hb dX11_link_297 (by decide) ?_
      exact hK181 (v1 + 1) σ hw _ _ _ hP hD hS (lv_sub hl [1, 0, 2, 3] rfl)
    have b189 : ∀ (v1 : Int) (K189 : Int → ZS → Prop), (∀ (v4 : Int) (σ : ZS), K189 v4 σ → ∀ (H : Heap) (locs : List Loc) (ls : Array Slot), va_P D vwC (zR dA ad σ) H → va_D A (zR dA ad σ) → va_S A s.heap H locs → lv_has ls 7 [(0, .ref (ad 0 1000)), (1, .int (Int32.ofInt v1)), (2, .int (Int32.ofInt v2)), (3, .int (Int32.ofInt v3)), (4, .int (Int32.ofInt v4))] → W p l e (gR 5 0 0) s m #[.ref (ad 0 1000)] below meth c H locs 0 0 QQ (F0 m 189 ls [])) → ∀ (v4 : Int) (σ : ZS), wpbX11_link_189 K181 K189 v1 v2 v3 v4 σ Q → ∀ (H : Heap) (locs : List Loc) (ls : Array Slot), va_P D vwC (zR dA ad σ) H → va_D A (zR dA ad σ) → va_S A s.heap H locs → lv_has ls 7 [(0, .ref (ad 0 1000)), (1, .int (Int32.ofInt v1)), (2, .int (Int32.ofInt v2)), (3, .int (Int32.ofInt v3)), (4, .int (Int32.ofInt v4))] → W p l e (gR 5 0 0) s m #[.ref (ad 0 1000)] below meth c H locs 0 0 QQ (F0 m 189 ls []) := by
      intro v1 K189 hK189
      have b221 : ∀ (v4 v5 : Int) (K221 : Int → ZS → Prop), (∀ (v6 : Int) (σ : ZS), K221 v6 σ → ∀ (H : Heap) (locs : List Loc) (ls : Array Slot), va_P D vwC (zR dA ad σ) H → va_D A (zR dA ad σ) → va_S A s.heap H locs → lv_has ls 7 [(0, .ref (ad 0 1000)), (1, .int (Int32.ofInt v1)), (2, .int (Int32.ofInt v2)), (3, .int (Int32.ofInt v3)), (4, .int (Int32.ofInt v4)), (5, .int (Int32.ofInt v5)), (6, .int (Int32.ofInt v6))] → W p l e (gR 5 0 0) s m #[.ref (ad 0 1000)] below meth c H locs 0 0 QQ (F0 m 221 ls [])) → ∀ (v6 : Int) (σ : ZS), wpbX11_link_221 K181 K189 K221 v1 v2 v3 v4 v5 v6 σ Q → ∀ (H : Heap) (locs : List Loc) (ls : Array Slot), va_P D vwC (zR dA ad σ) H → va_D A (zR dA ad σ) → va_S A s.heap H locs → lv_has ls 7 [(0, .ref (ad 0 1000)), (1, .int (Int32.ofInt v1)), (2, .int (Int32.ofInt v2)), (3, .int (Int32.ofInt v3)), (4, .int (Int32.ofInt v4)), (5, .int (Int32.ofInt v5)), (6, .int (Int32.ofInt v6))] → W p l e (gR 5 0 0) s m #[.ref (ad 0 1000)] below meth c H locs 0 0 QQ (F0 m 221 ls []) := by
        intro v4 v5 K221 hK221
        intro v6 σ hw H locs ls hP hD hS hl
        unfold wpbX11_link_221 at hw
        refine lv_iload hx hb dX11_link_221 (lv_at hl 6 rfl) ?_
        refine lv_aload_n hx hb dX11_link_223 rfl (lv_at hl 0 rfl) ?_
        refine zgR0_48 hx hb hg hown hK hP q1663 dX11_link_224 ?_
        refine lv_iload hx hb dX11_link_227 (lv_at hl 5 rfl) ?_
        obtain ⟨o16, hw⟩ := hw
        refine zlR0_48 hx hb o16 hK hP dX11_link_229 ?_
        obtain ⟨o17, hw⟩ := hw
        obtain ⟨o18, hw⟩ := hw
        refine z_icmp_ge (tgt := 288) hx hb o17 o18 dX11_link_230 (by decide) (fun k19 => ?_) (fun k19 => ?_)
        · replace hw := hw.1 k19
          refine lv_iinc (v := Int32.ofInt (v4 + 1)) (lv' := [(4, .int (Int32.ofInt (v4 + 1))), (0, .ref (ad 0 1000)), (1, .int (Int32.ofInt v1)), (2, .int (Int32.ofInt v2)), (3, .int (Int32.ofInt v3)), (5, .int (Int32.ofInt v5)), (6, .int (Int32.ofInt v6))]) hx hb dX11_link_288 hl (k := 4) rfl (Int32.ofInt_add _ _).symm (by decide) rfl (fun ls hl => ?_)
          refine lv_goto (tgt := 189) hx hb dX11_link_291 (by decide) ?_
          exact hK189 (v4 + 1) σ hw _ _ _ hP hD hS (lv_sub hl [1, 2, 3, 4, 0] rfl)
        · replace hw := hw.2 k19
          refine lv_aload_n hx hb dX11_link_233 rfl (lv_at hl 0 rfl) ?_
          refine zgR0_61 hx hb hg hown hK hP q1676 dX11_link_234 ?_
          refine lv_aload_n hx hb dX11_link_237 rfl (lv_at hl 0 rfl) ?_
          refine zgR0_70 hx hb hg hown hK hP q1685 dX11_link_238 ?_
          refine lv_aload_n hx hb dX11_link_241 rfl (lv_at hl 0 rfl) ?_
          refine zgR0_71 hx hb hg hown hK hP q1686 dX11_link_242 ?_
          refine lv_iload hx hb dX11_link_245 (lv_at hl 5 rfl) ?_
          refine zlR0_71 hx hb o16 hK hP dX11_link_247 ?_
          obtain ⟨o20, hw⟩ := hw
          refine zlR0_70 hx hb o20 hK hP dX11_link_248 ?_
          refine lv_aload_n hx hb dX11_link_249 rfl (lv_at hl 0 rfl) ?_
          refine zgR0_72 hx hb hg hown hK hP q1687 dX11_link_250 ?_
          refine lv_iload hx hb dX11_link_253 (lv_at hl 5 rfl) ?_
          refine zlR0_72 hx hb o16 hK hP dX11_link_255 ?_
          refine z_iadd hx hb dX11_link_256 ?_
          refine lv_iload hx hb dX11_link_257 (lv_at hl 6 rfl) ?_
          refine z_iadd hx hb dX11_link_259 ?_
          refine lv_aload_n hx hb dX11_link_260 rfl (lv_at hl 0 rfl) ?_
          refine zgR0_49 hx hb hg hown hK hP q1664 dX11_link_261 ?_
          refine lv_sipush (v := Int32.ofInt 400) hx hb dX11_link_264 (by decide) ?_
          refine lv_iload_n hx hb dX11_link_267 rfl (lv_at hl 1 rfl) ?_
          refine z_imul hx hb dX11_link_268 ?_
          refine lv_aload_n hx hb dX11_link_269 rfl (lv_at hl 0 rfl) ?_
          refine zgR0_47 hx hb hg hown hK hP q1662 dX11_link_270 ?_
          refine lv_iload hx hb dX11_link_273 (lv_at hl 5 rfl) ?_
          refine zlR0_47 hx hb o16 hK hP dX11_link_275 ?_
          refine z_iadd hx hb dX11_link_276 ?_
          refine lv_iload hx hb dX11_link_277 (lv_at hl 6 rfl) ?_
          refine z_iadd hx hb dX11_link_279 ?_
          obtain ⟨o21, hw⟩ := hw
          refine zlR0_49 hx hb o21 hK hP dX11_link_280 ?_
          obtain ⟨o22, hw⟩ := hw
          refine zsR0_61 (v := (zA σ 0 49 (((400 * v1) + (zA σ 0 47 v5)) + v6))) hx hb o22 hK hP hD hS dX11_link_281 (fun H locs hP hD hS => ?_)
          refine lv_iinc (v := Int32.ofInt (v6 + 1)) (lv' := [(6, .int (Int32.ofInt (v6 + 1))), (0, .ref (ad 0 1000)), (1, .int (Int32.ofInt v1)), (2, .int (Int32.ofInt v2)), (3, .int (Int32.ofInt v3)), (4, .int (Int32.ofInt v4)), (5, .int (Int32.ofInt v5))]) hx hb dX11_link_282 hl (k := 6) rfl (Int32.ofInt_add _ _).symm (by decide) rfl (fun ls hl => ?_)
          refine lv_goto (tgt := 221) hx hb dX11_link_285 (by decide) ?_
          exact hK221 (v6 + 1) (zsA σ 0 61 (((zA σ 0 70 (zA σ 0 71 v5)) + (zA σ 0 72 v5)) + v6) (zA σ 0 49 (((400 * v1) + (zA σ 0 47 v5)) + v6))) hw _ _ _ hP hD hS (lv_sub hl [1, 2, 3, 4, 5, 6, 0] rfl)
      have j221 : ∀ (v4 v5 v6 : Int) (σ : ZS), ∀ (H : Heap) (locs : List Loc) (ls : Array Slot), va_P D vwC (zR dA ad σ) H → va_D A (zR dA ad σ) → va_S A s.heap H locs → lv_has ls 7 [(0, .ref (ad 0 1000)), (1, .int (Int32.ofInt v1)), (2, .int (Int32.ofInt v2)), (3, .int (Int32.ofInt v3)), (4, .int (Int32.ofInt v4)), (5, .int (Int32.ofInt v5)), (6, .int (Int32.ofInt v6))] → wpX11_link_221 K181 K189 v1 v2 v3 v4 v5 v6 σ Q → W p l e (gR 5 0 0) s m #[.ref (ad 0 1000)] below meth c H locs 0 0 QQ (F0 m 221 ls []) := by
        intro v4 v5 v6 σ H locs ls hP hD hS hl hw
        exact hw (fun v6 σ => ∀ (H : Heap) (locs : List Loc) (ls : Array Slot), va_P D vwC (zR dA ad σ) H → va_D A (zR dA ad σ) → va_S A s.heap H locs → lv_has ls 7 [(0, .ref (ad 0 1000)), (1, .int (Int32.ofInt v1)), (2, .int (Int32.ofInt v2)), (3, .int (Int32.ofInt v3)), (4, .int (Int32.ofInt v4)), (5, .int (Int32.ofInt v5)), (6, .int (Int32.ofInt v6))] → W p l e (gR 5 0 0) s m #[.ref (ad 0 1000)] below meth c H locs 0 0 QQ (F0 m 221 ls [])) (b221 v4 v5 (fun v6 σ => ∀ (H : Heap) (locs : List Loc) (ls : Array Slot), va_P D vwC (zR dA ad σ) H → va_D A (zR dA ad σ) → va_S A s.heap H locs → lv_has ls 7 [(0, .ref (ad 0 1000)), (1, .int (Int32.ofInt v1)), (2, .int (Int32.ofInt v2)), (3, .int (Int32.ofInt v3)), (4, .int (Int32.ofInt v4)), (5, .int (Int32.ofInt v5)), (6, .int (Int32.ofInt v6))] → W p l e (gR 5 0 0) s m #[.ref (ad 0 1000)] below meth c H locs 0 0 QQ (F0 m 221 ls [])) (fun v6 σ h => h)) _ _ _ hP hD hS hl
      intro v4 σ hw H locs ls hP hD hS hl
      unfold wpbX11_link_189 at hw
      refine lv_iload hx hb dX11_link_189 (lv_at hl 4 rfl) ?_
      refine lv_aload_n hx hb dX11_link_191 rfl (lv_at hl 0 rfl) ?_
      refine zgR0_44 hx hb hg hown hK hP q1659 dX11_link_192 ?_
      refine lv_iload_n hx hb dX11_link_195 rfl (lv_at hl 1 rfl) ?_
      obtain ⟨o23, hw⟩ := hw
      refine zlR0_44 hx hb o23 hK hP dX11_link_196 ?_
      obtain ⟨o24, hw⟩ := hw
      obtain ⟨o25, hw⟩ := hw
      refine z_icmp_ge (tgt := 294) hx hb o24 o25 dX11_link_197 (by decide) (fun k26 => ?_) (fun k26 => ?_)
      · replace hw := hw.1 k26
        exact j294 v1 σ _ _ _ hP hD hS (lv_sub hl [0, 1, 2, 3] rfl) hw
      · replace hw := hw.2 k26
        refine lv_aload_n hx hb dX11_link_200 rfl (lv_at hl 0 rfl) ?_
        refine zgR0_43 hx hb hg hown hK hP q1658 dX11_link_201 ?_
        refine lv_iload_n hx hb dX11_link_204 rfl (lv_at hl 1 rfl) ?_
        refine zlR0_43 hx hb o23 hK hP dX11_link_205 ?_
        obtain ⟨o27, hw⟩ := hw
        refine z_if_eq (tgt := 294) hx hb o27 dX11_link_206 (by decide) (fun k28 => ?_) (fun k28 => ?_)
        · replace hw := hw.1 k28
          exact j294 v1 σ _ _ _ hP hD hS (lv_sub hl [0, 1, 2, 3] rfl) hw
        · replace hw := hw.2 k28
          refine lv_bipush (v := Int32.ofInt 24) hx hb dX11_link_209 (by decide) ?_
          refine lv_iload_n hx hb dX11_link_211 rfl (lv_at hl 1 rfl) ?_
          refine z_imul hx hb dX11_link_212 ?_
          refine lv_iload hx hb dX11_link_213 (lv_at hl 4 rfl) ?_
          refine z_iadd hx hb dX11_link_215 ?_
          refine lv_istore (lv' := [(5, .int (Int32.ofInt ((24 * v1) + v4))), (0, .ref (ad 0 1000)), (1, .int (Int32.ofInt v1)), (2, .int (Int32.ofInt v2)), (3, .int (Int32.ofInt v3)), (4, .int (Int32.ofInt v4))]) hx hb dX11_link_216 hl (by decide) rfl (fun ls hl => ?_)
          refine lv_iconst (v := Int32.ofInt 0) hx hb dX11_link_218 (by decide) ?_
          refine lv_istore (lv' := [(6, .int (Int32.ofInt 0)), (5, .int (Int32.ofInt ((24 * v1) + v4))), (0, .ref (ad 0 1000)), (1, .int (Int32.ofInt v1)), (2, .int (Int32.ofInt v2)), (3, .int (Int32.ofInt v3)), (4, .int (Int32.ofInt v4))]) hx hb dX11_link_219 hl (by decide) rfl (fun ls hl => ?_)
          exact j221 v4 ((24 * v1) + v4) 0 σ _ _ _ hP hD hS (lv_sub hl [2, 3, 4, 5, 6, 1, 0] rfl) hw
    have j189 : ∀ (v1 v4 : Int) (σ : ZS), ∀ (H : Heap) (locs : List Loc) (ls : Array Slot), va_P D vwC (zR dA ad σ) H → va_D A (zR dA ad σ) → va_S A s.heap H locs → lv_has ls 7 [(0, .ref (ad 0 1000)), (1, .int (Int32.ofInt v1)), (2, .int (Int32.ofInt v2)), (3, .int (Int32.ofInt v3)), (4, .int (Int32.ofInt v4))] → wpX11_link_189 K181 v1 v2 v3 v4 σ Q → W p l e (gR 5 0 0) s m #[.ref (ad 0 1000)] below meth c H locs 0 0 QQ (F0 m 189 ls []) := by
      intro v1 v4 σ H locs ls hP hD hS hl hw
      exact hw (fun v4 σ => ∀ (H : Heap) (locs : List Loc) (ls : Array Slot), va_P D vwC (zR dA ad σ) H → va_D A (zR dA ad σ) → va_S A s.heap H locs → lv_has ls 7 [(0, .ref (ad 0 1000)), (1, .int (Int32.ofInt v1)), (2, .int (Int32.ofInt v2)), (3, .int (Int32.ofInt v3)), (4, .int (Int32.ofInt v4))] → W p l e (gR 5 0 0) s m #[.ref (ad 0 1000)] below meth c H locs 0 0 QQ (F0 m 189 ls [])) (b189 v1 (fun v4 σ => ∀ (H : Heap) (locs : List Loc) (ls : Array Slot), va_P D vwC (zR dA ad σ) H → va_D A (zR dA ad σ) → va_S A s.heap H locs → lv_has ls 7 [(0, .ref (ad 0 1000)), (1, .int (Int32.ofInt v1)), (2, .int (Int32.ofInt v2)), (3, .int (Int32.ofInt v3)), (4, .int (Int32.ofInt v4))] → W p l e (gR 5 0 0) s m #[.ref (ad 0 1000)] below meth c H locs 0 0 QQ (F0 m 189 ls [])) (fun v4 σ h => h)) _ _ _ hP hD hS hl
    intro v1 σ hw H locs ls hP hD hS hl
    unfold wpbX11_link_181 at hw
    refine lv_iload_n hx hb dX11_link_181 rfl (lv_at hl 1 rfl) ?_
    refine lv_iconst (v := Int32.ofInt 3) hx hb dX11_link_182 (by decide) ?_
    obtain ⟨o29, hw⟩ := hw
    refine z_icmp_ge (tgt := 300) hx hb o29 (by decide) dX11_link_183 (by decide) (fun k30 => ?_) (fun k30 => ?_)
    · replace hw := hw.1 k30
      refine lv_iconst (v := Int32.ofInt 0) hx hb dX11_link_300 (by decide) ?_
      refine lv_istore_n (lv' := [(1, .int (Int32.ofInt 0)), (0, .ref (ad 0 1000)), (2, .int (Int32.ofInt v2)), (3, .int (Int32.ofInt v3))]) hx hb dX11_link_301 rfl hl (by decide) rfl (fun ls hl => ?_)
      exact j302 0 v2 v3 σ _ _ _ hP hD hS (lv_sub hl [1, 0, 2, 3] rfl) hw
    · replace hw := hw.2 k30
      refine lv_iconst (v := Int32.ofInt 0) hx hb dX11_link_186 (by decide) ?_
      refine lv_istore (lv' := [(4, .int (Int32.ofInt 0)), (0, .ref (ad 0 1000)), (1, .int (Int32.ofInt v1)), (2, .int (Int32.ofInt v2)), (3, .int (Int32.ofInt v3))]) hx hb dX11_link_187 hl (by decide) rfl (fun ls hl => ?_)
      exact j189 v1 0 σ _ _ _ hP hD hS (lv_sub hl [1, 2, 3, 4, 0] rfl) hw
  have j181 : ∀ (v1 v2 v3 : Int) (σ : ZS), ∀ (H : Heap) (locs : List Loc) (ls : Array Slot), va_P D vwC (zR dA ad σ) H → va_D A (zR dA ad σ) → va_S A s.heap H locs → lv_has ls 7 [(0, .ref (ad 0 1000)), (1, .int (Int32.ofInt v1)), (2, .int (Int32.ofInt v2)), (3, .int (Int32.ofInt v3))] → wpX11_link_181 v1 v2 v3 σ Q → W p l e (gR 5 0 0) s m #[.ref (ad 0 1000)] below meth c H locs 0 0 QQ (F0 m 181 ls []) := by
    intro v1 v2 v3 σ H locs ls hP hD hS hl hw
    exact hw (fun v1 σ => ∀ (H : Heap) (locs : List Loc) (ls : Array Slot), va_P D vwC (zR dA ad σ) H → va_D A (zR dA ad σ) → va_S A s.heap H locs → lv_has ls 7 [(0, .ref (ad 0 1000)), (1, .int (Int32.ofInt v1)), (2, .int (Int32.ofInt v2)), (3, .int (Int32.ofInt v3))] → W p l e (gR 5 0 0) s m #[.ref (ad 0 1000)] below meth c H locs 0 0 QQ (F0 m 181 ls [])) (b181 v2 v3 (fun v1 σ => ∀ (H : Heap) (locs : List Loc) (ls : Array Slot), va_P D vwC (zR dA ad σ) H → va_D A (zR dA ad σ) → va_S A s.heap H locs → lv_has ls 7 [(0, .ref (ad 0 1000)), (1, .int (Int32.ofInt v1)), (2, .int (Int32.ofInt v2)), (3, .int (Int32.ofInt v3))] → W p l e (gR 5 0 0) s m #[.ref (ad 0 1000)] below meth c H locs 0 0 QQ (F0 m 181 ls [])) (fun v1 σ h => h)) _ _ _ hP hD hS hl
  have b142 : ∀ (v2 v3 : Int) (K142 : Int → ZS → Prop), (∀ (v4 : Int) (σ : ZS), K142 v4 σ → ∀ (H : Heap) (locs : List Loc) (ls : Array Slot), va_P D vwC (zR dA ad σ) H → va_D A (zR dA ad σ) → va_S A s.heap H locs → lv_has ls 7 [(0, .ref (ad 0 1000)), (2, .int (Int32.ofInt v2)), (3, .int (Int32.ofInt v3)), (4, .int (Int32.ofInt v4))] → W p l e (gR 5 0 0) s m #[.ref (ad 0 1000)] below meth c H locs 0 0 QQ (F0 m 142 ls [])) → ∀ (v4 : Int) (σ : ZS), wpbX11_link_142 K142 v2 v3 v4 σ Q → ∀ (H : Heap) (locs : List Loc) (ls : Array Slot), va_P D vwC (zR dA ad σ) H → va_D A (zR dA ad σ) → va_S A s.heap H locs → lv_has ls 7 [(0, .ref (ad 0 1000)), (2, .int (Int32.ofInt v2)), (3, .int (Int32.ofInt v3)), (4, .int (Int32.ofInt v4))] → W p l e (gR 5 0 0) s m #[.ref (ad 0 1000)] below meth c H locs 0 0 QQ (F0 m 142 ls []) := by
    intro v2 v3 K142 hK142
    intro v4 σ hw H locs ls hP hD hS hl
    unfold wpbX11_link_142 at hw
    refine lv_iload hx hb dX11_link_142 (lv_at hl 3 rfl) ?_
    refine lv_sipush (v := Int32.ofInt 1200) hx hb dX11_link_144 (by decide) ?_
    obtain ⟨o31, hw⟩ := hw
    refine z_icmp_ge (tgt := 164) hx hb o31 (by decide) dX11_link_147 (by decide) (fun k32 => ?_) (fun k32 => ?_)
    · replace hw := hw.1 k32
      refine lv_aload_n hx hb dX11_link_164 rfl (lv_at hl 0 rfl) ?_
      refine lv_iload_n hx hb dX11_link_165 rfl (lv_at hl 2 rfl) ?_
      refine zpR0_62 (v := v3) hx hb hg hown hK hP hD hS q1677 dX11_link_166 (fun H locs hP hD hS => ?_)
      refine lv_aload_n hx hb dX11_link_169 rfl (lv_at hl 0 rfl) ?_
      refine lv_iconst (v := Int32.ofInt 1) hx hb dX11_link_170 (by decide) ?_
      refine zpR0_60 (v := 1) hx hb hg hown (by decide) hK hP hD hS q1675 dX11_link_171 (fun H locs hP hD hS => ?_)
      refine lv_aload_n hx hb dX11_link_174 rfl (lv_at hl 0 rfl) ?_
      refine lv_iconst (v := Int32.ofInt 0) hx hb dX11_link_175 (by decide) ?_
      refine zpR0_64 (v := 0) hx hb hg hown hK hP hD hS q1679 dX11_link_176 (fun H locs hP hD hS => ?_)
      refine lv_iconst (v := Int32.ofInt 0) hx hb dX11_link_179 (by decide) ?_
      refine lv_istore_n (lv' := [(1, .int (Int32.ofInt 0)), (0, .ref (ad 0 1000)), (2, .int (Int32.ofInt v2)), (3, .int (Int32.ofInt v3)), (4, .int (Int32.ofInt v4))]) hx hb dX11_link_180 rfl hl (by decide) rfl (fun ls hl => ?_)
      exact j181 0 v2 v3 (zsI (zsI (zsI σ 0 62 v3) 0 60 1) 0 64 0) _ _ _ hP hD hS (lv_sub hl [1, 0, 2, 3] rfl) hw
    · replace hw := hw.2 k32
      refine lv_aload_n hx hb dX11_link_150 rfl (lv_at hl 0 rfl) ?_
      refine zgR0_61 hx hb hg hown hK hP q1676 dX11_link_151 ?_
      refine lv_iload hx hb dX11_link_154 (lv_at hl 3 rfl) ?_
      refine lv_iconst (v := Int32.ofInt 0) hx hb dX11_link_156 (by decide) ?_
      obtain ⟨o33, hw⟩ := hw
      refine zsR0_61 (v := 0) hx hb o33 hK hP hD hS dX11_link_157 (fun H locs hP hD hS => ?_)
      refine lv_iinc (v := Int32.ofInt (v4 + 1)) (lv' := [(4, .int (Int32.ofInt (v4 + 1))), (0, .ref (ad 0 1000)), (2, .int (Int32.ofInt v2)), (3, .int (Int32.ofInt v3))]) hx hb dX11_link_158 hl (k := 3) rfl (Int32.ofInt_add _ _).symm (by decide) rfl (fun ls hl => ?_)
      refine lv_goto (tgt := 142) hx hb dX11_link_161 (by decide) ?_
      exact hK142 (v4 + 1) (zsA σ 0 61 v4 0) hw _ _ _ hP hD hS (lv_sub hl [1, 2, 3, 0] rfl)
  have j142 : ∀ (v2 v3 v4 : Int) (σ : ZS), ∀ (H : Heap) (locs : List Loc) (ls : Array Slot), va_P D vwC (zR dA ad σ) H → va_D A (zR dA ad σ) → va_S A s.heap H locs → lv_has ls 7 [(0, .ref (ad 0 1000)), (2, .int (Int32.ofInt v2)), (3, .int (Int32.ofInt v3)), (4, .int (Int32.ofInt v4))] → wpX11_link_142 v2 v3 v4 σ Q → W p l e (gR 5 0 0) s m #[.ref (ad 0 1000)] below meth c H locs 0 0 QQ (F0 m 142 ls []) := by
    intro v2 v3 v4 σ H locs ls hP hD hS hl hw
    exact hw (fun v4 σ => ∀ (H : Heap) (locs : List Loc) (ls : Array Slot), va_P D vwC (zR dA ad σ) H → va_D A (zR dA ad σ) → va_S A s.heap H locs → lv_has ls 7 [(0, .ref (ad 0 1000)), (2, .int (Int32.ofInt v2)), (3, .int (Int32.ofInt v3)), (4, .int (Int32.ofInt v4))] → W p l e (gR 5 0 0) s m #[.ref (ad 0 1000)] below meth c H locs 0 0 QQ (F0 m 142 ls [])) (b142 v2 v3 (fun v4 σ => ∀ (H : Heap) (locs : List Loc) (ls : Array Slot), va_P D vwC (zR dA ad σ) H → va_D A (zR dA ad σ) → va_S A s.heap H locs → lv_has ls 7 [(0, .ref (ad 0 1000)), (2, .int (Int32.ofInt v2)), (3, .int (Int32.ofInt v3)), (4, .int (Int32.ofInt v4))] → W p l e (gR 5 0 0) s m #[.ref (ad 0 1000)] below meth c H locs 0 0 QQ (F0 m 142 ls [])) (fun v4 σ h => h)) _ _ _ hP hD hS hl
  have j38 : ∀ (σ : ZS), ∀ (H : Heap) (locs : List Loc) (ls : Array Slot), va_P D vwC (zR dA ad σ) H → va_D A (zR dA ad σ) → va_S A s.heap H locs → lv_has ls 7 [(0, .ref (ad 0 1000))] → wpX11_link_38 σ Q → W p l e (gR 5 0 0) s m #[.ref (ad 0 1000)] below meth c H locs 0 0 QQ (F0 m 38 ls []) := by
    intro σ H locs ls hP hD hS hl hw
    unfold wpX11_link_38 at hw
    refine lv_aload_n hx hb dX11_link_38 rfl (lv_at hl 0 rfl) ?_
    refine z_Vi (n := 0) (As := []) (rest := []) hx hb hml hg hown hK hP hD hS hA (kX11_twice l D dA ad σ _ _ hw) (zoR0) rfl q2077 q160 q2074 q2076 q119 (by decide +kernel) ⟨(Nat.le_of_ble_eq_true rfl), (Nat.le_of_ble_eq_true rfl)⟩ rfl hl.1 rfl (Nat.le_of_ble_eq_true rfl) dX11_link_39 ⟨(Nat.le_of_ble_eq_true rfl), (Nat.le_of_ble_eq_true rfl)⟩ (fun x34 σ35 H locs hw hP hD hS => ?_)
    refine lv_istore_n (lv' := [(1, .int (Int32.ofInt x34)), (0, .ref (ad 0 1000))]) hx hb dX11_link_42 rfl hl (by decide) rfl (fun ls hl => ?_)
    refine lv_iload_n hx hb dX11_link_43 rfl (lv_at hl 0 rfl) ?_
    obtain ⟨o36, hw⟩ := hw
    refine z_if_lt (tgt := 55) hx hb o36 dX11_link_44 (by decide) (fun k37 => ?_) (fun k37 => ?_)
    · replace hw := hw.1 k37
      refine lv_aload_n hx hb dX11_link_55 rfl (lv_at hl 1 rfl) ?_
      refine z_Vi (n := 0) (As := []) (rest := []) hx hb hml hg hown hK hP hD hS hA (kX11_missing l D dA ad σ35 _ _ hw) (zoR0) rfl q2085 q160 q2082 q2084 q121 (by decide +kernel) ⟨(Nat.le_of_ble_eq_true rfl), (Nat.le_of_ble_eq_true rfl)⟩ rfl hl.1 rfl (Nat.le_of_ble_eq_true rfl) dX11_link_56 ⟨(Nat.le_of_ble_eq_true rfl), (Nat.le_of_ble_eq_true rfl)⟩ (fun x38 σ39 H locs hw hP hD hS => ?_)
      refine lv_istore_n (lv' := [(1, .int (Int32.ofInt x38)), (0, .ref (ad 0 1000))]) hx hb dX11_link_59 rfl hl (by decide) rfl (fun ls hl => ?_)
      refine lv_iload_n hx hb dX11_link_60 rfl (lv_at hl 0 rfl) ?_
      obtain ⟨o40, hw⟩ := hw
      refine z_if_lt (tgt := 73) hx hb o40 dX11_link_61 (by decide) (fun k41 => ?_) (fun k41 => ?_)
      · replace hw := hw.1 k41
        refine lv_aload_n hx hb dX11_link_73 rfl (lv_at hl 1 rfl) ?_
        refine lv_ldc2 hx hb hown (hg _ q2090) dX11_link_74 ?_
        refine g_nrmL (y := Int64.ofInt 1835100526) (by decide) ?_
        refine z_Vi (n := 1) (As := [.long (Int64.ofInt 1835100526)]) (rest := []) hx hb hml hg hown hK hP hD hS hA (kX11_publicOf l D dA ad 1835100526 σ39 _ _ hw) (zoR0) rfl q2089 q160 q2086 q2088 q122 (by decide +kernel) ⟨(Nat.le_of_ble_eq_true rfl), (Nat.le_of_ble_eq_true rfl)⟩ rfl hl.1 rfl (Nat.le_of_ble_eq_true rfl) dX11_link_77 ⟨(Nat.le_of_ble_eq_true rfl), (Nat.le_of_ble_eq_true rfl)⟩ (fun x42 σ43 H locs hw hP hD hS => ?_)
        refine lv_istore_n (lv' := [(2, .int (Int32.ofInt x42)), (1, .int (Int32.ofInt x38)), (0, .ref (ad 0 1000))]) hx hb dX11_link_80 rfl hl (by decide) rfl (fun ls hl => ?_)
        refine lv_iload_n hx hb dX11_link_81 rfl (lv_at hl 0 rfl) ?_
        obtain ⟨o44, hw⟩ := hw
        refine z_if_ge (tgt := 94) hx hb o44 dX11_link_82 (by decide) (fun k45 => ?_) (fun k45 => ?_)
        · replace hw := hw.1 k45
          refine lv_aload_n hx hb dX11_link_94 rfl (lv_at hl 2 rfl) ?_
          refine z_Vv (n := 0) (As := []) (rest := []) hx hb hml hg hown hK hP hD hS hA (kX11_combine l D dA ad σ43 _ _ hw) (zoR0) rfl q2094 q160 q2091 q2093 q123 (by decide +kernel) ⟨(Nat.le_of_ble_eq_true rfl), (Nat.le_of_ble_eq_true rfl)⟩ rfl hl.1 rfl (Nat.le_of_ble_eq_true rfl) dX11_link_95 ⟨(Nat.le_of_ble_eq_true rfl), (Nat.le_of_ble_eq_true rfl)⟩ (fun σ47 H locs hw hP hD hS => ?_)
          refine lv_aload_n hx hb dX11_link_98 rfl (lv_at hl 2 rfl) ?_
          refine zgR0_67 hx hb hg hown hK hP q1682 dX11_link_99 ?_
          refine lv_iconst (v := Int32.ofInt 0) hx hb dX11_link_102 (by decide) ?_
          refine zlR0_67 hx hb (by decide) hK hP dX11_link_103 ?_
          refine lv_istore_n (lv' := [(3, .int (Int32.ofInt (zA σ47 0 67 0))), (2, .int (Int32.ofInt x42)), (1, .int (Int32.ofInt x38)), (0, .ref (ad 0 1000))]) hx hb dX11_link_104 rfl hl (by decide) rfl (fun ls hl => ?_)
          refine lv_iload_n hx hb dX11_link_105 rfl (lv_at hl 0 rfl) ?_
          refine lv_sipush (v := Int32.ofInt 1200) hx hb dX11_link_106 (by decide) ?_
          obtain ⟨o48, hw⟩ := hw
          refine z_icmp_le (tgt := 121) hx hb o48 (by decide) dX11_link_109 (by decide) (fun k49 => ?_) (fun k49 => ?_)
          · replace hw := hw.1 k49
            refine lv_aload_n hx hb dX11_link_121 rfl (lv_at hl 3 rfl) ?_
            refine z_Vi (n := 0) (As := []) (rest := []) hx hb hml hg hown hK hP hD hS hA (kX11_far l D dA ad σ47 _ _ hw) (zoR0) rfl q2098 q160 q2095 q2097 q124 (by decide +kernel) ⟨(Nat.le_of_ble_eq_true rfl), (Nat.le_of_ble_eq_true rfl)⟩ rfl hl.1 rfl (Nat.le_of_ble_eq_true rfl) dX11_link_122 ⟨(Nat.le_of_ble_eq_true rfl), (Nat.le_of_ble_eq_true rfl)⟩ (fun x50 σ51 H locs hw hP hD hS => ?_)
            refine lv_istore_n (lv' := [(1, .int (Int32.ofInt x50)), (3, .int (Int32.ofInt (zA σ47 0 67 0))), (2, .int (Int32.ofInt x42)), (0, .ref (ad 0 1000))]) hx hb dX11_link_125 rfl hl (by decide) rfl (fun ls hl => ?_)
            refine lv_iload_n hx hb dX11_link_126 rfl (lv_at hl 0 rfl) ?_
            obtain ⟨o52, hw⟩ := hw
            refine z_if_lt (tgt := 139) hx hb o52 dX11_link_127 (by decide) (fun k53 => ?_) (fun k53 => ?_)
            · replace hw := hw.1 k53
              refine lv_iconst (v := Int32.ofInt 0) hx hb dX11_link_139 (by decide) ?_
              refine lv_istore (lv' := [(4, .int (Int32.ofInt 0)), (1, .int (Int32.ofInt x50)), (3, .int (Int32.ofInt (zA σ47 0 67 0))), (2, .int (Int32.ofInt x42)), (0, .ref (ad 0 1000))]) hx hb dX11_link_140 hl (by decide) rfl (fun ls hl => ?_)
              exact j142 x42 (zA σ47 0 67 0) 0 σ51 _ _ _ hP hD hS (lv_sub hl [4, 3, 2, 0] rfl) hw
            · replace hw := hw.2 k53
              refine lv_aload_n hx hb dX11_link_130 rfl (lv_at hl 3 rfl) ?_
              refine lv_bipush (v := Int32.ofInt 7) hx hb dX11_link_131 (by decide) ?_
              refine lv_iload_n hx hb dX11_link_133 rfl (lv_at hl 0 rfl) ?_
              refine lv_iconst (v := Int32.ofInt 5) hx hb dX11_link_134 (by decide) ?_
              refine z_Vi (n := 3) (As := [.int (Int32.ofInt 7), .int (Int32.ofInt x50), .int (Int32.ofInt 5)]) (rest := []) hx hb hml hg hown hK hP hD hS hA (kX11_tell l D dA ad 7 x50 5 σ51 _ _ hw) (zoR0) rfl q2030 q160 q2027 q2029 q110 (by decide +kernel) ⟨(Nat.le_of_ble_eq_true rfl), (Nat.le_of_ble_eq_true rfl)⟩ rfl hl.1 rfl (Nat.le_of_ble_eq_true rfl) dX11_link_135 ⟨(Nat.le_of_ble_eq_true rfl), (Nat.le_of_ble_eq_true rfl)⟩ (fun x54 σ55 H locs hw hP hD hS => ?_)
              exact hret x54 σ55 _ _ _ _ hw hP hD hS dX11_link_138
          · replace hw := hw.2 k49
            refine lv_aload_n hx hb dX11_link_112 rfl (lv_at hl 3 rfl) ?_
            refine lv_bipush (v := Int32.ofInt 9) hx hb dX11_link_113 (by decide) ?_
            refine lv_iconst (v := Int32.ofInt (-1)) hx hb dX11_link_115 (by decide) ?_
            refine lv_iconst (v := Int32.ofInt 4) hx hb dX11_link_116 (by decide) ?_
            refine z_Vi (n := 3) (As := [.int (Int32.ofInt 9), .int (Int32.ofInt (-1)), .int (Int32.ofInt 4)]) (rest := []) hx hb hml hg hown hK hP hD hS hA (kX11_tell l D dA ad 9 (-1) 4 σ47 _ _ hw) (zoR0) rfl q2030 q160 q2027 q2029 q110 (by decide +kernel) ⟨(Nat.le_of_ble_eq_true rfl), (Nat.le_of_ble_eq_true rfl)⟩ rfl hl.1 rfl (Nat.le_of_ble_eq_true rfl) dX11_link_117 ⟨(Nat.le_of_ble_eq_true rfl), (Nat.le_of_ble_eq_true rfl)⟩ (fun x56 σ57 H locs hw hP hD hS => ?_)
            exact hret x56 σ57 _ _ _ _ hw hP hD hS dX11_link_120
        · replace hw := hw.2 k45
          refine lv_aload_n hx hb dX11_link_85 rfl (lv_at hl 2 rfl) ?_
          refine lv_bipush (v := Int32.ofInt 8) hx hb dX11_link_86 (by decide) ?_
          refine lv_iconst (v := Int32.ofInt (-1)) hx hb dX11_link_88 (by decide) ?_
          refine lv_iconst (v := Int32.ofInt 3) hx hb dX11_link_89 (by decide) ?_
          refine z_Vi (n := 3) (As := [.int (Int32.ofInt 8), .int (Int32.ofInt (-1)), .int (Int32.ofInt 3)]) (rest := []) hx hb hml hg hown hK hP hD hS hA (kX11_tell l D dA ad 8 (-1) 3 σ43 _ _ hw) (zoR0) rfl q2030 q160 q2027 q2029 q110 (by decide +kernel) ⟨(Nat.le_of_ble_eq_true rfl), (Nat.le_of_ble_eq_true rfl)⟩ rfl hl.1 rfl (Nat.le_of_ble_eq_true rfl) dX11_link_90 ⟨(Nat.le_of_ble_eq_true rfl), (Nat.le_of_ble_eq_true rfl)⟩ (fun x58 σ59 H locs hw hP hD hS => ?_)
          exact hret x58 σ59 _ _ _ _ hw hP hD hS dX11_link_93
      · replace hw := hw.2 k41
        refine lv_aload_n hx hb dX11_link_64 rfl (lv_at hl 1 rfl) ?_
        refine lv_bipush (v := Int32.ofInt 6) hx hb dX11_link_65 (by decide) ?_
        refine lv_iload_n hx hb dX11_link_67 rfl (lv_at hl 0 rfl) ?_
        refine lv_iconst (v := Int32.ofInt 3) hx hb dX11_link_68 (by decide) ?_
        refine z_Vi (n := 3) (As := [.int (Int32.ofInt 6), .int (Int32.ofInt x38), .int (Int32.ofInt 3)]) (rest := []) hx hb hml hg hown hK hP hD hS hA (kX11_tell l D dA ad 6 x38 3 σ39 _ _ hw) (zoR0) rfl q2030 q160 q2027 q2029 q110 (by decide +kernel) ⟨(Nat.le_of_ble_eq_true rfl), (Nat.le_of_ble_eq_true rfl)⟩ rfl hl.1 rfl (Nat.le_of_ble_eq_true rfl) dX11_link_69 ⟨(Nat.le_of_ble_eq_true rfl), (Nat.le_of_ble_eq_true rfl)⟩ (fun x60 σ61 H locs hw hP hD hS => ?_)
        exact hret x60 σ61 _ _ _ _ hw hP hD hS dX11_link_72
    · replace hw := hw.2 k37
      refine lv_aload_n hx hb dX11_link_47 rfl (lv_at hl 1 rfl) ?_
      refine lv_iconst (v := Int32.ofInt 5) hx hb dX11_link_48 (by decide) ?_
      refine lv_iload_n hx hb dX11_link_49 rfl (lv_at hl 0 rfl) ?_
      refine lv_iconst (v := Int32.ofInt 2) hx hb dX11_link_50 (by decide) ?_
      refine z_Vi (n := 3) (As := [.int (Int32.ofInt 5), .int (Int32.ofInt x34), .int (Int32.ofInt 2)]) (rest := []) hx hb hml hg hown hK hP hD hS hA (kX11_tell l D dA ad 5 x34 2 σ35 _ _ hw) (zoR0) rfl q2030 q160 q2027 q2029 q110 (by decide +kernel) ⟨(Nat.le_of_ble_eq_true rfl), (Nat.le_of_ble_eq_true rfl)⟩ rfl hl.1 rfl (Nat.le_of_ble_eq_true rfl) dX11_link_51 ⟨(Nat.le_of_ble_eq_true rfl), (Nat.le_of_ble_eq_true rfl)⟩ (fun x62 σ63 H locs hw hP hD hS => ?_)
      exact hret x62 σ63 _ _ _ _ hw hP hD hS dX11_link_54
  unfold wpX11_link at hw
  refine lv_aload_n hx hb dX11_link_0 rfl (lv_at hl 0 rfl) ?_
  refine lv_iconst (v := Int32.ofInt 0) hx hb dX11_link_1 (by decide) ?_
  refine zpR0_0 (v := 0) hx hb hg hown hK hP hD hS q1615 dX11_link_2 (fun H locs hP hD hS => ?_)
  refine lv_aload_n hx hb dX11_link_5 rfl (lv_at hl 0 rfl) ?_
  refine zgR0_43 hx hb hg hown hK hP q1658 dX11_link_6 ?_
  refine lv_iconst (v := Int32.ofInt 0) hx hb dX11_link_9 (by decide) ?_
  refine zlR0_43 hx hb (by decide) hK hP dX11_link_10 ?_
  refine g_nrm (y := Int32.ofInt (zA σ 0 43 0)) rfl ?_
  obtain ⟨o64, hw⟩ := hw
  refine z_if_ne (tgt := 38) hx hb o64 dX11_link_11 (by decide) (fun k65 => ?_) (fun k65 => ?_)
  · replace hw := hw.1 k65
    exact j38 (zsI σ 0 0 0) _ _ _ hP hD hS (lv_sub hl [0] rfl) hw
  · replace hw := hw.2 k65
    refine lv_aload_n hx hb dX11_link_14 rfl (lv_at hl 0 rfl) ?_
    refine zgR0_43 hx hb hg hown hK hP q1658 dX11_link_15 ?_
    refine lv_iconst (v := Int32.ofInt 1) hx hb dX11_link_18 (by decide) ?_
    refine zlR0_43 hx hb (by decide) hK hP dX11_link_19 ?_
    refine g_nrm (y := Int32.ofInt (zA σ 0 43 1)) rfl ?_
    obtain ⟨o66, hw⟩ := hw
    refine z_if_ne (tgt := 38) hx hb o66 dX11_link_20 (by decide) (fun k67 => ?_) (fun k67 => ?_)
    · replace hw := hw.1 k67
      exact j38 (zsI σ 0 0 0) _ _ _ hP hD hS (lv_sub hl [0] rfl) hw
    · replace hw := hw.2 k67
      refine lv_aload_n hx hb dX11_link_23 rfl (lv_at hl 0 rfl) ?_
      refine zgR0_43 hx hb hg hown hK hP q1658 dX11_link_24 ?_
      refine lv_iconst (v := Int32.ofInt 2) hx hb dX11_link_27 (by decide) ?_
      refine zlR0_43 hx hb (by decide) hK hP dX11_link_28 ?_
      refine g_nrm (y := Int32.ofInt (zA σ 0 43 2)) rfl ?_
      obtain ⟨o68, hw⟩ := hw
      refine z_if_ne (tgt := 38) hx hb o68 dX11_link_29 (by decide) (fun k69 => ?_) (fun k69 => ?_)
      · replace hw := hw.1 k69
        exact j38 (zsI σ 0 0 0) _ _ _ hP hD hS (lv_sub hl [0] rfl) hw
      · replace hw := hw.2 k69
        refine lv_aload_n hx hb dX11_link_32 rfl (lv_at hl 0 rfl) ?_
        refine lv_iconst (v := Int32.ofInt 1) hx hb dX11_link_33 (by decide) ?_
        refine z_Vi (n := 1) (As := [.int (Int32.ofInt 1)]) (rest := []) hx hb hml hg hown hK hP hD hS hA (kX11_raise l D dA ad 1 (zsI σ 0 0 0) _ _ hw) (zoR0) rfl q1883 q160 q1880 q1882 q77 (by decide +kernel) ⟨(Nat.le_of_ble_eq_true rfl), (Nat.le_of_ble_eq_true rfl)⟩ rfl hl.1 rfl (Nat.le_of_ble_eq_true rfl) dX11_link_34 ⟨(Nat.le_of_ble_eq_true rfl), (Nat.le_of_ble_eq_true rfl)⟩ (fun x70 σ71 H locs hw hP hD hS => ?_)
        exact hret x70 σ71 _ _ _ _ hw hP hD hS dX11_link_37
def wpbX11_load_191 (K191 : Int → ZS → Prop) (v1 v2 : Int) (σ : ZS) (Q : Int → ZS → Prop) : Prop := (-2147483648 ≤ v2 ∧ v2 ≤ 2147483647) ∧ (16 ≤ v2 → Q (zI σ 0 66) (zsI (zsI (zsI (zsA (zsA (zsA (zsA (zsA σ 0 75 8 v1) 0 75 10 v1) 0 75 11 v1) 0 75 9 ((v1 + (zI σ 0 65)) % 65536)) 0 75 12 (zI σ 0 66)) 0 76 0) 0 77 0) 0 78 0)) ∧ (¬ 16 ≤ v2 → (0 ≤ v2 ∧ v2 < 16) ∧ K191 (v2 + 1) (zsA σ 0 75 v2 0))
def wpX11_load_191 (v1 v2 : Int) (σ : ZS) (Q : Int → ZS → Prop) : Prop := lfp1 (fun K191 v2 σ => wpbX11_load_191 K191 v1 v2 σ Q) v2 σ
def wpbX11_load_96 (K96 : Int → ZS → Prop) (v1 v2 : Int) (σ : ZS) (Q : Int → ZS → Prop) : Prop := (-2147483648 ≤ v2 ∧ v2 ≤ 2147483647) ∧ (-2147483648 ≤ (zI σ 0 64) ∧ (zI σ 0 64) ≤ 2147483647) ∧ ((zI σ 0 64) ≤ v2 → wpX11_load_191 v1 0 σ Q) ∧ (¬ (zI σ 0 64) ≤ v2 → (0 ≤ v2 ∧ v2 < 600) ∧ (-2147483648 ≤ ((zor (zA σ 0 74 (((16 * v1) + (zA σ 0 63 v2)) % 4096)) ((zA σ 0 74 ((((16 * v1) + (zA σ 0 63 v2)) + 1) % 4096)) * 256)) + v1) ∧ ((zor (zA σ 0 74 (((16 * v1) + (zA σ 0 63 v2)) % 4096)) ((zA σ 0 74 ((((16 * v1) + (zA σ 0 63 v2)) + 1) % 4096)) * 256)) + v1) ≤ 2147483647) ∧ K96 (v2 + 1) (zsA (zsA σ 0 74 (((16 * v1) + (zA σ 0 63 v2)) % 4096) (((zor (zA σ 0 74 (((16 * v1) + (zA σ 0 63 v2)) % 4096)) ((zA σ 0 74 ((((16 * v1) + (zA σ 0 63 v2)) + 1) % 4096)) * 256)) + v1) % 256)) 0 74 ((((16 * v1) + (zA σ 0 63 v2)) + 1) % 4096) ((((zor (zA σ 0 74 (((16 * v1) + (zA σ 0 63 v2)) % 4096)) ((zA σ 0 74 ((((16 * v1) + (zA σ 0 63 v2)) + 1) % 4096)) * 256)) + v1) / 256) % 256)))
def wpX11_load_96 (v1 v2 : Int) (σ : ZS) (Q : Int → ZS → Prop) : Prop := lfp1 (fun K96 v2 σ => wpbX11_load_96 K96 v1 v2 σ Q) v2 σ
def wpbX11_load_59 (K59 : Int → ZS → Prop) (v1 v2 : Int) (σ : ZS) (Q : Int → ZS → Prop) : Prop := (-2147483648 ≤ v2 ∧ v2 ≤ 2147483647) ∧ (-2147483648 ≤ (zI σ 0 62) ∧ (zI σ 0 62) ≤ 2147483647) ∧ ((zI σ 0 62) ≤ v2 → wpX11_load_96 v1 0 σ Q) ∧ (¬ (zI σ 0 62) ≤ v2 → (0 ≤ v2 ∧ v2 < 1200) ∧ K59 (v2 + 1) (zsA σ 0 74 (((16 * v1) + v2) % 4096) (zA σ 0 61 v2)))
def wpX11_load_59 (v1 v2 : Int) (σ : ZS) (Q : Int → ZS → Prop) : Prop := lfp1 (fun K59 v2 σ => wpbX11_load_59 K59 v1 v2 σ Q) v2 σ
def wpbX11_load_37 (K37 : Int → ZS → Prop) (v1 v2 : Int) (σ : ZS) (Q : Int → ZS → Prop) : Prop := (-2147483648 ≤ v2 ∧ v2 ≤ 2147483647) ∧ (4096 ≤ v2 → wpX11_load_59 v1 0 σ Q) ∧ (¬ 4096 ≤ v2 → (0 ≤ v2 ∧ v2 < 4096) ∧ K37 (v2 + 1) (zsA σ 0 74 v2 0))
def wpX11_load_37 (v1 v2 : Int) (σ : ZS) (Q : Int → ZS → Prop) : Prop := lfp1 (fun K37 v2 σ => wpbX11_load_37 K37 v1 v2 σ Q) v2 σ
def wpX11_load_16 (σ : ZS) (Q : Int → ZS → Prop) : Prop := wpX11_raise 1 σ (fun (x16 : Int) (σ17 : ZS) => Q x16 σ17)
def wpX11_load (a1 : Int) (σ : ZS) (Q : Int → ZS → Prop) : Prop := (-2147483648 ≤ a1 ∧ a1 ≤ 2147483647) ∧ (a1 < 0 → wpX11_load_16 (zsI σ 0 0 0) Q) ∧ (¬ a1 < 0 → (a1 ≤ 255 → (-2147483648 ≤ (zI σ 0 60) ∧ (zI σ 0 60) ≤ 2147483647) ∧ (¬ (zI σ 0 60) = 0 → wpX11_load_37 a1 0 (zsI σ 0 0 0) Q) ∧ ((zI σ 0 60) = 0 → wpX11_raise 2 (zsI σ 0 0 0) (fun (x23 : Int) (σ24 : ZS) => Q x23 σ24))) ∧ (¬ a1 ≤ 255 → wpX11_load_16 (zsI σ 0 0 0) Q))
set_option maxHeartbeats 4000000 in
set_option maxRecDepth 100000 in
theorem kX11_load (l : Launch) (D : va_G) (dA : Nat → ClassId) (ad : Int → Nat → Nat) (a1 : Int) (σ : ZS) (Q : Int → ZS → Prop) (sz : Nat) (hw : wpX11_load a1 σ Q) : Met l yX11_load (gws yX11_load cX11_load 5 (some .int)) (gR 2 0 0) (gPre D dA [.ref (ad 0 1000), .int (Int32.ofInt a1)] (zR dA ad σ) sz) (va_Qi (zQi Q) (gAt D dA (va_A (zR dA ad σ) sz) (zR dA ad)) (va_A (zR dA ad σ) sz)) 0 0 (va_A (zR dA ad σ) sz) := by
  refine Met.ofW (cc := cX11_load) (maxL := 5) (ret := (some .int)) (by decide) rfl ?_
  intro p e s m args below meth c s₁ B hml hv
  obtain ⟨rfl, hsz, hP, hK, hD0⟩ := hv
  have hx := B.exec
  have hb := B.bytes
  have hr := B.returns
  have hts := atoms_spec (ws := gws yX11_load cX11_load 5 (some .int)) B.pre
  have hg : ∀ w ∈ gw, w.before _ s = true := fun w h => hts w (List.mem_cons_of_mem _ h)
  have hown : s.vm.findClass RX11 = some m.cls := findClass_of_methodNamed B.named
  have hlocks := B.notSynchronized
  subst hsz
  have hD := hD0.self (sz := s.heap.size)
  generalize hAe : va_A (zR dA ad σ) s.heap.size = A at hD ⊢
  have hA : ∀ q : Nat, s.heap.size ≤ q → A q := fun q h => by rw [← hAe]; exact Or.inr h
  have hS : va_S A s.heap s.heap [] := va_S.rf
  have hl := lv_entry ([.ref (ad 0 1000), .int (Int32.ofInt a1)]) (n := 5) (Nat.le_of_ble_eq_true rfl)
  rw [lg_entry_eq]
  generalize (lg_sl ([.ref (ad 0 1000), .int (Int32.ofInt a1)]) ++ List.replicate (5 - (lg_sl ([.ref (ad 0 1000), .int (Int32.ofInt a1)])).length) Slot.unset).toArray = ls at hl ⊢
  have hl : lv_has ls 5 [(0, .ref (ad 0 1000)), (1, .int (Int32.ofInt a1))] := hl
  have hret : ∀ (v : Int) (σ : ZS) (H : Heap) (locs : List Loc) (ls : Array Slot) (pc : Nat), Q v σ → va_P D vwC (zR dA ad σ) H → va_D A (zR dA ad σ) → va_S A s.heap H locs → decode cX11_load pc = .ok (.ireturn, 1) → W p l e (gR 2 0 0) s m #[.ref (ad 0 1000), .int (Int32.ofInt a1)] below meth c H locs 0 0 (MQ below (va_Qi (zQi Q) (gAt D dA A (zR dA ad)) A) #[.ref (ad 0 1000), .int (Int32.ofInt a1)] s 0 0 A) (F0 m pc ls [.int (Int32.ofInt v)]) := fun v σ H locs ls pc hw hP hD hS hd => g_iret hx hb hr rfl hlocks hK σ hP hD hS ⟨v, rfl, hw⟩ (Nat.le_of_ble_eq_true rfl) (Nat.le_of_ble_eq_true rfl) hd
  generalize MQ below (va_Qi (zQi Q) (gAt D dA A (zR dA ad)) A) #[.ref (ad 0 1000), .int (Int32.ofInt a1)] s 0 0 A = QQ at hret ⊢
  have b191 : ∀ (v1 : Int) (K191 : Int → ZS → Prop), (∀ (v2 : Int) (σ : ZS), K191 v2 σ → ∀ (H : Heap) (locs : List Loc) (ls : Array Slot), va_P D vwC (zR dA ad σ) H → va_D A (zR dA ad σ) → va_S A s.heap H locs → lv_has ls 5 [(0, .ref (ad 0 1000)), (1, .int (Int32.ofInt v1)), (2, .int (Int32.ofInt v2))] → W p l e (gR 2 0 0) s m #[.ref (ad 0 1000), .int (Int32.ofInt a1)] below meth c H locs 0 0 QQ (F0 m 191 ls [])) → ∀ (v2 : Int) (σ : ZS), wpbX11_load_191 K191 v1 v2 σ Q → ∀ (H : Heap) (locs : List Loc) (ls : Array Slot), va_P D vwC (zR dA ad σ) H → va_D A (zR dA ad σ) → va_S A s.heap H locs → lv_has ls 5 [(0, .ref (ad 0 1000)), (1, .int (Int32.ofInt v1)), (2, .int (Int32.ofInt v2))] → W p l e (gR 2 0 0) s m #[.ref (ad 0 1000), .int (Int32.ofInt a1)] below meth c H locs 0 0 QQ (F0 m 191 ls []) := by
    intro v1 K191 hK191
    intro v2 σ hw H locs ls hP hD hS hl
    unfold wpbX11_load_191 at hw
    refine lv_iload_n hx hb dX11_load_191 rfl (lv_at hl 2 rfl) ?_
    refine lv_bipush (v := Int32.ofInt 16) hx hb dX11_load_192 (by decide) ?_
    obtain ⟨o1, hw⟩ := hw
    refine z_icmp_ge (tgt := 210) hx hb o1 (by decide) dX11_load_194 (by decide) (fun k2 => ?_) (fun k2 => ?_)
    · replace hw := hw.1 k2
      refine lv_aload_n hx hb dX11_load_210 rfl (lv_at hl 0 rfl) ?_
      refine zgR0_75 hx hb hg hown hK hP q1690 dX11_load_211 ?_
      refine lv_bipush (v := Int32.ofInt 8) hx hb dX11_load_214 (by decide) ?_
      refine lv_iload_n hx hb dX11_load_216 rfl (lv_at hl 1 rfl) ?_
      refine zsR0_75 (v := v1) hx hb (by decide) hK hP hD hS dX11_load_217 (fun H locs hP hD hS => ?_)
      refine lv_aload_n hx hb dX11_load_218 rfl (lv_at hl 0 rfl) ?_
      refine zgR0_75 hx hb hg hown hK hP q1690 dX11_load_219 ?_
      refine lv_bipush (v := Int32.ofInt 10) hx hb dX11_load_222 (by decide) ?_
      refine lv_iload_n hx hb dX11_load_224 rfl (lv_at hl 1 rfl) ?_
      refine zsR0_75 (v := v1) hx hb (by decide) hK hP hD hS dX11_load_225 (fun H locs hP hD hS => ?_)
      refine lv_aload_n hx hb dX11_load_226 rfl (lv_at hl 0 rfl) ?_
      refine zgR0_75 hx hb hg hown hK hP q1690 dX11_load_227 ?_
      refine lv_bipush (v := Int32.ofInt 11) hx hb dX11_load_230 (by decide) ?_
      refine lv_iload_n hx hb dX11_load_232 rfl (lv_at hl 1 rfl) ?_
      refine zsR0_75 (v := v1) hx hb (by decide) hK hP hD hS dX11_load_233 (fun H locs hP hD hS => ?_)
      refine lv_aload_n hx hb dX11_load_234 rfl (lv_at hl 0 rfl) ?_
      refine zgR0_75 hx hb hg hown hK hP q1690 dX11_load_235 ?_
      refine lv_bipush (v := Int32.ofInt 9) hx hb dX11_load_238 (by decide) ?_
      refine lv_iload_n hx hb dX11_load_240 rfl (lv_at hl 1 rfl) ?_
      refine lv_aload_n hx hb dX11_load_241 rfl (lv_at hl 0 rfl) ?_
      refine zgR0_65 hx hb hg hown hK hP q1680 dX11_load_242 ?_
      refine g_nrm (y := Int32.ofInt (zI σ 0 65)) rfl ?_
      refine z_iadd hx hb dX11_load_245 ?_
      refine lv_ldcw hx hb hown (hg _ q1907) dX11_load_246 ?_
      refine g_nrm (y := Int32.ofInt 65535) (by decide) ?_
      refine z_iandK (M := 65536) hx hb 16 (by decide) (by decide) (by decide) dX11_load_249 ?_
      refine zsR0_75 (v := ((v1 + (zI σ 0 65)) % 65536)) hx hb (by decide) hK hP hD hS dX11_load_250 (fun H locs hP hD hS => ?_)
      refine lv_aload_n hx hb dX11_load_251 rfl (lv_at hl 0 rfl) ?_
      refine zgR0_75 hx hb hg hown hK hP q1690 dX11_load_252 ?_
      refine lv_bipush (v := Int32.ofInt 12) hx hb dX11_load_255 (by decide) ?_
      refine lv_aload_n hx hb dX11_load_257 rfl (lv_at hl 0 rfl) ?_
      refine zgR0_66 hx hb hg hown hK hP q1681 dX11_load_258 ?_
      refine g_nrm (y := Int32.ofInt (zI σ 0 66)) rfl ?_
      refine zsR0_75 (v := (zI σ 0 66)) hx hb (by decide) hK hP hD hS dX11_load_261 (fun H locs hP hD hS => ?_)
      refine lv_aload_n hx hb dX11_load_262 rfl (lv_at hl 0 rfl) ?_
      refine lv_iconst (v := Int32.ofInt 0) hx hb dX11_load_263 (by decide) ?_
      refine zpR0_76 (v := 0) hx hb hg hown (by decide) hK hP hD hS q1691 dX11_load_264 (fun H locs hP hD hS => ?_)
      refine lv_aload_n hx hb dX11_load_267 rfl (lv_at hl 0 rfl) ?_
      refine lv_iconst (v := Int32.ofInt 0) hx hb dX11_load_268 (by decide) ?_
      refine zpR0_77 (v := 0) hx hb hg hown hK hP hD hS q1692 dX11_load_269 (fun H locs hP hD hS => ?_)
      refine lv_aload_n hx hb dX11_load_272 rfl (lv_at hl 0 rfl) ?_
      refine lv_iconst (v := Int32.ofInt 0) hx hb dX11_load_273 (by decide) ?_
      refine zpR0_78 (v := 0) hx hb hg hown hK hP hD hS q1693 dX11_load_274 (fun H locs hP hD hS => ?_)
      refine lv_aload_n hx hb dX11_load_277 rfl (lv_at hl 0 rfl) ?_
      refine zgR0_66 hx hb hg hown hK hP q1681 dX11_load_278 ?_
      refine g_nrm (y := Int32.ofInt (zI σ 0 66)) rfl ?_
      exact hret (zI σ 0 66) (zsI (zsI (zsI (zsA (zsA (zsA (zsA (zsA σ 0 75 8 v1) 0 75 10 v1) 0 75 11 v1) 0 75 9 ((v1 + (zI σ 0 65)) % 65536)) 0 75 12 (zI σ 0 66)) 0 76 0) 0 77 0) 0 78 0) _ _ _ _ hw hP hD hS dX11_load_281
    · replace hw := hw.2 k2
      refine lv_aload_n hx hb dX11_load_197 rfl (lv_at hl 0 rfl) ?_
      refine zgR0_75 hx hb hg hown hK hP q1690 dX11_load_198 ?_
      refine lv_iload_n hx hb dX11_load_201 rfl (lv_at hl 2 rfl) ?_
      refine lv_iconst (v := Int32.ofInt 0) hx hb dX11_load_202 (by decide) ?_
      obtain ⟨o3, hw⟩ := hw
      refine zsR0_75 (v := 0) hx hb o3 hK hP hD hS dX11_load_203 (fun H locs hP hD hS => ?_)
      refine lv_iinc (v := Int32.ofInt (v2 + 1)) (lv' := [(2, .int (Int32.ofInt (v2 + 1))), (0, .ref (ad 0 1000)), (1, .int (Int32.ofInt v1))]) hx hb dX11_load_204 hl (k := 2) rfl (Int32.ofInt_add _ _).symm (by decide) rfl (fun ls hl => ?_)
      refine lv_goto (tgt := 191) hx hb dX11_load_207 (by decide) ?_
      exact hK191 (v2 + 1) (zsA σ 0 75 v2 0) hw _ _ _ hP hD hS (lv_sub hl [1, 2, 0] rfl)
  have j191 : ∀ (v1 v2 : Int) (σ : ZS), ∀ (H : Heap) (locs : List Loc) (ls : Array Slot), va_P D vwC (zR dA ad σ) H → va_D A (zR dA ad σ) → va_S A s.heap H locs → lv_has ls 5 [(0, .ref (ad 0 1000)), (1, .int (Int32.ofInt v1)), (2, .int (Int32.ofInt v2))] → wpX11_load_191 v1 v2 σ Q → W p l e (gR 2 0 0) s m #[.ref (ad 0 1000), .int (Int32.ofInt a1)] below meth c H locs 0 0 QQ (F0 m 191 ls []) := by
    intro v1 v2 σ H locs ls hP hD hS hl hw
    exact hw (fun v2 σ => ∀ (H : Heap) (locs : List Loc) (ls : Array Slot), va_P D vwC (zR dA ad σ) H → va_D A (zR dA ad σ) → va_S A s.heap H locs → lv_has ls 5 [(0, .ref (ad 0 1000)), (1, .int (Int32.ofInt v1)), (2, .int (Int32.ofInt v2))] → W p l e (gR 2 0 0) s m #[.ref (ad 0 1000), .int (Int32.ofInt a1)] below meth c H locs 0 0 QQ (F0 m 191 ls [])) (b191 v1 (fun v2 σ => ∀ (H : Heap) (locs : List Loc) (ls : Array Slot), va_P D vwC (zR dA ad σ) H → va_D A (zR dA ad σ) → va_S A s.heap H locs → lv_has ls 5 [(0, .ref (ad 0 1000)), (1, .int (Int32.ofInt v1)), (2, .int (Int32.ofInt v2))] → W p l e (gR 2 0 0) s m #[.ref (ad 0 1000), .int (Int32.ofInt a1)] below meth c H locs 0 0 QQ (F0 m 191 ls [])) (fun v2 σ h => h)) _ _ _ hP hD hS hl
  have b96 : ∀ (v1 : Int) (K96 : Int → ZS → Prop), (∀ (v2 : Int) (σ : ZS), K96 v2 σ → ∀ (H : Heap) (locs : List Loc) (ls : Array Slot), va_P D vwC (zR dA ad σ) H → va_D A (zR dA ad σ) → va_S A s.heap H locs → lv_has ls 5 [(0, .ref (ad 0 1000)), (1, .int (Int32.ofInt v1)), (2, .int (Int32.ofInt v2))] → W p l e (gR 2 0 0) s m #[.ref (ad 0 1000), .int (Int32.ofInt a1)] below meth c H locs 0 0 QQ (F0 m 96 ls [])) → ∀ (v2 : Int) (σ : ZS), wpbX11_load_96 K96 v1 v2 σ Q → ∀ (H : Heap) (locs : List Loc) (ls : Array Slot), va_P D vwC (zR dA ad σ) H → va_D A (zR dA ad σ) → va_S A s.heap H locs → lv_has ls 5 [(0, .ref (ad 0 1000)), (1, .int (Int32.ofInt v1)), (2, .int (Int32.ofInt v2))] → W p l e (gR 2 0 0) s m #[.ref (ad 0 1000), .int (Int32.ofInt a1)] below meth c H locs 0 0 QQ (F0 m 96 ls []) := by
    intro v1 K96 hK96
    intro v2 σ hw H locs ls hP hD hS hl
    unfold wpbX11_load_96 at hw
    refine lv_iload_n hx hb dX11_load_96 rfl (lv_at hl 2 rfl) ?_
    refine lv_aload_n hx hb dX11_load_97 rfl (lv_at hl 0 rfl) ?_
    refine zgR0_64 hx hb hg hown hK hP q1679 dX11_load_98 ?_
    obtain ⟨o4, hw⟩ := hw
    obtain ⟨o5, hw⟩ := hw
    refine z_icmp_ge (tgt := 189) hx hb o4 o5 dX11_load_101 (by decide) (fun k6 => ?_) (fun k6 => ?_)
    · replace hw := hw.1 k6
      refine lv_iconst (v := Int32.ofInt 0) hx hb dX11_load_189 (by decide) ?_
      refine lv_istore_n (lv' := [(2, .int (Int32.ofInt 0)), (0, .ref (ad 0 1000)), (1, .int (Int32.ofInt v1))]) hx hb dX11_load_190 rfl hl (by decide) rfl (fun ls hl => ?_)
      exact j191 v1 0 σ _ _ _ hP hD hS (lv_sub hl [1, 2, 0] rfl) hw
    · replace hw := hw.2 k6
      refine lv_bipush (v := Int32.ofInt 16) hx hb dX11_load_104 (by decide) ?_
      refine lv_iload_n hx hb dX11_load_106 rfl (lv_at hl 1 rfl) ?_
      refine z_imul hx hb dX11_load_107 ?_
      refine lv_aload_n hx hb dX11_load_108 rfl (lv_at hl 0 rfl) ?_
      refine zgR0_63 hx hb hg hown hK hP q1678 dX11_load_109 ?_
      refine lv_iload_n hx hb dX11_load_112 rfl (lv_at hl 2 rfl) ?_
      obtain ⟨o7, hw⟩ := hw
      refine zlR0_63 hx hb o7 hK hP dX11_load_113 ?_
      refine z_iadd hx hb dX11_load_114 ?_
      refine lv_istore_n (lv' := [(3, .int (Int32.ofInt ((16 * v1) + (zA σ 0 63 v2)))), (0, .ref (ad 0 1000)), (1, .int (Int32.ofInt v1)), (2, .int (Int32.ofInt v2))]) hx hb dX11_load_115 rfl hl (by decide) rfl (fun ls hl => ?_)
      refine lv_aload_n hx hb dX11_load_116 rfl (lv_at hl 1 rfl) ?_
      refine zgR0_74 hx hb hg hown hK hP q1689 dX11_load_117 ?_
      refine lv_iload_n hx hb dX11_load_120 rfl (lv_at hl 0 rfl) ?_
      refine lv_sipush (v := Int32.ofInt 4095) hx hb dX11_load_121 (by decide) ?_
      refine z_iandK (M := 4096) hx hb 12 (by decide) (by decide) (by decide) dX11_load_124 ?_
      refine zlR0_74 hx hb (by clear hw; omega) hK hP dX11_load_125 ?_
      refine lv_aload_n hx hb dX11_load_126 rfl (lv_at hl 1 rfl) ?_
      refine zgR0_74 hx hb hg hown hK hP q1689 dX11_load_127 ?_
      refine lv_iload_n hx hb dX11_load_130 rfl (lv_at hl 0 rfl) ?_
      refine lv_iconst (v := Int32.ofInt 1) hx hb dX11_load_131 (by decide) ?_
      refine z_iadd hx hb dX11_load_132 ?_
      refine lv_sipush (v := Int32.ofInt 4095) hx hb dX11_load_133 (by decide) ?_
      refine z_iandK (M := 4096) hx hb 12 (by decide) (by decide) (by decide) dX11_load_136 ?_
      refine zlR0_74 hx hb (by clear hw; omega) hK hP dX11_load_137 ?_
      refine lv_bipush (v := Int32.ofInt 8) hx hb dX11_load_138 (by decide) ?_
      refine z_ishlK (M := 256) hx hb 8 (by decide) (by decide) dX11_load_140 ?_
      refine z_ior hx hb dX11_load_141 ?_
      refine lv_iload_n hx hb dX11_load_142 rfl (lv_at hl 2 rfl) ?_
      refine z_iadd hx hb dX11_load_143 ?_
      refine lv_istore (lv' := [(4, .int (Int32.ofInt ((zor (zA σ 0 74 (((16 * v1) + (zA σ 0 63 v2)) % 4096)) ((zA σ 0 74 ((((16 * v1) + (zA σ 0 63 v2)) + 1) % 4096)) * 256)) + v1))), (3, .int (Int32.ofInt ((16 * v1) + (zA σ 0 63 v2)))), (0, .ref (ad 0 1000)), (1, .int (Int32.ofInt v1)), (2, .int (Int32.ofInt v2))]) hx hb dX11_load_144 hl (by decide) rfl (fun ls hl => ?_)
      refine lv_aload_n hx hb dX11_load_146 rfl (lv_at hl 2 rfl) ?_
      refine zgR0_74 hx hb hg hown hK hP q1689 dX11_load_147 ?_
      refine lv_iload_n hx hb dX11_load_150 rfl (lv_at hl 1 rfl) ?_
      refine lv_sipush (v := Int32.ofInt 4095) hx hb dX11_load_151 (by decide) ?_
      refine z_iandK (M := 4096) hx hb 12 (by decide) (by decide) (by decide) dX11_load_154 ?_
      refine lv_iload hx hb dX11_load_155 (lv_at hl 0 rfl) ?_
      refine lv_sipush (v := Int32.ofInt 255) hx hb dX11_load_157 (by decide) ?_
      refine z_iandK (M := 256) hx hb 8 (by decide) (by decide) (by decide) dX11_load_160 ?_
      refine zsR0_74 (v := (((zor (zA σ 0 74 (((16 * v1) + (zA σ 0 63 v2)) % 4096)) ((zA σ 0 74 ((((16 * v1) + (zA σ 0 63 v2)) + 1) % 4096)) * 256)) + v1) % 256)) hx hb (by clear hw; omega) hK hP hD hS dX11_load_161 (fun H locs hP hD hS => ?_)
      refine lv_aload_n hx hb dX11_load_162 rfl (lv_at hl 2 rfl) ?_
      refine zgR0_74 hx hb hg hown hK hP q1689 dX11_load_163 ?_
      refine lv_iload_n hx hb dX11_load_166 rfl (lv_at hl 1 rfl) ?_
      refine lv_iconst (v := Int32.ofInt 1) hx hb dX11_load_167 (by decide) ?_
      refine z_iadd hx hb dX11_load_168 ?_
      refine lv_sipush (v := Int32.ofInt 4095) hx hb dX11_load_169 (by decide) ?_
      refine z_iandK (M := 4096) hx hb 12 (by decide) (by decide) (by decide) dX11_load_172 ?_
      refine lv_iload hx hb dX11_load_173 (lv_at hl 0 rfl) ?_
      refine lv_bipush (v := Int32.ofInt 8) hx hb dX11_load_175 (by decide) ?_
      obtain ⟨o8, hw⟩ := hw
      refine z_ishrK (M := 256) hx hb 8 (by decide) (by decide) (by decide) o8 dX11_load_177 ?_
      refine lv_sipush (v := Int32.ofInt 255) hx hb dX11_load_178 (by decide) ?_
      refine z_iandK (M := 256) hx hb 8 (by decide) (by decide) (by decide) dX11_load_181 ?_
      refine zsR0_74 (v := ((((zor (zA σ 0 74 (((16 * v1) + (zA σ 0 63 v2)) % 4096)) ((zA σ 0 74 ((((16 * v1) + (zA σ 0 63 v2)) + 1) % 4096)) * 256)) + v1) / 256) % 256)) hx hb (by clear hw; omega) hK hP hD hS dX11_load_182 (fun H locs hP hD hS => ?_)
      refine lv_iinc (v := Int32.ofInt (v2 + 1)) (lv' := [(2, .int (Int32.ofInt (v2 + 1))), (4, .int (Int32.ofInt ((zor (zA σ 0 74 (((16 * v1) + (zA σ 0 63 v2)) % 4096)) ((zA σ 0 74 ((((16 * v1) + (zA σ 0 63 v2)) + 1) % 4096)) * 256)) + v1))), (3, .int (Int32.ofInt ((16 * v1) + (zA σ 0 63 v2)))), (0, .ref (ad 0 1000)), (1, .int (Int32.ofInt v1))]) hx hb dX11_load_183 hl (k := 4) rfl (Int32.ofInt_add _ _).symm (by decide) rfl (fun ls hl => ?_)
      refine lv_goto (tgt := 96) hx hb dX11_load_186 (by decide) ?_
      exact hK96 (v2 + 1) (zsA (zsA σ 0 74 (((16 * v1) + (zA σ 0 63 v2)) % 4096) (((zor (zA σ 0 74 (((16 * v1) + (zA σ 0 63 v2)) % 4096)) ((zA σ 0 74 ((((16 * v1) + (zA σ 0 63 v2)) + 1) % 4096)) * 256)) + v1) % 256)) 0 74 ((((16 * v1) + (zA σ 0 63 v2)) + 1) % 4096) ((((zor (zA σ 0 74 (((16 * v1) + (zA σ 0 63 v2)) % 4096)) ((zA σ 0 74 ((((16 * v1) + (zA σ 0 63 v2)) + 1) % 4096)) * 256)) + v1) / 256) % 256)) hw _ _ _ hP hD hS (lv_sub hl [3, 4, 0] rfl)
  have j96 : ∀ (v1 v2 : Int) (σ : ZS), ∀ (H : Heap) (locs : List Loc) (ls : Array Slot), va_P D vwC (zR dA ad σ) H → va_D A (zR dA ad σ) → va_S A s.heap H locs → lv_has ls 5 [(0, .ref (ad 0 1000)), (1, .int (Int32.ofInt v1)), (2, .int (Int32.ofInt v2))] → wpX11_load_96 v1 v2 σ Q → W p l e (gR 2 0 0) s m #[.ref (ad 0 1000), .int (Int32.ofInt a1)] below meth c H locs 0 0 QQ (F0 m 96 ls []) := by
    intro v1 v2 σ H locs ls hP hD hS hl hw
    exact hw (fun v2 σ => ∀ (H : Heap) (locs : List Loc) (ls : Array Slot), va_P D vwC (zR dA ad σ) H → va_D A (zR dA ad σ) → va_S A s.heap H locs → lv_has ls 5 [(0, .ref (ad 0 1000)), (1, .int (Int32.ofInt v1)), (2, .int (Int32.ofInt v2))] → W p l e (gR 2 0 0) s m #[.ref (ad 0 1000), .int (Int32.ofInt a1)] below meth c H locs 0 0 QQ (F0 m 96 ls [])) (b96 v1 (fun v2 σ => ∀ (H : Heap) (locs : List Loc) (ls : Array Slot), va_P D vwC (zR dA ad σ) H → va_D A (zR dA ad σ) → va_S A s.heap H locs → lv_has ls 5 [(0, .ref (ad 0 1000)), (1, .int (Int32.ofInt v1)), (2, .int (Int32.ofInt v2))] → W p l e (gR 2 0 0) s m #[.ref (ad 0 1000), .int (Int32.ofInt a1)] below meth c H locs 0 0 QQ (F0 m 96 ls [])) (fun v2 σ h => h)) _ _ _ hP hD hS hl
  have b59 : ∀ (v1 : Int) (K59 : Int → ZS → Prop), (∀ (v2 : Int) (σ : ZS), K59 v2 σ → ∀ (H : Heap) (locs : List Loc) (ls : Array Slot), va_P D vwC (zR dA ad σ) H → va_D A (zR dA ad σ) → va_S A s.heap H locs → lv_has ls 5 [(0, .ref (ad 0 1000)), (1, .int (Int32.ofInt v1)), (2, .int (Int32.ofInt v2))] → W p l e (gR 2 0 0) s m #[.ref (ad 0 1000), .int (Int32.ofInt a1)] below meth c H locs 0 0 QQ (F0 m 59 ls [])) → ∀ (v2 : Int) (σ : ZS), wpbX11_load_59 K59 v1 v2 σ Q → ∀ (H : Heap) (locs : List Loc) (ls : Array Slot), va_P D vwC (zR dA ad σ) H → va_D A (zR dA ad σ) → va_S A s.heap H locs → lv_has ls 5 [(0, .ref (ad 0 1000)), (1, .int (Int32.ofInt v1)), (2, .int (Int32.ofInt v2))] → W p l e (gR 2 0 0) s m #[.ref (ad 0 1000), .int (Int32.ofInt a1)] below meth c H locs 0 0 QQ (F0 m 59 ls []) := by
    intro v1 K59 hK59
    intro v2 σ hw H locs ls hP hD hS hl
    unfold wpbX11_load_59 at hw
    refine lv_iload_n hx hb dX11_load_59 rfl (lv_at hl 2 rfl) ?_
    refine lv_aload_n hx hb dX11_load_60 rfl (lv_at hl 0 rfl) ?_
    refine zgR0_62 hx hb hg hown hK hP q1677 dX11_load_61 ?_
    obtain ⟨o9, hw⟩ := hw
    obtain ⟨o10, hw⟩ := hw
    refine z_icmp_ge (tgt := 94) hx hb o9 o10 dX11_load_64 (by decide) (fun k11 => ?_) (fun k11 => ?_)
    · replace hw := hw.1 k11
      refine lv_iconst (v := Int32.ofInt 0) hx hb dX11_load_94 (by decide) ?_
      refine lv_istore_n (lv' := [(2, .int (Int32.ofInt 0)), (0, .ref (ad 0 1000)), (1, .int (Int32.ofInt v1))]) hx hb dX11_load_95 rfl hl (by decide) rfl (fun ls hl => ?_)
      exact j96 v1 0 σ _ _ _ hP hD hS (lv_sub hl [1, 2, 0] rfl) hw
    · replace hw := hw.2 k11
      refine lv_aload_n hx hb dX11_load_67 rfl (lv_at hl 0 rfl) ?_
      refine zgR0_74 hx hb hg hown hK hP q1689 dX11_load_68 ?_
      refine lv_bipush (v := Int32.ofInt 16) hx hb dX11_load_71 (by decide) ?_
      refine lv_iload_n hx hb dX11_load_73 rfl (lv_at hl 1 rfl) ?_
      refine z_imul hx hb dX11_load_74 ?_
      refine lv_iload_n hx hb dX11_load_75 rfl (lv_at hl 2 rfl) ?_
      refine z_iadd hx hb dX11_load_76 ?_
      refine lv_sipush (v := Int32.ofInt 4095) hx hb dX11_load_77 (by decide) ?_
      refine z_iandK (M := 4096) hx hb 12 (by decide) (by decide) (by decide) dX11_load_80 ?_
      refine lv_aload_n hx hb dX11_load_81 rfl (lv_at hl 0 rfl) ?_
      refine zgR0_61 hx hb hg hown hK hP q1676 dX11_load_82 ?_
      refine lv_iload_n hx hb dX11_load_85 rfl (lv_at hl 2 rfl) ?_
      obtain ⟨o12, hw⟩ := hw
      refine zlR0_61 hx hb o12 hK hP dX11_load_86 ?_
      refine zsR0_74 (v := (zA σ 0 61 v2)) hx hb (by clear hw; omega) hK hP hD hS dX11_load_87 (fun H locs hP hD hS => ?_)
      refine lv_iinc (v := Int32.ofInt (v2 + 1)) (lv' := [(2, .int (Int32.ofInt (v2 + 1))), (0, .ref (ad 0 1000)), (1, .int (Int32.ofInt v1))]) hx hb dX11_load_88 hl (k := 2) rfl (Int32.ofInt_add _ _).symm (by decide) rfl (fun ls hl => ?_)
      refine lv_goto (tgt := 59) hx hb dX11_load_91 (by decide) ?_
      exact hK59 (v2 + 1) (zsA σ 0 74 (((16 * v1) + v2) % 4096) (zA σ 0 61 v2)) hw _ _ _ hP hD hS (lv_sub hl [1, 2, 0] rfl)
  have j59 : ∀ (v1 v2 : Int) (σ : ZS), ∀ (H : Heap) (locs : List Loc) (ls : Array Slot), va_P D vwC (zR dA ad σ) H → va_D A (zR dA ad σ) → va_S A s.heap H locs → lv_has ls 5 [(0, .ref (ad 0 1000)), (1, .int (Int32.ofInt v1)), (2, .int (Int32.ofInt v2))] → wpX11_load_59 v1 v2 σ Q → W p l e (gR 2 0 0) s m #[.ref (ad 0 1000), .int (Int32.ofInt a1)] below meth c H locs 0 0 QQ (F0 m 59 ls []) := by
    intro v1 v2 σ H locs ls hP hD hS hl hw
    exact hw (fun v2 σ => ∀ (H : Heap) (locs : List Loc) (ls : Array Slot), va_P D vwC (zR dA ad σ) H → va_D A (zR dA ad σ) → va_S A s.heap H locs → lv_has ls 5 [(0, .ref (ad 0 1000)), (1, .int (Int32.ofInt v1)), (2, .int (Int32.ofInt v2))] → W p l e (gR 2 0 0) s m #[.ref (ad 0 1000), .int (Int32.ofInt a1)] below meth c H locs 0 0 QQ (F0 m 59 ls [])) (b59 v1 (fun v2 σ => ∀ (H : Heap) (locs : List Loc) (ls : Array Slot), va_P D vwC (zR dA ad σ) H → va_D A (zR dA ad σ) → va_S A s.heap H locs → lv_has ls 5 [(0, .ref (ad 0 1000)), (1, .int (Int32.ofInt v1)), (2, .int (Int32.ofInt v2))] → W p l e (gR 2 0 0) s m #[.ref (ad 0 1000), .int (Int32.ofInt a1)] below meth c H locs 0 0 QQ (F0 m 59 ls [])) (fun v2 σ h => h)) _ _ _ hP hD hS hl
  have b37 : ∀ (v1 : Int) (K37 : Int → ZS → Prop), (∀ (v2 : Int) (σ : ZS), K37 v2 σ → ∀ (H : Heap) (locs : List Loc) (ls : Array Slot), va_P D vwC (zR dA ad σ) H → va_D A (zR dA ad σ) → va_S A s.heap H locs → lv_has ls 5 [(0, .ref (ad 0 1000)), (1, .int (Int32.ofInt v1)), (2, .int (Int32.ofInt v2))] → W p l e (gR 2 0 0) s m #[.ref (ad 0 1000), .int (Int32.ofInt a1)] below meth c H locs 0 0 QQ (F0 m 37 ls [])) → ∀ (v2 : Int) (σ : ZS), wpbX11_load_37 K37 v1 v2 σ Q → ∀ (H : Heap) (locs : List Loc) (ls : Array Slot), va_P D vwC (zR dA ad σ) H → va_D A (zR dA ad σ) → va_S A s.heap H locs → lv_has ls 5 [(0, .ref (ad 0 1000)), (1, .int (Int32.ofInt v1)), (2, .int (Int32.ofInt v2))] → W p l e (gR 2 0 0) s m #[.ref (ad 0 1000), .int (Int32.ofInt a1)] below meth c H locs 0 0 QQ (F0 m 37 ls []) := by
    intro v1 K37 hK37
    intro v2 σ hw H locs ls hP hD hS hl
    unfold wpbX11_load_37 at hw
    refine lv_iload_n hx hb dX11_load_37 rfl (lv_at hl 2 rfl) ?_
    refine lv_sipush (v := Int32.ofInt 4096) hx hb dX11_load_38 (by decide) ?_
    obtain ⟨o13, hw⟩ := hw
    refine z_icmp_ge (tgt := 57) hx hb o13 (by decide) dX11_load_41 (by decide) (fun k14 => ?_) (fun k14 => ?_)
    · replace hw := hw.1 k14
      refine lv_iconst (v := Int32.ofInt 0) hx hb dX11_load_57 (by decide) ?_
      refine lv_istore_n (lv' := [(2, .int (Int32.ofInt 0)), (0, .ref (ad 0 1000)), (1, .int (Int32.ofInt v1))]) hx hb dX11_load_58 rfl hl (by decide) rfl (fun ls hl => ?_)
      exact j59 v1 0 σ _ _ _ hP hD hS (lv_sub hl [1, 2, 0] rfl) hw
    · replace hw := hw.2 k14
      refine lv_aload_n hx hb dX11_load_44 rfl (lv_at hl 0 rfl) ?_
      refine zgR0_74 hx hb hg hown hK hP q1689 dX11_load_45 ?_
      refine lv_iload_n hx hb dX11_load_48 rfl (lv_at hl 2 rfl) ?_
      refine lv_iconst (v := Int32.ofInt 0) hx hb dX11_load_49 (by decide) ?_
      obtain ⟨o15, hw⟩ := hw
      refine zsR0_74 (v := 0) hx hb o15 hK hP hD hS dX11_load_50 (fun H locs hP hD hS => ?_)
      refine lv_iinc (v := Int32.ofInt (v2 + 1)) (lv' := [(2, .int (Int32.ofInt (v2 + 1))), (0, .ref (ad 0 1000)), (1, .int (Int32.ofInt v1))]) hx hb dX11_load_51 hl (k := 2) rfl (Int32.ofInt_add _ _).symm (by decide) rfl (fun ls hl => ?_)
      refine lv_goto (tgt := 37) hx hb dX11_load_54 (by decide) ?_
      exact hK37 (v2 + 1) (zsA σ 0 74 v2 0) hw _ _ _ hP hD hS (lv_sub hl [1, 2, 0] rfl)
  have j37 : ∀ (v1 v2 : Int) (σ : ZS), ∀ (H : Heap) (locs : List Loc) (ls : Array Slot), va_P D vwC (zR dA ad σ) H → va_D A (zR dA ad σ) → va_S A s.heap H locs → lv_has ls 5 [(0, .ref (ad 0 1000)), (1, .int (Int32.ofInt v1)), (2, .int (Int32.ofInt v2))] → wpX11_load_37 v1 v2 σ Q → W p l e (gR 2 0 0) s m #[.ref (ad 0 1000), .int (Int32.ofInt a1)] below meth c H locs 0 0 QQ (F0 m 37 ls []) := by
    intro v1 v2 σ H locs ls hP hD hS hl hw
    exact hw (fun v2 σ => ∀ (H : Heap) (locs : List Loc) (ls : Array Slot), va_P D vwC (zR dA ad σ) H → va_D A (zR dA ad σ) → va_S A s.heap H locs → lv_has ls 5 [(0, .ref (ad 0 1000)), (1, .int (Int32.ofInt v1)), (2, .int (Int32.ofInt v2))] → W p l e (gR 2 0 0) s m #[.ref (ad 0 1000), .int (Int32.ofInt a1)] below meth c H locs 0 0 QQ (F0 m 37 ls [])) (b37 v1 (fun v2 σ => ∀ (H : Heap) (locs : List Loc) (ls : Array Slot), va_P D vwC (zR dA ad σ) H → va_D A (zR dA ad σ) → va_S A s.heap H locs → lv_has ls 5 [(0, .ref (ad 0 1000)), (1, .int (Int32.ofInt v1)), (2, .int (Int32.ofInt v2))] → W p l e (gR 2 0 0) s m #[.ref (ad 0 1000), .int (Int32.ofInt a1)] below meth c H locs 0 0 QQ (F0 m 37 ls [])) (fun v2 σ h => h)) _ _ _ hP hD hS hl
  have j16 : ∀ (σ : ZS), ∀ (H : Heap) (locs : List Loc) (ls : Array Slot), va_P D vwC (zR dA ad σ) H → va_D A (zR dA ad σ) → va_S A s.heap H locs → lv_has ls 5 [(0, .ref (ad 0 1000))] → wpX11_load_16 σ Q → W p l e (gR 2 0 0) s m #[.ref (ad 0 1000), .int (Int32.ofInt a1)] below meth c H locs 0 0 QQ (F0 m 16 ls []) := by
    intro σ H locs ls hP hD hS hl hw
    unfold wpX11_load_16 at hw
    refine lv_aload_n hx hb dX11_load_16 rfl (lv_at hl 0 rfl) ?_
    refine lv_iconst (v := Int32.ofInt 1) hx hb dX11_load_17 (by decide) ?_
    refine z_Vi (n := 1) (As := [.int (Int32.ofInt 1)]) (rest := []) hx hb hml hg hown hK hP hD hS hA (kX11_raise l D dA ad 1 σ _ _ hw) (zoR0) rfl q1883 q160 q1880 q1882 q77 (by decide +kernel) ⟨(Nat.le_of_ble_eq_true rfl), (Nat.le_of_ble_eq_true rfl)⟩ rfl hl.1 rfl (Nat.le_of_ble_eq_true rfl) dX11_load_18 ⟨(Nat.le_of_ble_eq_true rfl), (Nat.le_of_ble_eq_true rfl)⟩ (fun x16 σ17 H locs hw hP hD hS => ?_)
    exact hret x16 σ17 _ _ _ _ hw hP hD hS dX11_load_21
  unfold wpX11_load at hw
  refine lv_aload_n hx hb dX11_load_0 rfl (lv_at hl 0 rfl) ?_
  refine lv_iconst (v := Int32.ofInt 0) hx hb dX11_load_1 (by decide) ?_
  refine zpR0_0 (v := 0) hx hb hg hown hK hP hD hS q1615 dX11_load_2 (fun H locs hP hD hS => ?_)
  refine lv_iload_n hx hb dX11_load_5 rfl (lv_at hl 1 rfl) ?_
  obtain ⟨o18, hw⟩ := hw
  refine z_if_lt (tgt := 16) hx hb o18 dX11_load_6 (by decide) (fun k19 => ?_) (fun k19 => ?_)
  · replace hw := hw.1 k19
    exact j16 (zsI σ 0 0 0) _ _ _ hP hD hS (lv_sub hl [0] rfl) hw
  · replace hw := hw.2 k19
    refine lv_iload_n hx hb dX11_load_9 rfl (lv_at hl 1 rfl) ?_
    refine lv_sipush (v := Int32.ofInt 255) hx hb dX11_load_10 (by decide) ?_
    refine z_icmp_le (tgt := 22) hx hb o18 (by decide) dX11_load_13 (by decide) (fun k20 => ?_) (fun k20 => ?_)
    · replace hw := hw.1 k20
      refine lv_aload_n hx hb dX11_load_22 rfl (lv_at hl 0 rfl) ?_
      refine zgR0_60 hx hb hg hown hK hP q1675 dX11_load_23 ?_
      refine g_nrm (y := Int32.ofInt (zI σ 0 60)) rfl ?_
      obtain ⟨o21, hw⟩ := hw
      refine z_if_ne (tgt := 35) hx hb o21 dX11_load_26 (by decide) (fun k22 => ?_) (fun k22 => ?_)
      · replace hw := hw.1 k22
        refine lv_iconst (v := Int32.ofInt 0) hx hb dX11_load_35 (by decide) ?_
        refine lv_istore_n (lv' := [(2, .int (Int32.ofInt 0)), (0, .ref (ad 0 1000)), (1, .int (Int32.ofInt a1))]) hx hb dX11_load_36 rfl hl (by decide) rfl (fun ls hl => ?_)
        exact j37 a1 0 (zsI σ 0 0 0) _ _ _ hP hD hS (lv_sub hl [1, 2, 0] rfl) hw
      · replace hw := hw.2 k22
        refine lv_aload_n hx hb dX11_load_29 rfl (lv_at hl 0 rfl) ?_
        refine lv_iconst (v := Int32.ofInt 2) hx hb dX11_load_30 (by decide) ?_
        refine z_Vi (n := 1) (As := [.int (Int32.ofInt 2)]) (rest := []) hx hb hml hg hown hK hP hD hS hA (kX11_raise l D dA ad 2 (zsI σ 0 0 0) _ _ hw) (zoR0) rfl q1883 q160 q1880 q1882 q77 (by decide +kernel) ⟨(Nat.le_of_ble_eq_true rfl), (Nat.le_of_ble_eq_true rfl)⟩ rfl hl.1 rfl (Nat.le_of_ble_eq_true rfl) dX11_load_31 ⟨(Nat.le_of_ble_eq_true rfl), (Nat.le_of_ble_eq_true rfl)⟩ (fun x23 σ24 H locs hw hP hD hS => ?_)
        exact hret x23 σ24 _ _ _ _ hw hP hD hS dX11_load_34
    · replace hw := hw.2 k20
      exact j16 (zsI σ 0 0 0) _ _ _ hP hD hS (lv_sub hl [0] rfl) hw
def wpX11_where (a1 a2 : Int) (σ : ZS) (Q : Int → ZS → Prop) : Prop := Q (((16 * a1) + (a2 % 65536)) % 4096) σ
set_option maxHeartbeats 4000000 in
set_option maxRecDepth 100000 in
theorem kX11_where (l : Launch) (D : va_G) (dA : Nat → ClassId) (ad : Int → Nat → Nat) (a1 a2 : Int) (σ : ZS) (Q : Int → ZS → Prop) (sz : Nat) (hw : wpX11_where a1 a2 σ Q) : Met l yX11_where (gws yX11_where cX11_where 3 (some .int)) (gR 1 0 0) (gPre D dA [.ref (ad 0 1000), .int (Int32.ofInt a1), .int (Int32.ofInt a2)] (zR dA ad σ) sz) (va_Qi (zQi Q) (gAt D dA (va_A (zR dA ad σ) sz) (zR dA ad)) (va_A (zR dA ad σ) sz)) 0 0 (va_A (zR dA ad σ) sz) := by
  refine Met.ofW (cc := cX11_where) (maxL := 3) (ret := (some .int)) (by decide) rfl ?_
  intro p e s m args below meth c s₁ B hml hv
  obtain ⟨rfl, hsz, hP, hK, hD0⟩ := hv
  have hx := B.exec
  have hb := B.bytes
  have hr := B.returns
  have hts := atoms_spec (ws := gws yX11_where cX11_where 3 (some .int)) B.pre
  have hg : ∀ w ∈ gw, w.before _ s = true := fun w h => hts w (List.mem_cons_of_mem _ h)
  have hown : s.vm.findClass RX11 = some m.cls := findClass_of_methodNamed B.named
  have hlocks := B.notSynchronized
  subst hsz
  have hD := hD0.self (sz := s.heap.size)
  generalize hAe : va_A (zR dA ad σ) s.heap.size = A at hD ⊢
  have hA : ∀ q : Nat, s.heap.size ≤ q → A q := fun q h => by rw [← hAe]; exact Or.inr h
  have hS : va_S A s.heap s.heap [] := va_S.rf
  have hl := lv_entry ([.ref (ad 0 1000), .int (Int32.ofInt a1), .int (Int32.ofInt a2)]) (n := 3) (Nat.le_of_ble_eq_true rfl)
  rw [lg_entry_eq]
  generalize (lg_sl ([.ref (ad 0 1000), .int (Int32.ofInt a1), .int (Int32.ofInt a2)]) ++ List.replicate (3 - (lg_sl ([.ref (ad 0 1000), .int (Int32.ofInt a1), .int (Int32.ofInt a2)])).length) Slot.unset).toArray = ls at hl ⊢
  have hl : lv_has ls 3 [(0, .ref (ad 0 1000)), (1, .int (Int32.ofInt a1)), (2, .int (Int32.ofInt a2))] := hl
  have hret : ∀ (v : Int) (σ : ZS) (H : Heap) (locs : List Loc) (ls : Array Slot) (pc : Nat), Q v σ → va_P D vwC (zR dA ad σ) H → va_D A (zR dA ad σ) → va_S A s.heap H locs → decode cX11_where pc = .ok (.ireturn, 1) → W p l e (gR 1 0 0) s m #[.ref (ad 0 1000), .int (Int32.ofInt a1), .int (Int32.ofInt a2)] below meth c H locs 0 0 (MQ below (va_Qi (zQi Q) (gAt D dA A (zR dA ad)) A) #[.ref (ad 0 1000), .int (Int32.ofInt a1), .int (Int32.ofInt a2)] s 0 0 A) (F0 m pc ls [.int (Int32.ofInt v)]) := fun v σ H locs ls pc hw hP hD hS hd => g_iret hx hb hr rfl hlocks hK σ hP hD hS ⟨v, rfl, hw⟩ (Nat.le_of_ble_eq_true rfl) (Nat.le_of_ble_eq_true rfl) hd
  generalize MQ below (va_Qi (zQi Q) (gAt D dA A (zR dA ad)) A) #[.ref (ad 0 1000), .int (Int32.ofInt a1), .int (Int32.ofInt a2)] s 0 0 A = QQ at hret ⊢
  unfold wpX11_where at hw
  refine lv_bipush (v := Int32.ofInt 16) hx hb dX11_where_0 (by decide) ?_
  refine lv_iload_n hx hb dX11_where_2 rfl (lv_at hl 1 rfl) ?_
  refine z_imul hx hb dX11_where_3 ?_
  refine lv_iload_n hx hb dX11_where_4 rfl (lv_at hl 2 rfl) ?_
  refine lv_ldcw hx hb hown (hg _ q1907) dX11_where_5 ?_
  refine g_nrm (y := Int32.ofInt 65535) (by decide) ?_
  refine z_iandK (M := 65536) hx hb 16 (by decide) (by decide) (by decide) dX11_where_8 ?_
  refine z_iadd hx hb dX11_where_9 ?_
  refine lv_sipush (v := Int32.ofInt 4095) hx hb dX11_where_10 (by decide) ?_
  refine z_iandK (M := 4096) hx hb 12 (by decide) (by decide) (by decide) dX11_where_13 ?_
  exact hret (((16 * a1) + (a2 % 65536)) % 4096) σ _ _ _ _ hw hP hD hS dX11_where_14
def wpX11_get (a1 a2 : Int) (σ : ZS) (Q : Int → ZS → Prop) : Prop := wpX11_where a1 a2 σ (fun (x1 : Int) (σ2 : ZS) => (0 ≤ x1 ∧ x1 < 4096) ∧ wpX11_where a1 (a2 + 1) σ2 (fun (x4 : Int) (σ5 : ZS) => (0 ≤ x4 ∧ x4 < 4096) ∧ Q (zor (zA σ2 0 74 x1) ((zA σ5 0 74 x4) * 256)) σ5))
set_option maxHeartbeats 4000000 in
set_option maxRecDepth 100000 in
theorem kX11_get (l : Launch) (D : va_G) (dA : Nat → ClassId) (ad : Int → Nat → Nat) (a1 a2 : Int) (σ : ZS) (Q : Int → ZS → Prop) (sz : Nat) (hw : wpX11_get a1 a2 σ Q) : Met l yX11_get (gws yX11_get cX11_get 3 (some .int)) (gR 2 0 0) (gPre D dA [.ref (ad 0 1000), .int (Int32.ofInt a1), .int (Int32.ofInt a2)] (zR dA ad σ) sz) (va_Qi (zQi Q) (gAt D dA (va_A (zR dA ad σ) sz) (zR dA ad)) (va_A (zR dA ad σ) sz)) 0 0 (va_A (zR dA ad σ) sz) := by
  refine Met.ofW (cc := cX11_get) (maxL := 3) (ret := (some .int)) (by decide) rfl ?_
  intro p e s m args below meth c s₁ B hml hv
  obtain ⟨rfl, hsz, hP, hK, hD0⟩ := hv
  have hx := B.exec
  have hb := B.bytes
  have hr := B.returns
  have hts := atoms_spec (ws := gws yX11_get cX11_get 3 (some .int)) B.pre
  have hg : ∀ w ∈ gw, w.before _ s = true := fun w h => hts w (List.mem_cons_of_mem _ h)
  have hown : s.vm.findClass RX11 = some m.cls := findClass_of_methodNamed B.named
  have hlocks := B.notSynchronized
  subst hsz
  have hD := hD0.self (sz := s.heap.size)
  generalize hAe : va_A (zR dA ad σ) s.heap.size = A at hD ⊢
  have hA : ∀ q : Nat, s.heap.size ≤ q → A q := fun q h => by rw [← hAe]; exact Or.inr h
  have hS : va_S A s.heap s.heap [] := va_S.rf
  have hl := lv_entry ([.ref (ad 0 1000), .int (Int32.ofInt a1), .int (Int32.ofInt a2)]) (n := 3) (Nat.le_of_ble_eq_true rfl)
  rw [lg_entry_eq]
  generalize (lg_sl ([.ref (ad 0 1000), .int (Int32.ofInt a1), .int (Int32.ofInt a2)]) ++ List.replicate (3 - (lg_sl ([.ref (ad 0 1000), .int (Int32.ofInt a1), .int (Int32.ofInt a2)])).length) Slot.unset).toArray = ls at hl ⊢
  have hl : lv_has ls 3 [(0, .ref (ad 0 1000)), (1, .int (Int32.ofInt a1)), (2, .int (Int32.ofInt a2))] := hl
  have hret : ∀ (v : Int) (σ : ZS) (H : Heap) (locs : List Loc) (ls : Array Slot) (pc : Nat), Q v σ → va_P D vwC (zR dA ad σ) H → va_D A (zR dA ad σ) → va_S A s.heap H locs → decode cX11_get pc = .ok (.ireturn, 1) → W p l e (gR 2 0 0) s m #[.ref (ad 0 1000), .int (Int32.ofInt a1), .int (Int32.ofInt a2)] below meth c H locs 0 0 (MQ below (va_Qi (zQi Q) (gAt D dA A (zR dA ad)) A) #[.ref (ad 0 1000), .int (Int32.ofInt a1), .int (Int32.ofInt a2)] s 0 0 A) (F0 m pc ls [.int (Int32.ofInt v)]) := fun v σ H locs ls pc hw hP hD hS hd => g_iret hx hb hr rfl hlocks hK σ hP hD hS ⟨v, rfl, hw⟩ (Nat.le_of_ble_eq_true rfl) (Nat.le_of_ble_eq_true rfl) hd
  generalize MQ below (va_Qi (zQi Q) (gAt D dA A (zR dA ad)) A) #[.ref (ad 0 1000), .int (Int32.ofInt a1), .int (Int32.ofInt a2)] s 0 0 A = QQ at hret ⊢
  unfold wpX11_get at hw
  refine lv_aload_n hx hb dX11_get_0 rfl (lv_at hl 0 rfl) ?_
  refine zgR0_74 hx hb hg hown hK hP q1689 dX11_get_1 ?_
  refine lv_aload_n hx hb dX11_get_4 rfl (lv_at hl 0 rfl) ?_
  refine lv_iload_n hx hb dX11_get_5 rfl (lv_at hl 1 rfl) ?_
  refine lv_iload_n hx hb dX11_get_6 rfl (lv_at hl 2 rfl) ?_
  refine z_Vi (n := 2) (As := [.int (Int32.ofInt a1), .int (Int32.ofInt a2)]) (rest := [.ref (ad 0 74)]) hx hb hml hg hown hK hP hD hS hA (kX11_where l D dA ad a1 a2 σ _ _ hw) (zoR0) rfl q2130 q160 q2127 q2129 q130 (by decide +kernel) ⟨(Nat.le_of_ble_eq_true rfl), (Nat.le_of_ble_eq_true rfl)⟩ rfl hl.1 rfl (Nat.le_of_ble_eq_true rfl) dX11_get_7 ⟨(Nat.le_of_ble_eq_true rfl), (Nat.le_of_ble_eq_true rfl)⟩ (fun x1 σ2 H locs hw hP hD hS => ?_)
  obtain ⟨o3, hw⟩ := hw
  refine zlR0_74 hx hb o3 hK hP dX11_get_10 ?_
  refine lv_aload_n hx hb dX11_get_11 rfl (lv_at hl 0 rfl) ?_
  refine zgR0_74 hx hb hg hown hK hP q1689 dX11_get_12 ?_
  refine lv_aload_n hx hb dX11_get_15 rfl (lv_at hl 0 rfl) ?_
  refine lv_iload_n hx hb dX11_get_16 rfl (lv_at hl 1 rfl) ?_
  refine lv_iload_n hx hb dX11_get_17 rfl (lv_at hl 2 rfl) ?_
  refine lv_iconst (v := Int32.ofInt 1) hx hb dX11_get_18 (by decide) ?_
  refine z_iadd hx hb dX11_get_19 ?_
  refine z_Vi (n := 2) (As := [.int (Int32.ofInt a1), .int (Int32.ofInt (a2 + 1))]) (rest := [.ref (ad 0 74), .int (Int32.ofInt (zA σ2 0 74 x1))]) hx hb hml hg hown hK hP hD hS hA (kX11_where l D dA ad a1 (a2 + 1) σ2 _ _ hw) (zoR0) rfl q2130 q160 q2127 q2129 q130 (by decide +kernel) ⟨(Nat.le_of_ble_eq_true rfl), (Nat.le_of_ble_eq_true rfl)⟩ rfl hl.1 rfl (Nat.le_of_ble_eq_true rfl) dX11_get_20 ⟨(Nat.le_of_ble_eq_true rfl), (Nat.le_of_ble_eq_true rfl)⟩ (fun x4 σ5 H locs hw hP hD hS => ?_)
  obtain ⟨o6, hw⟩ := hw
  refine zlR0_74 hx hb o6 hK hP dX11_get_23 ?_
  refine lv_bipush (v := Int32.ofInt 8) hx hb dX11_get_24 (by decide) ?_
  refine z_ishlK (M := 256) hx hb 8 (by decide) (by decide) dX11_get_26 ?_
  refine z_ior hx hb dX11_get_27 ?_
  exact hret (zor (zA σ2 0 74 x1) ((zA σ5 0 74 x4) * 256)) σ5 _ _ _ _ hw hP hD hS dX11_get_28
def wpX11_store (a1 a2 a3 : Int) (σ : ZS) (Q : ZS → Prop) : Prop := wpX11_where a1 a2 σ (fun (x1 : Int) (σ2 : ZS) => (0 ≤ x1 ∧ x1 < 4096) ∧ wpX11_where a1 (a2 + 1) (zsA σ2 0 74 x1 (a3 % 256)) (fun (x4 : Int) (σ5 : ZS) => (-2147483648 ≤ a3 ∧ a3 ≤ 2147483647) ∧ (0 ≤ x4 ∧ x4 < 4096) ∧ Q (zsA σ5 0 74 x4 ((a3 / 256) % 256))))
set_option maxHeartbeats 4000000 in
set_option maxRecDepth 100000 in
theorem kX11_store (l : Launch) (D : va_G) (dA : Nat → ClassId) (ad : Int → Nat → Nat) (a1 a2 a3 : Int) (σ : ZS) (Q : ZS → Prop) (sz : Nat) (hw : wpX11_store a1 a2 a3 σ Q) : Met l yX11_store (gws yX11_store cX11_store 4 none) (gR 2 0 0) (gPre D dA [.ref (ad 0 1000), .int (Int32.ofInt a1), .int (Int32.ofInt a2), .int (Int32.ofInt a3)] (zR dA ad σ) sz) (va_Qv Q (gAt D dA (va_A (zR dA ad σ) sz) (zR dA ad)) (va_A (zR dA ad σ) sz)) 0 0 (va_A (zR dA ad σ) sz) := by
  refine Met.ofW (cc := cX11_store) (maxL := 4) (ret := none) (by decide) rfl ?_
  intro p e s m args below meth c s₁ B hml hv
  obtain ⟨rfl, hsz, hP, hK, hD0⟩ := hv
  have hx := B.exec
  have hb := B.bytes
  have hr := B.returns
  have hts := atoms_spec (ws := gws yX11_store cX11_store 4 none) B.pre
  have hg : ∀ w ∈ gw, w.before _ s = true := fun w h => hts w (List.mem_cons_of_mem _ h)
  have hown : s.vm.findClass RX11 = some m.cls := findClass_of_methodNamed B.named
  have hlocks := B.notSynchronized
  subst hsz
  have hD := hD0.self (sz := s.heap.size)
  generalize hAe : va_A (zR dA ad σ) s.heap.size = A at hD ⊢
  have hA : ∀ q : Nat, s.heap.size ≤ q → A q := fun q h => by rw [← hAe]; exact Or.inr h
  have hS : va_S A s.heap s.heap [] := va_S.rf
  have hl := lv_entry ([.ref (ad 0 1000), .int (Int32.ofInt a1), .int (Int32.ofInt a2), .int (Int32.ofInt a3)]) (n := 4) (Nat.le_of_ble_eq_true rfl)
  rw [lg_entry_eq]
  generalize (lg_sl ([.ref (ad 0 1000), .int (Int32.ofInt a1), .int (Int32.ofInt a2), .int (Int32.ofInt a3)]) ++ List.replicate (4 - (lg_sl ([.ref (ad 0 1000), .int (Int32.ofInt a1), .int (Int32.ofInt a2), .int (Int32.ofInt a3)])).length) Slot.unset).toArray = ls at hl ⊢
  have hl : lv_has ls 4 [(0, .ref (ad 0 1000)), (1, .int (Int32.ofInt a1)), (2, .int (Int32.ofInt a2)), (3, .int (Int32.ofInt a3))] := hl
  have hret : ∀ (σ : ZS) (H : Heap) (locs : List Loc) (ls : Array Slot) (pc : Nat), Q σ → va_P D vwC (zR dA ad σ) H → va_D A (zR dA ad σ) → va_S A s.heap H locs → decode cX11_store pc = .ok (.return_, 1) → W p l e (gR 2 0 0) s m #[.ref (ad 0 1000), .int (Int32.ofInt a1), .int (Int32.ofInt a2), .int (Int32.ofInt a3)] below meth c H locs 0 0 (MQ below (va_Qv Q (gAt D dA A (zR dA ad)) A) #[.ref (ad 0 1000), .int (Int32.ofInt a1), .int (Int32.ofInt a2), .int (Int32.ofInt a3)] s 0 0 A) (F0 m pc ls []) := fun σ H locs ls pc hw hP hD hS hd => g_vret hx hb hr hlocks hK σ hP hD hS hw (Nat.le_of_ble_eq_true rfl) (Nat.le_of_ble_eq_true rfl) hd
  generalize MQ below (va_Qv Q (gAt D dA A (zR dA ad)) A) #[.ref (ad 0 1000), .int (Int32.ofInt a1), .int (Int32.ofInt a2), .int (Int32.ofInt a3)] s 0 0 A = QQ at hret ⊢
  unfold wpX11_store at hw
  refine lv_aload_n hx hb dX11_store_0 rfl (lv_at hl 0 rfl) ?_
  refine zgR0_74 hx hb hg hown hK hP q1689 dX11_store_1 ?_
  refine lv_aload_n hx hb dX11_store_4 rfl (lv_at hl 0 rfl) ?_
  refine lv_iload_n hx hb dX11_store_5 rfl (lv_at hl 1 rfl) ?_
  refine lv_iload_n hx hb dX11_store_6 rfl (lv_at hl 2 rfl) ?_
  refine z_Vi (n := 2) (As := [.int (Int32.ofInt a1), .int (Int32.ofInt a2)]) (rest := [.ref (ad 0 74)]) hx hb hml hg hown hK hP hD hS hA (kX11_where l D dA ad a1 a2 σ _ _ hw) (zoR0) rfl q2130 q160 q2127 q2129 q130 (by decide +kernel) ⟨(Nat.le_of_ble_eq_true rfl), (Nat.le_of_ble_eq_true rfl)⟩ rfl hl.1 rfl (Nat.le_of_ble_eq_true rfl) dX11_store_7 ⟨(Nat.le_of_ble_eq_true rfl), (Nat.le_of_ble_eq_true rfl)⟩ (fun x1 σ2 H locs hw hP hD hS => ?_)
  refine lv_iload_n hx hb dX11_store_10 rfl (lv_at hl 3 rfl) ?_
  refine lv_sipush (v := Int32.ofInt 255) hx hb dX11_store_11 (by decide) ?_
  refine z_iandK (M := 256) hx hb 8 (by decide) (by decide) (by decide) dX11_store_14 ?_
  obtain ⟨o3, hw⟩ := hw
  refine zsR0_74 (v := (a3 % 256)) hx hb o3 hK hP hD hS dX11_store_15 (fun H locs hP hD hS => ?_)
  refine lv_aload_n hx hb dX11_store_16 rfl (lv_at hl 0 rfl) ?_
  refine zgR0_74 hx hb hg hown hK hP q1689 dX11_store_17 ?_
  refine lv_aload_n hx hb dX11_store_20 rfl (lv_at hl 0 rfl) ?_
  refine lv_iload_n hx hb dX11_store_21 rfl (lv_at hl 1 rfl) ?_
  refine lv_iload_n hx hb dX11_store_22 rfl (lv_at hl 2 rfl) ?_
  refine lv_iconst (v := Int32.ofInt 1) hx hb dX11_store_23 (by decide) ?_
  refine z_iadd hx hb dX11_store_24 ?_
  refine z_Vi (n := 2) (As := [.int (Int32.ofInt a1), .int (Int32.ofInt (a2 + 1))]) (rest := [.ref (ad 0 74)]) hx hb hml hg hown hK hP hD hS hA (kX11_where l D dA ad a1 (a2 + 1) (zsA σ2 0 74 x1 (a3 % 256)) _ _ hw) (zoR0) rfl q2130 q160 q2127 q2129 q130 (by decide +kernel) ⟨(Nat.le_of_ble_eq_true rfl), (Nat.le_of_ble_eq_true rfl)⟩ rfl hl.1 rfl (Nat.le_of_ble_eq_true rfl) dX11_store_25 ⟨(Nat.le_of_ble_eq_true rfl), (Nat.le_of_ble_eq_true rfl)⟩ (fun x4 σ5 H locs hw hP hD hS => ?_)
  refine lv_iload_n hx hb dX11_store_28 rfl (lv_at hl 3 rfl) ?_
  refine lv_bipush (v := Int32.ofInt 8) hx hb dX11_store_29 (by decide) ?_
  obtain ⟨o6, hw⟩ := hw
  refine z_ishrK (M := 256) hx hb 8 (by decide) (by decide) (by decide) o6 dX11_store_31 ?_
  refine lv_sipush (v := Int32.ofInt 255) hx hb dX11_store_32 (by decide) ?_
  refine z_iandK (M := 256) hx hb 8 (by decide) (by decide) (by decide) dX11_store_35 ?_
  obtain ⟨o7, hw⟩ := hw
  refine zsR0_74 (v := ((a3 / 256) % 256)) hx hb o7 hK hP hD hS dX11_store_36 (fun H locs hP hD hS => ?_)
  exact hret (zsA σ5 0 74 x4 ((a3 / 256) % 256)) _ _ _ _ hw hP hD hS dX11_store_37
def wpX11_fetch (σ : ZS) (Q : Int → ZS → Prop) : Prop := wpX11_where (zA σ 0 75 9) (zI σ 0 80) σ (fun (x1 : Int) (σ2 : ZS) => (0 ≤ x1 ∧ x1 < 4096) ∧ Q (zA σ2 0 74 x1) (zsI σ2 0 80 (((zI σ2 0 80) + 1) % 65536)))
set_option maxHeartbeats 4000000 in
set_option maxRecDepth 100000 in
theorem kX11_fetch (l : Launch) (D : va_G) (dA : Nat → ClassId) (ad : Int → Nat → Nat) (σ : ZS) (Q : Int → ZS → Prop) (sz : Nat) (hw : wpX11_fetch σ Q) : Met l yX11_fetch (gws yX11_fetch cX11_fetch 2 (some .int)) (gR 2 0 0) (gPre D dA [.ref (ad 0 1000)] (zR dA ad σ) sz) (va_Qi (zQi Q) (gAt D dA (va_A (zR dA ad σ) sz) (zR dA ad)) (va_A (zR dA ad σ) sz)) 0 0 (va_A (zR dA ad σ) sz) := by
  refine Met.ofW (cc := cX11_fetch) (maxL := 2) (ret := (some .int)) (by decide) rfl ?_
  intro p e s m args below meth c s₁ B hml hv
  obtain ⟨rfl, hsz, hP, hK, hD0⟩ := hv
  have hx := B.exec
  have hb := B.bytes
  have hr := B.returns
  have hts := atoms_spec (ws := gws yX11_fetch cX11_fetch 2 (some .int)) B.pre
  have hg : ∀ w ∈ gw, w.before _ s = true := fun w h => hts w (List.mem_cons_of_mem _ h)
  have hown : s.vm.findClass RX11 = some m.cls := findClass_of_methodNamed B.named
  have hlocks := B.notSynchronized
  subst hsz
  have hD := hD0.self (sz := s.heap.size)
  generalize hAe : va_A (zR dA ad σ) s.heap.size = A at hD ⊢
  have hA : ∀ q : Nat, s.heap.size ≤ q → A q := fun q h => by rw [← hAe]; exact Or.inr h
  have hS : va_S A s.heap s.heap [] := va_S.rf
  have hl := lv_entry ([.ref (ad 0 1000)]) (n := 2) (Nat.le_of_ble_eq_true rfl)
  rw [lg_entry_eq]
  generalize (lg_sl ([.ref (ad 0 1000)]) ++ List.replicate (2 - (lg_sl ([.ref (ad 0 1000)])).length) Slot.unset).toArray = ls at hl ⊢
  have hl : lv_has ls 2 [(0, .ref (ad 0 1000))] := hl
  have hret : ∀ (v : Int) (σ : ZS) (H : Heap) (locs : List Loc) (ls : Array Slot) (pc : Nat), Q v σ → va_P D vwC (zR dA ad σ) H → va_D A (zR dA ad σ) → va_S A s.heap H locs → decode cX11_fetch pc = .ok (.ireturn, 1) → W p l e (gR 2 0 0) s m #[.ref (ad 0 1000)] below meth c H locs 0 0 (MQ below (va_Qi (zQi Q) (gAt D dA A (zR dA ad)) A) #[.ref (ad 0 1000)] s 0 0 A) (F0 m pc ls [.int (Int32.ofInt v)]) := fun v σ H locs ls pc hw hP hD hS hd => g_iret hx hb hr rfl hlocks hK σ hP hD hS ⟨v, rfl, hw⟩ (Nat.le_of_ble_eq_true rfl) (Nat.le_of_ble_eq_true rfl) hd
  generalize MQ below (va_Qi (zQi Q) (gAt D dA A (zR dA ad)) A) #[.ref (ad 0 1000)] s 0 0 A = QQ at hret ⊢
  unfold wpX11_fetch at hw
  refine lv_aload_n hx hb dX11_fetch_0 rfl (lv_at hl 0 rfl) ?_
  refine zgR0_74 hx hb hg hown hK hP q1689 dX11_fetch_1 ?_
  refine lv_aload_n hx hb dX11_fetch_4 rfl (lv_at hl 0 rfl) ?_
  refine lv_aload_n hx hb dX11_fetch_5 rfl (lv_at hl 0 rfl) ?_
  refine zgR0_75 hx hb hg hown hK hP q1690 dX11_fetch_6 ?_
  refine lv_bipush (v := Int32.ofInt 9) hx hb dX11_fetch_9 (by decide) ?_
  refine zlR0_75 hx hb (by decide) hK hP dX11_fetch_11 ?_
  refine lv_aload_n hx hb dX11_fetch_12 rfl (lv_at hl 0 rfl) ?_
  refine zgR0_80 hx hb hg hown hK hP q1695 dX11_fetch_13 ?_
  refine z_Vi (n := 2) (As := [.int (Int32.ofInt (zA σ 0 75 9)), .int (Int32.ofInt (zI σ 0 80))]) (rest := [.ref (ad 0 74)]) hx hb hml hg hown hK hP hD hS hA (kX11_where l D dA ad (zA σ 0 75 9) (zI σ 0 80) σ _ _ hw) (zoR0) rfl q2130 q160 q2127 q2129 q130 (by decide +kernel) ⟨(Nat.le_of_ble_eq_true rfl), (Nat.le_of_ble_eq_true rfl)⟩ rfl hl.1 rfl (Nat.le_of_ble_eq_true rfl) dX11_fetch_16 ⟨(Nat.le_of_ble_eq_true rfl), (Nat.le_of_ble_eq_true rfl)⟩ (fun x1 σ2 H locs hw hP hD hS => ?_)
  obtain ⟨o3, hw⟩ := hw
  refine zlR0_74 hx hb o3 hK hP dX11_fetch_19 ?_
  refine lv_istore_n (lv' := [(1, .int (Int32.ofInt (zA σ2 0 74 x1))), (0, .ref (ad 0 1000))]) hx hb dX11_fetch_20 rfl hl (by decide) rfl (fun ls hl => ?_)
  refine lv_aload_n hx hb dX11_fetch_21 rfl (lv_at hl 1 rfl) ?_
  refine lv_aload_n hx hb dX11_fetch_22 rfl (lv_at hl 1 rfl) ?_
  refine zgR0_80 hx hb hg hown hK hP q1695 dX11_fetch_23 ?_
  refine lv_iconst (v := Int32.ofInt 1) hx hb dX11_fetch_26 (by decide) ?_
  refine z_iadd hx hb dX11_fetch_27 ?_
  refine lv_ldcw hx hb hown (hg _ q1907) dX11_fetch_28 ?_
  refine g_nrm (y := Int32.ofInt 65535) (by decide) ?_
  refine z_iandK (M := 65536) hx hb 16 (by decide) (by decide) (by decide) dX11_fetch_31 ?_
  refine zpR0_80 (v := (((zI σ2 0 80) + 1) % 65536)) hx hb hg hown hK hP hD hS q1695 dX11_fetch_32 (fun H locs hP hD hS => ?_)
  refine lv_iload_n hx hb dX11_fetch_35 rfl (lv_at hl 0 rfl) ?_
  exact hret (zA σ2 0 74 x1) (zsI σ2 0 80 (((zI σ2 0 80) + 1) % 65536)) _ _ _ _ hw hP hD hS dX11_fetch_36
def wpX11_fetchTwo (σ : ZS) (Q : Int → ZS → Prop) : Prop := wpX11_fetch σ (fun (x1 : Int) (σ2 : ZS) => wpX11_fetch σ2 (fun (x3 : Int) (σ4 : ZS) => Q (zor x1 (x3 * 256)) σ4))
set_option maxHeartbeats 4000000 in
set_option maxRecDepth 100000 in
theorem kX11_fetchTwo (l : Launch) (D : va_G) (dA : Nat → ClassId) (ad : Int → Nat → Nat) (σ : ZS) (Q : Int → ZS → Prop) (sz : Nat) (hw : wpX11_fetchTwo σ Q) : Met l yX11_fetchTwo (gws yX11_fetchTwo cX11_fetchTwo 2 (some .int)) (gR 3 0 0) (gPre D dA [.ref (ad 0 1000)] (zR dA ad σ) sz) (va_Qi (zQi Q) (gAt D dA (va_A (zR dA ad σ) sz) (zR dA ad)) (va_A (zR dA ad σ) sz)) 0 0 (va_A (zR dA ad σ) sz) := by
  refine Met.ofW (cc := cX11_fetchTwo) (maxL := 2) (ret := (some .int)) (by decide) rfl ?_
  intro p e s m args below meth c s₁ B hml hv
  obtain ⟨rfl, hsz, hP, hK, hD0⟩ := hv
  have hx := B.exec
  have hb := B.bytes
  have hr := B.returns
  have hts := atoms_spec (ws := gws yX11_fetchTwo cX11_fetchTwo 2 (some .int)) B.pre
  have hg : ∀ w ∈ gw, w.before _ s = true := fun w h => hts w (List.mem_cons_of_mem _ h)
  have hown : s.vm.findClass RX11 = some m.cls := findClass_of_methodNamed B.named
  have hlocks := B.notSynchronized
  subst hsz
  have hD := hD0.self (sz := s.heap.size)
  generalize hAe : va_A (zR dA ad σ) s.heap.size = A at hD ⊢
  have hA : ∀ q : Nat, s.heap.size ≤ q → A q := fun q h => by rw [← hAe]; exact Or.inr h
  have hS : va_S A s.heap s.heap [] := va_S.rf
  have hl := lv_entry ([.ref (ad 0 1000)]) (n := 2) (Nat.le_of_ble_eq_true rfl)
  rw [lg_entry_eq]
  generalize (lg_sl ([.ref (ad 0 1000)]) ++ List.replicate (2 - (lg_sl ([.ref (ad 0 1000)])).length) Slot.unset).toArray = ls at hl ⊢
  have hl : lv_has ls 2 [(0, .ref (ad 0 1000))] := hl
  have hret : ∀ (v : Int) (σ : ZS) (H : Heap) (locs : List Loc) (ls : Array Slot) (pc : Nat), Q v σ → va_P D vwC (zR dA ad σ) H → va_D A (zR dA ad σ) → va_S A s.heap H locs → decode cX11_fetchTwo pc = .ok (.ireturn, 1) → W p l e (gR 3 0 0) s m #[.ref (ad 0 1000)] below meth c H locs 0 0 (MQ below (va_Qi (zQi Q) (gAt D dA A (zR dA ad)) A) #[.ref (ad 0 1000)] s 0 0 A) (F0 m pc ls [.int (Int32.ofInt v)]) := fun v σ H locs ls pc hw hP hD hS hd => g_iret hx hb hr rfl hlocks hK σ hP hD hS ⟨v, rfl, hw⟩ (Nat.le_of_ble_eq_true rfl) (Nat.le_of_ble_eq_true rfl) hd
  generalize MQ below (va_Qi (zQi Q) (gAt D dA A (zR dA ad)) A) #[.ref (ad 0 1000)] s 0 0 A = QQ at hret ⊢
  unfold wpX11_fetchTwo at hw
  refine lv_aload_n hx hb dX11_fetchTwo_0 rfl (lv_at hl 0 rfl) ?_
  refine z_Vi (n := 0) (As := []) (rest := []) hx hb hml hg hown hK hP hD hS hA (kX11_fetch l D dA ad σ _ _ hw) (zoR0) rfl q2126 q160 q2123 q2125 q129 (by decide +kernel) ⟨(Nat.le_of_ble_eq_true rfl), (Nat.le_of_ble_eq_true rfl)⟩ rfl hl.1 rfl (Nat.le_of_ble_eq_true rfl) dX11_fetchTwo_1 ⟨(Nat.le_of_ble_eq_true rfl), (Nat.le_of_ble_eq_true rfl)⟩ (fun x1 σ2 H locs hw hP hD hS => ?_)
  refine lv_istore_n (lv' := [(1, .int (Int32.ofInt x1)), (0, .ref (ad 0 1000))]) hx hb dX11_fetchTwo_4 rfl hl (by decide) rfl (fun ls hl => ?_)
  refine lv_iload_n hx hb dX11_fetchTwo_5 rfl (lv_at hl 0 rfl) ?_
  refine lv_aload_n hx hb dX11_fetchTwo_6 rfl (lv_at hl 1 rfl) ?_
  refine z_Vi (n := 0) (As := []) (rest := [.int (Int32.ofInt x1)]) hx hb hml hg hown hK hP hD hS hA (kX11_fetch l D dA ad σ2 _ _ hw) (zoR0) rfl q2126 q160 q2123 q2125 q129 (by decide +kernel) ⟨(Nat.le_of_ble_eq_true rfl), (Nat.le_of_ble_eq_true rfl)⟩ rfl hl.1 rfl (Nat.le_of_ble_eq_true rfl) dX11_fetchTwo_7 ⟨(Nat.le_of_ble_eq_true rfl), (Nat.le_of_ble_eq_true rfl)⟩ (fun x3 σ4 H locs hw hP hD hS => ?_)
  refine lv_bipush (v := Int32.ofInt 8) hx hb dX11_fetchTwo_10 (by decide) ?_
  refine z_ishlK (M := 256) hx hb 8 (by decide) (by decide) dX11_fetchTwo_12 ?_
  refine z_ior hx hb dX11_fetchTwo_13 ?_
  exact hret (zor x1 (x3 * 256)) σ4 _ _ _ _ hw hP hD hS dX11_fetchTwo_14
