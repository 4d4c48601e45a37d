theorem q27 : Cond.selects RX10 yX10_tell yX10_tell ∈ gw := gw_in (i := 27) (by decide +kernel) rfl
theorem q168 : Cond.initialized "java/lang/ArithmeticException" ∈ gw := gw_in (i := 168) (by decide +kernel) rfl
theorem q175 : Cond.initialized "java/lang/UnsupportedOperationException" ∈ gw := gw_in (i := 175) (by decide +kernel) rfl
theorem q176 : Cond.initialized "java/util/NoSuchElementException" ∈ gw := gw_in (i := 176) (by decide +kernel) rfl
theorem q611 : Cond.fieldLink RX10 35 "SegmentBench" "tokens" "LSegmentBench$Tokens;" ∈ gw := gw_in (i := 611) (by decide +kernel) rfl
theorem q612 : Cond.fieldLink RX10 47 "SegmentBench" "parse\x72" "LSegmentBench$Parser;" ∈ gw := gw_in (i := 612) (by decide +kernel) rfl
theorem q613 : Cond.fieldLink RX10 56 "SegmentBench" "layout" "LSegmentBench$Layout;" ∈ gw := gw_in (i := 613) (by decide +kernel) rfl
theorem q615 : Cond.fieldLink RX10 72 "SegmentBench" "linke\x72" "LSegmentBench$Linker;" ∈ gw := gw_in (i := 615) (by decide +kernel) rfl
theorem q791 : Cond.methodLink RX10 114 yX9_read ∈ gw := gw_in (i := 791) (by decide +kernel) rfl
theorem q792 : Cond.instanceMethod yX9_read ∈ gw := gw_in (i := 792) (by decide +kernel) rfl
theorem q793 : Cond.selects RX9 yX9_read yX9_read ∈ gw := gw_in (i := 793) (by decide +kernel) rfl
theorem q794 : Cond.code yX9_read cX9_read 6 none ∈ gw := gw_in (i := 794) (by decide +kernel) rfl
theorem q939 : Cond.methodLink RX10 118 yX8_parse ∈ gw := gw_in (i := 939) (by decide +kernel) rfl
theorem q940 : Cond.instanceMethod yX8_parse ∈ gw := gw_in (i := 940) (by decide +kernel) rfl
theorem q941 : Cond.selects RX8 yX8_parse yX8_parse ∈ gw := gw_in (i := 941) (by decide +kernel) rfl
theorem q942 : Cond.code yX8_parse cX8_parse 4 (some .int) ∈ gw := gw_in (i := 942) (by decide +kernel) rfl
theorem q1086 : Cond.methodLink RX10 122 yX10_tell ∈ gw := gw_in (i := 1086) (by decide +kernel) rfl
theorem q1088 : Cond.instanceMethod yX10_tell ∈ gw := gw_in (i := 1088) (by decide +kernel) rfl
theorem q1089 : Cond.code yX10_tell cX10_tell 3 none ∈ gw := gw_in (i := 1089) (by decide +kernel) rfl
theorem q1090 : Cond.classLink RX10 126 "java/lang/UnsupportedOperationException" ∈ gw := gw_in (i := 1090) (by decide +kernel) rfl
theorem q1106 : Cond.methodLink RX10 131 yX2_firstWrong ∈ gw := gw_in (i := 1106) (by decide +kernel) rfl
theorem q1107 : Cond.instanceMethod yX2_firstWrong ∈ gw := gw_in (i := 1107) (by decide +kernel) rfl
theorem q1108 : Cond.selects RX2 yX2_firstWrong yX2_firstWrong ∈ gw := gw_in (i := 1108) (by decide +kernel) rfl
theorem q1109 : Cond.code yX2_firstWrong cX2_firstWrong 2 (some .int) ∈ gw := gw_in (i := 1109) (by decide +kernel) rfl
theorem q1138 : Cond.classLink RX10 134 "java/util/NoSuchElementException" ∈ gw := gw_in (i := 1138) (by decide +kernel) rfl
theorem q1154 : Cond.methodLink RX10 139 yX2_sizeJumps ∈ gw := gw_in (i := 1154) (by decide +kernel) rfl
theorem q1155 : Cond.instanceMethod yX2_sizeJumps ∈ gw := gw_in (i := 1155) (by decide +kernel) rfl
theorem q1156 : Cond.selects RX2 yX2_sizeJumps yX2_sizeJumps ∈ gw := gw_in (i := 1156) (by decide +kernel) rfl
theorem q1157 : Cond.code yX2_sizeJumps cX2_sizeJumps 3 (some .int) ∈ gw := gw_in (i := 1157) (by decide +kernel) rfl
theorem q1183 : Cond.methodLink RX10 144 yX2_firstTooFar ∈ gw := gw_in (i := 1183) (by decide +kernel) rfl
theorem q1184 : Cond.instanceMethod yX2_firstTooFar ∈ gw := gw_in (i := 1184) (by decide +kernel) rfl
theorem q1185 : Cond.selects RX2 yX2_firstTooFar yX2_firstTooFar ∈ gw := gw_in (i := 1185) (by decide +kernel) rfl
theorem q1186 : Cond.code yX2_firstTooFar cX2_firstTooFar 2 (some .int) ∈ gw := gw_in (i := 1186) (by decide +kernel) rfl
theorem q1187 : Cond.classLink RX10 147 "java/lang/ArithmeticException" ∈ gw := gw_in (i := 1187) (by decide +kernel) rfl
theorem q1190 : Cond.methodLink RX10 152 yX2_write ∈ gw := gw_in (i := 1190) (by decide +kernel) rfl
theorem q1191 : Cond.instanceMethod yX2_write ∈ gw := gw_in (i := 1191) (by decide +kernel) rfl
theorem q1192 : Cond.selects RX2 yX2_write yX2_write ∈ gw := gw_in (i := 1192) (by decide +kernel) rfl
theorem q1193 : Cond.code yX2_write cX2_write 4 none ∈ gw := gw_in (i := 1193) (by decide +kernel) rfl
theorem q1260 : Cond.methodLink RX10 163 yX3_hasModules ∈ gw := gw_in (i := 1260) (by decide +kernel) rfl
theorem q1261 : Cond.instanceMethod yX3_hasModules ∈ gw := gw_in (i := 1261) (by decide +kernel) rfl
theorem q1262 : Cond.selects RX3 yX3_hasModules yX3_hasModules ∈ gw := gw_in (i := 1262) (by decide +kernel) rfl
theorem q1263 : Cond.code yX3_hasModules cX3_hasModules 2 (some .boolean) ∈ gw := gw_in (i := 1263) (by decide +kernel) rfl
theorem q1280 : Cond.methodLink RX10 172 yX3_firstPublicTwice ∈ gw := gw_in (i := 1280) (by decide +kernel) rfl
theorem q1281 : Cond.instanceMethod yX3_firstPublicTwice ∈ gw := gw_in (i := 1281) (by decide +kernel) rfl
theorem q1282 : Cond.selects RX3 yX3_firstPublicTwice yX3_firstPublicTwice ∈ gw := gw_in (i := 1282) (by decide +kernel) rfl
theorem q1283 : Cond.code yX3_firstPublicTwice cX3_firstPublicTwice 4 (some .int) ∈ gw := gw_in (i := 1283) (by decide +kernel) rfl
theorem q1290 : Cond.methodLink RX10 177 yX3_firstUnsolved ∈ gw := gw_in (i := 1290) (by decide +kernel) rfl
theorem q1291 : Cond.instanceMethod yX3_firstUnsolved ∈ gw := gw_in (i := 1291) (by decide +kernel) rfl
theorem q1292 : Cond.selects RX3 yX3_firstUnsolved yX3_firstUnsolved ∈ gw := gw_in (i := 1292) (by decide +kernel) rfl
theorem q1293 : Cond.code yX3_firstUnsolved cX3_firstUnsolved 4 (some .int) ∈ gw := gw_in (i := 1293) (by decide +kernel) rfl
theorem q1295 : Cond.methodLink RX10 182 yX3_hasMain ∈ gw := gw_in (i := 1295) (by decide +kernel) rfl
theorem q1296 : Cond.instanceMethod yX3_hasMain ∈ gw := gw_in (i := 1296) (by decide +kernel) rfl
theorem q1297 : Cond.selects RX3 yX3_hasMain yX3_hasMain ∈ gw := gw_in (i := 1297) (by decide +kernel) rfl
theorem q1298 : Cond.code yX3_hasMain cX3_hasMain 1 (some .boolean) ∈ gw := gw_in (i := 1298) (by decide +kernel) rfl
theorem q1301 : Cond.methodLink RX10 187 yX3_combine ∈ gw := gw_in (i := 1301) (by decide +kernel) rfl
theorem q1302 : Cond.instanceMethod yX3_combine ∈ gw := gw_in (i := 1302) (by decide +kernel) rfl
theorem q1303 : Cond.selects RX3 yX3_combine yX3_combine ∈ gw := gw_in (i := 1303) (by decide +kernel) rfl
theorem q1304 : Cond.code yX3_combine cX3_combine 3 (some .int) ∈ gw := gw_in (i := 1304) (by decide +kernel) rfl
theorem q1320 : Cond.methodLink RX10 192 yX3_firstApart ∈ gw := gw_in (i := 1320) (by decide +kernel) rfl
theorem q1321 : Cond.instanceMethod yX3_firstApart ∈ gw := gw_in (i := 1321) (by decide +kernel) rfl
theorem q1322 : Cond.selects RX3 yX3_firstApart yX3_firstApart ∈ gw := gw_in (i := 1322) (by decide +kernel) rfl
theorem q1323 : Cond.code yX3_firstApart cX3_firstApart 4 (some .int) ∈ gw := gw_in (i := 1323) (by decide +kernel) rfl
theorem q1329 : Cond.methodLink RX10 197 yX3_write ∈ gw := gw_in (i := 1329) (by decide +kernel) rfl
theorem q1330 : Cond.instanceMethod yX3_write ∈ gw := gw_in (i := 1330) (by decide +kernel) rfl
theorem q1331 : Cond.selects RX3 yX3_write yX3_write ∈ gw := gw_in (i := 1331) (by decide +kernel) rfl
theorem q1332 : Cond.code yX3_write cX3_write 6 none ∈ gw := gw_in (i := 1332) (by decide +kernel) rfl
theorem dX10_assemble_0 : decode cX10_assemble 0 = .ok (.iload_n 1, 1) := by decide +kernel
theorem dX10_assemble_1 : decode cX10_assemble 1 = .ok (.invokestatic 108, 3) := by decide +kernel
theorem dX10_assemble_4 : decode cX10_assemble 4 = .ok (.ifCond .ne 13, 3) := by decide +kernel
theorem dX10_assemble_17 : decode cX10_assemble 17 = .ok (.aload_n 0, 1) := by decide +kernel
theorem dX10_assemble_18 : decode cX10_assemble 18 = .ok (.getfield 35, 3) := by decide +kernel
theorem dX10_assemble_21 : decode cX10_assemble 21 = .ok (.aload_n 0, 1) := by decide +kernel
theorem dX10_assemble_22 : decode cX10_assemble 22 = .ok (.getfield 9, 3) := by decide +kernel
theorem dX10_assemble_25 : decode cX10_assemble 25 = .ok (.aload_n 0, 1) := by decide +kernel
theorem dX10_assemble_26 : decode cX10_assemble 26 = .ok (.getfield 13, 3) := by decide +kernel
theorem dX10_assemble_29 : decode cX10_assemble 29 = .ok (.invokevirtual 114, 3) := by decide +kernel
theorem dX10_assemble_32 : decode cX10_assemble 32 = .ok (.aload_n 0, 1) := by decide +kernel
theorem dX10_assemble_33 : decode cX10_assemble 33 = .ok (.iconst 0, 1) := by decide +kernel
theorem dX10_assemble_34 : decode cX10_assemble 34 = .ok (.putfield 13, 3) := by decide +kernel
theorem dX10_assemble_37 : decode cX10_assemble 37 = .ok (.aload_n 0, 1) := by decide +kernel
theorem dX10_assemble_38 : decode cX10_assemble 38 = .ok (.getfield 47, 3) := by decide +kernel
theorem dX10_assemble_41 : decode cX10_assemble 41 = .ok (.invokevirtual 118, 3) := by decide +kernel
theorem dX10_assemble_44 : decode cX10_assemble 44 = .ok (.istore_n 2, 1) := by decide +kernel
theorem dX10_assemble_45 : decode cX10_assemble 45 = .ok (.iload_n 2, 1) := by decide +kernel
theorem dX10_assemble_46 : decode cX10_assemble 46 = .ok (.ifCond .lt 19, 3) := by decide +kernel
theorem dX10_assemble_65 : decode cX10_assemble 65 = .ok (.aload_n 0, 1) := by decide +kernel
theorem dX10_assemble_66 : decode cX10_assemble 66 = .ok (.getfield 56, 3) := by decide +kernel
theorem dX10_assemble_69 : decode cX10_assemble 69 = .ok (.invokevirtual 131, 3) := by decide +kernel
theorem dX10_assemble_72 : decode cX10_assemble 72 = .ok (.istore_n 3, 1) := by decide +kernel
theorem dX10_assemble_73 : decode cX10_assemble 73 = .ok (.iload_n 3, 1) := by decide +kernel
theorem dX10_assemble_74 : decode cX10_assemble 74 = .ok (.ifCond .lt 19, 3) := by decide +kernel
theorem dX10_assemble_93 : decode cX10_assemble 93 = .ok (.aload_n 0, 1) := by decide +kernel
theorem dX10_assemble_94 : decode cX10_assemble 94 = .ok (.getfield 56, 3) := by decide +kernel
theorem dX10_assemble_97 : decode cX10_assemble 97 = .ok (.invokevirtual 139, 3) := by decide +kernel
theorem dX10_assemble_100 : decode cX10_assemble 100 = .ok (.istore 4, 2) := by decide +kernel
theorem dX10_assemble_102 : decode cX10_assemble 102 = .ok (.iload 4, 2) := by decide +kernel
theorem dX10_assemble_104 : decode cX10_assemble 104 = .ok (.sipush 400, 3) := by decide +kernel
theorem dX10_assemble_107 : decode cX10_assemble 107 = .ok (.if_icmp .le 19, 3) := by decide +kernel
theorem dX10_assemble_126 : decode cX10_assemble 126 = .ok (.aload_n 0, 1) := by decide +kernel
theorem dX10_assemble_127 : decode cX10_assemble 127 = .ok (.getfield 56, 3) := by decide +kernel
theorem dX10_assemble_130 : decode cX10_assemble 130 = .ok (.invokevirtual 144, 3) := by decide +kernel
theorem dX10_assemble_133 : decode cX10_assemble 133 = .ok (.istore 5, 2) := by decide +kernel
theorem dX10_assemble_135 : decode cX10_assemble 135 = .ok (.iload 5, 2) := by decide +kernel
theorem dX10_assemble_137 : decode cX10_assemble 137 = .ok (.ifCond .lt 20, 3) := by decide +kernel
theorem dX10_assemble_157 : decode cX10_assemble 157 = .ok (.aload_n 0, 1) := by decide +kernel
theorem dX10_assemble_158 : decode cX10_assemble 158 = .ok (.getfield 56, 3) := by decide +kernel
theorem dX10_assemble_161 : decode cX10_assemble 161 = .ok (.aload_n 0, 1) := by decide +kernel
theorem dX10_assemble_162 : decode cX10_assemble 162 = .ok (.getfield 62, 3) := by decide +kernel
theorem dX10_assemble_165 : decode cX10_assemble 165 = .ok (.iload_n 1, 1) := by decide +kernel
theorem dX10_assemble_166 : decode cX10_assemble 166 = .ok (.aaload, 1) := by decide +kernel
theorem dX10_assemble_167 : decode cX10_assemble 167 = .ok (.invokevirtual 152, 3) := by decide +kernel
theorem dX10_assemble_170 : decode cX10_assemble 170 = .ok (.aload_n 0, 1) := by decide +kernel
theorem dX10_assemble_171 : decode cX10_assemble 171 = .ok (.iconst (-1), 1) := by decide +kernel
theorem dX10_assemble_172 : decode cX10_assemble 172 = .ok (.iconst (-1), 1) := by decide +kernel
theorem dX10_assemble_173 : decode cX10_assemble 173 = .ok (.invokevirtual 122, 3) := by decide +kernel
theorem dX10_assemble_176 : decode cX10_assemble 176 = .ok (.iload 4, 2) := by decide +kernel
theorem dX10_assemble_178 : decode cX10_assemble 178 = .ok (.ireturn, 1) := by decide +kernel
theorem dX10_assemble_140 : decode cX10_assemble 140 = .ok (.aload_n 0, 1) := by decide +kernel
theorem dX10_assemble_141 : decode cX10_assemble 141 = .ok (.iconst 3, 1) := by decide +kernel
theorem dX10_assemble_142 : decode cX10_assemble 142 = .ok (.iload 5, 2) := by decide +kernel
theorem dX10_assemble_144 : decode cX10_assemble 144 = .ok (.invokevirtual 122, 3) := by decide +kernel
theorem dX10_assemble_147 : decode cX10_assemble 147 = .ok (.new 147, 3) := by decide +kernel
theorem dX10_assemble_150 : decode cX10_assemble 150 = .ok (.dup, 1) := by decide +kernel
theorem dX10_assemble_151 : decode cX10_assemble 151 = .ok (.ldc 149, 2) := by decide +kernel
theorem dX10_assemble_153 : decode cX10_assemble 153 = .ok (.invokespecial 151, 3) := by decide +kernel
theorem dX10_assemble_156 : decode cX10_assemble 156 = .ok (.athrow, 1) := by decide +kernel
theorem dX10_assemble_110 : decode cX10_assemble 110 = .ok (.aload_n 0, 1) := by decide +kernel
theorem dX10_assemble_111 : decode cX10_assemble 111 = .ok (.iconst 4, 1) := by decide +kernel
theorem dX10_assemble_112 : decode cX10_assemble 112 = .ok (.iconst (-1), 1) := by decide +kernel
theorem dX10_assemble_113 : decode cX10_assemble 113 = .ok (.invokevirtual 122, 3) := by decide +kernel
theorem dX10_assemble_116 : decode cX10_assemble 116 = .ok (.new 103, 3) := by decide +kernel
theorem dX10_assemble_119 : decode cX10_assemble 119 = .ok (.dup, 1) := by decide +kernel
theorem dX10_assemble_120 : decode cX10_assemble 120 = .ok (.ldc 142, 2) := by decide +kernel
theorem dX10_assemble_122 : decode cX10_assemble 122 = .ok (.invokespecial 107, 3) := by decide +kernel
theorem dX10_assemble_125 : decode cX10_assemble 125 = .ok (.athrow, 1) := by decide +kernel
theorem dX10_assemble_77 : decode cX10_assemble 77 = .ok (.aload_n 0, 1) := by decide +kernel
theorem dX10_assemble_78 : decode cX10_assemble 78 = .ok (.iconst 2, 1) := by decide +kernel
theorem dX10_assemble_79 : decode cX10_assemble 79 = .ok (.iload_n 3, 1) := by decide +kernel
theorem dX10_assemble_80 : decode cX10_assemble 80 = .ok (.invokevirtual 122, 3) := by decide +kernel
theorem dX10_assemble_83 : decode cX10_assemble 83 = .ok (.new 134, 3) := by decide +kernel
theorem dX10_assemble_86 : decode cX10_assemble 86 = .ok (.dup, 1) := by decide +kernel
theorem dX10_assemble_87 : decode cX10_assemble 87 = .ok (.ldc 136, 2) := by decide +kernel
theorem dX10_assemble_89 : decode cX10_assemble 89 = .ok (.invokespecial 138, 3) := by decide +kernel
theorem dX10_assemble_92 : decode cX10_assemble 92 = .ok (.athrow, 1) := by decide +kernel
theorem dX10_assemble_49 : decode cX10_assemble 49 = .ok (.aload_n 0, 1) := by decide +kernel
theorem dX10_assemble_50 : decode cX10_assemble 50 = .ok (.iconst 1, 1) := by decide +kernel
theorem dX10_assemble_51 : decode cX10_assemble 51 = .ok (.iload_n 2, 1) := by decide +kernel
theorem dX10_assemble_52 : decode cX10_assemble 52 = .ok (.invokevirtual 122, 3) := by decide +kernel
theorem dX10_assemble_55 : decode cX10_assemble 55 = .ok (.new 126, 3) := by decide +kernel
theorem dX10_assemble_58 : decode cX10_assemble 58 = .ok (.dup, 1) := by decide +kernel
theorem dX10_assemble_59 : decode cX10_assemble 59 = .ok (.ldc 128, 2) := by decide +kernel
theorem dX10_assemble_61 : decode cX10_assemble 61 = .ok (.invokespecial 130, 3) := by decide +kernel
theorem dX10_assemble_64 : decode cX10_assemble 64 = .ok (.athrow, 1) := by decide +kernel
theorem dX10_assemble_7 : decode cX10_assemble 7 = .ok (.new 90, 3) := by decide +kernel
theorem dX10_assemble_10 : decode cX10_assemble 10 = .ok (.dup, 1) := by decide +kernel
theorem dX10_assemble_11 : decode cX10_assemble 11 = .ok (.ldc 112, 2) := by decide +kernel
theorem dX10_assemble_13 : decode cX10_assemble 13 = .ok (.invokespecial 94, 3) := by decide +kernel
theorem dX10_assemble_16 : decode cX10_assemble 16 = .ok (.athrow, 1) := by decide +kernel
theorem dX10_link_0 : decode cX10_link 0 = .ok (.aload_n 0, 1) := by decide +kernel
theorem dX10_link_1 : decode cX10_link 1 = .ok (.getfield 72, 3) := by decide +kernel
theorem dX10_link_4 : decode cX10_link 4 = .ok (.invokevirtual 163, 3) := by decide +kernel
theorem dX10_link_7 : decode cX10_link 7 = .ok (.ifCond .ne 13, 3) := by decide +kernel
theorem dX10_link_20 : decode cX10_link 20 = .ok (.aload_n 0, 1) := by decide +kernel
theorem dX10_link_21 : decode cX10_link 21 = .ok (.getfield 72, 3) := by decide +kernel
theorem dX10_link_24 : decode cX10_link 24 = .ok (.invokevirtual 172, 3) := by decide +kernel
theorem dX10_link_27 : decode cX10_link 27 = .ok (.istore_n 1, 1) := by decide +kernel
theorem dX10_link_28 : decode cX10_link 28 = .ok (.iload_n 1, 1) := by decide +kernel
theorem dX10_link_29 : decode cX10_link 29 = .ok (.ifCond .lt 19, 3) := by decide +kernel
theorem dX10_link_48 : decode cX10_link 48 = .ok (.aload_n 0, 1) := by decide +kernel
theorem dX10_link_49 : decode cX10_link 49 = .ok (.getfield 72, 3) := by decide +kernel
theorem dX10_link_52 : decode cX10_link 52 = .ok (.invokevirtual 177, 3) := by decide +kernel
theorem dX10_link_55 : decode cX10_link 55 = .ok (.istore_n 2, 1) := by decide +kernel
theorem dX10_link_56 : decode cX10_link 56 = .ok (.iload_n 2, 1) := by decide +kernel
theorem dX10_link_57 : decode cX10_link 57 = .ok (.ifCond .lt 20, 3) := by decide +kernel
theorem dX10_link_77 : decode cX10_link 77 = .ok (.aload_n 0, 1) := by decide +kernel
theorem dX10_link_78 : decode cX10_link 78 = .ok (.getfield 72, 3) := by decide +kernel
theorem dX10_link_81 : decode cX10_link 81 = .ok (.invokevirtual 182, 3) := by decide +kernel
theorem dX10_link_84 : decode cX10_link 84 = .ok (.ifCond .ne 20, 3) := by decide +kernel
theorem dX10_link_104 : decode cX10_link 104 = .ok (.aload_n 0, 1) := by decide +kernel
theorem dX10_link_105 : decode cX10_link 105 = .ok (.getfield 72, 3) := by decide +kernel
theorem dX10_link_108 : decode cX10_link 108 = .ok (.invokevirtual 187, 3) := by decide +kernel
theorem dX10_link_111 : decode cX10_link 111 = .ok (.istore_n 3, 1) := by decide +kernel
theorem dX10_link_112 : decode cX10_link 112 = .ok (.iload_n 3, 1) := by decide +kernel
theorem dX10_link_113 : decode cX10_link 113 = .ok (.sipush 1200, 3) := by decide +kernel
theorem dX10_link_116 : decode cX10_link 116 = .ok (.if_icmp .le 20, 3) := by decide +kernel
theorem dX10_link_136 : decode cX10_link 136 = .ok (.aload_n 0, 1) := by decide +kernel
theorem dX10_link_137 : decode cX10_link 137 = .ok (.getfield 72, 3) := by decide +kernel
theorem dX10_link_140 : decode cX10_link 140 = .ok (.invokevirtual 192, 3) := by decide +kernel
theorem dX10_link_143 : decode cX10_link 143 = .ok (.istore 4, 2) := by decide +kernel
theorem dX10_link_145 : decode cX10_link 145 = .ok (.iload 4, 2) := by decide +kernel
theorem dX10_link_147 : decode cX10_link 147 = .ok (.ifCond .lt 21, 3) := by decide +kernel
theorem dX10_link_168 : decode cX10_link 168 = .ok (.aload_n 0, 1) := by decide +kernel
theorem dX10_link_169 : decode cX10_link 169 = .ok (.getfield 72, 3) := by decide +kernel
theorem dX10_link_172 : decode cX10_link 172 = .ok (.aload_n 0, 1) := by decide +kernel
theorem dX10_link_173 : decode cX10_link 173 = .ok (.getfield 79, 3) := by decide +kernel
theorem dX10_link_176 : decode cX10_link 176 = .ok (.iload_n 3, 1) := by decide +kernel
theorem dX10_link_177 : decode cX10_link 177 = .ok (.invokevirtual 197, 3) := by decide +kernel
theorem dX10_link_180 : decode cX10_link 180 = .ok (.aload_n 0, 1) := by decide +kernel
theorem dX10_link_181 : decode cX10_link 181 = .ok (.iconst (-1), 1) := by decide +kernel
theorem dX10_link_182 : decode cX10_link 182 = .ok (.iconst (-1), 1) := by decide +kernel
theorem dX10_link_183 : decode cX10_link 183 = .ok (.invokevirtual 122, 3) := by decide +kernel
theorem dX10_link_186 : decode cX10_link 186 = .ok (.iload_n 3, 1) := by decide +kernel
theorem dX10_link_187 : decode cX10_link 187 = .ok (.ireturn, 1) := by decide +kernel
theorem dX10_link_150 : decode cX10_link 150 = .ok (.aload_n 0, 1) := by decide +kernel
theorem dX10_link_151 : decode cX10_link 151 = .ok (.bipush 7, 2) := by decide +kernel
theorem dX10_link_153 : decode cX10_link 153 = .ok (.iload 4, 2) := by decide +kernel
theorem dX10_link_155 : decode cX10_link 155 = .ok (.invokevirtual 122, 3) := by decide +kernel
theorem dX10_link_158 : decode cX10_link 158 = .ok (.new 147, 3) := by decide +kernel
theorem dX10_link_161 : decode cX10_link 161 = .ok (.dup, 1) := by decide +kernel
theorem dX10_link_162 : decode cX10_link 162 = .ok (.ldc 195, 2) := by decide +kernel
theorem dX10_link_164 : decode cX10_link 164 = .ok (.invokespecial 151, 3) := by decide +kernel
theorem dX10_link_167 : decode cX10_link 167 = .ok (.athrow, 1) := by decide +kernel
theorem dX10_link_119 : decode cX10_link 119 = .ok (.aload_n 0, 1) := by decide +kernel
theorem dX10_link_120 : decode cX10_link 120 = .ok (.bipush 9, 2) := by decide +kernel
theorem dX10_link_122 : decode cX10_link 122 = .ok (.iconst (-1), 1) := by decide +kernel
theorem dX10_link_123 : decode cX10_link 123 = .ok (.invokevirtual 122, 3) := by decide +kernel
theorem dX10_link_126 : decode cX10_link 126 = .ok (.new 103, 3) := by decide +kernel
theorem dX10_link_129 : decode cX10_link 129 = .ok (.dup, 1) := by decide +kernel
theorem dX10_link_130 : decode cX10_link 130 = .ok (.ldc 190, 2) := by decide +kernel
theorem dX10_link_132 : decode cX10_link 132 = .ok (.invokespecial 107, 3) := by decide +kernel
theorem dX10_link_135 : decode cX10_link 135 = .ok (.athrow, 1) := by decide +kernel
theorem dX10_link_87 : decode cX10_link 87 = .ok (.aload_n 0, 1) := by decide +kernel
theorem dX10_link_88 : decode cX10_link 88 = .ok (.bipush 8, 2) := by decide +kernel
theorem dX10_link_90 : decode cX10_link 90 = .ok (.iconst (-1), 1) := by decide +kernel
theorem dX10_link_91 : decode cX10_link 91 = .ok (.invokevirtual 122, 3) := by decide +kernel
theorem dX10_link_94 : decode cX10_link 94 = .ok (.new 134, 3) := by decide +kernel
theorem dX10_link_97 : decode cX10_link 97 = .ok (.dup, 1) := by decide +kernel
theorem dX10_link_98 : decode cX10_link 98 = .ok (.ldc 185, 2) := by decide +kernel
theorem dX10_link_100 : decode cX10_link 100 = .ok (.invokespecial 138, 3) := by decide +kernel
theorem dX10_link_103 : decode cX10_link 103 = .ok (.athrow, 1) := by decide +kernel
theorem dX10_link_60 : decode cX10_link 60 = .ok (.aload_n 0, 1) := by decide +kernel
theorem dX10_link_61 : decode cX10_link 61 = .ok (.bipush 6, 2) := by decide +kernel
theorem dX10_link_63 : decode cX10_link 63 = .ok (.iload_n 2, 1) := by decide +kernel
theorem dX10_link_64 : decode cX10_link 64 = .ok (.invokevirtual 122, 3) := by decide +kernel
theorem dX10_link_67 : decode cX10_link 67 = .ok (.new 134, 3) := by decide +kernel
theorem dX10_link_70 : decode cX10_link 70 = .ok (.dup, 1) := by decide +kernel
theorem dX10_link_71 : decode cX10_link 71 = .ok (.ldc 180, 2) := by decide +kernel
theorem dX10_link_73 : decode cX10_link 73 = .ok (.invokespecial 138, 3) := by decide +kernel
theorem dX10_link_76 : decode cX10_link 76 = .ok (.athrow, 1) := by decide +kernel
theorem dX10_link_32 : decode cX10_link 32 = .ok (.aload_n 0, 1) := by decide +kernel
theorem dX10_link_33 : decode cX10_link 33 = .ok (.iconst 5, 1) := by decide +kernel
theorem dX10_link_34 : decode cX10_link 34 = .ok (.iload_n 1, 1) := by decide +kernel
theorem dX10_link_35 : decode cX10_link 35 = .ok (.invokevirtual 122, 3) := by decide +kernel
theorem dX10_link_38 : decode cX10_link 38 = .ok (.new 126, 3) := by decide +kernel
theorem dX10_link_41 : decode cX10_link 41 = .ok (.dup, 1) := by decide +kernel
theorem dX10_link_42 : decode cX10_link 42 = .ok (.ldc 175, 2) := by decide +kernel
theorem dX10_link_44 : decode cX10_link 44 = .ok (.invokespecial 130, 3) := by decide +kernel
theorem dX10_link_47 : decode cX10_link 47 = .ok (.athrow, 1) := by decide +kernel
theorem dX10_link_10 : decode cX10_link 10 = .ok (.new 167, 3) := by decide +kernel
theorem dX10_link_13 : decode cX10_link 13 = .ok (.dup, 1) := by decide +kernel
theorem dX10_link_14 : decode cX10_link 14 = .ok (.ldc 169, 2) := by decide +kernel
theorem dX10_link_16 : decode cX10_link 16 = .ok (.invokespecial 171, 3) := by decide +kernel
theorem dX10_link_19 : decode cX10_link 19 = .ok (.athrow, 1) := by decide +kernel
def wpX10_assemble (a1 : Int) (σ : ZS) (Q : Int → ZS → Prop) (X : String → ZS → Prop) : Prop := wpX10_isModule a1 σ (fun (x1 : Int) (σ2 : ZS) => (-2147483648 ≤ x1 ∧ x1 ≤ 2147483647) ∧ (¬ x1 = 0 → wpX9_read (zI σ2 10 1) σ2 (fun (σ6 : ZS) => wpX8_parse (zsI σ6 10 1 0) (fun (x7 : Int) (σ8 : ZS) => (-2147483648 ≤ x7 ∧ x7 ≤ 2147483647) ∧ (x7 < 0 → wpX2_firstWrong σ8 (fun (x11 : Int) (σ12 : ZS) => (-2147483648 ≤ x11 ∧ x11 ≤ 2147483647) ∧ (x11 < 0 → wpX2_sizeJumps σ12 (fun (x15 : Int) (σ16 : ZS) => (-2147483648 ≤ x15 ∧ x15 ≤ 2147483647) ∧ (x15 ≤ 400 → wpX2_firstTooFar σ16 (fun (x19 : Int) (σ20 : ZS) => (-2147483648 ≤ x19 ∧ x19 ≤ 2147483647) ∧ (x19 < 0 → (0 ≤ a1 ∧ a1 < 3) ∧ wpX2_write a1 σ20 (fun (σ25 : ZS) => wpX10_tell (-1) (-1) σ25 (fun (σ27 : ZS) => Q x15 σ27))) ∧ (¬ x19 < 0 → wpX10_tell 3 x19 σ20 (fun (σ29 : ZS) => X xARI σ29)))) ∧ (¬ x15 ≤ 400 → wpX10_tell 4 (-1) σ16 (fun (σ31 : ZS) => X xIOB σ31)))) ∧ (¬ x11 < 0 → wpX10_tell 2 x11 σ12 (fun (σ33 : ZS) => X xNSE σ33)))) ∧ (¬ x7 < 0 → wpX10_tell 1 x7 σ8 (fun (σ35 : ZS) => X xUOE σ35))))) ∧ (x1 = 0 → X xIAE σ2))
set_option maxHeartbeats 4000000 in
set_option maxRecDepth 100000 in
theorem kX10_assemble (l : Launch) (htr : l.stackTraces = false) (D : va_G) (dA : Nat → ClassId) (ad : Int → Nat → Nat) (tf tc : Nat) (aK aV : Nat → Nat) (a1 : Int) (σ : ZS) (Q : Int → ZS → Prop) (X : String → ZS → Prop) (sz : Nat) (hw : wpX10_assemble a1 σ Q X) : vx_Met l yX10_assemble (gws yX10_assemble cX10_assemble 6 (some .int)) (gR 8 1 6) (gPreE D dA tf tc aK aV [.ref (ad 10 1000), .int (Int32.ofInt a1)] (zC dA ad σ) sz) (va_Qi (zQi Q) (gAt D dA (va_A (zC dA ad σ) sz) (zC dA ad)) (va_A (zC dA ad σ) sz)) (zX D dA X (zC dA ad) (va_A (zC dA ad σ) sz)) 1 6 (va_A (zC dA ad σ) sz) := by
  refine vx_ofW (cc := cX10_assemble) (maxL := 6) (ret := (some .int)) (by decide) rfl ?_
  intro p e s m args below meth c s₁ B hml hnt hv
  obtain ⟨rfl, hsz, hP, hK, hD0, hE⟩ := hv
  have hx := B.exec
  have hb := B.bytes
  have hr := B.returns
  have hts := atoms_spec (ws := gws yX10_assemble cX10_assemble 6 (some .int)) B.pre
  have hg : ∀ w ∈ gw, w.before _ s = true := fun w h => hts w (List.mem_cons_of_mem _ h)
  have hown : s.vm.findClass RX10 = some m.cls := findClass_of_methodNamed B.named
  have hlocks := B.notSynchronized
  subst hsz
  have hD := hD0.self (sz := s.heap.size)
  generalize hAe : va_A (zC dA ad σ) s.heap.size = A at hD hE ⊢
  have hA : ∀ q : Nat, s.heap.size ≤ q → A q := fun q h => by rw [← hAe]; exact Or.inr h
  have hS : va_S A s.heap s.heap [] := va_S.rf
  have hl := lv_entry ([.ref (ad 10 1000), .int (Int32.ofInt a1)]) (n := 6) (Nat.le_of_ble_eq_true rfl)
  rw [lg_entry_eq]
  generalize (lg_sl ([.ref (ad 10 1000), .int (Int32.ofInt a1)]) ++ List.replicate (6 - (lg_sl ([.ref (ad 10 1000), .int (Int32.ofInt a1)])).length) Slot.unset).toArray = ls at hl ⊢
  have hl : lv_has ls 6 [(0, .ref (ad 10 1000)), (1, .int (Int32.ofInt a1))] := hl
  have hret : ∀ (v : Int) (σ : ZS) (H : Heap) (locs : List Loc) (ls : Array Slot) (pc : Nat), Q v σ → va_P D vwC (zC dA ad σ) H → va_D A (zC dA ad σ) → va_S A s.heap H locs → decode cX10_assemble pc = .ok (.ireturn, 1) → W p l e (gR 8 1 6) s m #[.ref (ad 10 1000), .int (Int32.ofInt a1)] below meth c H locs 0 0 (vx_MQ below (va_Qi (zQi Q) (gAt D dA A (zC dA ad)) A) (zX D dA X (zC dA ad) A) #[.ref (ad 10 1000), .int (Int32.ofInt a1)] s 1 6 A) (F0 m pc ls [.int (Int32.ofInt v)]) := fun v σ H locs ls pc hw hP hD hS hd => vx_ret (g_iret hx hb hr rfl hlocks hK σ hP hD hS ⟨v, rfl, hw⟩ (Nat.le_of_ble_eq_true rfl) (Nat.le_of_ble_eq_true rfl) hd)
  unfold wpX10_assemble at hw
  refine lv_iload_n hx hb dX10_assemble_0 rfl (lv_at hl 1 rfl) ?_
  refine z_Si (n := 1) (As := [.int (Int32.ofInt a1)]) (rest := []) hx hb hml hg hown hK hP hD hS hA (kX10_isModule l D dA ad a1 σ _ _ hw) q789 q149 q787 q788 (by decide +kernel) ⟨(Nat.le_of_ble_eq_true rfl), (Nat.le_of_ble_eq_true rfl)⟩ rfl hl.1 rfl (Nat.le_of_ble_eq_true rfl) dX10_assemble_1 ⟨(Nat.le_of_ble_eq_true rfl), (Nat.le_of_ble_eq_true rfl)⟩ (fun x1 σ2 H locs hw hP hD hS => ?_)
  obtain ⟨o3, hw⟩ := hw
  refine z_if_ne (tgt := 17) hx hb o3 dX10_assemble_4 (by decide) (fun k4 => ?_) (fun k4 => ?_)
  · replace hw := hw.1 k4
    refine lv_aload_n hx hb dX10_assemble_17 rfl (lv_at hl 0 rfl) ?_
    refine zgC10_5 hx hb hg hown hK hP q611 dX10_assemble_18 ?_
    refine lv_aload_n hx hb dX10_assemble_21 rfl (lv_at hl 0 rfl) ?_
    refine zgC10_0 hx hb hg hown hK hP q606 dX10_assemble_22 ?_
    refine lv_aload_n hx hb dX10_assemble_25 rfl (lv_at hl 0 rfl) ?_
    refine zgC10_1 hx hb hg hown hK hP q607 dX10_assemble_26 ?_
    refine z_EVv (n := 2) (As := [.ref (ad 10 0), .int (Int32.ofInt (zI σ2 10 1))]) (rest := []) hx hb hml hg hown hE hK hP hD hS hA (kX9_read l D dA ad tf tc aK aV (zI σ2 10 1) σ2 _ _ hw) (z_rec hK hP (zoC12) rfl) q794 q151 q791 q792 q793 (by decide +kernel) ⟨(Nat.le_of_ble_eq_true rfl), (Nat.le_of_ble_eq_true rfl)⟩ rfl hl.1 rfl (Nat.le_of_ble_eq_true rfl) dX10_assemble_29 ⟨(Nat.le_of_ble_eq_true rfl), (Nat.le_of_ble_eq_true rfl)⟩ (fun σ6 H locs hw hP hD hS => ?_)
    refine lv_aload_n hx hb dX10_assemble_32 rfl (lv_at hl 0 rfl) ?_
    refine lv_iconst (v := Int32.ofInt 0) hx hb dX10_assemble_33 (by decide) ?_
    refine zpC10_1 (v := 0) hx hb hg hown hK hP hD hS q607 dX10_assemble_34 (fun H locs hP hD hS => ?_)
    refine lv_aload_n hx hb dX10_assemble_37 rfl (lv_at hl 0 rfl) ?_
    refine zgC10_6 hx hb hg hown hK hP q612 dX10_assemble_38 ?_
    refine z_EVi (n := 0) (As := []) (rest := []) hx hb hml hg hown hE hK hP hD hS hA (kX8_parse l D dA ad tf tc aK aV (zsI σ6 10 1 0) _ _ hw) (z_rec hK hP (zoC14) rfl) q942 q153 q939 q940 q941 (by decide +kernel) ⟨(Nat.le_of_ble_eq_true rfl), (Nat.le_of_ble_eq_true rfl)⟩ rfl hl.1 rfl (Nat.le_of_ble_eq_true rfl) dX10_assemble_41 ⟨(Nat.le_of_ble_eq_true rfl), (Nat.le_of_ble_eq_true rfl)⟩ (fun x7 σ8 H locs hw hP hD hS => ?_)
    refine lv_istore_n (lv' := [(2, .int (Int32.ofInt x7)), (0, .ref (ad 10 1000)), (1, .int (Int32.ofInt a1))]) hx hb dX10_assemble_44 rfl hl (by decide) rfl (fun ls hl => ?_)
    refine lv_iload_n hx hb dX10_assemble_45 rfl (lv_at hl 0 rfl) ?_
    obtain ⟨o9, hw⟩ := hw
    refine z_if_lt (tgt := 65) hx hb o9 dX10_assemble_46 (by decide) (fun k10 => ?_) (fun k10 => ?_)
    · replace hw := hw.1 k10
      refine lv_aload_n hx hb dX10_assemble_65 rfl (lv_at hl 1 rfl) ?_
      refine zgC10_7 hx hb hg hown hK hP q613 dX10_assemble_66 ?_
      refine z_Vi (n := 0) (As := []) (rest := []) hx hb hml hg hown hK hP hD hS hA (kX2_firstWrong l D dA ad σ8 _ _ hw) (zoC15) rfl q1109 q155 q1106 q1107 q1108 (by decide +kernel) ⟨(Nat.le_of_ble_eq_true rfl), (Nat.le_of_ble_eq_true rfl)⟩ rfl hl.1 rfl (Nat.le_of_ble_eq_true rfl) dX10_assemble_69 ⟨(Nat.le_of_ble_eq_true rfl), (Nat.le_of_ble_eq_true rfl)⟩ (fun x11 σ12 H locs hw hP hD hS => ?_)
      refine lv_istore_n (lv' := [(3, .int (Int32.ofInt x11)), (2, .int (Int32.ofInt x7)), (0, .ref (ad 10 1000)), (1, .int (Int32.ofInt a1))]) hx hb dX10_assemble_72 rfl hl (by decide) rfl (fun ls hl => ?_)
      refine lv_iload_n hx hb dX10_assemble_73 rfl (lv_at hl 0 rfl) ?_
      obtain ⟨o13, hw⟩ := hw
      refine z_if_lt (tgt := 93) hx hb o13 dX10_assemble_74 (by decide) (fun k14 => ?_) (fun k14 => ?_)
      · replace hw := hw.1 k14
        refine lv_aload_n hx hb dX10_assemble_93 rfl (lv_at hl 2 rfl) ?_
        refine zgC10_7 hx hb hg hown hK hP q613 dX10_assemble_94 ?_
        refine z_Vi (n := 0) (As := []) (rest := []) hx hb hml hg hown hK hP hD hS hA (kX2_sizeJumps l D dA ad σ12 _ _ hw) (zoC15) rfl q1157 q155 q1154 q1155 q1156 (by decide +kernel) ⟨(Nat.le_of_ble_eq_true rfl), (Nat.le_of_ble_eq_true rfl)⟩ rfl hl.1 rfl (Nat.le_of_ble_eq_true rfl) dX10_assemble_97 ⟨(Nat.le_of_ble_eq_true rfl), (Nat.le_of_ble_eq_true rfl)⟩ (fun x15 σ16 H locs hw hP hD hS => ?_)
        refine lv_istore (lv' := [(4, .int (Int32.ofInt x15)), (3, .int (Int32.ofInt x11)), (2, .int (Int32.ofInt x7)), (0, .ref (ad 10 1000)), (1, .int (Int32.ofInt a1))]) hx hb dX10_assemble_100 hl (by decide) rfl (fun ls hl => ?_)
        refine lv_iload hx hb dX10_assemble_102 (lv_at hl 0 rfl) ?_
        refine lv_sipush (v := Int32.ofInt 400) hx hb dX10_assemble_104 (by decide) ?_
        obtain ⟨o17, hw⟩ := hw
        refine z_icmp_le (tgt := 126) hx hb o17 (by decide) dX10_assemble_107 (by decide) (fun k18 => ?_) (fun k18 => ?_)
        · replace hw := hw.1 k18
          refine lv_aload_n hx hb dX10_assemble_126 rfl (lv_at hl 3 rfl) ?_
          refine zgC10_7 hx hb hg hown hK hP q613 dX10_assemble_127 ?_
          refine z_Vi (n := 0) (As := []) (rest := []) hx hb hml hg hown hK hP hD hS hA (kX2_firstTooFar l D dA ad σ16 _ _ hw) (zoC15) rfl q1186 q155 q1183 q1184 q1185 (by decide +kernel) ⟨(Nat.le_of_ble_eq_true rfl), (Nat.le_of_ble_eq_true rfl)⟩ rfl hl.1 rfl (Nat.le_of_ble_eq_true rfl) dX10_assemble_130 ⟨(Nat.le_of_ble_eq_true rfl), (Nat.le_of_ble_eq_true rfl)⟩ (fun x19 σ20 H locs hw hP hD hS => ?_)
          refine lv_istore (lv' := [(5, .int (Int32.ofInt x19)), (4, .int (Int32.ofInt x15)), (3, .int (Int32.ofInt x11)), (2, .int (Int32.ofInt x7)), (0, .ref (ad 10 1000)), (1, .int (Int32.ofInt a1))]) hx hb dX10_assemble_133 hl (by decide) rfl (fun ls hl => ?_)
          refine lv_iload hx hb dX10_assemble_135 (lv_at hl 0 rfl) ?_
          obtain ⟨o21, hw⟩ := hw
          refine z_if_lt (tgt := 157) hx hb o21 dX10_assemble_137 (by decide) (fun k22 => ?_) (fun k22 => ?_)
          · replace hw := hw.1 k22
            refine lv_aload_n hx hb dX10_assemble_157 rfl (lv_at hl 4 rfl) ?_
            refine zgC10_7 hx hb hg hown hK hP q613 dX10_assemble_158 ?_
            refine lv_aload_n hx hb dX10_assemble_161 rfl (lv_at hl 4 rfl) ?_
            refine zgC10_8 hx hb hg hown hK hP q614 dX10_assemble_162 ?_
            refine lv_iload_n hx hb dX10_assemble_165 rfl (lv_at hl 5 rfl) ?_
            obtain ⟨o23, hw⟩ := hw
            refine zlC10_8 hx hb o23 hK hP dX10_assemble_166 ?_
            refine z_Vv (n := 1) (As := [.ref (ad a1 1000)]) (rest := []) hx hb hml hg hown hK hP hD hS hA (kX2_write l D dA ad a1 σ20 _ _ hw) (zoC15) rfl q1193 q155 q1190 q1191 q1192 (by decide +kernel) ⟨(Nat.le_of_ble_eq_true rfl), (Nat.le_of_ble_eq_true rfl)⟩ rfl hl.1 rfl (Nat.le_of_ble_eq_true rfl) dX10_assemble_167 ⟨(Nat.le_of_ble_eq_true rfl), (Nat.le_of_ble_eq_true rfl)⟩ (fun σ25 H locs hw hP hD hS => ?_)
            refine lv_aload_n hx hb dX10_assemble_170 rfl (lv_at hl 4 rfl) ?_
            refine lv_iconst (v := Int32.ofInt (-1)) hx hb dX10_assemble_171 (by decide) ?_
            refine lv_iconst (v := Int32.ofInt (-1)) hx hb dX10_assemble_172 (by decide) ?_
            refine z_Vv (n := 2) (As := [.int (Int32.ofInt (-1)), .int (Int32.ofInt (-1))]) (rest := []) hx hb hml hg hown hK hP hD hS hA (kX10_tell l D dA ad (-1) (-1) σ25 _ _ hw) (zoC10) rfl q1089 q149 q1086 q1088 q27 (by decide +kernel) ⟨(Nat.le_of_ble_eq_true rfl), (Nat.le_of_ble_eq_true rfl)⟩ rfl hl.1 rfl (Nat.le_of_ble_eq_true rfl) dX10_assemble_173 ⟨(Nat.le_of_ble_eq_true rfl), (Nat.le_of_ble_eq_true rfl)⟩ (fun σ27 H locs hw hP hD hS => ?_)
            refine lv_iload hx hb dX10_assemble_176 (lv_at hl 1 rfl) ?_
            exact hret x15 σ27 _ _ _ _ hw hP hD hS dX10_assemble_178
          · replace hw := hw.2 k22
            refine lv_aload_n hx hb dX10_assemble_140 rfl (lv_at hl 4 rfl) ?_
            refine lv_iconst (v := Int32.ofInt 3) hx hb dX10_assemble_141 (by decide) ?_
            refine lv_iload hx hb dX10_assemble_142 (lv_at hl 0 rfl) ?_
            refine z_Vv (n := 2) (As := [.int (Int32.ofInt 3), .int (Int32.ofInt x19)]) (rest := []) hx hb hml hg hown hK hP hD hS hA (kX10_tell l D dA ad 3 x19 σ20 _ _ hw) (zoC10) rfl q1089 q149 q1086 q1088 q27 (by decide +kernel) ⟨(Nat.le_of_ble_eq_true rfl), (Nat.le_of_ble_eq_true rfl)⟩ rfl hl.1 rfl (Nat.le_of_ble_eq_true rfl) dX10_assemble_144 ⟨(Nat.le_of_ble_eq_true rfl), (Nat.le_of_ble_eq_true rfl)⟩ (fun σ29 H locs hw hP hD hS => ?_)
            exact zx_thr (cls := xARI) (is := 149) (text := "a label is too fa\x72") hx hb hg htr hown (by decide) q1187 q168 (by decide +kernel) atARI (by decide +kernel) hE hK hP hD hS hml hl.1 hnt hlocks dX10_assemble_147 dX10_assemble_150 dX10_assemble_151 dX10_assemble_153 dX10_assemble_156 (Nat.le_of_ble_eq_true rfl) (Nat.le_of_ble_eq_true rfl) (Nat.le_of_ble_eq_true rfl) (Nat.le_of_ble_eq_true rfl) (Nat.le_of_ble_eq_true rfl) (Nat.le_of_ble_eq_true rfl) hw
        · replace hw := hw.2 k18
          refine lv_aload_n hx hb dX10_assemble_110 rfl (lv_at hl 3 rfl) ?_
          refine lv_iconst (v := Int32.ofInt 4) hx hb dX10_assemble_111 (by decide) ?_
          refine lv_iconst (v := Int32.ofInt (-1)) hx hb dX10_assemble_112 (by decide) ?_
          refine z_Vv (n := 2) (As := [.int (Int32.ofInt 4), .int (Int32.ofInt (-1))]) (rest := []) hx hb hml hg hown hK hP hD hS hA (kX10_tell l D dA ad 4 (-1) σ16 _ _ hw) (zoC10) rfl q1089 q149 q1086 q1088 q27 (by decide +kernel) ⟨(Nat.le_of_ble_eq_true rfl), (Nat.le_of_ble_eq_true rfl)⟩ rfl hl.1 rfl (Nat.le_of_ble_eq_true rfl) dX10_assemble_113 ⟨(Nat.le_of_ble_eq_true rfl), (Nat.le_of_ble_eq_true rfl)⟩ (fun σ31 H locs hw hP hD hS => ?_)
          exact zx_thr (cls := xIOB) (is := 142) (text := "too many bytes") hx hb hg htr hown (by decide) q751 q164 (by decide +kernel) atIOB (by decide +kernel) hE hK hP hD hS hml hl.1 hnt hlocks dX10_assemble_116 dX10_assemble_119 dX10_assemble_120 dX10_assemble_122 dX10_assemble_125 (Nat.le_of_ble_eq_true rfl) (Nat.le_of_ble_eq_true rfl) (Nat.le_of_ble_eq_true rfl) (Nat.le_of_ble_eq_true rfl) (Nat.le_of_ble_eq_true rfl) (Nat.le_of_ble_eq_true rfl) hw
      · replace hw := hw.2 k14
        refine lv_aload_n hx hb dX10_assemble_77 rfl (lv_at hl 2 rfl) ?_
        refine lv_iconst (v := Int32.ofInt 2) hx hb dX10_assemble_78 (by decide) ?_
        refine lv_iload_n hx hb dX10_assemble_79 rfl (lv_at hl 0 rfl) ?_
        refine z_Vv (n := 2) (As := [.int (Int32.ofInt 2), .int (Int32.ofInt x11)]) (rest := []) hx hb hml hg hown hK hP hD hS hA (kX10_tell l D dA ad 2 x11 σ12 _ _ hw) (zoC10) rfl q1089 q149 q1086 q1088 q27 (by decide +kernel) ⟨(Nat.le_of_ble_eq_true rfl), (Nat.le_of_ble_eq_true rfl)⟩ rfl hl.1 rfl (Nat.le_of_ble_eq_true rfl) dX10_assemble_80 ⟨(Nat.le_of_ble_eq_true rfl), (Nat.le_of_ble_eq_true rfl)⟩ (fun σ33 H locs hw hP hD hS => ?_)
        exact zx_thrN (is := 136) (text := "a name is wrong") hx hb hg htr hown q1138 q176 (by decide +kernel) atNSE (by decide +kernel) hE hK hP hD hS hml hl.1 hnt hlocks dX10_assemble_83 dX10_assemble_86 dX10_assemble_87 dX10_assemble_89 dX10_assemble_92 (Nat.le_of_ble_eq_true rfl) (Nat.le_of_ble_eq_true rfl) (Nat.le_of_ble_eq_true rfl) (Nat.le_of_ble_eq_true rfl) (Nat.le_of_ble_eq_true rfl) (Nat.le_of_ble_eq_true rfl) hw
    · replace hw := hw.2 k10
      refine lv_aload_n hx hb dX10_assemble_49 rfl (lv_at hl 1 rfl) ?_
      refine lv_iconst (v := Int32.ofInt 1) hx hb dX10_assemble_50 (by decide) ?_
      refine lv_iload_n hx hb dX10_assemble_51 rfl (lv_at hl 0 rfl) ?_
      refine z_Vv (n := 2) (As := [.int (Int32.ofInt 1), .int (Int32.ofInt x7)]) (rest := []) hx hb hml hg hown hK hP hD hS hA (kX10_tell l D dA ad 1 x7 σ8 _ _ hw) (zoC10) rfl q1089 q149 q1086 q1088 q27 (by decide +kernel) ⟨(Nat.le_of_ble_eq_true rfl), (Nat.le_of_ble_eq_true rfl)⟩ rfl hl.1 rfl (Nat.le_of_ble_eq_true rfl) dX10_assemble_52 ⟨(Nat.le_of_ble_eq_true rfl), (Nat.le_of_ble_eq_true rfl)⟩ (fun σ35 H locs hw hP hD hS => ?_)
      exact zx_thr (cls := xUOE) (is := 128) (text := "syntax") hx hb hg htr hown (by decide) q1090 q175 (by decide +kernel) atUOE (by decide +kernel) hE hK hP hD hS hml hl.1 hnt hlocks dX10_assemble_55 dX10_assemble_58 dX10_assemble_59 dX10_assemble_61 dX10_assemble_64 (Nat.le_of_ble_eq_true rfl) (Nat.le_of_ble_eq_true rfl) (Nat.le_of_ble_eq_true rfl) (Nat.le_of_ble_eq_true rfl) (Nat.le_of_ble_eq_true rfl) (Nat.le_of_ble_eq_true rfl) hw
  · replace hw := hw.2 k4
    exact zx_thr (cls := xIAE) (is := 112) (text := "module is not 0 .. 2") hx hb hg htr hown (by decide) q731 q167 (by decide +kernel) atIAE (by decide +kernel) hE hK hP hD hS hml hl.1 hnt hlocks dX10_assemble_7 dX10_assemble_10 dX10_assemble_11 dX10_assemble_13 dX10_assemble_16 (Nat.le_of_ble_eq_true rfl) (Nat.le_of_ble_eq_true rfl) (Nat.le_of_ble_eq_true rfl) (Nat.le_of_ble_eq_true rfl) (Nat.le_of_ble_eq_true rfl) (Nat.le_of_ble_eq_true rfl) hw
def wpX10_link (σ : ZS) (Q : Int → ZS → Prop) (X : String → ZS → Prop) : Prop := wpX3_hasModules σ (fun (x1 : Int) (σ2 : ZS) => (-2147483648 ≤ x1 ∧ x1 ≤ 2147483647) ∧ (¬ x1 = 0 → wpX3_firstPublicTwice σ2 (fun (x5 : Int) (σ6 : ZS) => (-2147483648 ≤ x5 ∧ x5 ≤ 2147483647) ∧ (x5 < 0 → wpX3_firstUnsolved σ6 (fun (x9 : Int) (σ10 : ZS) => (-2147483648 ≤ x9 ∧ x9 ≤ 2147483647) ∧ (x9 < 0 → wpX3_hasMain σ10 (fun (x13 : Int) (σ14 : ZS) => (-2147483648 ≤ x13 ∧ x13 ≤ 2147483647) ∧ (¬ x13 = 0 → wpX3_combine σ14 (fun (x17 : Int) (σ18 : ZS) => (-2147483648 ≤ x17 ∧ x17 ≤ 2147483647) ∧ (x17 ≤ 1200 → wpX3_firstApart σ18 (fun (x21 : Int) (σ22 : ZS) => (-2147483648 ≤ x21 ∧ x21 ≤ 2147483647) ∧ (x21 < 0 → wpX3_write x17 σ22 (fun (σ26 : ZS) => wpX10_tell (-1) (-1) σ26 (fun (σ28 : ZS) => Q x17 σ28))) ∧ (¬ x21 < 0 → wpX10_tell 7 x21 σ22 (fun (σ30 : ZS) => X xARI σ30)))) ∧ (¬ x17 ≤ 1200 → wpX10_tell 9 (-1) σ18 (fun (σ32 : ZS) => X xIOB σ32)))) ∧ (x13 = 0 → wpX10_tell 8 (-1) σ14 (fun (σ34 : ZS) => X xNSE σ34)))) ∧ (¬ x9 < 0 → wpX10_tell 6 x9 σ10 (fun (σ36 : ZS) => X xNSE σ36)))) ∧ (¬ x5 < 0 → wpX10_tell 5 x5 σ6 (fun (σ38 : ZS) => X xUOE σ38)))) ∧ (x1 = 0 → X xISE σ2))
set_option maxHeartbeats 4000000 in
set_option maxRecDepth 100000 in
theorem kX10_link (l : Launch) (htr : l.stackTraces = false) (D : va_G) (dA : Nat → ClassId) (ad : Int → Nat → Nat) (tf tc : Nat) (aK aV : Nat → Nat) (σ : ZS) (Q : Int → ZS → Prop) (X : String → ZS → Prop) (sz : Nat) (hw : wpX10_link σ Q X) : vx_Met l yX10_link (gws yX10_link cX10_link 5 (some .int)) (gR 7 1 6) (gPreE D dA tf tc aK aV [.ref (ad 10 1000)] (zC dA ad σ) sz) (va_Qi (zQi Q) (gAt D dA (va_A (zC dA ad σ) sz) (zC dA ad)) (va_A (zC dA ad σ) sz)) (zX D dA X (zC dA ad) (va_A (zC dA ad σ) sz)) 1 6 (va_A (zC dA ad σ) sz) := by
  refine vx_ofW (cc := cX10_link) (maxL := 5) (ret := (some .int)) (by decide) rfl ?_
  intro p e s m args below meth c s₁ B hml hnt hv
  obtain ⟨rfl, hsz, hP, hK, hD0, hE⟩ := hv
  have hx := B.exec
  have hb := B.bytes
  have hr := B.returns
  have hts := atoms_spec (ws := gws yX10_link cX10_link 5 (some .int)) B.pre
  have hg : ∀ w ∈ gw, w.before _ s = true := fun w h => hts w (List.mem_cons_of_mem _ h)
  have hown : s.vm.findClass RX10 = some m.cls := findClass_of_methodNamed B.named
  have hlocks := B.notSynchronized
  subst hsz
  have hD := hD0.self (sz := s.heap.size)
  generalize hAe : va_A (zC dA ad σ) s.heap.size = A at hD hE ⊢
  have hA : ∀ q : Nat, s.heap.size ≤ q → A q := fun q h => by rw [← hAe]; exact Or.inr h
  have hS : va_S A s.heap s.heap [] := va_S.rf
  have hl := lv_entry ([.ref (ad 10 1000)]) (n := 5) (Nat.le_of_ble_eq_true rfl)
  rw [lg_entry_eq]
  generalize (lg_sl ([.ref (ad 10 1000)]) ++ List.replicate (5 - (lg_sl ([.ref (ad 10 1000)])).length) Slot.unset).toArray = ls at hl ⊢
  have hl : lv_has ls 5 [(0, .ref (ad 10 1000))] := hl
  have hret : ∀ (v : Int) (σ : ZS) (H : Heap) (locs : List Loc) (ls : Array Slot) (pc : Nat), Q v σ → va_P D vwC (zC dA ad σ) H → va_D A (zC dA ad σ) → va_S A s.heap H locs → decode cX10_link pc = .ok (.ireturn, 1) → W p l e (gR 7 1 6) s m #[.ref (ad 10 1000)] below meth c H locs 0 0 (vx_MQ below (va_Qi (zQi Q) (gAt D dA A (zC dA ad)) A) (zX D dA X (zC dA ad) A) #[.ref (ad 10 1000)] s 1 6 A) (F0 m pc ls [.int (Int32.ofInt v)]) := fun v σ H locs ls pc hw hP hD hS hd => vx_ret (g_iret hx hb hr rfl hlocks hK σ hP hD hS ⟨v, rfl, hw⟩ (Nat.le_of_ble_eq_true rfl) (Nat.le_of_ble_eq_true rfl) hd)
  unfold wpX10_link at hw
  refine lv_aload_n hx hb dX10_link_0 rfl (lv_at hl 0 rfl) ?_
  refine zgC10_9 hx hb hg hown hK hP q615 dX10_link_1 ?_
  refine z_Vi (n := 0) (As := []) (rest := []) hx hb hml hg hown hK hP hD hS hA (kX3_hasModules l D dA ad σ _ _ hw) (zoC16) rfl q1263 q157 q1260 q1261 q1262 (by decide +kernel) ⟨(Nat.le_of_ble_eq_true rfl), (Nat.le_of_ble_eq_true rfl)⟩ rfl hl.1 rfl (Nat.le_of_ble_eq_true rfl) dX10_link_4 ⟨(Nat.le_of_ble_eq_true rfl), (Nat.le_of_ble_eq_true rfl)⟩ (fun x1 σ2 H locs hw hP hD hS => ?_)
  obtain ⟨o3, hw⟩ := hw
  refine z_if_ne (tgt := 20) hx hb o3 dX10_link_7 (by decide) (fun k4 => ?_) (fun k4 => ?_)
  · replace hw := hw.1 k4
    refine lv_aload_n hx hb dX10_link_20 rfl (lv_at hl 0 rfl) ?_
    refine zgC10_9 hx hb hg hown hK hP q615 dX10_link_21 ?_
    refine z_Vi (n := 0) (As := []) (rest := []) hx hb hml hg hown hK hP hD hS hA (kX3_firstPublicTwice l D dA ad σ2 _ _ hw) (zoC16) rfl q1283 q157 q1280 q1281 q1282 (by decide +kernel) ⟨(Nat.le_of_ble_eq_true rfl), (Nat.le_of_ble_eq_true rfl)⟩ rfl hl.1 rfl (Nat.le_of_ble_eq_true rfl) dX10_link_24 ⟨(Nat.le_of_ble_eq_true rfl), (Nat.le_of_ble_eq_true rfl)⟩ (fun x5 σ6 H locs hw hP hD hS => ?_)
    refine lv_istore_n (lv' := [(1, .int (Int32.ofInt x5)), (0, .ref (ad 10 1000))]) hx hb dX10_link_27 rfl hl (by decide) rfl (fun ls hl => ?_)
    refine lv_iload_n hx hb dX10_link_28 rfl (lv_at hl 0 rfl) ?_
    obtain ⟨o7, hw⟩ := hw
    refine z_if_lt (tgt := 48) hx hb o7 dX10_link_29 (by decide) (fun k8 => ?_) (fun k8 => ?_)
    · replace hw := hw.1 k8
      refine lv_aload_n hx hb dX10_link_48 rfl (lv_at hl 1 rfl) ?_
      refine zgC10_9 hx hb hg hown hK hP q615 dX10_link_49 ?_
      refine z_Vi (n := 0) (As := []) (rest := []) hx hb hml hg hown hK hP hD hS hA (kX3_firstUnsolved l D dA ad σ6 _ _ hw) (zoC16) rfl q1293 q157 q1290 q1291 q1292 (by decide +kernel) ⟨(Nat.le_of_ble_eq_true rfl), (Nat.le_of_ble_eq_true rfl)⟩ rfl hl.1 rfl (Nat.le_of_ble_eq_true rfl) dX10_link_52 ⟨(Nat.le_of_ble_eq_true rfl), (Nat.le_of_ble_eq_true rfl)⟩ (fun x9 σ10 H locs hw hP hD hS => ?_)
      refine lv_istore_n (lv' := [(2, .int (Int32.ofInt x9)), (1, .int (Int32.ofInt x5)), (0, .ref (ad 10 1000))]) hx hb dX10_link_55 rfl hl (by decide) rfl (fun ls hl => ?_)
      refine lv_iload_n hx hb dX10_link_56 rfl (lv_at hl 0 rfl) ?_
      obtain ⟨o11, hw⟩ := hw
      refine z_if_lt (tgt := 77) hx hb o11 dX10_link_57 (by decide) (fun k12 => ?_) (fun k12 => ?_)
      · replace hw := hw.1 k12
        refine lv_aload_n hx hb dX10_link_77 rfl (lv_at hl 2 rfl) ?_
        refine zgC10_9 hx hb hg hown hK hP q615 dX10_link_78 ?_
        refine z_Vi (n := 0) (As := []) (rest := []) hx hb hml hg hown hK hP hD hS hA (kX3_hasMain l D dA ad σ10 _ _ hw) (zoC16) rfl q1298 q157 q1295 q1296 q1297 (by decide +kernel) ⟨(Nat.le_of_ble_eq_true rfl), (Nat.le_of_ble_eq_true rfl)⟩ rfl hl.1 rfl (Nat.le_of_ble_eq_true rfl) dX10_link_81 ⟨(Nat.le_of_ble_eq_true rfl), (Nat.le_of_ble_eq_true rfl)⟩ (fun x13 σ14 H locs hw hP hD hS => ?_)
        obtain ⟨o15, hw⟩ := hw
        refine z_if_ne (tgt := 104) hx hb o15 dX10_link_84 (by decide) (fun k16 => ?_) (fun k16 => ?_)
        · replace hw := hw.1 k16
          refine lv_aload_n hx hb dX10_link_104 rfl (lv_at hl 2 rfl) ?_
          refine zgC10_9 hx hb hg hown hK hP q615 dX10_link_105 ?_
          refine z_Vi (n := 0) (As := []) (rest := []) hx hb hml hg hown hK hP hD hS hA (kX3_combine l D dA ad σ14 _ _ hw) (zoC16) rfl q1304 q157 q1301 q1302 q1303 (by decide +kernel) ⟨(Nat.le_of_ble_eq_true rfl), (Nat.le_of_ble_eq_true rfl)⟩ rfl hl.1 rfl (Nat.le_of_ble_eq_true rfl) dX10_link_108 ⟨(Nat.le_of_ble_eq_true rfl), (Nat.le_of_ble_eq_true rfl)⟩ (fun x17 σ18 H locs hw hP hD hS => ?_)
          refine lv_istore_n (lv' := [(3, .int (Int32.ofInt x17)), (2, .int (Int32.ofInt x9)), (1, .int (Int32.ofInt x5)), (0, .ref (ad 10 1000))]) hx hb dX10_link_111 rfl hl (by decide) rfl (fun ls hl => ?_)
          refine lv_iload_n hx hb dX10_link_112 rfl (lv_at hl 0 rfl) ?_
          refine lv_sipush (v := Int32.ofInt 1200) hx hb dX10_link_113 (by decide) ?_
          obtain ⟨o19, hw⟩ := hw
          refine z_icmp_le (tgt := 136) hx hb o19 (by decide) dX10_link_116 (by decide) (fun k20 => ?_) (fun k20 => ?_)
          · replace hw := hw.1 k20
            refine lv_aload_n hx hb dX10_link_136 rfl (lv_at hl 3 rfl) ?_
            refine zgC10_9 hx hb hg hown hK hP q615 dX10_link_137 ?_
            refine z_Vi (n := 0) (As := []) (rest := []) hx hb hml hg hown hK hP hD hS hA (kX3_firstApart l D dA ad σ18 _ _ hw) (zoC16) rfl q1323 q157 q1320 q1321 q1322 (by decide +kernel) ⟨(Nat.le_of_ble_eq_true rfl), (Nat.le_of_ble_eq_true rfl)⟩ rfl hl.1 rfl (Nat.le_of_ble_eq_true rfl) dX10_link_140 ⟨(Nat.le_of_ble_eq_true rfl), (Nat.le_of_ble_eq_true rfl)⟩ (fun x21 σ22 H locs hw hP hD hS => ?_)
            refine lv_istore (lv' := [(4, .int (Int32.ofInt x21)), (3, .int (Int32.ofInt x17)), (2, .int (Int32.ofInt x9)), (1, .int (Int32.ofInt x5)), (0, .ref (ad 10 1000))]) hx hb dX10_link_143 hl (by decide) rfl (fun ls hl => ?_)
            refine lv_iload hx hb dX10_link_145 (lv_at hl 0 rfl) ?_
            obtain ⟨o23, hw⟩ := hw
            refine z_if_lt (tgt := 168) hx hb o23 dX10_link_147 (by decide) (fun k24 => ?_) (fun k24 => ?_)
            · replace hw := hw.1 k24
              refine lv_aload_n hx hb dX10_link_168 rfl (lv_at hl 4 rfl) ?_
              refine zgC10_9 hx hb hg hown hK hP q615 dX10_link_169 ?_
              refine lv_aload_n hx hb dX10_link_172 rfl (lv_at hl 4 rfl) ?_
              refine zgC10_10 hx hb hg hown hK hP q616 dX10_link_173 ?_
              refine lv_iload_n hx hb dX10_link_176 rfl (lv_at hl 1 rfl) ?_
              refine z_Vv (n := 2) (As := [.ref (ad 17 1000), .int (Int32.ofInt x17)]) (rest := []) hx hb hml hg hown hK hP hD hS hA (kX3_write l D dA ad x17 σ22 _ _ hw) (zoC16) rfl q1332 q157 q1329 q1330 q1331 (by decide +kernel) ⟨(Nat.le_of_ble_eq_true rfl), (Nat.le_of_ble_eq_true rfl)⟩ rfl hl.1 rfl (Nat.le_of_ble_eq_true rfl) dX10_link_177 ⟨(Nat.le_of_ble_eq_true rfl), (Nat.le_of_ble_eq_true rfl)⟩ (fun σ26 H locs hw hP hD hS => ?_)
              refine lv_aload_n hx hb dX10_link_180 rfl (lv_at hl 4 rfl) ?_
              refine lv_iconst (v := Int32.ofInt (-1)) hx hb dX10_link_181 (by decide) ?_
              refine lv_iconst (v := Int32.ofInt (-1)) hx hb dX10_link_182 (by decide) ?_
              refine z_Vv (n := 2) (As := [.int (Int32.ofInt (-1)), .int (Int32.ofInt (-1))]) (rest := []) hx hb hml hg hown hK hP hD hS hA (kX10_tell l D dA ad (-1) (-1) σ26 _ _ hw) (zoC10) rfl q1089 q149 q1086 q1088 q27 (by decide +kernel) ⟨(Nat.le_of_ble_eq_true rfl), (Nat.le_of_ble_eq_true rfl)⟩ rfl hl.1 rfl (Nat.le_of_ble_eq_true rfl) dX10_link_183 ⟨(Nat.le_of_ble_eq_true rfl), (Nat.le_of_ble_eq_true rfl)⟩ (fun σ28 H locs hw hP hD hS => ?_)
              refine lv_iload_n hx hb dX10_link_186 rfl (lv_at hl 1 rfl) ?_
              exact hret x17 σ28 _ _ _ _ hw hP hD hS dX10_link_187
            · replace hw := hw.2 k24
              refine lv_aload_n hx hb dX10_link_150 rfl (lv_at hl 4 rfl) ?_
              refine lv_bipush (v := Int32.ofInt 7) hx hb dX10_link_151 (by decide) ?_
              refine lv_iload hx hb dX10_link_153 (lv_at hl 0 rfl) ?_
              refine z_Vv (n := 2) (As := [.int (Int32.ofInt 7), .int (Int32.ofInt x21)]) (rest := []) hx hb hml hg hown hK hP hD hS hA (kX10_tell l D dA ad 7 x21 σ22 _ _ hw) (zoC10) rfl q1089 q149 q1086 q1088 q27 (by decide +kernel) ⟨(Nat.le_of_ble_eq_true rfl), (Nat.le_of_ble_eq_true rfl)⟩ rfl hl.1 rfl (Nat.le_of_ble_eq_true rfl) dX10_link_155 ⟨(Nat.le_of_ble_eq_true rfl), (Nat.le_of_ble_eq_true rfl)⟩ (fun σ30 H locs hw hP hD hS => ?_)
              exact zx_thr (cls := xARI) (is := 195) (text := "a near name lies in another segment") hx hb hg htr hown (by decide) q1187 q168 (by decide +kernel) atARI (by decide +kernel) hE hK hP hD hS hml hl.1 hnt hlocks dX10_link_158 dX10_link_161 dX10_link_162 dX10_link_164 dX10_link_167 (Nat.le_of_ble_eq_true rfl) (Nat.le_of_ble_eq_true rfl) (Nat.le_of_ble_eq_true rfl) (Nat.le_of_ble_eq_true rfl) (Nat.le_of_ble_eq_true rfl) (Nat.le_of_ble_eq_true rfl) hw
          · replace hw := hw.2 k20
            refine lv_aload_n hx hb dX10_link_119 rfl (lv_at hl 3 rfl) ?_
            refine lv_bipush (v := Int32.ofInt 9) hx hb dX10_link_120 (by decide) ?_
            refine lv_iconst (v := Int32.ofInt (-1)) hx hb dX10_link_122 (by decide) ?_
            refine z_Vv (n := 2) (As := [.int (Int32.ofInt 9), .int (Int32.ofInt (-1))]) (rest := []) hx hb hml hg hown hK hP hD hS hA (kX10_tell l D dA ad 9 (-1) σ18 _ _ hw) (zoC10) rfl q1089 q149 q1086 q1088 q27 (by decide +kernel) ⟨(Nat.le_of_ble_eq_true rfl), (Nat.le_of_ble_eq_true rfl)⟩ rfl hl.1 rfl (Nat.le_of_ble_eq_true rfl) dX10_link_123 ⟨(Nat.le_of_ble_eq_true rfl), (Nat.le_of_ble_eq_true rfl)⟩ (fun σ32 H locs hw hP hD hS => ?_)
            exact zx_thr (cls := xIOB) (is := 190) (text := "the image is too long") hx hb hg htr hown (by decide) q751 q164 (by decide +kernel) atIOB (by decide +kernel) hE hK hP hD hS hml hl.1 hnt hlocks dX10_link_126 dX10_link_129 dX10_link_130 dX10_link_132 dX10_link_135 (Nat.le_of_ble_eq_true rfl) (Nat.le_of_ble_eq_true rfl) (Nat.le_of_ble_eq_true rfl) (Nat.le_of_ble_eq_true rfl) (Nat.le_of_ble_eq_true rfl) (Nat.le_of_ble_eq_true rfl) hw
        · replace hw := hw.2 k16
          refine lv_aload_n hx hb dX10_link_87 rfl (lv_at hl 2 rfl) ?_
          refine lv_bipush (v := Int32.ofInt 8) hx hb dX10_link_88 (by decide) ?_
          refine lv_iconst (v := Int32.ofInt (-1)) hx hb dX10_link_90 (by decide) ?_
          refine z_Vv (n := 2) (As := [.int (Int32.ofInt 8), .int (Int32.ofInt (-1))]) (rest := []) hx hb hml hg hown hK hP hD hS hA (kX10_tell l D dA ad 8 (-1) σ14 _ _ hw) (zoC10) rfl q1089 q149 q1086 q1088 q27 (by decide +kernel) ⟨(Nat.le_of_ble_eq_true rfl), (Nat.le_of_ble_eq_true rfl)⟩ rfl hl.1 rfl (Nat.le_of_ble_eq_true rfl) dX10_link_91 ⟨(Nat.le_of_ble_eq_true rfl), (Nat.le_of_ble_eq_true rfl)⟩ (fun σ34 H locs hw hP hD hS => ?_)
          exact zx_thrN (is := 185) (text := "main is public nowhere") hx hb hg htr hown q1138 q176 (by decide +kernel) atNSE (by decide +kernel) hE hK hP hD hS hml hl.1 hnt hlocks dX10_link_94 dX10_link_97 dX10_link_98 dX10_link_100 dX10_link_103 (Nat.le_of_ble_eq_true rfl) (Nat.le_of_ble_eq_true rfl) (Nat.le_of_ble_eq_true rfl) (Nat.le_of_ble_eq_true rfl) (Nat.le_of_ble_eq_true rfl) (Nat.le_of_ble_eq_true rfl) hw
      · replace hw := hw.2 k12
        refine lv_aload_n hx hb dX10_link_60 rfl (lv_at hl 2 rfl) ?_
        refine lv_bipush (v := Int32.ofInt 6) hx hb dX10_link_61 (by decide) ?_
        refine lv_iload_n hx hb dX10_link_63 rfl (lv_at hl 0 rfl) ?_
        refine z_Vv (n := 2) (As := [.int (Int32.ofInt 6), .int (Int32.ofInt x9)]) (rest := []) hx hb hml hg hown hK hP hD hS hA (kX10_tell l D dA ad 6 x9 σ10 _ _ hw) (zoC10) rfl q1089 q149 q1086 q1088 q27 (by decide +kernel) ⟨(Nat.le_of_ble_eq_true rfl), (Nat.le_of_ble_eq_true rfl)⟩ rfl hl.1 rfl (Nat.le_of_ble_eq_true rfl) dX10_link_64 ⟨(Nat.le_of_ble_eq_true rfl), (Nat.le_of_ble_eq_true rfl)⟩ (fun σ36 H locs hw hP hD hS => ?_)
        exact zx_thrN (is := 180) (text := "an e\x78tern is public nowhere") hx hb hg htr hown q1138 q176 (by decide +kernel) atNSE (by decide +kernel) hE hK hP hD hS hml hl.1 hnt hlocks dX10_link_67 dX10_link_70 dX10_link_71 dX10_link_73 dX10_link_76 (Nat.le_of_ble_eq_true rfl) (Nat.le_of_ble_eq_true rfl) (Nat.le_of_ble_eq_true rfl) (Nat.le_of_ble_eq_true rfl) (Nat.le_of_ble_eq_true rfl) (Nat.le_of_ble_eq_true rfl) hw
    · replace hw := hw.2 k8
      refine lv_aload_n hx hb dX10_link_32 rfl (lv_at hl 1 rfl) ?_
      refine lv_iconst (v := Int32.ofInt 5) hx hb dX10_link_33 (by decide) ?_
      refine lv_iload_n hx hb dX10_link_34 rfl (lv_at hl 0 rfl) ?_
      refine z_Vv (n := 2) (As := [.int (Int32.ofInt 5), .int (Int32.ofInt x5)]) (rest := []) hx hb hml hg hown hK hP hD hS hA (kX10_tell l D dA ad 5 x5 σ6 _ _ hw) (zoC10) rfl q1089 q149 q1086 q1088 q27 (by decide +kernel) ⟨(Nat.le_of_ble_eq_true rfl), (Nat.le_of_ble_eq_true rfl)⟩ rfl hl.1 rfl (Nat.le_of_ble_eq_true rfl) dX10_link_35 ⟨(Nat.le_of_ble_eq_true rfl), (Nat.le_of_ble_eq_true rfl)⟩ (fun σ38 H locs hw hP hD hS => ?_)
      exact zx_thr (cls := xUOE) (is := 175) (text := "a name is public twice") hx hb hg htr hown (by decide) q1090 q175 (by decide +kernel) atUOE (by decide +kernel) hE hK hP hD hS hml hl.1 hnt hlocks dX10_link_38 dX10_link_41 dX10_link_42 dX10_link_44 dX10_link_47 (Nat.le_of_ble_eq_true rfl) (Nat.le_of_ble_eq_true rfl) (Nat.le_of_ble_eq_true rfl) (Nat.le_of_ble_eq_true rfl) (Nat.le_of_ble_eq_true rfl) (Nat.le_of_ble_eq_true rfl) hw
  · replace hw := hw.2 k4
    exact zx_thr (cls := xISE) (is := 169) (text := "no module is there") hx hb hg htr hown (by decide) q1264 q178 (by decide +kernel) atISE (by decide +kernel) hE hK hP hD hS hml hl.1 hnt hlocks dX10_link_10 dX10_link_13 dX10_link_14 dX10_link_16 dX10_link_19 (Nat.le_of_ble_eq_true rfl) (Nat.le_of_ble_eq_true rfl) (Nat.le_of_ble_eq_true rfl) (Nat.le_of_ble_eq_true rfl) (Nat.le_of_ble_eq_true rfl) (Nat.le_of_ble_eq_true rfl) hw
