theorem q0 : Cond.selects RX7 yX7_clear yX7_clear ∈ gw := gw_in (i := 0) (by decide +kernel) rfl
theorem q12 : Cond.selects RX8 yX8_seg yX8_seg ∈ gw := gw_in (i := 12) (by decide +kernel) rfl
theorem q13 : Cond.selects RX8 yX8_named yX8_named ∈ gw := gw_in (i := 13) (by decide +kernel) rfl
theorem q14 : Cond.selects RX8 yX8_words yX8_words ∈ gw := gw_in (i := 14) (by decide +kernel) rfl
theorem q15 : Cond.selects RX8 yX8_operand yX8_operand ∈ gw := gw_in (i := 15) (by decide +kernel) rfl
theorem q16 : Cond.selects RX8 yX8_coded yX8_coded ∈ gw := gw_in (i := 16) (by decide +kernel) rfl
theorem q17 : Cond.selects RX8 yX8_brackets yX8_brackets ∈ gw := gw_in (i := 17) (by decide +kernel) rfl
theorem q18 : Cond.selects RX8 yX8_part yX8_part ∈ gw := gw_in (i := 18) (by decide +kernel) rfl
theorem q19 : Cond.selects RX8 yX8_plainValue yX8_plainValue ∈ gw := gw_in (i := 19) (by decide +kernel) rfl
theorem q20 : Cond.selects RX8 yX8_bytes yX8_bytes ∈ gw := gw_in (i := 20) (by decide +kernel) rfl
theorem q21 : Cond.selects RX8 yX8_numbered yX8_numbered ∈ gw := gw_in (i := 21) (by decide +kernel) rfl
theorem q154 : Cond.initialized RX7 ∈ gw := gw_in (i := 154) (by decide +kernel) rfl
theorem q238 : Cond.fieldLink RX8 40 "SegmentBench$Tokens" "size" "I" ∈ gw := gw_in (i := 238) (by decide +kernel) rfl
theorem q305 : Cond.instanceMethod yX7_clear ∈ gw := gw_in (i := 305) (by decide +kernel) rfl
theorem q306 : Cond.code yX7_clear cX7_clear 2 none ∈ gw := gw_in (i := 306) (by decide +kernel) rfl
theorem q312 : Cond.fieldLink RX8 144 "SegmentBench$Operand" "code" "I" ∈ gw := gw_in (i := 312) (by decide +kernel) rfl
theorem q314 : Cond.fieldLink RX0 45 "SegmentBench$Operand" "numbe\x72" "I" ∈ gw := gw_in (i := 314) (by decide +kernel) rfl
theorem q315 : Cond.fieldLink RX8 164 "SegmentBench$Operand" "numbe\x72" "I" ∈ gw := gw_in (i := 315) (by decide +kernel) rfl
theorem q317 : Cond.fieldLink RX0 41 "SegmentBench$Operand" "name" "I" ∈ gw := gw_in (i := 317) (by decide +kernel) rfl
theorem q318 : Cond.fieldLink RX8 170 "SegmentBench$Operand" "name" "I" ∈ gw := gw_in (i := 318) (by decide +kernel) rfl
theorem q320 : Cond.fieldLink RX0 52 "SegmentBench$Operand" "namePlace" "I" ∈ gw := gw_in (i := 320) (by decide +kernel) rfl
theorem q321 : Cond.fieldLink RX8 173 "SegmentBench$Operand" "namePlace" "I" ∈ gw := gw_in (i := 321) (by decide +kernel) rfl
theorem q323 : Cond.fieldLink RX0 48 "SegmentBench$Operand" "paragraph" "Z" ∈ gw := gw_in (i := 323) (by decide +kernel) rfl
theorem q324 : Cond.fieldLink RX8 167 "SegmentBench$Operand" "paragraph" "Z" ∈ gw := gw_in (i := 324) (by decide +kernel) rfl
theorem q326 : Cond.fieldLink RX8 180 "SegmentBench$Operand" "base" "I" ∈ gw := gw_in (i := 326) (by decide +kernel) rfl
theorem q328 : Cond.fieldLink RX8 183 "SegmentBench$Operand" "index" "I" ∈ gw := gw_in (i := 328) (by decide +kernel) rfl
theorem q348 : Cond.fieldLink RX8 20 "SegmentBench$Parse\x72" "left" "LSegmentBench$Operand;" ∈ gw := gw_in (i := 348) (by decide +kernel) rfl
theorem q977 : Cond.methodLink RX8 90 yX8_seg ∈ gw := gw_in (i := 977) (by decide +kernel) rfl
theorem q979 : Cond.instanceMethod yX8_seg ∈ gw := gw_in (i := 979) (by decide +kernel) rfl
theorem q980 : Cond.code yX8_seg cX8_seg 2 (some .boolean) ∈ gw := gw_in (i := 980) (by decide +kernel) rfl
theorem q990 : Cond.methodLink RX8 93 yX8_named ∈ gw := gw_in (i := 990) (by decide +kernel) rfl
theorem q992 : Cond.instanceMethod yX8_named ∈ gw := gw_in (i := 992) (by decide +kernel) rfl
theorem q993 : Cond.code yX8_named cX8_named 5 (some .boolean) ∈ gw := gw_in (i := 993) (by decide +kernel) rfl
theorem q994 : Cond.methodLink RX8 96 yX8_words ∈ gw := gw_in (i := 994) (by decide +kernel) rfl
theorem q996 : Cond.instanceMethod yX8_words ∈ gw := gw_in (i := 996) (by decide +kernel) rfl
theorem q997 : Cond.code yX8_words cX8_words 2 (some .boolean) ∈ gw := gw_in (i := 997) (by decide +kernel) rfl
theorem q998 : Cond.methodLink RX8 133 yX8_operand ∈ gw := gw_in (i := 998) (by decide +kernel) rfl
theorem q1000 : Cond.instanceMethod yX8_operand ∈ gw := gw_in (i := 1000) (by decide +kernel) rfl
theorem q1001 : Cond.code yX8_operand cX8_operand 4 (some .boolean) ∈ gw := gw_in (i := 1001) (by decide +kernel) rfl
theorem q1002 : Cond.methodLink RX8 151 yX8_coded ∈ gw := gw_in (i := 1002) (by decide +kernel) rfl
theorem q1004 : Cond.instanceMethod yX8_coded ∈ gw := gw_in (i := 1004) (by decide +kernel) rfl
theorem q1005 : Cond.code yX8_coded cX8_coded 3 (some .boolean) ∈ gw := gw_in (i := 1005) (by decide +kernel) rfl
theorem q1006 : Cond.methodLinkNest RX8 161 yX7_clear RX10 ∈ gw := gw_in (i := 1006) (by decide +kernel) rfl
theorem q1007 : Cond.methodLink RX8 154 yX8_brackets ∈ gw := gw_in (i := 1007) (by decide +kernel) rfl
theorem q1009 : Cond.instanceMethod yX8_brackets ∈ gw := gw_in (i := 1009) (by decide +kernel) rfl
theorem q1010 : Cond.code yX8_brackets cX8_brackets 3 (some .boolean) ∈ gw := gw_in (i := 1010) (by decide +kernel) rfl
theorem q1011 : Cond.methodLink RX8 176 yX8_part ∈ gw := gw_in (i := 1011) (by decide +kernel) rfl
theorem q1013 : Cond.instanceMethod yX8_part ∈ gw := gw_in (i := 1013) (by decide +kernel) rfl
theorem q1014 : Cond.code yX8_part cX8_part 4 (some .boolean) ∈ gw := gw_in (i := 1014) (by decide +kernel) rfl
theorem q1015 : Cond.constant RX8 179 (65535) ∈ gw := gw_in (i := 1015) (by decide +kernel) rfl
theorem q1016 : Cond.methodLink RX8 158 yX8_plainValue ∈ gw := gw_in (i := 1016) (by decide +kernel) rfl
theorem q1018 : Cond.instanceMethod yX8_plainValue ∈ gw := gw_in (i := 1018) (by decide +kernel) rfl
theorem q1019 : Cond.code yX8_plainValue cX8_plainValue 2 (some .boolean) ∈ gw := gw_in (i := 1019) (by decide +kernel) rfl
theorem q1020 : Cond.methodLink RX8 137 yX0_addValue ∈ gw := gw_in (i := 1020) (by decide +kernel) rfl
theorem q1021 : Cond.instanceMethod yX0_addValue ∈ gw := gw_in (i := 1021) (by decide +kernel) rfl
theorem q1022 : Cond.selects RX0 yX0_addValue yX0_addValue ∈ gw := gw_in (i := 1022) (by decide +kernel) rfl
theorem q1023 : Cond.code yX0_addValue cX0_addValue 2 none ∈ gw := gw_in (i := 1023) (by decide +kernel) rfl
theorem q1024 : Cond.methodLink RX0 37 yX0_add ∈ gw := gw_in (i := 1024) (by decide +kernel) rfl
theorem q1025 : Cond.methodLink RX8 99 yX8_bytes ∈ gw := gw_in (i := 1025) (by decide +kernel) rfl
theorem q1027 : Cond.instanceMethod yX8_bytes ∈ gw := gw_in (i := 1027) (by decide +kernel) rfl
theorem q1028 : Cond.code yX8_bytes cX8_bytes 2 (some .boolean) ∈ gw := gw_in (i := 1028) (by decide +kernel) rfl
theorem q1029 : Cond.methodLink RX8 102 yX8_numbered ∈ gw := gw_in (i := 1029) (by decide +kernel) rfl
theorem q1031 : Cond.instanceMethod yX8_numbered ∈ gw := gw_in (i := 1031) (by decide +kernel) rfl
theorem q1032 : Cond.code yX8_numbered cX8_numbered 3 (some .boolean) ∈ gw := gw_in (i := 1032) (by decide +kernel) rfl
theorem dX8_coded_0 : decode cX8_coded 0 = .ok (.aload_n 1, 1) := by decide +kernel
theorem dX8_coded_1 : decode cX8_coded 1 = .ok (.iload_n 2, 1) := by decide +kernel
theorem dX8_coded_2 : decode cX8_coded 2 = .ok (.invokevirtual 161, 3) := by decide +kernel
theorem dX8_coded_5 : decode cX8_coded 5 = .ok (.aload_n 1, 1) := by decide +kernel
theorem dX8_coded_6 : decode cX8_coded 6 = .ok (.aload_n 0, 1) := by decide +kernel
theorem dX8_coded_7 : decode cX8_coded 7 = .ok (.invokevirtual 51, 3) := by decide +kernel
theorem dX8_coded_10 : decode cX8_coded 10 = .ok (.putfield 144, 3) := by decide +kernel
theorem dX8_coded_13 : decode cX8_coded 13 = .ok (.aload_n 0, 1) := by decide +kernel
theorem dX8_coded_14 : decode cX8_coded 14 = .ok (.dup, 1) := by decide +kernel
theorem dX8_coded_15 : decode cX8_coded 15 = .ok (.getfield 27, 3) := by decide +kernel
theorem dX8_coded_18 : decode cX8_coded 18 = .ok (.iconst 1, 1) := by decide +kernel
theorem dX8_coded_19 : decode cX8_coded 19 = .ok (.iadd, 1) := by decide +kernel
theorem dX8_coded_20 : decode cX8_coded 20 = .ok (.putfield 27, 3) := by decide +kernel
theorem dX8_coded_23 : decode cX8_coded 23 = .ok (.iconst 1, 1) := by decide +kernel
theorem dX8_coded_24 : decode cX8_coded 24 = .ok (.ireturn, 1) := by decide +kernel
theorem dX8_part_0 : decode cX8_part 0 = .ok (.aload_n 0, 1) := by decide +kernel
theorem dX8_part_1 : decode cX8_part 1 = .ok (.getfield 7, 3) := by decide +kernel
theorem dX8_part_4 : decode cX8_part 4 = .ok (.getfield 78, 3) := by decide +kernel
theorem dX8_part_7 : decode cX8_part 7 = .ok (.aload_n 0, 1) := by decide +kernel
theorem dX8_part_8 : decode cX8_part 8 = .ok (.getfield 27, 3) := by decide +kernel
theorem dX8_part_11 : decode cX8_part 11 = .ok (.iaload, 1) := by decide +kernel
theorem dX8_part_12 : decode cX8_part 12 = .ok (.istore_n 2, 1) := by decide +kernel
theorem dX8_part_13 : decode cX8_part 13 = .ok (.aload_n 0, 1) := by decide +kernel
theorem dX8_part_14 : decode cX8_part 14 = .ok (.getfield 7, 3) := by decide +kernel
theorem dX8_part_17 : decode cX8_part 17 = .ok (.getfield 80, 3) := by decide +kernel
theorem dX8_part_20 : decode cX8_part 20 = .ok (.aload_n 0, 1) := by decide +kernel
theorem dX8_part_21 : decode cX8_part 21 = .ok (.getfield 27, 3) := by decide +kernel
theorem dX8_part_24 : decode cX8_part 24 = .ok (.iaload, 1) := by decide +kernel
theorem dX8_part_25 : decode cX8_part 25 = .ok (.istore_n 3, 1) := by decide +kernel
theorem dX8_part_26 : decode cX8_part 26 = .ok (.iload_n 2, 1) := by decide +kernel
theorem dX8_part_27 : decode cX8_part 27 = .ok (.iconst 2, 1) := by decide +kernel
theorem dX8_part_28 : decode cX8_part 28 = .ok (.if_icmp .ne 16, 3) := by decide +kernel
theorem dX8_part_44 : decode cX8_part 44 = .ok (.iload_n 2, 1) := by decide +kernel
theorem dX8_part_45 : decode cX8_part 45 = .ok (.iconst 3, 1) := by decide +kernel
theorem dX8_part_46 : decode cX8_part 46 = .ok (.if_icmp .ne 34, 3) := by decide +kernel
theorem dX8_part_49 : decode cX8_part 49 = .ok (.aload_n 1, 1) := by decide +kernel
theorem dX8_part_50 : decode cX8_part 50 = .ok (.getfield 170, 3) := by decide +kernel
theorem dX8_part_53 : decode cX8_part 53 = .ok (.ifCond .ge 27, 3) := by decide +kernel
theorem dX8_part_56 : decode cX8_part 56 = .ok (.aload_n 1, 1) := by decide +kernel
theorem dX8_part_57 : decode cX8_part 57 = .ok (.iload_n 3, 1) := by decide +kernel
theorem dX8_part_58 : decode cX8_part 58 = .ok (.putfield 170, 3) := by decide +kernel
theorem dX8_part_61 : decode cX8_part 61 = .ok (.aload_n 1, 1) := by decide +kernel
theorem dX8_part_62 : decode cX8_part 62 = .ok (.aload_n 0, 1) := by decide +kernel
theorem dX8_part_63 : decode cX8_part 63 = .ok (.getfield 7, 3) := by decide +kernel
theorem dX8_part_66 : decode cX8_part 66 = .ok (.getfield 75, 3) := by decide +kernel
theorem dX8_part_69 : decode cX8_part 69 = .ok (.aload_n 0, 1) := by decide +kernel
theorem dX8_part_70 : decode cX8_part 70 = .ok (.getfield 27, 3) := by decide +kernel
theorem dX8_part_73 : decode cX8_part 73 = .ok (.iaload, 1) := by decide +kernel
theorem dX8_part_74 : decode cX8_part 74 = .ok (.putfield 173, 3) := by decide +kernel
theorem dX8_part_77 : decode cX8_part 77 = .ok (.goto 64, 3) := by decide +kernel
theorem dX8_part_31 : decode cX8_part 31 = .ok (.aload_n 1, 1) := by decide +kernel
theorem dX8_part_32 : decode cX8_part 32 = .ok (.dup, 1) := by decide +kernel
theorem dX8_part_33 : decode cX8_part 33 = .ok (.getfield 164, 3) := by decide +kernel
theorem dX8_part_36 : decode cX8_part 36 = .ok (.iload_n 3, 1) := by decide +kernel
theorem dX8_part_37 : decode cX8_part 37 = .ok (.iadd, 1) := by decide +kernel
theorem dX8_part_38 : decode cX8_part 38 = .ok (.putfield 164, 3) := by decide +kernel
theorem dX8_part_41 : decode cX8_part 41 = .ok (.goto 100, 3) := by decide +kernel
theorem dX8_part_80 : decode cX8_part 80 = .ok (.iload_n 2, 1) := by decide +kernel
theorem dX8_part_81 : decode cX8_part 81 = .ok (.iconst 4, 1) := by decide +kernel
theorem dX8_part_82 : decode cX8_part 82 = .ok (.if_icmp .eq 5, 3) := by decide +kernel
theorem dX8_part_87 : decode cX8_part 87 = .ok (.iload_n 3, 1) := by decide +kernel
theorem dX8_part_88 : decode cX8_part 88 = .ok (.iconst 3, 1) := by decide +kernel
theorem dX8_part_89 : decode cX8_part 89 = .ok (.if_icmp .eq 8, 3) := by decide +kernel
theorem dX8_part_92 : decode cX8_part 92 = .ok (.iload_n 3, 1) := by decide +kernel
theorem dX8_part_93 : decode cX8_part 93 = .ok (.iconst 5, 1) := by decide +kernel
theorem dX8_part_94 : decode cX8_part 94 = .ok (.if_icmp .ne 18, 3) := by decide +kernel
theorem dX8_part_85 : decode cX8_part 85 = .ok (.iconst 0, 1) := by decide +kernel
theorem dX8_part_86 : decode cX8_part 86 = .ok (.ireturn, 1) := by decide +kernel
theorem dX8_part_141 : decode cX8_part 141 = .ok (.aload_n 0, 1) := by decide +kernel
theorem dX8_part_142 : decode cX8_part 142 = .ok (.dup, 1) := by decide +kernel
theorem dX8_part_143 : decode cX8_part 143 = .ok (.getfield 27, 3) := by decide +kernel
theorem dX8_part_146 : decode cX8_part 146 = .ok (.iconst 1, 1) := by decide +kernel
theorem dX8_part_147 : decode cX8_part 147 = .ok (.iadd, 1) := by decide +kernel
theorem dX8_part_148 : decode cX8_part 148 = .ok (.putfield 27, 3) := by decide +kernel
theorem dX8_part_151 : decode cX8_part 151 = .ok (.iconst 1, 1) := by decide +kernel
theorem dX8_part_152 : decode cX8_part 152 = .ok (.ireturn, 1) := by decide +kernel
theorem dX8_part_97 : decode cX8_part 97 = .ok (.aload_n 1, 1) := by decide +kernel
theorem dX8_part_98 : decode cX8_part 98 = .ok (.getfield 180, 3) := by decide +kernel
theorem dX8_part_101 : decode cX8_part 101 = .ok (.ifCond .ne 11, 3) := by decide +kernel
theorem dX8_part_104 : decode cX8_part 104 = .ok (.aload_n 1, 1) := by decide +kernel
theorem dX8_part_105 : decode cX8_part 105 = .ok (.iload_n 3, 1) := by decide +kernel
theorem dX8_part_106 : decode cX8_part 106 = .ok (.putfield 180, 3) := by decide +kernel
theorem dX8_part_109 : decode cX8_part 109 = .ok (.goto 32, 3) := by decide +kernel
theorem dX8_part_112 : decode cX8_part 112 = .ok (.iload_n 3, 1) := by decide +kernel
theorem dX8_part_113 : decode cX8_part 113 = .ok (.bipush 6, 2) := by decide +kernel
theorem dX8_part_115 : decode cX8_part 115 = .ok (.if_icmp .eq 9, 3) := by decide +kernel
theorem dX8_part_118 : decode cX8_part 118 = .ok (.iload_n 3, 1) := by decide +kernel
theorem dX8_part_119 : decode cX8_part 119 = .ok (.bipush 7, 2) := by decide +kernel
theorem dX8_part_121 : decode cX8_part 121 = .ok (.if_icmp .ne 18, 3) := by decide +kernel
theorem dX8_part_124 : decode cX8_part 124 = .ok (.aload_n 1, 1) := by decide +kernel
theorem dX8_part_125 : decode cX8_part 125 = .ok (.getfield 183, 3) := by decide +kernel
theorem dX8_part_128 : decode cX8_part 128 = .ok (.ifCond .ne 11, 3) := by decide +kernel
theorem dX8_part_131 : decode cX8_part 131 = .ok (.aload_n 1, 1) := by decide +kernel
theorem dX8_part_132 : decode cX8_part 132 = .ok (.iload_n 3, 1) := by decide +kernel
theorem dX8_part_133 : decode cX8_part 133 = .ok (.putfield 183, 3) := by decide +kernel
theorem dX8_part_136 : decode cX8_part 136 = .ok (.goto 5, 3) := by decide +kernel
theorem dX8_part_139 : decode cX8_part 139 = .ok (.iconst 0, 1) := by decide +kernel
theorem dX8_part_140 : decode cX8_part 140 = .ok (.ireturn, 1) := by decide +kernel
theorem dX8_brackets_0 : decode cX8_brackets 0 = .ok (.aload_n 1, 1) := by decide +kernel
theorem dX8_brackets_1 : decode cX8_brackets 1 = .ok (.iconst 2, 1) := by decide +kernel
theorem dX8_brackets_2 : decode cX8_brackets 2 = .ok (.invokevirtual 161, 3) := by decide +kernel
theorem dX8_brackets_5 : decode cX8_brackets 5 = .ok (.aload_n 0, 1) := by decide +kernel
theorem dX8_brackets_6 : decode cX8_brackets 6 = .ok (.dup, 1) := by decide +kernel
theorem dX8_brackets_7 : decode cX8_brackets 7 = .ok (.getfield 27, 3) := by decide +kernel
theorem dX8_brackets_10 : decode cX8_brackets 10 = .ok (.iconst 1, 1) := by decide +kernel
theorem dX8_brackets_11 : decode cX8_brackets 11 = .ok (.iadd, 1) := by decide +kernel
theorem dX8_brackets_12 : decode cX8_brackets 12 = .ok (.putfield 27, 3) := by decide +kernel
theorem dX8_brackets_15 : decode cX8_brackets 15 = .ok (.aload_n 0, 1) := by decide +kernel
theorem dX8_brackets_16 : decode cX8_brackets 16 = .ok (.aload_n 1, 1) := by decide +kernel
theorem dX8_brackets_17 : decode cX8_brackets 17 = .ok (.invokevirtual 176, 3) := by decide +kernel
theorem dX8_brackets_20 : decode cX8_brackets 20 = .ok (.ifCond .ne 5, 3) := by decide +kernel
theorem dX8_brackets_25 : decode cX8_brackets 25 = .ok (.iconst 0, 1) := by decide +kernel
theorem dX8_brackets_26 : decode cX8_brackets 26 = .ok (.istore_n 2, 1) := by decide +kernel
theorem dX8_brackets_23 : decode cX8_brackets 23 = .ok (.iconst 0, 1) := by decide +kernel
theorem dX8_brackets_24 : decode cX8_brackets 24 = .ok (.ireturn, 1) := by decide +kernel
theorem dX8_brackets_27 : decode cX8_brackets 27 = .ok (.iload_n 2, 1) := by decide +kernel
theorem dX8_brackets_28 : decode cX8_brackets 28 = .ok (.aload_n 0, 1) := by decide +kernel
theorem dX8_brackets_29 : decode cX8_brackets 29 = .ok (.getfield 7, 3) := by decide +kernel
theorem dX8_brackets_32 : decode cX8_brackets 32 = .ok (.getfield 40, 3) := by decide +kernel
theorem dX8_brackets_35 : decode cX8_brackets 35 = .ok (.if_icmp .ge 82, 3) := by decide +kernel
theorem dX8_brackets_38 : decode cX8_brackets 38 = .ok (.aload_n 0, 1) := by decide +kernel
theorem dX8_brackets_39 : decode cX8_brackets 39 = .ok (.invokevirtual 43, 3) := by decide +kernel
theorem dX8_brackets_42 : decode cX8_brackets 42 = .ok (.bipush 93, 2) := by decide +kernel
theorem dX8_brackets_44 : decode cX8_brackets 44 = .ok (.if_icmp .eq 73, 3) := by decide +kernel
theorem dX8_brackets_47 : decode cX8_brackets 47 = .ok (.aload_n 0, 1) := by decide +kernel
theorem dX8_brackets_48 : decode cX8_brackets 48 = .ok (.bipush 45, 2) := by decide +kernel
theorem dX8_brackets_50 : decode cX8_brackets 50 = .ok (.invokevirtual 72, 3) := by decide +kernel
theorem dX8_brackets_53 : decode cX8_brackets 53 = .ok (.ifCond .eq 39, 3) := by decide +kernel
theorem dX8_brackets_92 : decode cX8_brackets 92 = .ok (.aload_n 0, 1) := by decide +kernel
theorem dX8_brackets_93 : decode cX8_brackets 93 = .ok (.bipush 43, 2) := by decide +kernel
theorem dX8_brackets_95 : decode cX8_brackets 95 = .ok (.invokevirtual 72, 3) := by decide +kernel
theorem dX8_brackets_98 : decode cX8_brackets 98 = .ok (.ifCond .eq 11, 3) := by decide +kernel
theorem dX8_brackets_101 : decode cX8_brackets 101 = .ok (.aload_n 0, 1) := by decide +kernel
theorem dX8_brackets_102 : decode cX8_brackets 102 = .ok (.aload_n 1, 1) := by decide +kernel
theorem dX8_brackets_103 : decode cX8_brackets 103 = .ok (.invokevirtual 176, 3) := by decide +kernel
theorem dX8_brackets_106 : decode cX8_brackets 106 = .ok (.ifCond .ne 5, 3) := by decide +kernel
theorem dX8_brackets_56 : decode cX8_brackets 56 = .ok (.aload_n 0, 1) := by decide +kernel
theorem dX8_brackets_57 : decode cX8_brackets 57 = .ok (.invokevirtual 43, 3) := by decide +kernel
theorem dX8_brackets_60 : decode cX8_brackets 60 = .ok (.iconst 2, 1) := by decide +kernel
theorem dX8_brackets_61 : decode cX8_brackets 61 = .ok (.if_icmp .eq 5, 3) := by decide +kernel
theorem dX8_brackets_66 : decode cX8_brackets 66 = .ok (.aload_n 1, 1) := by decide +kernel
theorem dX8_brackets_67 : decode cX8_brackets 67 = .ok (.dup, 1) := by decide +kernel
theorem dX8_brackets_68 : decode cX8_brackets 68 = .ok (.getfield 164, 3) := by decide +kernel
theorem dX8_brackets_71 : decode cX8_brackets 71 = .ok (.aload_n 0, 1) := by decide +kernel
theorem dX8_brackets_72 : decode cX8_brackets 72 = .ok (.invokevirtual 51, 3) := by decide +kernel
theorem dX8_brackets_75 : decode cX8_brackets 75 = .ok (.isub, 1) := by decide +kernel
theorem dX8_brackets_76 : decode cX8_brackets 76 = .ok (.putfield 164, 3) := by decide +kernel
theorem dX8_brackets_79 : decode cX8_brackets 79 = .ok (.aload_n 0, 1) := by decide +kernel
theorem dX8_brackets_80 : decode cX8_brackets 80 = .ok (.dup, 1) := by decide +kernel
theorem dX8_brackets_81 : decode cX8_brackets 81 = .ok (.getfield 27, 3) := by decide +kernel
theorem dX8_brackets_84 : decode cX8_brackets 84 = .ok (.iconst 1, 1) := by decide +kernel
theorem dX8_brackets_85 : decode cX8_brackets 85 = .ok (.iadd, 1) := by decide +kernel
theorem dX8_brackets_86 : decode cX8_brackets 86 = .ok (.putfield 27, 3) := by decide +kernel
theorem dX8_brackets_89 : decode cX8_brackets 89 = .ok (.goto 22, 3) := by decide +kernel
theorem dX8_brackets_64 : decode cX8_brackets 64 = .ok (.iconst 0, 1) := by decide +kernel
theorem dX8_brackets_65 : decode cX8_brackets 65 = .ok (.ireturn, 1) := by decide +kernel
theorem dX8_brackets_117 : decode cX8_brackets 117 = .ok (.aload_n 1, 1) := by decide +kernel
theorem dX8_brackets_118 : decode cX8_brackets 118 = .ok (.aload_n 1, 1) := by decide +kernel
theorem dX8_brackets_119 : decode cX8_brackets 119 = .ok (.getfield 164, 3) := by decide +kernel
theorem dX8_brackets_122 : decode cX8_brackets 122 = .ok (.ldc 179, 2) := by decide +kernel
theorem dX8_brackets_124 : decode cX8_brackets 124 = .ok (.iand, 1) := by decide +kernel
theorem dX8_brackets_125 : decode cX8_brackets 125 = .ok (.putfield 164, 3) := by decide +kernel
theorem dX8_brackets_128 : decode cX8_brackets 128 = .ok (.aload_n 0, 1) := by decide +kernel
theorem dX8_brackets_129 : decode cX8_brackets 129 = .ok (.bipush 93, 2) := by decide +kernel
theorem dX8_brackets_131 : decode cX8_brackets 131 = .ok (.invokevirtual 72, 3) := by decide +kernel
theorem dX8_brackets_134 : decode cX8_brackets 134 = .ok (.ireturn, 1) := by decide +kernel
theorem dX8_brackets_109 : decode cX8_brackets 109 = .ok (.iconst 0, 1) := by decide +kernel
theorem dX8_brackets_110 : decode cX8_brackets 110 = .ok (.ireturn, 1) := by decide +kernel
theorem dX8_brackets_111 : decode cX8_brackets 111 = .ok (.iinc 2 1, 3) := by decide +kernel
theorem dX8_brackets_114 : decode cX8_brackets 114 = .ok (.goto (-87), 3) := by decide +kernel
theorem dX8_plainValue_0 : decode cX8_plainValue 0 = .ok (.aload_n 1, 1) := by decide +kernel
theorem dX8_plainValue_1 : decode cX8_plainValue 1 = .ok (.iconst 4, 1) := by decide +kernel
theorem dX8_plainValue_2 : decode cX8_plainValue 2 = .ok (.invokevirtual 161, 3) := by decide +kernel
theorem dX8_plainValue_5 : decode cX8_plainValue 5 = .ok (.aload_n 0, 1) := by decide +kernel
theorem dX8_plainValue_6 : decode cX8_plainValue 6 = .ok (.invokevirtual 43, 3) := by decide +kernel
theorem dX8_plainValue_9 : decode cX8_plainValue 9 = .ok (.iconst 2, 1) := by decide +kernel
theorem dX8_plainValue_10 : decode cX8_plainValue 10 = .ok (.if_icmp .ne 23, 3) := by decide +kernel
theorem dX8_plainValue_33 : decode cX8_plainValue 33 = .ok (.aload_n 1, 1) := by decide +kernel
theorem dX8_plainValue_34 : decode cX8_plainValue 34 = .ok (.aload_n 0, 1) := by decide +kernel
theorem dX8_plainValue_35 : decode cX8_plainValue 35 = .ok (.bipush 64, 2) := by decide +kernel
theorem dX8_plainValue_37 : decode cX8_plainValue 37 = .ok (.invokevirtual 72, 3) := by decide +kernel
theorem dX8_plainValue_40 : decode cX8_plainValue 40 = .ok (.putfield 167, 3) := by decide +kernel
theorem dX8_plainValue_43 : decode cX8_plainValue 43 = .ok (.aload_n 1, 1) := by decide +kernel
theorem dX8_plainValue_44 : decode cX8_plainValue 44 = .ok (.aload_n 0, 1) := by decide +kernel
theorem dX8_plainValue_45 : decode cX8_plainValue 45 = .ok (.invokevirtual 51, 3) := by decide +kernel
theorem dX8_plainValue_48 : decode cX8_plainValue 48 = .ok (.putfield 170, 3) := by decide +kernel
theorem dX8_plainValue_51 : decode cX8_plainValue 51 = .ok (.aload_n 1, 1) := by decide +kernel
theorem dX8_plainValue_52 : decode cX8_plainValue 52 = .ok (.aload_n 0, 1) := by decide +kernel
theorem dX8_plainValue_53 : decode cX8_plainValue 53 = .ok (.getfield 7, 3) := by decide +kernel
theorem dX8_plainValue_56 : decode cX8_plainValue 56 = .ok (.getfield 75, 3) := by decide +kernel
theorem dX8_plainValue_59 : decode cX8_plainValue 59 = .ok (.aload_n 0, 1) := by decide +kernel
theorem dX8_plainValue_60 : decode cX8_plainValue 60 = .ok (.getfield 27, 3) := by decide +kernel
theorem dX8_plainValue_63 : decode cX8_plainValue 63 = .ok (.iaload, 1) := by decide +kernel
theorem dX8_plainValue_64 : decode cX8_plainValue 64 = .ok (.putfield 173, 3) := by decide +kernel
theorem dX8_plainValue_67 : decode cX8_plainValue 67 = .ok (.aload_n 0, 1) := by decide +kernel
theorem dX8_plainValue_68 : decode cX8_plainValue 68 = .ok (.iconst 3, 1) := by decide +kernel
theorem dX8_plainValue_69 : decode cX8_plainValue 69 = .ok (.invokevirtual 72, 3) := by decide +kernel
theorem dX8_plainValue_72 : decode cX8_plainValue 72 = .ok (.ireturn, 1) := by decide +kernel
theorem dX8_plainValue_13 : decode cX8_plainValue 13 = .ok (.aload_n 1, 1) := by decide +kernel
theorem dX8_plainValue_14 : decode cX8_plainValue 14 = .ok (.aload_n 0, 1) := by decide +kernel
theorem dX8_plainValue_15 : decode cX8_plainValue 15 = .ok (.invokevirtual 51, 3) := by decide +kernel
theorem dX8_plainValue_18 : decode cX8_plainValue 18 = .ok (.putfield 164, 3) := by decide +kernel
theorem dX8_plainValue_21 : decode cX8_plainValue 21 = .ok (.aload_n 0, 1) := by decide +kernel
theorem dX8_plainValue_22 : decode cX8_plainValue 22 = .ok (.dup, 1) := by decide +kernel
theorem dX8_plainValue_23 : decode cX8_plainValue 23 = .ok (.getfield 27, 3) := by decide +kernel
theorem dX8_plainValue_26 : decode cX8_plainValue 26 = .ok (.iconst 1, 1) := by decide +kernel
theorem dX8_plainValue_27 : decode cX8_plainValue 27 = .ok (.iadd, 1) := by decide +kernel
theorem dX8_plainValue_28 : decode cX8_plainValue 28 = .ok (.putfield 27, 3) := by decide +kernel
theorem dX8_plainValue_31 : decode cX8_plainValue 31 = .ok (.iconst 1, 1) := by decide +kernel
theorem dX8_plainValue_32 : decode cX8_plainValue 32 = .ok (.ireturn, 1) := by decide +kernel
theorem dX8_operand_0 : decode cX8_operand 0 = .ok (.aload_n 0, 1) := by decide +kernel
theorem dX8_operand_1 : decode cX8_operand 1 = .ok (.invokevirtual 43, 3) := by decide +kernel
theorem dX8_operand_4 : decode cX8_operand 4 = .ok (.lookupswitch 159 #[(2, 139), (3, 139), (4, 60), (5, 81), (64, 139), (91, 119)], 60) := by decide +kernel
theorem dX8_operand_64 : decode cX8_operand 64 = .ok (.iload_n 2, 1) := by decide +kernel
theorem dX8_operand_65 : decode cX8_operand 65 = .ok (.iconst 1, 1) := by decide +kernel
theorem dX8_operand_66 : decode cX8_operand 66 = .ok (.iand, 1) := by decide +kernel
theorem dX8_operand_67 : decode cX8_operand 67 = .ok (.ifCond .eq 16, 3) := by decide +kernel
theorem dX8_operand_70 : decode cX8_operand 70 = .ok (.aload_n 0, 1) := by decide +kernel
theorem dX8_operand_71 : decode cX8_operand 71 = .ok (.aload_n 1, 1) := by decide +kernel
theorem dX8_operand_72 : decode cX8_operand 72 = .ok (.iconst 1, 1) := by decide +kernel
theorem dX8_operand_73 : decode cX8_operand 73 = .ok (.invokevirtual 151, 3) := by decide +kernel
theorem dX8_operand_76 : decode cX8_operand 76 = .ok (.ifCond .eq 7, 3) := by decide +kernel
theorem dX8_operand_79 : decode cX8_operand 79 = .ok (.iconst 1, 1) := by decide +kernel
theorem dX8_operand_80 : decode cX8_operand 80 = .ok (.goto 4, 3) := by decide +kernel
theorem dX8_operand_85 : decode cX8_operand 85 = .ok (.aload_n 0, 1) := by decide +kernel
theorem dX8_operand_86 : decode cX8_operand 86 = .ok (.invokevirtual 51, 3) := by decide +kernel
theorem dX8_operand_89 : decode cX8_operand 89 = .ok (.iconst 1, 1) := by decide +kernel
theorem dX8_operand_90 : decode cX8_operand 90 = .ok (.if_icmp .ne 8, 3) := by decide +kernel
theorem dX8_operand_98 : decode cX8_operand 98 = .ok (.bipush 8, 2) := by decide +kernel
theorem dX8_operand_93 : decode cX8_operand 93 = .ok (.bipush 16, 2) := by decide +kernel
theorem dX8_operand_95 : decode cX8_operand 95 = .ok (.goto 5, 3) := by decide +kernel
theorem dX8_operand_123 : decode cX8_operand 123 = .ok (.iload_n 2, 1) := by decide +kernel
theorem dX8_operand_124 : decode cX8_operand 124 = .ok (.iconst 2, 1) := by decide +kernel
theorem dX8_operand_125 : decode cX8_operand 125 = .ok (.iand, 1) := by decide +kernel
theorem dX8_operand_126 : decode cX8_operand 126 = .ok (.ifCond .eq 15, 3) := by decide +kernel
theorem dX8_operand_129 : decode cX8_operand 129 = .ok (.aload_n 0, 1) := by decide +kernel
theorem dX8_operand_130 : decode cX8_operand 130 = .ok (.aload_n 1, 1) := by decide +kernel
theorem dX8_operand_131 : decode cX8_operand 131 = .ok (.invokevirtual 154, 3) := by decide +kernel
theorem dX8_operand_134 : decode cX8_operand 134 = .ok (.ifCond .eq 7, 3) := by decide +kernel
theorem dX8_operand_137 : decode cX8_operand 137 = .ok (.iconst 1, 1) := by decide +kernel
theorem dX8_operand_138 : decode cX8_operand 138 = .ok (.goto 4, 3) := by decide +kernel
theorem dX8_operand_163 : decode cX8_operand 163 = .ok (.iconst 0, 1) := by decide +kernel
theorem dX8_operand_164 : decode cX8_operand 164 = .ok (.ireturn, 1) := by decide +kernel
theorem dX8_operand_143 : decode cX8_operand 143 = .ok (.iload_n 2, 1) := by decide +kernel
theorem dX8_operand_144 : decode cX8_operand 144 = .ok (.iconst 4, 1) := by decide +kernel
theorem dX8_operand_145 : decode cX8_operand 145 = .ok (.iand, 1) := by decide +kernel
theorem dX8_operand_146 : decode cX8_operand 146 = .ok (.ifCond .eq 15, 3) := by decide +kernel
theorem dX8_operand_149 : decode cX8_operand 149 = .ok (.aload_n 0, 1) := by decide +kernel
theorem dX8_operand_150 : decode cX8_operand 150 = .ok (.aload_n 1, 1) := by decide +kernel
theorem dX8_operand_151 : decode cX8_operand 151 = .ok (.invokevirtual 158, 3) := by decide +kernel
theorem dX8_operand_154 : decode cX8_operand 154 = .ok (.ifCond .eq 7, 3) := by decide +kernel
theorem dX8_operand_157 : decode cX8_operand 157 = .ok (.iconst 1, 1) := by decide +kernel
theorem dX8_operand_158 : decode cX8_operand 158 = .ok (.goto 4, 3) := by decide +kernel
theorem dX8_operand_83 : decode cX8_operand 83 = .ok (.iconst 0, 1) := by decide +kernel
theorem dX8_operand_84 : decode cX8_operand 84 = .ok (.ireturn, 1) := by decide +kernel
theorem dX8_operand_100 : decode cX8_operand 100 = .ok (.istore_n 3, 1) := by decide +kernel
theorem dX8_operand_101 : decode cX8_operand 101 = .ok (.iload_n 2, 1) := by decide +kernel
theorem dX8_operand_102 : decode cX8_operand 102 = .ok (.iload_n 3, 1) := by decide +kernel
theorem dX8_operand_103 : decode cX8_operand 103 = .ok (.iand, 1) := by decide +kernel
theorem dX8_operand_104 : decode cX8_operand 104 = .ok (.ifCond .eq 17, 3) := by decide +kernel
theorem dX8_operand_107 : decode cX8_operand 107 = .ok (.aload_n 0, 1) := by decide +kernel
theorem dX8_operand_108 : decode cX8_operand 108 = .ok (.aload_n 1, 1) := by decide +kernel
theorem dX8_operand_109 : decode cX8_operand 109 = .ok (.bipush 8, 2) := by decide +kernel
theorem dX8_operand_111 : decode cX8_operand 111 = .ok (.invokevirtual 151, 3) := by decide +kernel
theorem dX8_operand_114 : decode cX8_operand 114 = .ok (.ifCond .eq 7, 3) := by decide +kernel
theorem dX8_operand_117 : decode cX8_operand 117 = .ok (.iconst 1, 1) := by decide +kernel
theorem dX8_operand_118 : decode cX8_operand 118 = .ok (.goto 4, 3) := by decide +kernel
theorem dX8_operand_141 : decode cX8_operand 141 = .ok (.iconst 0, 1) := by decide +kernel
theorem dX8_operand_142 : decode cX8_operand 142 = .ok (.ireturn, 1) := by decide +kernel
theorem dX8_operand_161 : decode cX8_operand 161 = .ok (.iconst 0, 1) := by decide +kernel
theorem dX8_operand_162 : decode cX8_operand 162 = .ok (.ireturn, 1) := by decide +kernel
theorem dX8_operand_121 : decode cX8_operand 121 = .ok (.iconst 0, 1) := by decide +kernel
theorem dX8_operand_122 : decode cX8_operand 122 = .ok (.ireturn, 1) := by decide +kernel
theorem dX0_addValue_0 : decode cX0_addValue 0 = .ok (.aload_n 1, 1) := by decide +kernel
theorem dX0_addValue_1 : decode cX0_addValue 1 = .ok (.getfield 41, 3) := by decide +kernel
theorem dX0_addValue_4 : decode cX0_addValue 4 = .ok (.ifCond .ge 19, 3) := by decide +kernel
theorem dX0_addValue_23 : decode cX0_addValue 23 = .ok (.aload_n 0, 1) := by decide +kernel
theorem dX0_addValue_24 : decode cX0_addValue 24 = .ok (.aload_n 1, 1) := by decide +kernel
theorem dX0_addValue_25 : decode cX0_addValue 25 = .ok (.getfield 48, 3) := by decide +kernel
theorem dX0_addValue_28 : decode cX0_addValue 28 = .ok (.ifCond .eq 8, 3) := by decide +kernel
theorem dX0_addValue_36 : decode cX0_addValue 36 = .ok (.bipush 7, 2) := by decide +kernel
theorem dX0_addValue_31 : decode cX0_addValue 31 = .ok (.bipush 8, 2) := by decide +kernel
theorem dX0_addValue_33 : decode cX0_addValue 33 = .ok (.goto 5, 3) := by decide +kernel
theorem dX0_addValue_7 : decode cX0_addValue 7 = .ok (.aload_n 0, 1) := by decide +kernel
theorem dX0_addValue_8 : decode cX0_addValue 8 = .ok (.bipush 6, 2) := by decide +kernel
theorem dX0_addValue_10 : decode cX0_addValue 10 = .ok (.aload_n 1, 1) := by decide +kernel
theorem dX0_addValue_11 : decode cX0_addValue 11 = .ok (.getfield 45, 3) := by decide +kernel
theorem dX0_addValue_14 : decode cX0_addValue 14 = .ok (.iconst (-1), 1) := by decide +kernel
theorem dX0_addValue_15 : decode cX0_addValue 15 = .ok (.iconst (-1), 1) := by decide +kernel
theorem dX0_addValue_16 : decode cX0_addValue 16 = .ok (.iconst (-1), 1) := by decide +kernel
theorem dX0_addValue_17 : decode cX0_addValue 17 = .ok (.invokevirtual 37, 3) := by decide +kernel
theorem dX0_addValue_20 : decode cX0_addValue 20 = .ok (.goto 34, 3) := by decide +kernel
theorem dX0_addValue_38 : decode cX0_addValue 38 = .ok (.aload_n 1, 1) := by decide +kernel
theorem dX0_addValue_39 : decode cX0_addValue 39 = .ok (.getfield 45, 3) := by decide +kernel
theorem dX0_addValue_42 : decode cX0_addValue 42 = .ok (.aload_n 1, 1) := by decide +kernel
theorem dX0_addValue_43 : decode cX0_addValue 43 = .ok (.getfield 41, 3) := by decide +kernel
theorem dX0_addValue_46 : decode cX0_addValue 46 = .ok (.aload_n 1, 1) := by decide +kernel
theorem dX0_addValue_47 : decode cX0_addValue 47 = .ok (.getfield 52, 3) := by decide +kernel
theorem dX0_addValue_50 : decode cX0_addValue 50 = .ok (.iconst (-1), 1) := by decide +kernel
theorem dX0_addValue_51 : decode cX0_addValue 51 = .ok (.invokevirtual 37, 3) := by decide +kernel
theorem dX0_addValue_54 : decode cX0_addValue 54 = .ok (.return_, 1) := by decide +kernel
theorem dX8_words_0 : decode cX8_words 0 = .ok (.iconst 0, 1) := by decide +kernel
theorem dX8_words_1 : decode cX8_words 1 = .ok (.istore_n 1, 1) := by decide +kernel
theorem dX8_words_2 : decode cX8_words 2 = .ok (.iload_n 1, 1) := by decide +kernel
theorem dX8_words_3 : decode cX8_words 3 = .ok (.aload_n 0, 1) := by decide +kernel
theorem dX8_words_4 : decode cX8_words 4 = .ok (.getfield 7, 3) := by decide +kernel
theorem dX8_words_7 : decode cX8_words 7 = .ok (.getfield 40, 3) := by decide +kernel
theorem dX8_words_10 : decode cX8_words 10 = .ok (.if_icmp .ge 45, 3) := by decide +kernel
theorem dX8_words_55 : decode cX8_words 55 = .ok (.iconst 0, 1) := by decide +kernel
theorem dX8_words_56 : decode cX8_words 56 = .ok (.ireturn, 1) := by decide +kernel
theorem dX8_words_13 : decode cX8_words 13 = .ok (.aload_n 0, 1) := by decide +kernel
theorem dX8_words_14 : decode cX8_words 14 = .ok (.aload_n 0, 1) := by decide +kernel
theorem dX8_words_15 : decode cX8_words 15 = .ok (.getfield 20, 3) := by decide +kernel
theorem dX8_words_18 : decode cX8_words 18 = .ok (.iconst 4, 1) := by decide +kernel
theorem dX8_words_19 : decode cX8_words 19 = .ok (.invokevirtual 133, 3) := by decide +kernel
theorem dX8_words_22 : decode cX8_words 22 = .ok (.ifCond .ne 5, 3) := by decide +kernel
theorem dX8_words_27 : decode cX8_words 27 = .ok (.aload_n 0, 1) := by decide +kernel
theorem dX8_words_28 : decode cX8_words 28 = .ok (.getfield 13, 3) := by decide +kernel
theorem dX8_words_31 : decode cX8_words 31 = .ok (.aload_n 0, 1) := by decide +kernel
theorem dX8_words_32 : decode cX8_words 32 = .ok (.getfield 20, 3) := by decide +kernel
theorem dX8_words_35 : decode cX8_words 35 = .ok (.invokevirtual 137, 3) := by decide +kernel
theorem dX8_words_38 : decode cX8_words 38 = .ok (.aload_n 0, 1) := by decide +kernel
theorem dX8_words_39 : decode cX8_words 39 = .ok (.bipush 44, 2) := by decide +kernel
theorem dX8_words_41 : decode cX8_words 41 = .ok (.invokevirtual 72, 3) := by decide +kernel
theorem dX8_words_44 : decode cX8_words 44 = .ok (.ifCond .ne 5, 3) := by decide +kernel
theorem dX8_words_49 : decode cX8_words 49 = .ok (.iinc 1 1, 3) := by decide +kernel
theorem dX8_words_52 : decode cX8_words 52 = .ok (.goto (-50), 3) := by decide +kernel
theorem dX8_words_47 : decode cX8_words 47 = .ok (.iconst 1, 1) := by decide +kernel
theorem dX8_words_48 : decode cX8_words 48 = .ok (.ireturn, 1) := by decide +kernel
theorem dX8_words_25 : decode cX8_words 25 = .ok (.iconst 0, 1) := by decide +kernel
theorem dX8_words_26 : decode cX8_words 26 = .ok (.ireturn, 1) := by decide +kernel
theorem dX8_numbered_0 : decode cX8_numbered 0 = .ok (.aload_n 0, 1) := by decide +kernel
theorem dX8_numbered_1 : decode cX8_numbered 1 = .ok (.invokevirtual 43, 3) := by decide +kernel
theorem dX8_numbered_4 : decode cX8_numbered 4 = .ok (.iconst 2, 1) := by decide +kernel
theorem dX8_numbered_5 : decode cX8_numbered 5 = .ok (.if_icmp .ne 11, 3) := by decide +kernel
theorem dX8_numbered_8 : decode cX8_numbered 8 = .ok (.aload_n 0, 1) := by decide +kernel
theorem dX8_numbered_9 : decode cX8_numbered 9 = .ok (.invokevirtual 51, 3) := by decide +kernel
theorem dX8_numbered_12 : decode cX8_numbered 12 = .ok (.iload_n 2, 1) := by decide +kernel
theorem dX8_numbered_13 : decode cX8_numbered 13 = .ok (.if_icmp .lt 5, 3) := by decide +kernel
theorem dX8_numbered_18 : decode cX8_numbered 18 = .ok (.aload_n 0, 1) := by decide +kernel
theorem dX8_numbered_19 : decode cX8_numbered 19 = .ok (.getfield 13, 3) := by decide +kernel
theorem dX8_numbered_22 : decode cX8_numbered 22 = .ok (.iload_n 1, 1) := by decide +kernel
theorem dX8_numbered_23 : decode cX8_numbered 23 = .ok (.aload_n 0, 1) := by decide +kernel
theorem dX8_numbered_24 : decode cX8_numbered 24 = .ok (.invokevirtual 51, 3) := by decide +kernel
theorem dX8_numbered_27 : decode cX8_numbered 27 = .ok (.iconst (-1), 1) := by decide +kernel
theorem dX8_numbered_28 : decode cX8_numbered 28 = .ok (.iconst (-1), 1) := by decide +kernel
theorem dX8_numbered_29 : decode cX8_numbered 29 = .ok (.iconst (-1), 1) := by decide +kernel
theorem dX8_numbered_30 : decode cX8_numbered 30 = .ok (.invokevirtual 86, 3) := by decide +kernel
theorem dX8_numbered_33 : decode cX8_numbered 33 = .ok (.aload_n 0, 1) := by decide +kernel
theorem dX8_numbered_34 : decode cX8_numbered 34 = .ok (.dup, 1) := by decide +kernel
theorem dX8_numbered_35 : decode cX8_numbered 35 = .ok (.getfield 27, 3) := by decide +kernel
theorem dX8_numbered_38 : decode cX8_numbered 38 = .ok (.iconst 1, 1) := by decide +kernel
theorem dX8_numbered_39 : decode cX8_numbered 39 = .ok (.iadd, 1) := by decide +kernel
theorem dX8_numbered_40 : decode cX8_numbered 40 = .ok (.putfield 27, 3) := by decide +kernel
theorem dX8_numbered_43 : decode cX8_numbered 43 = .ok (.iconst 1, 1) := by decide +kernel
theorem dX8_numbered_44 : decode cX8_numbered 44 = .ok (.ireturn, 1) := by decide +kernel
theorem dX8_numbered_16 : decode cX8_numbered 16 = .ok (.iconst 0, 1) := by decide +kernel
theorem dX8_numbered_17 : decode cX8_numbered 17 = .ok (.ireturn, 1) := by decide +kernel
theorem dX8_bytes_0 : decode cX8_bytes 0 = .ok (.iconst 0, 1) := by decide +kernel
theorem dX8_bytes_1 : decode cX8_bytes 1 = .ok (.istore_n 1, 1) := by decide +kernel
theorem dX8_bytes_2 : decode cX8_bytes 2 = .ok (.iload_n 1, 1) := by decide +kernel
theorem dX8_bytes_3 : decode cX8_bytes 3 = .ok (.aload_n 0, 1) := by decide +kernel
theorem dX8_bytes_4 : decode cX8_bytes 4 = .ok (.getfield 7, 3) := by decide +kernel
theorem dX8_bytes_7 : decode cX8_bytes 7 = .ok (.getfield 40, 3) := by decide +kernel
theorem dX8_bytes_10 : decode cX8_bytes 10 = .ok (.if_icmp .ge 33, 3) := by decide +kernel
theorem dX8_bytes_43 : decode cX8_bytes 43 = .ok (.iconst 0, 1) := by decide +kernel
theorem dX8_bytes_44 : decode cX8_bytes 44 = .ok (.ireturn, 1) := by decide +kernel
theorem dX8_bytes_13 : decode cX8_bytes 13 = .ok (.aload_n 0, 1) := by decide +kernel
theorem dX8_bytes_14 : decode cX8_bytes 14 = .ok (.iconst 4, 1) := by decide +kernel
theorem dX8_bytes_15 : decode cX8_bytes 15 = .ok (.sipush 256, 3) := by decide +kernel
theorem dX8_bytes_18 : decode cX8_bytes 18 = .ok (.invokevirtual 102, 3) := by decide +kernel
theorem dX8_bytes_21 : decode cX8_bytes 21 = .ok (.ifCond .ne 5, 3) := by decide +kernel
theorem dX8_bytes_26 : decode cX8_bytes 26 = .ok (.aload_n 0, 1) := by decide +kernel
theorem dX8_bytes_27 : decode cX8_bytes 27 = .ok (.bipush 44, 2) := by decide +kernel
theorem dX8_bytes_29 : decode cX8_bytes 29 = .ok (.invokevirtual 72, 3) := by decide +kernel
theorem dX8_bytes_32 : decode cX8_bytes 32 = .ok (.ifCond .ne 5, 3) := by decide +kernel
theorem dX8_bytes_37 : decode cX8_bytes 37 = .ok (.iinc 1 1, 3) := by decide +kernel
theorem dX8_bytes_40 : decode cX8_bytes 40 = .ok (.goto (-38), 3) := by decide +kernel
theorem dX8_bytes_35 : decode cX8_bytes 35 = .ok (.iconst 1, 1) := by decide +kernel
theorem dX8_bytes_36 : decode cX8_bytes 36 = .ok (.ireturn, 1) := by decide +kernel
theorem dX8_bytes_24 : decode cX8_bytes 24 = .ok (.iconst 0, 1) := by decide +kernel
theorem dX8_bytes_25 : decode cX8_bytes 25 = .ok (.ireturn, 1) := by decide +kernel
theorem dX8_directive_0 : decode cX8_directive 0 = .ok (.aload_n 0, 1) := by decide +kernel
theorem dX8_directive_1 : decode cX8_directive 1 = .ok (.dup, 1) := by decide +kernel
theorem dX8_directive_2 : decode cX8_directive 2 = .ok (.getfield 27, 3) := by decide +kernel
theorem dX8_directive_5 : decode cX8_directive 5 = .ok (.iconst 1, 1) := by decide +kernel
theorem dX8_directive_6 : decode cX8_directive 6 = .ok (.iadd, 1) := by decide +kernel
theorem dX8_directive_7 : decode cX8_directive 7 = .ok (.putfield 27, 3) := by decide +kernel
theorem dX8_directive_10 : decode cX8_directive 10 = .ok (.iload_n 1, 1) := by decide +kernel
theorem dX8_directive_11 : decode cX8_directive 11 = .ok (.tableswitch 62 0 4 #[33, 38, 45, 52, 57], 33) := by decide +kernel
theorem dX8_directive_44 : decode cX8_directive 44 = .ok (.aload_n 0, 1) := by decide +kernel
theorem dX8_directive_45 : decode cX8_directive 45 = .ok (.invokevirtual 90, 3) := by decide +kernel
theorem dX8_directive_48 : decode cX8_directive 48 = .ok (.ireturn, 1) := by decide +kernel
theorem dX8_directive_49 : decode cX8_directive 49 = .ok (.aload_n 0, 1) := by decide +kernel
theorem dX8_directive_50 : decode cX8_directive 50 = .ok (.iconst 2, 1) := by decide +kernel
theorem dX8_directive_51 : decode cX8_directive 51 = .ok (.iconst 0, 1) := by decide +kernel
theorem dX8_directive_52 : decode cX8_directive 52 = .ok (.invokevirtual 93, 3) := by decide +kernel
theorem dX8_directive_55 : decode cX8_directive 55 = .ok (.ireturn, 1) := by decide +kernel
theorem dX8_directive_56 : decode cX8_directive 56 = .ok (.aload_n 0, 1) := by decide +kernel
theorem dX8_directive_57 : decode cX8_directive 57 = .ok (.iconst 3, 1) := by decide +kernel
theorem dX8_directive_58 : decode cX8_directive 58 = .ok (.iconst 0, 1) := by decide +kernel
theorem dX8_directive_59 : decode cX8_directive 59 = .ok (.invokevirtual 93, 3) := by decide +kernel
theorem dX8_directive_62 : decode cX8_directive 62 = .ok (.ireturn, 1) := by decide +kernel
theorem dX8_directive_63 : decode cX8_directive 63 = .ok (.aload_n 0, 1) := by decide +kernel
theorem dX8_directive_64 : decode cX8_directive 64 = .ok (.invokevirtual 96, 3) := by decide +kernel
theorem dX8_directive_67 : decode cX8_directive 67 = .ok (.ireturn, 1) := by decide +kernel
theorem dX8_directive_68 : decode cX8_directive 68 = .ok (.aload_n 0, 1) := by decide +kernel
theorem dX8_directive_69 : decode cX8_directive 69 = .ok (.invokevirtual 99, 3) := by decide +kernel
theorem dX8_directive_72 : decode cX8_directive 72 = .ok (.ireturn, 1) := by decide +kernel
theorem dX8_directive_73 : decode cX8_directive 73 = .ok (.aload_n 0, 1) := by decide +kernel
theorem dX8_directive_74 : decode cX8_directive 74 = .ok (.iconst 5, 1) := by decide +kernel
theorem dX8_directive_75 : decode cX8_directive 75 = .ok (.bipush 65, 2) := by decide +kernel
theorem dX8_directive_77 : decode cX8_directive 77 = .ok (.invokevirtual 102, 3) := by decide +kernel
theorem dX8_directive_80 : decode cX8_directive 80 = .ok (.ireturn, 1) := by decide +kernel
theorem dX0_addByte_0 : decode cX0_addByte 0 = .ok (.aload_n 0, 1) := by decide +kernel
theorem dX0_addByte_1 : decode cX0_addByte 1 = .ok (.iconst 4, 1) := by decide +kernel
theorem dX0_addByte_2 : decode cX0_addByte 2 = .ok (.iload_n 1, 1) := by decide +kernel
theorem dX0_addByte_3 : decode cX0_addByte 3 = .ok (.sipush 255, 3) := by decide +kernel
theorem dX0_addByte_6 : decode cX0_addByte 6 = .ok (.iand, 1) := by decide +kernel
theorem dX0_addByte_7 : decode cX0_addByte 7 = .ok (.iconst (-1), 1) := by decide +kernel
theorem dX0_addByte_8 : decode cX0_addByte 8 = .ok (.iconst (-1), 1) := by decide +kernel
theorem dX0_addByte_9 : decode cX0_addByte 9 = .ok (.iconst (-1), 1) := by decide +kernel
theorem dX0_addByte_10 : decode cX0_addByte 10 = .ok (.invokevirtual 37, 3) := by decide +kernel
theorem dX0_addByte_13 : decode cX0_addByte 13 = .ok (.return_, 1) := by decide +kernel
theorem dX7_isBare_0 : decode cX7_isBare 0 = .ok (.aload_n 0, 1) := by decide +kernel
theorem dX7_isBare_1 : decode cX7_isBare 1 = .ok (.getfield 33, 3) := by decide +kernel
theorem dX7_isBare_4 : decode cX7_isBare 4 = .ok (.ifCond .ne 14, 3) := by decide +kernel
theorem dX7_isBare_7 : decode cX7_isBare 7 = .ok (.aload_n 0, 1) := by decide +kernel
theorem dX7_isBare_8 : decode cX7_isBare 8 = .ok (.getfield 36, 3) := by decide +kernel
theorem dX7_isBare_11 : decode cX7_isBare 11 = .ok (.ifCond .ne 7, 3) := by decide +kernel
theorem dX7_isBare_14 : decode cX7_isBare 14 = .ok (.iconst 1, 1) := by decide +kernel
theorem dX7_isBare_15 : decode cX7_isBare 15 = .ok (.goto 4, 3) := by decide +kernel
theorem dX7_isBare_18 : decode cX7_isBare 18 = .ok (.iconst 0, 1) := by decide +kernel
theorem dX7_isBare_19 : decode cX7_isBare 19 = .ok (.ireturn, 1) := by decide +kernel
def wpX8_coded (g1 a2 : Int) (σ : ZS) (Q : Int → ZS → Prop) : Prop := (5 ≤ g1 ∧ g1 ≤ 6) ∧ wpX7_clear g1 a2 σ (fun (σ3 : ZS) => wpX8_value σ3 (fun (x4 : Int) (σ5 : ZS) => Q 1 (zsI (zsI σ5 g1 1 x4) 14 4 ((zI σ5 14 4) + 1))))
set_option maxHeartbeats 4000000 in
set_option maxRecDepth 100000 in
theorem kX8_coded (l : Launch) (D : va_G) (dA : Nat → ClassId) (ad : Int → Nat → Nat) (g1 a2 : Int) (σ : ZS) (Q : Int → ZS → Prop) (sz : Nat) (hw : wpX8_coded g1 a2 σ Q) : Met l yX8_coded (gws yX8_coded cX8_coded 3 (some .boolean)) (gR 2 0 0) (gPre D dA [.ref (ad 14 1000), .ref (ad g1 1000), .int (Int32.ofInt a2)] (zC dA ad σ) sz) (va_Qi (zQi Q) (gAt D dA (va_A (zC dA ad σ) sz) (zC dA ad)) (va_A (zC dA ad σ) sz)) 0 0 (va_A (zC dA ad σ) sz) := by
  refine Met.ofW (cc := cX8_coded) (maxL := 3) (ret := (some .boolean)) (by decide) rfl ?_
  intro p e s m args below meth c s₁ B hml hv
  obtain ⟨rfl, hsz, hP, hK, hD0⟩ := hv
  have hx := B.exec
  have hb := B.bytes
  have hr := B.returns
  have hts := atoms_spec (ws := gws yX8_coded cX8_coded 3 (some .boolean)) B.pre
  have hg : ∀ w ∈ gw, w.before _ s = true := fun w h => hts w (List.mem_cons_of_mem _ h)
  have hown : s.vm.findClass RX8 = some m.cls := findClass_of_methodNamed B.named
  have hlocks := B.notSynchronized
  subst hsz
  have hD := hD0.self (sz := s.heap.size)
  generalize hAe : va_A (zC dA ad σ) s.heap.size = A at hD ⊢
  have hA : ∀ q : Nat, s.heap.size ≤ q → A q := fun q h => by rw [← hAe]; exact Or.inr h
  have hS : va_S A s.heap s.heap [] := va_S.rf
  have hl := lv_entry ([.ref (ad 14 1000), .ref (ad g1 1000), .int (Int32.ofInt a2)]) (n := 3) (Nat.le_of_ble_eq_true rfl)
  rw [lg_entry_eq]
  generalize (lg_sl ([.ref (ad 14 1000), .ref (ad g1 1000), .int (Int32.ofInt a2)]) ++ List.replicate (3 - (lg_sl ([.ref (ad 14 1000), .ref (ad g1 1000), .int (Int32.ofInt a2)])).length) Slot.unset).toArray = ls at hl ⊢
  have hl : lv_has ls 3 [(0, .ref (ad 14 1000)), (1, .ref (ad g1 1000)), (2, .int (Int32.ofInt a2))] := hl
  have hret : ∀ (v : Int) (σ : ZS) (H : Heap) (locs : List Loc) (ls : Array Slot) (pc : Nat), (0 ≤ v ∧ v ≤ 1) → Q v σ → va_P D vwC (zC dA ad σ) H → va_D A (zC dA ad σ) → va_S A s.heap H locs → decode cX8_coded pc = .ok (.ireturn, 1) → W p l e (gR 2 0 0) s m #[.ref (ad 14 1000), .ref (ad g1 1000), .int (Int32.ofInt a2)] below meth c H locs 0 0 (MQ below (va_Qi (zQi Q) (gAt D dA A (zC dA ad)) A) #[.ref (ad 14 1000), .ref (ad g1 1000), .int (Int32.ofInt a2)] s 0 0 A) (F0 m pc ls [.int (Int32.ofInt v)]) := fun v σ H locs ls pc hv hw hP hD hS hd => g_iret hx hb hr (z_nb hv) hlocks hK σ hP hD hS ⟨v, rfl, hw⟩ (Nat.le_of_ble_eq_true rfl) (Nat.le_of_ble_eq_true rfl) hd
  generalize MQ below (va_Qi (zQi Q) (gAt D dA A (zC dA ad)) A) #[.ref (ad 14 1000), .ref (ad g1 1000), .int (Int32.ofInt a2)] s 0 0 A = QQ at hret ⊢
  unfold wpX8_coded at hw
  refine lv_aload_n hx hb dX8_coded_0 rfl (lv_at hl 1 rfl) ?_
  refine lv_iload_n hx hb dX8_coded_1 rfl (lv_at hl 2 rfl) ?_
  obtain ⟨o1, hw⟩ := hw
  refine z_VvN (n := 1) (As := [.int (Int32.ofInt a2)]) (rest := []) hx hb hml hg hown hK hP hD hS hA (kX7_clear l D dA ad g1 a2 σ _ _ hw) (zoCO o1) rfl q306 q154 q1006 q305 q0 (by decide +kernel) ⟨(Nat.le_of_ble_eq_true rfl), (Nat.le_of_ble_eq_true rfl)⟩ rfl hl.1 rfl (Nat.le_of_ble_eq_true rfl) dX8_coded_2 ⟨(Nat.le_of_ble_eq_true rfl), (Nat.le_of_ble_eq_true rfl)⟩ (fun σ3 H locs hw hP hD hS => ?_)
  refine lv_aload_n hx hb dX8_coded_5 rfl (lv_at hl 1 rfl) ?_
  refine lv_aload_n hx hb dX8_coded_6 rfl (lv_at hl 0 rfl) ?_
  refine z_Vi (n := 0) (As := []) (rest := [.ref (ad g1 1000)]) hx hb hml hg hown hK hP hD hS hA (kX8_value l D dA ad σ3 _ _ hw) (zoC14) rfl q966 q153 q963 q965 q9 (by decide +kernel) ⟨(Nat.le_of_ble_eq_true rfl), (Nat.le_of_ble_eq_true rfl)⟩ rfl hl.1 rfl (Nat.le_of_ble_eq_true rfl) dX8_coded_7 ⟨(Nat.le_of_ble_eq_true rfl), (Nat.le_of_ble_eq_true rfl)⟩ (fun x4 σ5 H locs hw hP hD hS => ?_)
  refine zpCO_1 (v := x4) hx hb hg hown o1 hK hP hD hS q312 dX8_coded_10 (fun H locs hP hD hS => ?_)
  refine lv_aload_n hx hb dX8_coded_13 rfl (lv_at hl 0 rfl) ?_
  refine lv_dup hx hb dX8_coded_14 rfl ?_
  refine zgC14_4 hx hb hg hown hK hP q350 dX8_coded_15 ?_
  refine g_nrm (y := Int32.ofInt (zI σ5 14 4)) (congrArg Int32.ofInt (zI_nf (by decide))) ?_
  refine lv_iconst (v := Int32.ofInt 1) hx hb dX8_coded_18 (by decide) ?_
  refine z_iadd hx hb dX8_coded_19 ?_
  refine zpC14_4 (v := ((zI σ5 14 4) + 1)) hx hb hg hown hK hP hD hS q350 dX8_coded_20 (fun H locs hP hD hS => ?_)
  refine lv_iconst (v := Int32.ofInt 1) hx hb dX8_coded_23 (by decide) ?_
  exact hret 1 (zsI (zsI σ5 g1 1 x4) 14 4 ((zI σ5 14 4) + 1)) _ _ _ _ (by decide) hw hP hD hS dX8_coded_24
def wpX8_part_141 (σ : ZS) (Q : Int → ZS → Prop) : Prop := Q 1 (zsI σ 14 4 ((zI σ 14 4) + 1))
def wpX8_part_139 (σ : ZS) (Q : Int → ZS → Prop) : Prop := Q 0 σ
def wpX8_part_124 (v1 v3 : Int) (σ : ZS) (Q : Int → ZS → Prop) : Prop := (5 ≤ v1 ∧ v1 ≤ 6) ∧ (-2147483648 ≤ (zI σ v1 7) ∧ (zI σ v1 7) ≤ 2147483647) ∧ (¬ (zI σ v1 7) = 0 → wpX8_part_139 σ Q) ∧ ((zI σ v1 7) = 0 → wpX8_part_141 (zsI σ v1 7 v3) Q)
def wpX8_part_112 (v1 v3 : Int) (σ : ZS) (Q : Int → ZS → Prop) : Prop := (-2147483648 ≤ v3 ∧ v3 ≤ 2147483647) ∧ (v3 = 6 → wpX8_part_124 v1 v3 σ Q) ∧ (¬ v3 = 6 → (¬ v3 = 7 → wpX8_part_139 σ Q) ∧ (v3 = 7 → wpX8_part_124 v1 v3 σ Q))
def wpX8_part_97 (v1 v3 : Int) (σ : ZS) (Q : Int → ZS → Prop) : Prop := (5 ≤ v1 ∧ v1 ≤ 6) ∧ (-2147483648 ≤ (zI σ v1 6) ∧ (zI σ v1 6) ≤ 2147483647) ∧ (¬ (zI σ v1 6) = 0 → wpX8_part_112 v1 v3 σ Q) ∧ ((zI σ v1 6) = 0 → wpX8_part_141 (zsI σ v1 6 v3) Q)
def wpX8_part_80 (v1 v2 v3 : Int) (σ : ZS) (Q : Int → ZS → Prop) : Prop := (-2147483648 ≤ v2 ∧ v2 ≤ 2147483647) ∧ (v2 = 4 → (-2147483648 ≤ v3 ∧ v3 ≤ 2147483647) ∧ (v3 = 3 → wpX8_part_97 v1 v3 σ Q) ∧ (¬ v3 = 3 → (¬ v3 = 5 → wpX8_part_112 v1 v3 σ Q) ∧ (v3 = 5 → wpX8_part_97 v1 v3 σ Q))) ∧ (¬ v2 = 4 → Q 0 σ)
def wpX8_part (g1 : Int) (σ : ZS) (Q : Int → ZS → Prop) : Prop := (0 ≤ (zI σ 14 4) ∧ (zI σ 14 4) < 481) ∧ (-2147483648 ≤ (zA σ 12 0 (zI σ 14 4)) ∧ (zA σ 12 0 (zI σ 14 4)) ≤ 2147483647) ∧ (¬ (zA σ 12 0 (zI σ 14 4)) = 2 → (¬ (zA σ 12 0 (zI σ 14 4)) = 3 → wpX8_part_80 g1 (zA σ 12 0 (zI σ 14 4)) (zA σ 12 1 (zI σ 14 4)) σ Q) ∧ ((zA σ 12 0 (zI σ 14 4)) = 3 → (5 ≤ g1 ∧ g1 ≤ 6) ∧ (-2147483648 ≤ (zI σ g1 3) ∧ (zI σ g1 3) ≤ 2147483647) ∧ (0 ≤ (zI σ g1 3) → wpX8_part_80 g1 (zA σ 12 0 (zI σ 14 4)) (zA σ 12 1 (zI σ 14 4)) σ Q) ∧ (¬ 0 ≤ (zI σ g1 3) → wpX8_part_141 (zsI (zsI σ g1 3 (zA σ 12 1 (zI σ 14 4))) g1 4 (zA σ 12 2 (zI σ 14 4))) Q))) ∧ ((zA σ 12 0 (zI σ 14 4)) = 2 → (5 ≤ g1 ∧ g1 ≤ 6) ∧ wpX8_part_141 (zsI σ g1 2 ((zI σ g1 2) + (zA σ 12 1 (zI σ 14 4)))) Q)
set_option maxHeartbeats 4000000 in
set_option maxRecDepth 100000 in
theorem kX8_part (l : Launch) (D : va_G) (dA : Nat → ClassId) (ad : Int → Nat → Nat) (g1 : Int) (σ : ZS) (Q : Int → ZS → Prop) (sz : Nat) (hw : wpX8_part g1 σ Q) : Met l yX8_part (gws yX8_part cX8_part 4 (some .boolean)) (gR 1 0 0) (gPre D dA [.ref (ad 14 1000), .ref (ad g1 1000)] (zC dA ad σ) sz) (va_Qi (zQi Q) (gAt D dA (va_A (zC dA ad σ) sz) (zC dA ad)) (va_A (zC dA ad σ) sz)) 0 0 (va_A (zC dA ad σ) sz) := by
  refine Met.ofW (cc := cX8_part) (maxL := 4) (ret := (some .boolean)) (by decide) rfl ?_
  intro p e s m args below meth c s₁ B hml hv
  obtain ⟨rfl, hsz, hP, hK, hD0⟩ := hv
  have hx := B.exec
  have hb := B.bytes
  have hr := B.returns
  have hts := atoms_spec (ws := gws yX8_part cX8_part 4 (some .boolean)) B.pre
  have hg : ∀ w ∈ gw, w.before _ s = true := fun w h => hts w (List.mem_cons_of_mem _ h)
  have hown : s.vm.findClass RX8 = some m.cls := findClass_of_methodNamed B.named
  have hlocks := B.notSynchronized
  subst hsz
  have hD := hD0.self (sz := s.heap.size)
  generalize hAe : va_A (zC dA ad σ) s.heap.size = A at hD ⊢
  have hA : ∀ q : Nat, s.heap.size ≤ q → A q := fun q h => by rw [← hAe]; exact Or.inr h
  have hS : va_S A s.heap s.heap [] := va_S.rf
  have hl := lv_entry ([.ref (ad 14 1000), .ref (ad g1 1000)]) (n := 4) (Nat.le_of_ble_eq_true rfl)
  rw [lg_entry_eq]
  generalize (lg_sl ([.ref (ad 14 1000), .ref (ad g1 1000)]) ++ List.replicate (4 - (lg_sl ([.ref (ad 14 1000), .ref (ad g1 1000)])).length) Slot.unset).toArray = ls at hl ⊢
  have hl : lv_has ls 4 [(0, .ref (ad 14 1000)), (1, .ref (ad g1 1000))] := hl
  have hret : ∀ (v : Int) (σ : ZS) (H : Heap) (locs : List Loc) (ls : Array Slot) (pc : Nat), (0 ≤ v ∧ v ≤ 1) → Q v σ → va_P D vwC (zC dA ad σ) H → va_D A (zC dA ad σ) → va_S A s.heap H locs → decode cX8_part pc = .ok (.ireturn, 1) → W p l e (gR 1 0 0) s m #[.ref (ad 14 1000), .ref (ad g1 1000)] below meth c H locs 0 0 (MQ below (va_Qi (zQi Q) (gAt D dA A (zC dA ad)) A) #[.ref (ad 14 1000), .ref (ad g1 1000)] s 0 0 A) (F0 m pc ls [.int (Int32.ofInt v)]) := fun v σ H locs ls pc hv hw hP hD hS hd => g_iret hx hb hr (z_nb hv) hlocks hK σ hP hD hS ⟨v, rfl, hw⟩ (Nat.le_of_ble_eq_true rfl) (Nat.le_of_ble_eq_true rfl) hd
  generalize MQ below (va_Qi (zQi Q) (gAt D dA A (zC dA ad)) A) #[.ref (ad 14 1000), .ref (ad g1 1000)] s 0 0 A = QQ at hret ⊢
  have j141 : ∀ (σ : ZS), ∀ (H : Heap) (locs : List Loc) (ls : Array Slot), va_P D vwC (zC dA ad σ) H → va_D A (zC dA ad σ) → va_S A s.heap H locs → lv_has ls 4 [(0, .ref (ad 14 1000))] → wpX8_part_141 σ Q → W p l e (gR 1 0 0) s m #[.ref (ad 14 1000), .ref (ad g1 1000)] below meth c H locs 0 0 QQ (F0 m 141 ls []) := by
    intro σ H locs ls hP hD hS hl hw
    unfold wpX8_part_141 at hw
    refine lv_aload_n hx hb dX8_part_141 rfl (lv_at hl 0 rfl) ?_
    refine lv_dup hx hb dX8_part_142 rfl ?_
    refine zgC14_4 hx hb hg hown hK hP q350 dX8_part_143 ?_
    refine lv_iconst (v := Int32.ofInt 1) hx hb dX8_part_146 (by decide) ?_
    refine z_iadd hx hb dX8_part_147 ?_
    refine zpC14_4 (v := ((zI σ 14 4) + 1)) hx hb hg hown hK hP hD hS q350 dX8_part_148 (fun H locs hP hD hS => ?_)
    refine lv_iconst (v := Int32.ofInt 1) hx hb dX8_part_151 (by decide) ?_
    exact hret 1 (zsI σ 14 4 ((zI σ 14 4) + 1)) _ _ _ _ (by decide) hw hP hD hS dX8_part_152
  have j139 : ∀ (σ : ZS), ∀ (H : Heap) (locs : List Loc) (ls : Array Slot), va_P D vwC (zC dA ad σ) H → va_D A (zC dA ad σ) → va_S A s.heap H locs → lv_has ls 4 [] → wpX8_part_139 σ Q → W p l e (gR 1 0 0) s m #[.ref (ad 14 1000), .ref (ad g1 1000)] below meth c H locs 0 0 QQ (F0 m 139 ls []) := by
    intro σ H locs ls hP hD hS hl hw
    unfold wpX8_part_139 at hw
    refine lv_iconst (v := Int32.ofInt 0) hx hb dX8_part_139 (by decide) ?_
    exact hret 0 σ _ _ _ _ (by decide) hw hP hD hS dX8_part_140
  have j124 : ∀ (v1 v3 : Int) (σ : ZS), ∀ (H : Heap) (locs : List Loc) (ls : Array Slot), va_P D vwC (zC dA ad σ) H → va_D A (zC dA ad σ) → va_S A s.heap H locs → lv_has ls 4 [(0, .ref (ad 14 1000)), (1, .ref (ad v1 1000)), (3, .int (Int32.ofInt v3))] → wpX8_part_124 v1 v3 σ Q → W p l e (gR 1 0 0) s m #[.ref (ad 14 1000), .ref (ad g1 1000)] below meth c H locs 0 0 QQ (F0 m 124 ls []) := by
    intro v1 v3 σ H locs ls hP hD hS hl hw
    unfold wpX8_part_124 at hw
    refine lv_aload_n hx hb dX8_part_124 rfl (lv_at hl 1 rfl) ?_
    obtain ⟨o1, hw⟩ := hw
    refine zgCO_7 hx hb hg hown o1 hK hP q328 dX8_part_125 ?_
    obtain ⟨o2, hw⟩ := hw
    refine z_if_ne (tgt := 139) hx hb o2 dX8_part_128 (by decide) (fun k3 => ?_) (fun k3 => ?_)
    · replace hw := hw.1 k3
      exact j139 σ _ _ _ hP hD hS (lv_sub hl [] rfl) hw
    · replace hw := hw.2 k3
      refine lv_aload_n hx hb dX8_part_131 rfl (lv_at hl 1 rfl) ?_
      refine lv_iload_n hx hb dX8_part_132 rfl (lv_at hl 2 rfl) ?_
      refine zpCO_7 (v := v3) hx hb hg hown o1 hK hP hD hS q328 dX8_part_133 (fun H locs hP hD hS => ?_)
      refine lv_goto (tgt := 141) hx hb dX8_part_136 (by decide) ?_
      exact j141 (zsI σ v1 7 v3) _ _ _ hP hD hS (lv_sub hl [0] rfl) hw
  have j112 : ∀ (v1 v3 : Int) (σ : ZS), ∀ (H : Heap) (locs : List Loc) (ls : Array Slot), va_P D vwC (zC dA ad σ) H → va_D A (zC dA ad σ) → va_S A s.heap H locs → lv_has ls 4 [(0, .ref (ad 14 1000)), (1, .ref (ad v1 1000)), (3, .int (Int32.ofInt v3))] → wpX8_part_112 v1 v3 σ Q → W p l e (gR 1 0 0) s m #[.ref (ad 14 1000), .ref (ad g1 1000)] below meth c H locs 0 0 QQ (F0 m 112 ls []) := by
    intro v1 v3 σ H locs ls hP hD hS hl hw
    unfold wpX8_part_112 at hw
    refine lv_iload_n hx hb dX8_part_112 rfl (lv_at hl 2 rfl) ?_
    refine lv_bipush (v := Int32.ofInt 6) hx hb dX8_part_113 (by decide) ?_
    obtain ⟨o4, hw⟩ := hw
    refine z_icmp_eq (tgt := 124) hx hb o4 (by decide) dX8_part_115 (by decide) (fun k5 => ?_) (fun k5 => ?_)
    · replace hw := hw.1 k5
      exact j124 v1 v3 σ _ _ _ hP hD hS (lv_sub hl [0, 1, 2] rfl) hw
    · replace hw := hw.2 k5
      refine lv_iload_n hx hb dX8_part_118 rfl (lv_at hl 2 rfl) ?_
      refine lv_bipush (v := Int32.ofInt 7) hx hb dX8_part_119 (by decide) ?_
      refine z_icmp_ne (tgt := 139) hx hb o4 (by decide) dX8_part_121 (by decide) (fun k6 => ?_) (fun k6 => ?_)
      · replace hw := hw.1 k6
        exact j139 σ _ _ _ hP hD hS (lv_sub hl [] rfl) hw
      · replace hw := hw.2 k6
        exact j124 v1 v3 σ _ _ _ hP hD hS (lv_sub hl [0, 1, 2] rfl) hw
  have j97 : ∀ (v1 v3 : Int) (σ : ZS), ∀ (H : Heap) (locs : List Loc) (ls : Array Slot), va_P D vwC (zC dA ad σ) H → va_D A (zC dA ad σ) → va_S A s.heap H locs → lv_has ls 4 [(0, .ref (ad 14 1000)), (1, .ref (ad v1 1000)), (3, .int (Int32.ofInt v3))] → wpX8_part_97 v1 v3 σ Q → W p l e (gR 1 0 0) s m #[.ref (ad 14 1000), .ref (ad g1 1000)] below meth c H locs 0 0 QQ (F0 m 97 ls []) := by
    intro v1 v3 σ H locs ls hP hD hS hl hw
    unfold wpX8_part_97 at hw
    refine lv_aload_n hx hb dX8_part_97 rfl (lv_at hl 1 rfl) ?_
    obtain ⟨o7, hw⟩ := hw
    refine zgCO_6 hx hb hg hown o7 hK hP q326 dX8_part_98 ?_
    obtain ⟨o8, hw⟩ := hw
    refine z_if_ne (tgt := 112) hx hb o8 dX8_part_101 (by decide) (fun k9 => ?_) (fun k9 => ?_)
    · replace hw := hw.1 k9
      exact j112 v1 v3 σ _ _ _ hP hD hS (lv_sub hl [0, 1, 2] rfl) hw
    · replace hw := hw.2 k9
      refine lv_aload_n hx hb dX8_part_104 rfl (lv_at hl 1 rfl) ?_
      refine lv_iload_n hx hb dX8_part_105 rfl (lv_at hl 2 rfl) ?_
      refine zpCO_6 (v := v3) hx hb hg hown o7 hK hP hD hS q326 dX8_part_106 (fun H locs hP hD hS => ?_)
      refine lv_goto (tgt := 141) hx hb dX8_part_109 (by decide) ?_
      exact j141 (zsI σ v1 6 v3) _ _ _ hP hD hS (lv_sub hl [0] rfl) hw
  have j80 : ∀ (v1 v2 v3 : Int) (σ : ZS), ∀ (H : Heap) (locs : List Loc) (ls : Array Slot), va_P D vwC (zC dA ad σ) H → va_D A (zC dA ad σ) → va_S A s.heap H locs → lv_has ls 4 [(0, .ref (ad 14 1000)), (1, .ref (ad v1 1000)), (2, .int (Int32.ofInt v2)), (3, .int (Int32.ofInt v3))] → wpX8_part_80 v1 v2 v3 σ Q → W p l e (gR 1 0 0) s m #[.ref (ad 14 1000), .ref (ad g1 1000)] below meth c H locs 0 0 QQ (F0 m 80 ls []) := by
    intro v1 v2 v3 σ H locs ls hP hD hS hl hw
    unfold wpX8_part_80 at hw
    refine lv_iload_n hx hb dX8_part_80 rfl (lv_at hl 2 rfl) ?_
    refine lv_iconst (v := Int32.ofInt 4) hx hb dX8_part_81 (by decide) ?_
    obtain ⟨o10, hw⟩ := hw
    refine z_icmp_eq (tgt := 87) hx hb o10 (by decide) dX8_part_82 (by decide) (fun k11 => ?_) (fun k11 => ?_)
    · replace hw := hw.1 k11
      refine lv_iload_n hx hb dX8_part_87 rfl (lv_at hl 3 rfl) ?_
      refine lv_iconst (v := Int32.ofInt 3) hx hb dX8_part_88 (by decide) ?_
      obtain ⟨o12, hw⟩ := hw
      refine z_icmp_eq (tgt := 97) hx hb o12 (by decide) dX8_part_89 (by decide) (fun k13 => ?_) (fun k13 => ?_)
      · replace hw := hw.1 k13
        exact j97 v1 v3 σ _ _ _ hP hD hS (lv_sub hl [0, 1, 3] rfl) hw
      · replace hw := hw.2 k13
        refine lv_iload_n hx hb dX8_part_92 rfl (lv_at hl 3 rfl) ?_
        refine lv_iconst (v := Int32.ofInt 5) hx hb dX8_part_93 (by decide) ?_
        refine z_icmp_ne (tgt := 112) hx hb o12 (by decide) dX8_part_94 (by decide) (fun k14 => ?_) (fun k14 => ?_)
        · replace hw := hw.1 k14
          exact j112 v1 v3 σ _ _ _ hP hD hS (lv_sub hl [0, 1, 3] rfl) hw
        · replace hw := hw.2 k14
          exact j97 v1 v3 σ _ _ _ hP hD hS (lv_sub hl [0, 1, 3] rfl) hw
    · replace hw := hw.2 k11
      refine lv_iconst (v := Int32.ofInt 0) hx hb dX8_part_85 (by decide) ?_
      exact hret 0 σ _ _ _ _ (by decide) hw hP hD hS dX8_part_86
  unfold wpX8_part at hw
  refine lv_aload_n hx hb dX8_part_0 rfl (lv_at hl 0 rfl) ?_
  refine zgC14_0 hx hb hg hown hK hP q346 dX8_part_1 ?_
  refine zgC12_0 hx hb hg hown hK hP q232 dX8_part_4 ?_
  refine lv_aload_n hx hb dX8_part_7 rfl (lv_at hl 0 rfl) ?_
  refine zgC14_4 hx hb hg hown hK hP q350 dX8_part_8 ?_
  obtain ⟨o15, hw⟩ := hw
  refine zlC12_0 hx hb o15 hK hP dX8_part_11 ?_
  refine lv_istore_n (lv' := [(2, .int (Int32.ofInt (zA σ 12 0 (zI σ 14 4)))), (0, .ref (ad 14 1000)), (1, .ref (ad g1 1000))]) hx hb dX8_part_12 rfl hl (by decide) rfl (fun ls hl => ?_)
  refine lv_aload_n hx hb dX8_part_13 rfl (lv_at hl 1 rfl) ?_
  refine zgC14_0 hx hb hg hown hK hP q346 dX8_part_14 ?_
  refine zgC12_1 hx hb hg hown hK hP q234 dX8_part_17 ?_
  refine lv_aload_n hx hb dX8_part_20 rfl (lv_at hl 1 rfl) ?_
  refine zgC14_4 hx hb hg hown hK hP q350 dX8_part_21 ?_
  refine zlC12_1 hx hb o15 hK hP dX8_part_24 ?_
  refine lv_istore_n (lv' := [(3, .int (Int32.ofInt (zA σ 12 1 (zI σ 14 4)))), (2, .int (Int32.ofInt (zA σ 12 0 (zI σ 14 4)))), (0, .ref (ad 14 1000)), (1, .ref (ad g1 1000))]) hx hb dX8_part_25 rfl hl (by decide) rfl (fun ls hl => ?_)
  refine lv_iload_n hx hb dX8_part_26 rfl (lv_at hl 1 rfl) ?_
  refine lv_iconst (v := Int32.ofInt 2) hx hb dX8_part_27 (by decide) ?_
  obtain ⟨o16, hw⟩ := hw
  refine z_icmp_ne (tgt := 44) hx hb o16 (by decide) dX8_part_28 (by decide) (fun k17 => ?_) (fun k17 => ?_)
  · replace hw := hw.1 k17
    refine lv_iload_n hx hb dX8_part_44 rfl (lv_at hl 1 rfl) ?_
    refine lv_iconst (v := Int32.ofInt 3) hx hb dX8_part_45 (by decide) ?_
    refine z_icmp_ne (tgt := 80) hx hb o16 (by decide) dX8_part_46 (by decide) (fun k18 => ?_) (fun k18 => ?_)
    · replace hw := hw.1 k18
      exact j80 g1 (zA σ 12 0 (zI σ 14 4)) (zA σ 12 1 (zI σ 14 4)) σ _ _ _ hP hD hS (lv_sub hl [2, 3, 1, 0] rfl) hw
    · replace hw := hw.2 k18
      refine lv_aload_n hx hb dX8_part_49 rfl (lv_at hl 3 rfl) ?_
      obtain ⟨o19, hw⟩ := hw
      refine zgCO_3 hx hb hg hown o19 hK hP q318 dX8_part_50 ?_
      obtain ⟨o20, hw⟩ := hw
      refine z_if_ge (tgt := 80) hx hb o20 dX8_part_53 (by decide) (fun k21 => ?_) (fun k21 => ?_)
      · replace hw := hw.1 k21
        exact j80 g1 (zA σ 12 0 (zI σ 14 4)) (zA σ 12 1 (zI σ 14 4)) σ _ _ _ hP hD hS (lv_sub hl [2, 3, 1, 0] rfl) hw
      · replace hw := hw.2 k21
        refine lv_aload_n hx hb dX8_part_56 rfl (lv_at hl 3 rfl) ?_
        refine lv_iload_n hx hb dX8_part_57 rfl (lv_at hl 0 rfl) ?_
        refine zpCO_3 (v := (zA σ 12 1 (zI σ 14 4))) hx hb hg hown o19 hK hP hD hS q318 dX8_part_58 (fun H locs hP hD hS => ?_)
        refine lv_aload_n hx hb dX8_part_61 rfl (lv_at hl 3 rfl) ?_
        refine lv_aload_n hx hb dX8_part_62 rfl (lv_at hl 2 rfl) ?_
        refine zgC14_0 hx hb hg hown hK hP q346 dX8_part_63 ?_
        refine zgC12_2 hx hb hg hown hK hP q236 dX8_part_66 ?_
        refine lv_aload_n hx hb dX8_part_69 rfl (lv_at hl 2 rfl) ?_
        refine zgC14_4 hx hb hg hown hK hP q350 dX8_part_70 ?_
        refine g_nrm (y := Int32.ofInt (zI σ 14 4)) (congrArg Int32.ofInt (zI_nf (by decide))) ?_
        refine zlC12_2 hx hb o15 hK hP dX8_part_73 ?_
        refine g_nrm (y := Int32.ofInt (zA σ 12 2 (zI σ 14 4))) (congrArg Int32.ofInt (congrFun (zA_I) _)) ?_
        refine zpCO_4 (v := (zA σ 12 2 (zI σ 14 4))) hx hb hg hown o19 hK hP hD hS q321 dX8_part_74 (fun H locs hP hD hS => ?_)
        refine lv_goto (tgt := 141) hx hb dX8_part_77 (by decide) ?_
        exact j141 (zsI (zsI σ g1 3 (zA σ 12 1 (zI σ 14 4))) g1 4 (zA σ 12 2 (zI σ 14 4))) _ _ _ hP hD hS (lv_sub hl [2] rfl) hw
  · replace hw := hw.2 k17
    refine lv_aload_n hx hb dX8_part_31 rfl (lv_at hl 3 rfl) ?_
    refine lv_dup hx hb dX8_part_32 rfl ?_
    obtain ⟨o22, hw⟩ := hw
    refine zgCO_2 hx hb hg hown o22 hK hP q315 dX8_part_33 ?_
    refine lv_iload_n hx hb dX8_part_36 rfl (lv_at hl 0 rfl) ?_
    refine z_iadd hx hb dX8_part_37 ?_
    refine zpCO_2 (v := ((zI σ g1 2) + (zA σ 12 1 (zI σ 14 4)))) hx hb hg hown o22 hK hP hD hS q315 dX8_part_38 (fun H locs hP hD hS => ?_)
    refine lv_goto (tgt := 141) hx hb dX8_part_41 (by decide) ?_
    exact j141 (zsI σ g1 2 ((zI σ g1 2) + (zA σ 12 1 (zI σ 14 4)))) _ _ _ hP hD hS (lv_sub hl [2] rfl) hw
def wpX8_brackets_117 (v1 : Int) (σ : ZS) (Q : Int → ZS → Prop) : Prop := (5 ≤ v1 ∧ v1 ≤ 6) ∧ wpX8_take 93 (zsI σ v1 2 ((zI σ v1 2) % 65536)) (fun (x2 : Int) (σ3 : ZS) => (0 ≤ x2 ∧ x2 ≤ 1) ∧ Q x2 σ3)
def wpX8_brackets_109 (σ : ZS) (Q : Int → ZS → Prop) : Prop := Q 0 σ
def wpX8_brackets_111 (K27 : Int → ZS → Prop) (v1 v2 : Int) (σ : ZS) (Q : Int → ZS → Prop) : Prop := K27 (v2 + 1) σ
def wpbX8_brackets_27 (K27 : Int → ZS → Prop) (v1 v2 : Int) (σ : ZS) (Q : Int → ZS → Prop) : Prop := (-2147483648 ≤ v2 ∧ v2 ≤ 2147483647) ∧ (-2147483648 ≤ (zI σ 12 3) ∧ (zI σ 12 3) ≤ 2147483647) ∧ ((zI σ 12 3) ≤ v2 → wpX8_brackets_117 v1 σ Q) ∧ (¬ (zI σ 12 3) ≤ v2 → wpX8_type σ (fun (x8 : Int) (σ9 : ZS) => (-2147483648 ≤ x8 ∧ x8 ≤ 2147483647) ∧ (x8 = 93 → wpX8_brackets_117 v1 σ9 Q) ∧ (¬ x8 = 93 → wpX8_take 45 σ9 (fun (x12 : Int) (σ13 : ZS) => (-2147483648 ≤ x12 ∧ x12 ≤ 2147483647) ∧ (x12 = 0 → wpX8_take 43 σ13 (fun (x16 : Int) (σ17 : ZS) => (-2147483648 ≤ x16 ∧ x16 ≤ 2147483647) ∧ (x16 = 0 → wpX8_brackets_109 σ17 Q) ∧ (¬ x16 = 0 → wpX8_part v1 σ17 (fun (x20 : Int) (σ21 : ZS) => (-2147483648 ≤ x20 ∧ x20 ≤ 2147483647) ∧ (¬ x20 = 0 → wpX8_brackets_111 K27 v1 v2 σ21 Q) ∧ (x20 = 0 → wpX8_brackets_109 σ21 Q))))) ∧ (¬ x12 = 0 → wpX8_type σ13 (fun (x24 : Int) (σ25 : ZS) => (-2147483648 ≤ x24 ∧ x24 ≤ 2147483647) ∧ (x24 = 2 → (5 ≤ v1 ∧ v1 ≤ 6) ∧ wpX8_value σ25 (fun (x29 : Int) (σ30 : ZS) => wpX8_brackets_111 K27 v1 v2 (zsI (zsI σ30 v1 2 ((zI σ25 v1 2) - x29)) 14 4 ((zI σ30 14 4) + 1)) Q)) ∧ (¬ x24 = 2 → Q 0 σ25)))))))
def wpX8_brackets_27 (v1 v2 : Int) (σ : ZS) (Q : Int → ZS → Prop) : Prop := lfp1 (fun K27 v2 σ => wpbX8_brackets_27 K27 v1 v2 σ Q) v2 σ
def wpX8_brackets (g1 : Int) (σ : ZS) (Q : Int → ZS → Prop) : Prop := (5 ≤ g1 ∧ g1 ≤ 6) ∧ wpX7_clear g1 2 σ (fun (σ33 : ZS) => wpX8_part g1 (zsI σ33 14 4 ((zI σ33 14 4) + 1)) (fun (x34 : Int) (σ35 : ZS) => (-2147483648 ≤ x34 ∧ x34 ≤ 2147483647) ∧ (¬ x34 = 0 → wpX8_brackets_27 g1 0 σ35 Q) ∧ (x34 = 0 → Q 0 σ35)))
set_option maxHeartbeats 4000000 in
set_option maxRecDepth 100000 in
theorem kX8_brackets (l : Launch) (D : va_G) (dA : Nat → ClassId) (ad : Int → Nat → Nat) (g1 : Int) (σ : ZS) (Q : Int → ZS → Prop) (sz : Nat) (hw : wpX8_brackets g1 σ Q) : Met l yX8_brackets (gws yX8_brackets cX8_brackets 3 (some .boolean)) (gR 2 0 0) (gPre D dA [.ref (ad 14 1000), .ref (ad g1 1000)] (zC dA ad σ) sz) (va_Qi (zQi Q) (gAt D dA (va_A (zC dA ad σ) sz) (zC dA ad)) (va_A (zC dA ad σ) sz)) 0 0 (va_A (zC dA ad σ) sz) := by
  refine Met.ofW (cc := cX8_brackets) (maxL := 3) (ret := (some .boolean)) (by decide) rfl ?_
  intro p e s m args below meth c s₁ B hml hv
  obtain ⟨rfl, hsz, hP, hK, hD0⟩ := hv
  have hx := B.exec
  have hb := B.bytes
  have hr := B.returns
  have hts := atoms_spec (ws := gws yX8_brackets cX8_brackets 3 (some .boolean)) B.pre
  have hg : ∀ w ∈ gw, w.before _ s = true := fun w h => hts w (List.mem_cons_of_mem _ h)
  have hown : s.vm.findClass RX8 = some m.cls := findClass_of_methodNamed B.named
  have hlocks := B.notSynchronized
  subst hsz
  have hD := hD0.self (sz := s.heap.size)
  generalize hAe : va_A (zC dA ad σ) s.heap.size = A at hD ⊢
  have hA : ∀ q : Nat, s.heap.size ≤ q → A q := fun q h => by rw [← hAe]; exact Or.inr h
  have hS : va_S A s.heap s.heap [] := va_S.rf
  have hl := lv_entry ([.ref (ad 14 1000), .ref (ad g1 1000)]) (n := 3) (Nat.le_of_ble_eq_true rfl)
  rw [lg_entry_eq]
  generalize (lg_sl ([.ref (ad 14 1000), .ref (ad g1 1000)]) ++ List.replicate (3 - (lg_sl ([.ref (ad 14 1000), .ref (ad g1 1000)])).length) Slot.unset).toArray = ls at hl ⊢
  have hl : lv_has ls 3 [(0, .ref (ad 14 1000)), (1, .ref (ad g1 1000))] := hl
  have hret : ∀ (v : Int) (σ : ZS) (H : Heap) (locs : List Loc) (ls : Array Slot) (pc : Nat), (0 ≤ v ∧ v ≤ 1) → Q v σ → va_P D vwC (zC dA ad σ) H → va_D A (zC dA ad σ) → va_S A s.heap H locs → decode cX8_brackets pc = .ok (.ireturn, 1) → W p l e (gR 2 0 0) s m #[.ref (ad 14 1000), .ref (ad g1 1000)] below meth c H locs 0 0 (MQ below (va_Qi (zQi Q) (gAt D dA A (zC dA ad)) A) #[.ref (ad 14 1000), .ref (ad g1 1000)] s 0 0 A) (F0 m pc ls [.int (Int32.ofInt v)]) := fun v σ H locs ls pc hv hw hP hD hS hd => g_iret hx hb hr (z_nb hv) hlocks hK σ hP hD hS ⟨v, rfl, hw⟩ (Nat.le_of_ble_eq_true rfl) (Nat.le_of_ble_eq_true rfl) hd
  generalize MQ below (va_Qi (zQi Q) (gAt D dA A (zC dA ad)) A) #[.ref (ad 14 1000), .ref (ad g1 1000)] s 0 0 A = QQ at hret ⊢
  have j117 : ∀ (v1 : Int) (σ : ZS), ∀ (H : Heap) (locs : List Loc) (ls : Array Slot), va_P D vwC (zC dA ad σ) H → va_D A (zC dA ad σ) → va_S A s.heap H locs → lv_has ls 3 [(0, .ref (ad 14 1000)), (1, .ref (ad v1 1000))] → wpX8_brackets_117 v1 σ Q → W p l e (gR 2 0 0) s m #[.ref (ad 14 1000), .ref (ad g1 1000)] below meth c H locs 0 0 QQ (F0 m 117 ls []) := by
    intro v1 σ H locs ls hP hD hS hl hw
    unfold wpX8_brackets_117 at hw
    refine lv_aload_n hx hb dX8_brackets_117 rfl (lv_at hl 1 rfl) ?_
    refine lv_aload_n hx hb dX8_brackets_118 rfl (lv_at hl 1 rfl) ?_
    obtain ⟨o1, hw⟩ := hw
    refine zgCO_2 hx hb hg hown o1 hK hP q315 dX8_brackets_119 ?_
    refine lv_ldc hx hb hown (hg _ q1015) dX8_brackets_122 ?_
    refine g_nrm (y := Int32.ofInt 65535) (by decide) ?_
    refine z_iandK (M := 65536) hx hb 16 (by decide) (by decide) (by decide) dX8_brackets_124 ?_
    refine zpCO_2 (v := ((zI σ v1 2) % 65536)) hx hb hg hown o1 hK hP hD hS q315 dX8_brackets_125 (fun H locs hP hD hS => ?_)
    refine lv_aload_n hx hb dX8_brackets_128 rfl (lv_at hl 0 rfl) ?_
    refine lv_bipush (v := Int32.ofInt 93) hx hb dX8_brackets_129 (by decide) ?_
    refine z_Vi (n := 1) (As := [.int (Int32.ofInt 93)]) (rest := []) hx hb hml hg hown hK hP hD hS hA (kX8_take l D dA ad 93 (zsI σ v1 2 ((zI σ v1 2) % 65536)) _ _ hw) (zoC14) rfl q954 q153 q951 q953 q7 (by decide +kernel) ⟨(Nat.le_of_ble_eq_true rfl), (Nat.le_of_ble_eq_true rfl)⟩ rfl hl.1 rfl (Nat.le_of_ble_eq_true rfl) dX8_brackets_131 ⟨(Nat.le_of_ble_eq_true rfl), (Nat.le_of_ble_eq_true rfl)⟩ (fun x2 σ3 H locs hw hP hD hS => ?_)
    obtain ⟨o4, hw⟩ := hw
    exact hret x2 σ3 _ _ _ _ o4 hw hP hD hS dX8_brackets_134
  have j109 : ∀ (σ : ZS), ∀ (H : Heap) (locs : List Loc) (ls : Array Slot), va_P D vwC (zC dA ad σ) H → va_D A (zC dA ad σ) → va_S A s.heap H locs → lv_has ls 3 [] → wpX8_brackets_109 σ Q → W p l e (gR 2 0 0) s m #[.ref (ad 14 1000), .ref (ad g1 1000)] below meth c H locs 0 0 QQ (F0 m 109 ls []) := by
    intro σ H locs ls hP hD hS hl hw
    unfold wpX8_brackets_109 at hw
    refine lv_iconst (v := Int32.ofInt 0) hx hb dX8_brackets_109 (by decide) ?_
    exact hret 0 σ _ _ _ _ (by decide) hw hP hD hS dX8_brackets_110
  have b27 : ∀ (v1 : Int) (K27 : Int → ZS → Prop), (∀ (v2 : Int) (σ : ZS), K27 v2 σ → ∀ (H : Heap) (locs : List Loc) (ls : Array Slot), va_P D vwC (zC dA ad σ) H → va_D A (zC dA ad σ) → va_S A s.heap H locs → lv_has ls 3 [(0, .ref (ad 14 1000)), (1, .ref (ad v1 1000)), (2, .int (Int32.ofInt v2))] → W p l e (gR 2 0 0) s m #[.ref (ad 14 1000), .ref (ad g1 1000)] below meth c H locs 0 0 QQ (F0 m 27 ls [])) → ∀ (v2 : Int) (σ : ZS), wpbX8_brackets_27 K27 v1 v2 σ Q → ∀ (H : Heap) (locs : List Loc) (ls : Array Slot), va_P D vwC (zC dA ad σ) H → va_D A (zC dA ad σ) → va_S A s.heap H locs → lv_has ls 3 [(0, .ref (ad 14 1000)), (1, .ref (ad v1 1000)), (2, .int (Int32.ofInt v2))] → W p l e (gR 2 0 0) s m #[.ref (ad 14 1000), .ref (ad g1 1000)] below meth c H locs 0 0 QQ (F0 m 27 ls []) := by
    intro v1 K27 hK27
    have j111 : ∀ (v2 : Int) (σ : ZS), ∀ (H : Heap) (locs : List Loc) (ls : Array Slot), va_P D vwC (zC dA ad σ) H → va_D A (zC dA ad σ) → va_S A s.heap H locs → lv_has ls 3 [(0, .ref (ad 14 1000)), (1, .ref (ad v1 1000)), (2, .int (Int32.ofInt v2))] → wpX8_brackets_111 K27 v1 v2 σ Q → W p l e (gR 2 0 0) s m #[.ref (ad 14 1000), .ref (ad g1 1000)] below meth c H locs 0 0 QQ (F0 m 111 ls []) := by
      intro v2 σ H locs ls hP hD hS hl hw
      unfold wpX8_brackets_111 at hw
      refine lv_iinc (v := Int32.ofInt (v2 + 1)) (lv' := [(2, .int (Int32.ofInt (v2 + 1))), (0, .ref (ad 14 1000)), (1, .ref (ad v1 1000))]) hx hb dX8_brackets_111 hl (k := 2) rfl (Int32.ofInt_add _ _).symm (by decide) rfl (fun ls hl => ?_)
      refine lv_goto (tgt := 27) hx hb dX8_brackets_114 (by decide) ?_
      exact hK27 (v2 + 1) σ hw _ _ _ hP hD hS (lv_sub hl [1, 2, 0] rfl)
    intro v2 σ hw H locs ls hP hD hS hl
    unfold wpbX8_brackets_27 at hw
    refine lv_iload_n hx hb dX8_brackets_27 rfl (lv_at hl 2 rfl) ?_
    refine lv_aload_n hx hb dX8_brackets_28 rfl (lv_at hl 0 rfl) ?_
    refine zgC14_0 hx hb hg hown hK hP q346 dX8_brackets_29 ?_
    refine zgC12_3 hx hb hg hown hK hP q238 dX8_brackets_32 ?_
    obtain ⟨o5, hw⟩ := hw
    obtain ⟨o6, hw⟩ := hw
    refine z_icmp_ge (tgt := 117) hx hb o5 o6 dX8_brackets_35 (by decide) (fun k7 => ?_) (fun k7 => ?_)
    · replace hw := hw.1 k7
      exact j117 v1 σ _ _ _ hP hD hS (lv_sub hl [0, 1] rfl) hw
    · replace hw := hw.2 k7
      refine lv_aload_n hx hb dX8_brackets_38 rfl (lv_at hl 0 rfl) ?_
      refine z_Vi (n := 0) (As := []) (rest := []) hx hb hml hg hown hK hP hD hS hA (kX8_type l D dA ad σ _ _ hw) (zoC14) rfl q946 q153 q943 q945 q5 (by decide +kernel) ⟨(Nat.le_of_ble_eq_true rfl), (Nat.le_of_ble_eq_true rfl)⟩ rfl hl.1 rfl (Nat.le_of_ble_eq_true rfl) dX8_brackets_39 ⟨(Nat.le_of_ble_eq_true rfl), (Nat.le_of_ble_eq_true rfl)⟩ (fun x8 σ9 H locs hw hP hD hS => ?_)
      refine lv_bipush (v := Int32.ofInt 93) hx hb dX8_brackets_42 (by decide) ?_
      obtain ⟨o10, hw⟩ := hw
      refine z_icmp_eq (tgt := 117) hx hb o10 (by decide) dX8_brackets_44 (by decide) (fun k11 => ?_) (fun k11 => ?_)
      · replace hw := hw.1 k11
        exact j117 v1 σ9 _ _ _ hP hD hS (lv_sub hl [0, 1] rfl) hw
      · replace hw := hw.2 k11
        refine lv_aload_n hx hb dX8_brackets_47 rfl (lv_at hl 0 rfl) ?_
        refine lv_bipush (v := Int32.ofInt 45) hx hb dX8_brackets_48 (by decide) ?_
        refine z_Vi (n := 1) (As := [.int (Int32.ofInt 45)]) (rest := []) hx hb hml hg hown hK hP hD hS hA (kX8_take l D dA ad 45 σ9 _ _ hw) (zoC14) rfl q954 q153 q951 q953 q7 (by decide +kernel) ⟨(Nat.le_of_ble_eq_true rfl), (Nat.le_of_ble_eq_true rfl)⟩ rfl hl.1 rfl (Nat.le_of_ble_eq_true rfl) dX8_brackets_50 ⟨(Nat.le_of_ble_eq_true rfl), (Nat.le_of_ble_eq_true rfl)⟩ (fun x12 σ13 H locs hw hP hD hS => ?_)
        obtain ⟨o14, hw⟩ := hw
        refine z_if_eq (tgt := 92) hx hb o14 dX8_brackets_53 (by decide) (fun k15 => ?_) (fun k15 => ?_)
        · replace hw := hw.1 k15
          refine lv_aload_n hx hb dX8_brackets_92 rfl (lv_at hl 0 rfl) ?_
          refine lv_bipush (v := Int32.ofInt 43) hx hb dX8_brackets_93 (by decide) ?_
          refine z_Vi (n := 1) (As := [.int (Int32.ofInt 43)]) (rest := []) hx hb hml hg hown hK hP hD hS hA (kX8_take l D dA ad 43 σ13 _ _ hw) (zoC14) rfl q954 q153 q951 q953 q7 (by decide +kernel) ⟨(Nat.le_of_ble_eq_true rfl), (Nat.le_of_ble_eq_true rfl)⟩ rfl hl.1 rfl (Nat.le_of_ble_eq_true rfl) dX8_brackets_95 ⟨(Nat.le_of_ble_eq_true rfl), (Nat.le_of_ble_eq_true rfl)⟩ (fun x16 σ17 H locs hw hP hD hS => ?_)
          obtain ⟨o18, hw⟩ := hw
          refine z_if_eq (tgt := 109) hx hb o18 dX8_brackets_98 (by decide) (fun k19 => ?_) (fun k19 => ?_)
          · replace hw := hw.1 k19
            exact j109 σ17 _ _ _ hP hD hS (lv_sub hl [] rfl) hw
          · replace hw := hw.2 k19
            refine lv_aload_n hx hb dX8_brackets_101 rfl (lv_at hl 0 rfl) ?_
            refine lv_aload_n hx hb dX8_brackets_102 rfl (lv_at hl 1 rfl) ?_
            refine z_Vi (n := 1) (As := [.ref (ad v1 1000)]) (rest := []) hx hb hml hg hown hK hP hD hS hA (kX8_part l D dA ad v1 σ17 _ _ hw) (zoC14) rfl q1014 q153 q1011 q1013 q18 (by decide +kernel) ⟨(Nat.le_of_ble_eq_true rfl), (Nat.le_of_ble_eq_true rfl)⟩ rfl hl.1 rfl (Nat.le_of_ble_eq_true rfl) dX8_brackets_103 ⟨(Nat.le_of_ble_eq_true rfl), (Nat.le_of_ble_eq_true rfl)⟩ (fun x20 σ21 H locs hw hP hD hS => ?_)
            obtain ⟨o22, hw⟩ := hw
            refine z_if_ne (tgt := 111) hx hb o22 dX8_brackets_106 (by decide) (fun k23 => ?_) (fun k23 => ?_)
            · replace hw := hw.1 k23
              exact j111 v2 σ21 _ _ _ hP hD hS (lv_sub hl [0, 1, 2] rfl) hw
            · replace hw := hw.2 k23
              exact j109 σ21 _ _ _ hP hD hS (lv_sub hl [] rfl) hw
        · replace hw := hw.2 k15
          refine lv_aload_n hx hb dX8_brackets_56 rfl (lv_at hl 0 rfl) ?_
          refine z_Vi (n := 0) (As := []) (rest := []) hx hb hml hg hown hK hP hD hS hA (kX8_type l D dA ad σ13 _ _ hw) (zoC14) rfl q946 q153 q943 q945 q5 (by decide +kernel) ⟨(Nat.le_of_ble_eq_true rfl), (Nat.le_of_ble_eq_true rfl)⟩ rfl hl.1 rfl (Nat.le_of_ble_eq_true rfl) dX8_brackets_57 ⟨(Nat.le_of_ble_eq_true rfl), (Nat.le_of_ble_eq_true rfl)⟩ (fun x24 σ25 H locs hw hP hD hS => ?_)
          refine lv_iconst (v := Int32.ofInt 2) hx hb dX8_brackets_60 (by decide) ?_
          obtain ⟨o26, hw⟩ := hw
          refine z_icmp_eq (tgt := 66) hx hb o26 (by decide) dX8_brackets_61 (by decide) (fun k27 => ?_) (fun k27 => ?_)
          · replace hw := hw.1 k27
            refine lv_aload_n hx hb dX8_brackets_66 rfl (lv_at hl 1 rfl) ?_
            refine lv_dup hx hb dX8_brackets_67 rfl ?_
            obtain ⟨o28, hw⟩ := hw
            refine zgCO_2 hx hb hg hown o28 hK hP q315 dX8_brackets_68 ?_
            refine lv_aload_n hx hb dX8_brackets_71 rfl (lv_at hl 0 rfl) ?_
            refine z_Vi (n := 0) (As := []) (rest := [.int (Int32.ofInt (zI σ25 v1 2)), .ref (ad v1 1000)]) hx hb hml hg hown hK hP hD hS hA (kX8_value l D dA ad σ25 _ _ hw) (zoC14) rfl q966 q153 q963 q965 q9 (by decide +kernel) ⟨(Nat.le_of_ble_eq_true rfl), (Nat.le_of_ble_eq_true rfl)⟩ rfl hl.1 rfl (Nat.le_of_ble_eq_true rfl) dX8_brackets_72 ⟨(Nat.le_of_ble_eq_true rfl), (Nat.le_of_ble_eq_true rfl)⟩ (fun x29 σ30 H locs hw hP hD hS => ?_)
            refine z_isub hx hb dX8_brackets_75 ?_
            refine zpCO_2 (v := ((zI σ25 v1 2) - x29)) hx hb hg hown o28 hK hP hD hS q315 dX8_brackets_76 (fun H locs hP hD hS => ?_)
            refine lv_aload_n hx hb dX8_brackets_79 rfl (lv_at hl 0 rfl) ?_
            refine lv_dup hx hb dX8_brackets_80 rfl ?_
            refine zgC14_4 hx hb hg hown hK hP q350 dX8_brackets_81 ?_
            refine g_nrm (y := Int32.ofInt (zI σ30 14 4)) (congrArg Int32.ofInt (zI_nf (by decide))) ?_
            refine lv_iconst (v := Int32.ofInt 1) hx hb dX8_brackets_84 (by decide) ?_
            refine z_iadd hx hb dX8_brackets_85 ?_
            refine zpC14_4 (v := ((zI σ30 14 4) + 1)) hx hb hg hown hK hP hD hS q350 dX8_brackets_86 (fun H locs hP hD hS => ?_)
            refine lv_goto (tgt := 111) hx hb dX8_brackets_89 (by decide) ?_
            exact j111 v2 (zsI (zsI σ30 v1 2 ((zI σ25 v1 2) - x29)) 14 4 ((zI σ30 14 4) + 1)) _ _ _ hP hD hS (lv_sub hl [0, 1, 2] rfl) hw
          · replace hw := hw.2 k27
            refine lv_iconst (v := Int32.ofInt 0) hx hb dX8_brackets_64 (by decide) ?_
            exact hret 0 σ25 _ _ _ _ (by decide) hw hP hD hS dX8_brackets_65
  have j27 : ∀ (v1 v2 : Int) (σ : ZS), ∀ (H : Heap) (locs : List Loc) (ls : Array Slot), va_P D vwC (zC dA ad σ) H → va_D A (zC dA ad σ) → va_S A s.heap H locs → lv_has ls 3 [(0, .ref (ad 14 1000)), (1, .ref (ad v1 1000)), (2, .int (Int32.ofInt v2))] → wpX8_brackets_27 v1 v2 σ Q → W p l e (gR 2 0 0) s m #[.ref (ad 14 1000), .ref (ad g1 1000)] below meth c H locs 0 0 QQ (F0 m 27 ls []) := by
    intro v1 v2 σ H locs ls hP hD hS hl hw
    exact hw (fun v2 σ => ∀ (H : Heap) (locs : List Loc) (ls : Array Slot), va_P D vwC (zC dA ad σ) H → va_D A (zC dA ad σ) → va_S A s.heap H locs → lv_has ls 3 [(0, .ref (ad 14 1000)), (1, .ref (ad v1 1000)), (2, .int (Int32.ofInt v2))] → W p l e (gR 2 0 0) s m #[.ref (ad 14 1000), .ref (ad g1 1000)] below meth c H locs 0 0 QQ (F0 m 27 ls [])) (b27 v1 (fun v2 σ => ∀ (H : Heap) (locs : List Loc) (ls : Array Slot), va_P D vwC (zC dA ad σ) H → va_D A (zC dA ad σ) → va_S A s.heap H locs → lv_has ls 3 [(0, .ref (ad 14 1000)), (1, .ref (ad v1 1000)), (2, .int (Int32.ofInt v2))] → W p l e (gR 2 0 0) s m #[.ref (ad 14 1000), .ref (ad g1 1000)] below meth c H locs 0 0 QQ (F0 m 27 ls [])) (fun v2 σ h => h)) _ _ _ hP hD hS hl
  unfold wpX8_brackets at hw
  refine lv_aload_n hx hb dX8_brackets_0 rfl (lv_at hl 1 rfl) ?_
  refine lv_iconst (v := Int32.ofInt 2) hx hb dX8_brackets_1 (by decide) ?_
  obtain ⟨o31, hw⟩ := hw
  refine z_VvN (n := 1) (As := [.int (Int32.ofInt 2)]) (rest := []) hx hb hml hg hown hK hP hD hS hA (kX7_clear l D dA ad g1 2 σ _ _ hw) (zoCO o31) rfl q306 q154 q1006 q305 q0 (by decide +kernel) ⟨(Nat.le_of_ble_eq_true rfl), (Nat.le_of_ble_eq_true rfl)⟩ rfl hl.1 rfl (Nat.le_of_ble_eq_true rfl) dX8_brackets_2 ⟨(Nat.le_of_ble_eq_true rfl), (Nat.le_of_ble_eq_true rfl)⟩ (fun σ33 H locs hw hP hD hS => ?_)
  refine lv_aload_n hx hb dX8_brackets_5 rfl (lv_at hl 0 rfl) ?_
  refine lv_dup hx hb dX8_brackets_6 rfl ?_
  refine zgC14_4 hx hb hg hown hK hP q350 dX8_brackets_7 ?_
  refine lv_iconst (v := Int32.ofInt 1) hx hb dX8_brackets_10 (by decide) ?_
  refine z_iadd hx hb dX8_brackets_11 ?_
  refine zpC14_4 (v := ((zI σ33 14 4) + 1)) hx hb hg hown hK hP hD hS q350 dX8_brackets_12 (fun H locs hP hD hS => ?_)
  refine lv_aload_n hx hb dX8_brackets_15 rfl (lv_at hl 0 rfl) ?_
  refine lv_aload_n hx hb dX8_brackets_16 rfl (lv_at hl 1 rfl) ?_
  refine z_Vi (n := 1) (As := [.ref (ad g1 1000)]) (rest := []) hx hb hml hg hown hK hP hD hS hA (kX8_part l D dA ad g1 (zsI σ33 14 4 ((zI σ33 14 4) + 1)) _ _ hw) (zoC14) rfl q1014 q153 q1011 q1013 q18 (by decide +kernel) ⟨(Nat.le_of_ble_eq_true rfl), (Nat.le_of_ble_eq_true rfl)⟩ rfl hl.1 rfl (Nat.le_of_ble_eq_true rfl) dX8_brackets_17 ⟨(Nat.le_of_ble_eq_true rfl), (Nat.le_of_ble_eq_true rfl)⟩ (fun x34 σ35 H locs hw hP hD hS => ?_)
  obtain ⟨o36, hw⟩ := hw
  refine z_if_ne (tgt := 25) hx hb o36 dX8_brackets_20 (by decide) (fun k37 => ?_) (fun k37 => ?_)
  · replace hw := hw.1 k37
    refine lv_iconst (v := Int32.ofInt 0) hx hb dX8_brackets_25 (by decide) ?_
    refine lv_istore_n (lv' := [(2, .int (Int32.ofInt 0)), (0, .ref (ad 14 1000)), (1, .ref (ad g1 1000))]) hx hb dX8_brackets_26 rfl hl (by decide) rfl (fun ls hl => ?_)
    exact j27 g1 0 σ35 _ _ _ hP hD hS (lv_sub hl [1, 2, 0] rfl) hw
  · replace hw := hw.2 k37
    refine lv_iconst (v := Int32.ofInt 0) hx hb dX8_brackets_23 (by decide) ?_
    exact hret 0 σ35 _ _ _ _ (by decide) hw hP hD hS dX8_brackets_24
def wpX8_plainValue (g1 : Int) (σ : ZS) (Q : Int → ZS → Prop) : Prop := (5 ≤ g1 ∧ g1 ≤ 6) ∧ wpX7_clear g1 4 σ (fun (σ3 : ZS) => wpX8_type σ3 (fun (x4 : Int) (σ5 : ZS) => (-2147483648 ≤ x4 ∧ x4 ≤ 2147483647) ∧ (¬ x4 = 2 → wpX8_take 64 σ5 (fun (x8 : Int) (σ9 : ZS) => (0 ≤ x8 ∧ x8 ≤ 1) ∧ wpX8_value (zsI σ9 g1 5 x8) (fun (x11 : Int) (σ12 : ZS) => (0 ≤ (zI σ12 14 4) ∧ (zI σ12 14 4) < 481) ∧ wpX8_take 3 (zsI (zsI σ12 g1 3 x11) g1 4 (zA σ12 12 2 (zI σ12 14 4))) (fun (x14 : Int) (σ15 : ZS) => (0 ≤ x14 ∧ x14 ≤ 1) ∧ Q x14 σ15)))) ∧ (x4 = 2 → wpX8_value σ5 (fun (x17 : Int) (σ18 : ZS) => Q 1 (zsI (zsI σ18 g1 2 x17) 14 4 ((zI σ18 14 4) + 1))))))
set_option maxHeartbeats 4000000 in
set_option maxRecDepth 100000 in
theorem kX8_plainValue (l : Launch) (D : va_G) (dA : Nat → ClassId) (ad : Int → Nat → Nat) (g1 : Int) (σ : ZS) (Q : Int → ZS → Prop) (sz : Nat) (hw : wpX8_plainValue g1 σ Q) : Met l yX8_plainValue (gws yX8_plainValue cX8_plainValue 2 (some .boolean)) (gR 2 0 0) (gPre D dA [.ref (ad 14 1000), .ref (ad g1 1000)] (zC dA ad σ) sz) (va_Qi (zQi Q) (gAt D dA (va_A (zC dA ad σ) sz) (zC dA ad)) (va_A (zC dA ad σ) sz)) 0 0 (va_A (zC dA ad σ) sz) := by
  refine Met.ofW (cc := cX8_plainValue) (maxL := 2) (ret := (some .boolean)) (by decide) rfl ?_
  intro p e s m args below meth c s₁ B hml hv
  obtain ⟨rfl, hsz, hP, hK, hD0⟩ := hv
  have hx := B.exec
  have hb := B.bytes
  have hr := B.returns
  have hts := atoms_spec (ws := gws yX8_plainValue cX8_plainValue 2 (some .boolean)) B.pre
  have hg : ∀ w ∈ gw, w.before _ s = true := fun w h => hts w (List.mem_cons_of_mem _ h)
  have hown : s.vm.findClass RX8 = some m.cls := findClass_of_methodNamed B.named
  have hlocks := B.notSynchronized
  subst hsz
  have hD := hD0.self (sz := s.heap.size)
  generalize hAe : va_A (zC dA ad σ) s.heap.size = A at hD ⊢
  have hA : ∀ q : Nat, s.heap.size ≤ q → A q := fun q h => by rw [← hAe]; exact Or.inr h
  have hS : va_S A s.heap s.heap [] := va_S.rf
  have hl := lv_entry ([.ref (ad 14 1000), .ref (ad g1 1000)]) (n := 2) (Nat.le_of_ble_eq_true rfl)
  rw [lg_entry_eq]
  generalize (lg_sl ([.ref (ad 14 1000), .ref (ad g1 1000)]) ++ List.replicate (2 - (lg_sl ([.ref (ad 14 1000), .ref (ad g1 1000)])).length) Slot.unset).toArray = ls at hl ⊢
  have hl : lv_has ls 2 [(0, .ref (ad 14 1000)), (1, .ref (ad g1 1000))] := hl
  have hret : ∀ (v : Int) (σ : ZS) (H : Heap) (locs : List Loc) (ls : Array Slot) (pc : Nat), (0 ≤ v ∧ v ≤ 1) → Q v σ → va_P D vwC (zC dA ad σ) H → va_D A (zC dA ad σ) → va_S A s.heap H locs → decode cX8_plainValue pc = .ok (.ireturn, 1) → W p l e (gR 2 0 0) s m #[.ref (ad 14 1000), .ref (ad g1 1000)] below meth c H locs 0 0 (MQ below (va_Qi (zQi Q) (gAt D dA A (zC dA ad)) A) #[.ref (ad 14 1000), .ref (ad g1 1000)] s 0 0 A) (F0 m pc ls [.int (Int32.ofInt v)]) := fun v σ H locs ls pc hv hw hP hD hS hd => g_iret hx hb hr (z_nb hv) hlocks hK σ hP hD hS ⟨v, rfl, hw⟩ (Nat.le_of_ble_eq_true rfl) (Nat.le_of_ble_eq_true rfl) hd
  generalize MQ below (va_Qi (zQi Q) (gAt D dA A (zC dA ad)) A) #[.ref (ad 14 1000), .ref (ad g1 1000)] s 0 0 A = QQ at hret ⊢
  unfold wpX8_plainValue at hw
  refine lv_aload_n hx hb dX8_plainValue_0 rfl (lv_at hl 1 rfl) ?_
  refine lv_iconst (v := Int32.ofInt 4) hx hb dX8_plainValue_1 (by decide) ?_
  obtain ⟨o1, hw⟩ := hw
  refine z_VvN (n := 1) (As := [.int (Int32.ofInt 4)]) (rest := []) hx hb hml hg hown hK hP hD hS hA (kX7_clear l D dA ad g1 4 σ _ _ hw) (zoCO o1) rfl q306 q154 q1006 q305 q0 (by decide +kernel) ⟨(Nat.le_of_ble_eq_true rfl), (Nat.le_of_ble_eq_true rfl)⟩ rfl hl.1 rfl (Nat.le_of_ble_eq_true rfl) dX8_plainValue_2 ⟨(Nat.le_of_ble_eq_true rfl), (Nat.le_of_ble_eq_true rfl)⟩ (fun σ3 H locs hw hP hD hS => ?_)
  refine lv_aload_n hx hb dX8_plainValue_5 rfl (lv_at hl 0 rfl) ?_
  refine z_Vi (n := 0) (As := []) (rest := []) hx hb hml hg hown hK hP hD hS hA (kX8_type l D dA ad σ3 _ _ hw) (zoC14) rfl q946 q153 q943 q945 q5 (by decide +kernel) ⟨(Nat.le_of_ble_eq_true rfl), (Nat.le_of_ble_eq_true rfl)⟩ rfl hl.1 rfl (Nat.le_of_ble_eq_true rfl) dX8_plainValue_6 ⟨(Nat.le_of_ble_eq_true rfl), (Nat.le_of_ble_eq_true rfl)⟩ (fun x4 σ5 H locs hw hP hD hS => ?_)
  refine lv_iconst (v := Int32.ofInt 2) hx hb dX8_plainValue_9 (by decide) ?_
  obtain ⟨o6, hw⟩ := hw
  refine z_icmp_ne (tgt := 33) hx hb o6 (by decide) dX8_plainValue_10 (by decide) (fun k7 => ?_) (fun k7 => ?_)
  · replace hw := hw.1 k7
    refine lv_aload_n hx hb dX8_plainValue_33 rfl (lv_at hl 1 rfl) ?_
    refine lv_aload_n hx hb dX8_plainValue_34 rfl (lv_at hl 0 rfl) ?_
    refine lv_bipush (v := Int32.ofInt 64) hx hb dX8_plainValue_35 (by decide) ?_
    refine z_Vi (n := 1) (As := [.int (Int32.ofInt 64)]) (rest := [.ref (ad g1 1000)]) hx hb hml hg hown hK hP hD hS hA (kX8_take l D dA ad 64 σ5 _ _ hw) (zoC14) rfl q954 q153 q951 q953 q7 (by decide +kernel) ⟨(Nat.le_of_ble_eq_true rfl), (Nat.le_of_ble_eq_true rfl)⟩ rfl hl.1 rfl (Nat.le_of_ble_eq_true rfl) dX8_plainValue_37 ⟨(Nat.le_of_ble_eq_true rfl), (Nat.le_of_ble_eq_true rfl)⟩ (fun x8 σ9 H locs hw hP hD hS => ?_)
    obtain ⟨o10, hw⟩ := hw
    refine zpCO_5 (v := x8) hx hb hg hown o1 o10 hK hP hD hS q324 dX8_plainValue_40 (fun H locs hP hD hS => ?_)
    refine lv_aload_n hx hb dX8_plainValue_43 rfl (lv_at hl 1 rfl) ?_
    refine lv_aload_n hx hb dX8_plainValue_44 rfl (lv_at hl 0 rfl) ?_
    refine z_Vi (n := 0) (As := []) (rest := [.ref (ad g1 1000)]) hx hb hml hg hown hK hP hD hS hA (kX8_value l D dA ad (zsI σ9 g1 5 x8) _ _ hw) (zoC14) rfl q966 q153 q963 q965 q9 (by decide +kernel) ⟨(Nat.le_of_ble_eq_true rfl), (Nat.le_of_ble_eq_true rfl)⟩ rfl hl.1 rfl (Nat.le_of_ble_eq_true rfl) dX8_plainValue_45 ⟨(Nat.le_of_ble_eq_true rfl), (Nat.le_of_ble_eq_true rfl)⟩ (fun x11 σ12 H locs hw hP hD hS => ?_)
    refine zpCO_3 (v := x11) hx hb hg hown o1 hK hP hD hS q318 dX8_plainValue_48 (fun H locs hP hD hS => ?_)
    refine lv_aload_n hx hb dX8_plainValue_51 rfl (lv_at hl 1 rfl) ?_
    refine lv_aload_n hx hb dX8_plainValue_52 rfl (lv_at hl 0 rfl) ?_
    refine zgC14_0 hx hb hg hown hK hP q346 dX8_plainValue_53 ?_
    refine zgC12_2 hx hb hg hown hK hP q236 dX8_plainValue_56 ?_
    refine lv_aload_n hx hb dX8_plainValue_59 rfl (lv_at hl 0 rfl) ?_
    refine zgC14_4 hx hb hg hown hK hP q350 dX8_plainValue_60 ?_
    refine g_nrm (y := Int32.ofInt (zI σ12 14 4)) (congrArg Int32.ofInt (zI_nf (by decide))) ?_
    obtain ⟨o13, hw⟩ := hw
    refine zlC12_2 hx hb o13 hK hP dX8_plainValue_63 ?_
    refine g_nrm (y := Int32.ofInt (zA σ12 12 2 (zI σ12 14 4))) (congrArg Int32.ofInt (congrFun (zA_I) _)) ?_
    refine zpCO_4 (v := (zA σ12 12 2 (zI σ12 14 4))) hx hb hg hown o1 hK hP hD hS q321 dX8_plainValue_64 (fun H locs hP hD hS => ?_)
    refine lv_aload_n hx hb dX8_plainValue_67 rfl (lv_at hl 0 rfl) ?_
    refine lv_iconst (v := Int32.ofInt 3) hx hb dX8_plainValue_68 (by decide) ?_
    refine z_Vi (n := 1) (As := [.int (Int32.ofInt 3)]) (rest := []) hx hb hml hg hown hK hP hD hS hA (kX8_take l D dA ad 3 (zsI (zsI σ12 g1 3 x11) g1 4 (zA σ12 12 2 (zI σ12 14 4))) _ _ hw) (zoC14) rfl q954 q153 q951 q953 q7 (by decide +kernel) ⟨(Nat.le_of_ble_eq_true rfl), (Nat.le_of_ble_eq_true rfl)⟩ rfl hl.1 rfl (Nat.le_of_ble_eq_true rfl) dX8_plainValue_69 ⟨(Nat.le_of_ble_eq_true rfl), (Nat.le_of_ble_eq_true rfl)⟩ (fun x14 σ15 H locs hw hP hD hS => ?_)
    obtain ⟨o16, hw⟩ := hw
    exact hret x14 σ15 _ _ _ _ o16 hw hP hD hS dX8_plainValue_72
  · replace hw := hw.2 k7
    refine lv_aload_n hx hb dX8_plainValue_13 rfl (lv_at hl 1 rfl) ?_
    refine lv_aload_n hx hb dX8_plainValue_14 rfl (lv_at hl 0 rfl) ?_
    refine z_Vi (n := 0) (As := []) (rest := [.ref (ad g1 1000)]) hx hb hml hg hown hK hP hD hS hA (kX8_value l D dA ad σ5 _ _ hw) (zoC14) rfl q966 q153 q963 q965 q9 (by decide +kernel) ⟨(Nat.le_of_ble_eq_true rfl), (Nat.le_of_ble_eq_true rfl)⟩ rfl hl.1 rfl (Nat.le_of_ble_eq_true rfl) dX8_plainValue_15 ⟨(Nat.le_of_ble_eq_true rfl), (Nat.le_of_ble_eq_true rfl)⟩ (fun x17 σ18 H locs hw hP hD hS => ?_)
    refine zpCO_2 (v := x17) hx hb hg hown o1 hK hP hD hS q315 dX8_plainValue_18 (fun H locs hP hD hS => ?_)
    refine lv_aload_n hx hb dX8_plainValue_21 rfl (lv_at hl 0 rfl) ?_
    refine lv_dup hx hb dX8_plainValue_22 rfl ?_
    refine zgC14_4 hx hb hg hown hK hP q350 dX8_plainValue_23 ?_
    refine g_nrm (y := Int32.ofInt (zI σ18 14 4)) (congrArg Int32.ofInt (zI_nf (by decide))) ?_
    refine lv_iconst (v := Int32.ofInt 1) hx hb dX8_plainValue_26 (by decide) ?_
    refine z_iadd hx hb dX8_plainValue_27 ?_
    refine zpC14_4 (v := ((zI σ18 14 4) + 1)) hx hb hg hown hK hP hD hS q350 dX8_plainValue_28 (fun H locs hP hD hS => ?_)
    refine lv_iconst (v := Int32.ofInt 1) hx hb dX8_plainValue_31 (by decide) ?_
    exact hret 1 (zsI (zsI σ18 g1 2 x17) 14 4 ((zI σ18 14 4) + 1)) _ _ _ _ (by decide) hw hP hD hS dX8_plainValue_32
def wpX8_operand_162 (s0 : Int) (σ : ZS) (Q : Int → ZS → Prop) : Prop := (0 ≤ s0 ∧ s0 ≤ 1) ∧ Q s0 σ
def wpX8_operand_161 (σ : ZS) (Q : Int → ZS → Prop) : Prop := wpX8_operand_162 0 σ Q
def wpX8_operand_143 (v1 v2 : Int) (σ : ZS) (Q : Int → ZS → Prop) : Prop := (-2147483648 ≤ (zand v2 4) ∧ (zand v2 4) ≤ 2147483647) ∧ ((zand v2 4) = 0 → wpX8_operand_161 σ Q) ∧ (¬ (zand v2 4) = 0 → wpX8_plainValue v1 σ (fun (x4 : Int) (σ5 : ZS) => (-2147483648 ≤ x4 ∧ x4 ≤ 2147483647) ∧ (x4 = 0 → wpX8_operand_161 σ5 Q) ∧ (¬ x4 = 0 → wpX8_operand_162 1 σ5 Q)))
def wpX8_operand_142 (s0 : Int) (σ : ZS) (Q : Int → ZS → Prop) : Prop := (0 ≤ s0 ∧ s0 ≤ 1) ∧ Q s0 σ
def wpX8_operand_141 (σ : ZS) (Q : Int → ZS → Prop) : Prop := wpX8_operand_142 0 σ Q
def wpX8_operand_122 (s0 : Int) (σ : ZS) (Q : Int → ZS → Prop) : Prop := (0 ≤ s0 ∧ s0 ≤ 1) ∧ Q s0 σ
def wpX8_operand_121 (σ : ZS) (Q : Int → ZS → Prop) : Prop := wpX8_operand_122 0 σ Q
def wpX8_operand_100 (v1 v2 s0 : Int) (σ : ZS) (Q : Int → ZS → Prop) : Prop := (-2147483648 ≤ (zand v2 s0) ∧ (zand v2 s0) ≤ 2147483647) ∧ ((zand v2 s0) = 0 → wpX8_operand_121 σ Q) ∧ (¬ (zand v2 s0) = 0 → wpX8_coded v1 8 σ (fun (x12 : Int) (σ13 : ZS) => (-2147483648 ≤ x12 ∧ x12 ≤ 2147483647) ∧ (x12 = 0 → wpX8_operand_121 σ13 Q) ∧ (¬ x12 = 0 → wpX8_operand_122 1 σ13 Q)))
def wpX8_operand_84 (s0 : Int) (σ : ZS) (Q : Int → ZS → Prop) : Prop := (0 ≤ s0 ∧ s0 ≤ 1) ∧ Q s0 σ
def wpX8_operand_83 (σ : ZS) (Q : Int → ZS → Prop) : Prop := wpX8_operand_84 0 σ Q
def wpX8_operand (g1 a2 : Int) (σ : ZS) (Q : Int → ZS → Prop) : Prop := wpX8_type σ (fun (x17 : Int) (σ18 : ZS) => (-2147483648 ≤ x17 ∧ x17 ≤ 2147483647) ∧ (x17 = 2 → wpX8_operand_143 g1 a2 σ18 Q) ∧ (¬ x17 = 2 → (x17 = 3 → wpX8_operand_143 g1 a2 σ18 Q) ∧ (¬ x17 = 3 → (x17 = 4 → ((a2 % 2) = 0 → wpX8_operand_83 σ18 Q) ∧ (¬ (a2 % 2) = 0 → wpX8_coded g1 1 σ18 (fun (x25 : Int) (σ26 : ZS) => (-2147483648 ≤ x25 ∧ x25 ≤ 2147483647) ∧ (x25 = 0 → wpX8_operand_83 σ26 Q) ∧ (¬ x25 = 0 → wpX8_operand_84 1 σ26 Q)))) ∧ (¬ x17 = 4 → (x17 = 5 → wpX8_value σ18 (fun (x30 : Int) (σ31 : ZS) => (-2147483648 ≤ x30 ∧ x30 ≤ 2147483647) ∧ (¬ x30 = 1 → wpX8_operand_100 g1 a2 8 σ31 Q) ∧ (x30 = 1 → wpX8_operand_100 g1 a2 16 σ31 Q))) ∧ (¬ x17 = 5 → (x17 = 64 → wpX8_operand_143 g1 a2 σ18 Q) ∧ (¬ x17 = 64 → (x17 = 91 → (-2147483648 ≤ (zand a2 2) ∧ (zand a2 2) ≤ 2147483647) ∧ ((zand a2 2) = 0 → wpX8_operand_141 σ18 Q) ∧ (¬ (zand a2 2) = 0 → wpX8_brackets g1 σ18 (fun (x38 : Int) (σ39 : ZS) => (-2147483648 ≤ x38 ∧ x38 ≤ 2147483647) ∧ (x38 = 0 → wpX8_operand_141 σ39 Q) ∧ (¬ x38 = 0 → wpX8_operand_142 1 σ39 Q)))) ∧ (¬ x17 = 91 → Q 0 σ18)))))))
set_option maxHeartbeats 4000000 in
set_option maxRecDepth 100000 in
theorem kX8_operand (l : Launch) (D : va_G) (dA : Nat → ClassId) (ad : Int → Nat → Nat) (g1 a2 : Int) (σ : ZS) (Q : Int → ZS → Prop) (sz : Nat) (hw : wpX8_operand g1 a2 σ Q) : Met l yX8_operand (gws yX8_operand cX8_operand 4 (some .boolean)) (gR 3 0 0) (gPre D dA [.ref (ad 14 1000), .ref (ad g1 1000), .int (Int32.ofInt a2)] (zC dA ad σ) sz) (va_Qi (zQi Q) (gAt D dA (va_A (zC dA ad σ) sz) (zC dA ad)) (va_A (zC dA ad σ) sz)) 0 0 (va_A (zC dA ad σ) sz) := by
  refine Met.ofW (cc := cX8_operand) (maxL := 4) (ret := (some .boolean)) (by decide) rfl ?_
  intro p e s m args below meth c s₁ B hml hv
  obtain ⟨rfl, hsz, hP, hK, hD0⟩ := hv
  have hx := B.exec
  have hb := B.bytes
  have hr := B.returns
  have hts := atoms_spec (ws := gws yX8_operand cX8_operand 4 (some .boolean)) B.pre
  have hg : ∀ w ∈ gw, w.before _ s = true := fun w h => hts w (List.mem_cons_of_mem _ h)
  have hown : s.vm.findClass RX8 = some m.cls := findClass_of_methodNamed B.named
  have hlocks := B.notSynchronized
  subst hsz
  have hD := hD0.self (sz := s.heap.size)
  generalize hAe : va_A (zC dA ad σ) s.heap.size = A at hD ⊢
  have hA : ∀ q : Nat, s.heap.size ≤ q → A q := fun q h => by rw [← hAe]; exact Or.inr h
  have hS : va_S A s.heap s.heap [] := va_S.rf
  have hl := lv_entry ([.ref (ad 14 1000), .ref (ad g1 1000), .int (Int32.ofInt a2)]) (n := 4) (Nat.le_of_ble_eq_true rfl)
  rw [lg_entry_eq]
  generalize (lg_sl ([.ref (ad 14 1000), .ref (ad g1 1000), .int (Int32.ofInt a2)]) ++ List.replicate (4 - (lg_sl ([.ref (ad 14 1000), .ref (ad g1 1000), .int (Int32.ofInt a2)])).length) Slot.unset).toArray = ls at hl ⊢
  have hl : lv_has ls 4 [(0, .ref (ad 14 1000)), (1, .ref (ad g1 1000)), (2, .int (Int32.ofInt a2))] := hl
  have hret : ∀ (v : Int) (σ : ZS) (H : Heap) (locs : List Loc) (ls : Array Slot) (pc : Nat), (0 ≤ v ∧ v ≤ 1) → Q v σ → va_P D vwC (zC dA ad σ) H → va_D A (zC dA ad σ) → va_S A s.heap H locs → decode cX8_operand pc = .ok (.ireturn, 1) → W p l e (gR 3 0 0) s m #[.ref (ad 14 1000), .ref (ad g1 1000), .int (Int32.ofInt a2)] below meth c H locs 0 0 (MQ below (va_Qi (zQi Q) (gAt D dA A (zC dA ad)) A) #[.ref (ad 14 1000), .ref (ad g1 1000), .int (Int32.ofInt a2)] s 0 0 A) (F0 m pc ls [.int (Int32.ofInt v)]) := fun v σ H locs ls pc hv hw hP hD hS hd => g_iret hx hb hr (z_nb hv) hlocks hK σ hP hD hS ⟨v, rfl, hw⟩ (Nat.le_of_ble_eq_true rfl) (Nat.le_of_ble_eq_true rfl) hd
  generalize MQ below (va_Qi (zQi Q) (gAt D dA A (zC dA ad)) A) #[.ref (ad 14 1000), .ref (ad g1 1000), .int (Int32.ofInt a2)] s 0 0 A = QQ at hret ⊢
  have j162 : ∀ (s0 : Int) (σ : ZS), ∀ (H : Heap) (locs : List Loc) (ls : Array Slot), va_P D vwC (zC dA ad σ) H → va_D A (zC dA ad σ) → va_S A s.heap H locs → lv_has ls 4 [] → wpX8_operand_162 s0 σ Q → W p l e (gR 3 0 0) s m #[.ref (ad 14 1000), .ref (ad g1 1000), .int (Int32.ofInt a2)] below meth c H locs 0 0 QQ (F0 m 162 ls [.int (Int32.ofInt s0)]) := by
    intro s0 σ H locs ls hP hD hS hl hw
    unfold wpX8_operand_162 at hw
    obtain ⟨o1, hw⟩ := hw
    exact hret s0 σ _ _ _ _ o1 hw hP hD hS dX8_operand_162
  have j161 : ∀ (σ : ZS), ∀ (H : Heap) (locs : List Loc) (ls : Array Slot), va_P D vwC (zC dA ad σ) H → va_D A (zC dA ad σ) → va_S A s.heap H locs → lv_has ls 4 [] → wpX8_operand_161 σ Q → W p l e (gR 3 0 0) s m #[.ref (ad 14 1000), .ref (ad g1 1000), .int (Int32.ofInt a2)] below meth c H locs 0 0 QQ (F0 m 161 ls []) := by
    intro σ H locs ls hP hD hS hl hw
    unfold wpX8_operand_161 at hw
    refine lv_iconst (v := Int32.ofInt 0) hx hb dX8_operand_161 (by decide) ?_
    exact j162 0 σ _ _ _ hP hD hS (lv_sub hl [] rfl) hw
  have j143 : ∀ (v1 v2 : Int) (σ : ZS), ∀ (H : Heap) (locs : List Loc) (ls : Array Slot), va_P D vwC (zC dA ad σ) H → va_D A (zC dA ad σ) → va_S A s.heap H locs → lv_has ls 4 [(0, .ref (ad 14 1000)), (1, .ref (ad v1 1000)), (2, .int (Int32.ofInt v2))] → wpX8_operand_143 v1 v2 σ Q → W p l e (gR 3 0 0) s m #[.ref (ad 14 1000), .ref (ad g1 1000), .int (Int32.ofInt a2)] below meth c H locs 0 0 QQ (F0 m 143 ls []) := by
    intro v1 v2 σ H locs ls hP hD hS hl hw
    unfold wpX8_operand_143 at hw
    refine lv_iload_n hx hb dX8_operand_143 rfl (lv_at hl 2 rfl) ?_
    refine lv_iconst (v := Int32.ofInt 4) hx hb dX8_operand_144 (by decide) ?_
    refine z_iand hx hb dX8_operand_145 ?_
    obtain ⟨o2, hw⟩ := hw
    refine z_if_eq (tgt := 161) hx hb o2 dX8_operand_146 (by decide) (fun k3 => ?_) (fun k3 => ?_)
    · replace hw := hw.1 k3
      exact j161 σ _ _ _ hP hD hS (lv_sub hl [] rfl) hw
    · replace hw := hw.2 k3
      refine lv_aload_n hx hb dX8_operand_149 rfl (lv_at hl 0 rfl) ?_
      refine lv_aload_n hx hb dX8_operand_150 rfl (lv_at hl 1 rfl) ?_
      refine z_Vi (n := 1) (As := [.ref (ad v1 1000)]) (rest := []) hx hb hml hg hown hK hP hD hS hA (kX8_plainValue l D dA ad v1 σ _ _ hw) (zoC14) rfl q1019 q153 q1016 q1018 q19 (by decide +kernel) ⟨(Nat.le_of_ble_eq_true rfl), (Nat.le_of_ble_eq_true rfl)⟩ rfl hl.1 rfl (Nat.le_of_ble_eq_true rfl) dX8_operand_151 ⟨(Nat.le_of_ble_eq_true rfl), (Nat.le_of_ble_eq_true rfl)⟩ (fun x4 σ5 H locs hw hP hD hS => ?_)
      obtain ⟨o6, hw⟩ := hw
      refine z_if_eq (tgt := 161) hx hb o6 dX8_operand_154 (by decide) (fun k7 => ?_) (fun k7 => ?_)
      · replace hw := hw.1 k7
        exact j161 σ5 _ _ _ hP hD hS (lv_sub hl [] rfl) hw
      · replace hw := hw.2 k7
        refine lv_iconst (v := Int32.ofInt 1) hx hb dX8_operand_157 (by decide) ?_
        refine lv_goto (tgt := 162) hx hb dX8_operand_158 (by decide) ?_
        exact j162 1 σ5 _ _ _ hP hD hS (lv_sub hl [] rfl) hw
  have j142 : ∀ (s0 : Int) (σ : ZS), ∀ (H : Heap) (locs : List Loc) (ls : Array Slot), va_P D vwC (zC dA ad σ) H → va_D A (zC dA ad σ) → va_S A s.heap H locs → lv_has ls 4 [] → wpX8_operand_142 s0 σ Q → W p l e (gR 3 0 0) s m #[.ref (ad 14 1000), .ref (ad g1 1000), .int (Int32.ofInt a2)] below meth c H locs 0 0 QQ (F0 m 142 ls [.int (Int32.ofInt s0)]) := by
    intro s0 σ H locs ls hP hD hS hl hw
    unfold wpX8_operand_142 at hw
    obtain ⟨o8, hw⟩ := hw
    exact hret s0 σ _ _ _ _ o8 hw hP hD hS dX8_operand_142
  have j141 : ∀ (σ : ZS), ∀ (H : Heap) (locs : List Loc) (ls : Array Slot), va_P D vwC (zC dA ad σ) H → va_D A (zC dA ad σ) → va_S A s.heap H locs → lv_has ls 4 [] → wpX8_operand_141 σ Q → W p l e (gR 3 0 0) s m #[.ref (ad 14 1000), .ref (ad g1 1000), .int (Int32.ofInt a2)] below meth c H locs 0 0 QQ (F0 m 141 ls []) := by
    intro σ H locs ls hP hD hS hl hw
    unfold wpX8_operand_141 at hw
    refine lv_iconst (v := Int32.ofInt 0) hx hb dX8_operand_141 (by decide) ?_
    exact j142 0 σ _ _ _ hP hD hS (lv_sub hl [] rfl) hw
  have j122 : ∀ (s0 : Int) (σ : ZS), ∀ (H : Heap) (locs : List Loc) (ls : Array Slot), va_P D vwC (zC dA ad σ) H → va_D A (zC dA ad σ) → va_S A s.heap H locs → lv_has ls 4 [] → wpX8_operand_122 s0 σ Q → W p l e (gR 3 0 0) s m #[.ref (ad 14 1000), .ref (ad g1 1000), .int (Int32.ofInt a2)] below meth c H locs 0 0 QQ (F0 m 122 ls [.int (Int32.ofInt s0)]) := by
    intro s0 σ H locs ls hP hD hS hl hw
    unfold wpX8_operand_122 at hw
    obtain ⟨o9, hw⟩ := hw
    exact hret s0 σ _ _ _ _ o9 hw hP hD hS dX8_operand_122
  have j121 : ∀ (σ : ZS), ∀ (H : Heap) (locs : List Loc) (ls : Array Slot), va_P D vwC (zC dA ad σ) H → va_D A (zC dA ad σ) → va_S A s.heap H locs → lv_has ls 4 [] → wpX8_operand_121 σ Q → W p l e (gR 3 0 0) s m #[.ref (ad 14 1000), .ref (ad g1 1000), .int (Int32.ofInt a2)] below meth c H locs 0 0 QQ (F0 m 121 ls []) := by
    intro σ H locs ls hP hD hS hl hw
    unfold wpX8_operand_121 at hw
    refine lv_iconst (v := Int32.ofInt 0) hx hb dX8_operand_121 (by decide) ?_
    exact j122 0 σ _ _ _ hP hD hS (lv_sub hl [] rfl) hw
  have j100 : ∀ (v1 v2 s0 : Int) (σ : ZS), ∀ (H : Heap) (locs : List Loc) (ls : Array Slot), va_P D vwC (zC dA ad σ) H → va_D A (zC dA ad σ) → va_S A s.heap H locs → lv_has ls 4 [(0, .ref (ad 14 1000)), (1, .ref (ad v1 1000)), (2, .int (Int32.ofInt v2))] → wpX8_operand_100 v1 v2 s0 σ Q → W p l e (gR 3 0 0) s m #[.ref (ad 14 1000), .ref (ad g1 1000), .int (Int32.ofInt a2)] below meth c H locs 0 0 QQ (F0 m 100 ls [.int (Int32.ofInt s0)]) := by
    intro v1 v2 s0 σ H locs ls hP hD hS hl hw
    unfold wpX8_operand_100 at hw
    refine lv_istore_n (lv' := [(3, .int (Int32.ofInt s0)), (0, .ref (ad 14 1000)), (1, .ref (ad v1 1000)), (2, .int (Int32.ofInt v2))]) hx hb dX8_operand_100 rfl hl (by decide) rfl (fun ls hl => ?_)
    refine lv_iload_n hx hb dX8_operand_101 rfl (lv_at hl 3 rfl) ?_
    refine lv_iload_n hx hb dX8_operand_102 rfl (lv_at hl 0 rfl) ?_
    refine z_iand hx hb dX8_operand_103 ?_
    obtain ⟨o10, hw⟩ := hw
    refine z_if_eq (tgt := 121) hx hb o10 dX8_operand_104 (by decide) (fun k11 => ?_) (fun k11 => ?_)
    · replace hw := hw.1 k11
      exact j121 σ _ _ _ hP hD hS (lv_sub hl [] rfl) hw
    · replace hw := hw.2 k11
      refine lv_aload_n hx hb dX8_operand_107 rfl (lv_at hl 1 rfl) ?_
      refine lv_aload_n hx hb dX8_operand_108 rfl (lv_at hl 2 rfl) ?_
      refine lv_bipush (v := Int32.ofInt 8) hx hb dX8_operand_109 (by decide) ?_
      refine z_Vi (n := 2) (As := [.ref (ad v1 1000), .int (Int32.ofInt 8)]) (rest := []) hx hb hml hg hown hK hP hD hS hA (kX8_coded l D dA ad v1 8 σ _ _ hw) (zoC14) rfl q1005 q153 q1002 q1004 q16 (by decide +kernel) ⟨(Nat.le_of_ble_eq_true rfl), (Nat.le_of_ble_eq_true rfl)⟩ rfl hl.1 rfl (Nat.le_of_ble_eq_true rfl) dX8_operand_111 ⟨(Nat.le_of_ble_eq_true rfl), (Nat.le_of_ble_eq_true rfl)⟩ (fun x12 σ13 H locs hw hP hD hS => ?_)
      obtain ⟨o14, hw⟩ := hw
      refine z_if_eq (tgt := 121) hx hb o14 dX8_operand_114 (by decide) (fun k15 => ?_) (fun k15 => ?_)
      · replace hw := hw.1 k15
        exact j121 σ13 _ _ _ hP hD hS (lv_sub hl [] rfl) hw
      · replace hw := hw.2 k15
        refine lv_iconst (v := Int32.ofInt 1) hx hb dX8_operand_117 (by decide) ?_
        refine lv_goto (tgt := 122) hx hb dX8_operand_118 (by decide) ?_
        exact j122 1 σ13 _ _ _ hP hD hS (lv_sub hl [] rfl) hw
  have j84 : ∀ (s0 : Int) (σ : ZS), ∀ (H : Heap) (locs : List Loc) (ls : Array Slot), va_P D vwC (zC dA ad σ) H → va_D A (zC dA ad σ) → va_S A s.heap H locs → lv_has ls 4 [] → wpX8_operand_84 s0 σ Q → W p l e (gR 3 0 0) s m #[.ref (ad 14 1000), .ref (ad g1 1000), .int (Int32.ofInt a2)] below meth c H locs 0 0 QQ (F0 m 84 ls [.int (Int32.ofInt s0)]) := by
    intro s0 σ H locs ls hP hD hS hl hw
    unfold wpX8_operand_84 at hw
    obtain ⟨o16, hw⟩ := hw
    exact hret s0 σ _ _ _ _ o16 hw hP hD hS dX8_operand_84
  have j83 : ∀ (σ : ZS), ∀ (H : Heap) (locs : List Loc) (ls : Array Slot), va_P D vwC (zC dA ad σ) H → va_D A (zC dA ad σ) → va_S A s.heap H locs → lv_has ls 4 [] → wpX8_operand_83 σ Q → W p l e (gR 3 0 0) s m #[.ref (ad 14 1000), .ref (ad g1 1000), .int (Int32.ofInt a2)] below meth c H locs 0 0 QQ (F0 m 83 ls []) := by
    intro σ H locs ls hP hD hS hl hw
    unfold wpX8_operand_83 at hw
    refine lv_iconst (v := Int32.ofInt 0) hx hb dX8_operand_83 (by decide) ?_
    exact j84 0 σ _ _ _ hP hD hS (lv_sub hl [] rfl) hw
  unfold wpX8_operand at hw
  refine lv_aload_n hx hb dX8_operand_0 rfl (lv_at hl 0 rfl) ?_
  refine z_Vi (n := 0) (As := []) (rest := []) hx hb hml hg hown hK hP hD hS hA (kX8_type l D dA ad σ _ _ hw) (zoC14) rfl q946 q153 q943 q945 q5 (by decide +kernel) ⟨(Nat.le_of_ble_eq_true rfl), (Nat.le_of_ble_eq_true rfl)⟩ rfl hl.1 rfl (Nat.le_of_ble_eq_true rfl) dX8_operand_1 ⟨(Nat.le_of_ble_eq_true rfl), (Nat.le_of_ble_eq_true rfl)⟩ (fun x17 σ18 H locs hw hP hD hS => ?_)
  obtain ⟨o19, hw⟩ := hw
  have t20 := z_ti o19
  by_cases s21 : x17 = 2
  · replace hw := hw.1 s21
    refine lv_lookup (off := 139) (tgt := 143) hx hb dX8_operand_4 (by decide) (by rw [t20, s21]; rfl) (by decide) ?_
    exact j143 g1 a2 σ18 _ _ _ hP hD hS (lv_sub hl [0, 1, 2] rfl) hw
  replace hw := hw.2 s21
  by_cases s22 : x17 = 3
  · replace hw := hw.1 s22
    refine lv_lookup (off := 139) (tgt := 143) hx hb dX8_operand_4 (by decide) (by rw [t20, s22]; rfl) (by decide) ?_
    exact j143 g1 a2 σ18 _ _ _ hP hD hS (lv_sub hl [0, 1, 2] rfl) hw
  replace hw := hw.2 s22
  by_cases s23 : x17 = 4
  · replace hw := hw.1 s23
    refine lv_lookup (off := 60) (tgt := 64) hx hb dX8_operand_4 (by decide) (by rw [t20, s23]; rfl) (by decide) ?_
    refine lv_iload_n hx hb dX8_operand_64 rfl (lv_at hl 2 rfl) ?_
    refine lv_iconst (v := Int32.ofInt 1) hx hb dX8_operand_65 (by decide) ?_
    refine z_iandK (M := 2) hx hb 1 (by decide) (by decide) (by decide) dX8_operand_66 ?_
    refine z_if_eq (tgt := 83) hx hb (by clear hw; omega) dX8_operand_67 (by decide) (fun k24 => ?_) (fun k24 => ?_)
    · replace hw := hw.1 k24
      exact j83 σ18 _ _ _ hP hD hS (lv_sub hl [] rfl) hw
    · replace hw := hw.2 k24
      refine lv_aload_n hx hb dX8_operand_70 rfl (lv_at hl 0 rfl) ?_
      refine lv_aload_n hx hb dX8_operand_71 rfl (lv_at hl 1 rfl) ?_
      refine lv_iconst (v := Int32.ofInt 1) hx hb dX8_operand_72 (by decide) ?_
      refine z_Vi (n := 2) (As := [.ref (ad g1 1000), .int (Int32.ofInt 1)]) (rest := []) hx hb hml hg hown hK hP hD hS hA (kX8_coded l D dA ad g1 1 σ18 _ _ hw) (zoC14) rfl q1005 q153 q1002 q1004 q16 (by decide +kernel) ⟨(Nat.le_of_ble_eq_true rfl), (Nat.le_of_ble_eq_true rfl)⟩ rfl hl.1 rfl (Nat.le_of_ble_eq_true rfl) dX8_operand_73 ⟨(Nat.le_of_ble_eq_true rfl), (Nat.le_of_ble_eq_true rfl)⟩ (fun x25 σ26 H locs hw hP hD hS => ?_)
      obtain ⟨o27, hw⟩ := hw
      refine z_if_eq (tgt := 83) hx hb o27 dX8_operand_76 (by decide) (fun k28 => ?_) (fun k28 => ?_)
      · replace hw := hw.1 k28
        exact j83 σ26 _ _ _ hP hD hS (lv_sub hl [] rfl) hw
      · replace hw := hw.2 k28
        refine lv_iconst (v := Int32.ofInt 1) hx hb dX8_operand_79 (by decide) ?_
        refine lv_goto (tgt := 84) hx hb dX8_operand_80 (by decide) ?_
        exact j84 1 σ26 _ _ _ hP hD hS (lv_sub hl [] rfl) hw
  replace hw := hw.2 s23
  by_cases s29 : x17 = 5
  · replace hw := hw.1 s29
    refine lv_lookup (off := 81) (tgt := 85) hx hb dX8_operand_4 (by decide) (by rw [t20, s29]; rfl) (by decide) ?_
    refine lv_aload_n hx hb dX8_operand_85 rfl (lv_at hl 0 rfl) ?_
    refine z_Vi (n := 0) (As := []) (rest := []) hx hb hml hg hown hK hP hD hS hA (kX8_value l D dA ad σ18 _ _ hw) (zoC14) rfl q966 q153 q963 q965 q9 (by decide +kernel) ⟨(Nat.le_of_ble_eq_true rfl), (Nat.le_of_ble_eq_true rfl)⟩ rfl hl.1 rfl (Nat.le_of_ble_eq_true rfl) dX8_operand_86 ⟨(Nat.le_of_ble_eq_true rfl), (Nat.le_of_ble_eq_true rfl)⟩ (fun x30 σ31 H locs hw hP hD hS => ?_)
    refine lv_iconst (v := Int32.ofInt 1) hx hb dX8_operand_89 (by decide) ?_
    obtain ⟨o32, hw⟩ := hw
    refine z_icmp_ne (tgt := 98) hx hb o32 (by decide) dX8_operand_90 (by decide) (fun k33 => ?_) (fun k33 => ?_)
    · replace hw := hw.1 k33
      refine lv_bipush (v := Int32.ofInt 8) hx hb dX8_operand_98 (by decide) ?_
      exact j100 g1 a2 8 σ31 _ _ _ hP hD hS (lv_sub hl [0, 1, 2] rfl) hw
    · replace hw := hw.2 k33
      refine lv_bipush (v := Int32.ofInt 16) hx hb dX8_operand_93 (by decide) ?_
      refine lv_goto (tgt := 100) hx hb dX8_operand_95 (by decide) ?_
      exact j100 g1 a2 16 σ31 _ _ _ hP hD hS (lv_sub hl [0, 1, 2] rfl) hw
  replace hw := hw.2 s29
  by_cases s34 : x17 = 64
  · replace hw := hw.1 s34
    refine lv_lookup (off := 139) (tgt := 143) hx hb dX8_operand_4 (by decide) (by rw [t20, s34]; rfl) (by decide) ?_
    exact j143 g1 a2 σ18 _ _ _ hP hD hS (lv_sub hl [0, 1, 2] rfl) hw
  replace hw := hw.2 s34
  by_cases s35 : x17 = 91
  · replace hw := hw.1 s35
    refine lv_lookup (off := 119) (tgt := 123) hx hb dX8_operand_4 (by decide) (by rw [t20, s35]; rfl) (by decide) ?_
    refine lv_iload_n hx hb dX8_operand_123 rfl (lv_at hl 2 rfl) ?_
    refine lv_iconst (v := Int32.ofInt 2) hx hb dX8_operand_124 (by decide) ?_
    refine z_iand hx hb dX8_operand_125 ?_
    obtain ⟨o36, hw⟩ := hw
    refine z_if_eq (tgt := 141) hx hb o36 dX8_operand_126 (by decide) (fun k37 => ?_) (fun k37 => ?_)
    · replace hw := hw.1 k37
      exact j141 σ18 _ _ _ hP hD hS (lv_sub hl [] rfl) hw
    · replace hw := hw.2 k37
      refine lv_aload_n hx hb dX8_operand_129 rfl (lv_at hl 0 rfl) ?_
      refine lv_aload_n hx hb dX8_operand_130 rfl (lv_at hl 1 rfl) ?_
      refine z_Vi (n := 1) (As := [.ref (ad g1 1000)]) (rest := []) hx hb hml hg hown hK hP hD hS hA (kX8_brackets l D dA ad g1 σ18 _ _ hw) (zoC14) rfl q1010 q153 q1007 q1009 q17 (by decide +kernel) ⟨(Nat.le_of_ble_eq_true rfl), (Nat.le_of_ble_eq_true rfl)⟩ rfl hl.1 rfl (Nat.le_of_ble_eq_true rfl) dX8_operand_131 ⟨(Nat.le_of_ble_eq_true rfl), (Nat.le_of_ble_eq_true rfl)⟩ (fun x38 σ39 H locs hw hP hD hS => ?_)
      obtain ⟨o40, hw⟩ := hw
      refine z_if_eq (tgt := 141) hx hb o40 dX8_operand_134 (by decide) (fun k41 => ?_) (fun k41 => ?_)
      · replace hw := hw.1 k41
        exact j141 σ39 _ _ _ hP hD hS (lv_sub hl [] rfl) hw
      · replace hw := hw.2 k41
        refine lv_iconst (v := Int32.ofInt 1) hx hb dX8_operand_137 (by decide) ?_
        refine lv_goto (tgt := 142) hx hb dX8_operand_138 (by decide) ?_
        exact j142 1 σ39 _ _ _ hP hD hS (lv_sub hl [] rfl) hw
  replace hw := hw.2 s35
  refine lv_lookup (off := 159) (tgt := 163) hx hb dX8_operand_4 (by decide) (by rw [t20]; exact (z_osw s21).trans ((z_osw s22).trans ((z_osw s23).trans ((z_osw s29).trans ((z_osw s34).trans ((z_osw s35).trans (rfl))))))) (by decide) ?_
  refine lv_iconst (v := Int32.ofInt 0) hx hb dX8_operand_163 (by decide) ?_
  exact hret 0 σ18 _ _ _ _ (by decide) hw hP hD hS dX8_operand_164
def wpX0_addValue_54 (σ : ZS) (Q : ZS → Prop) : Prop := Q σ
def wpX0_addValue_38 (v1 s1 : Int) (σ : ZS) (Q : ZS → Prop) : Prop := (5 ≤ v1 ∧ v1 ≤ 6) ∧ wpX0_add s1 (zI σ v1 2) (zI σ v1 3) (zI σ v1 4) (-1) σ (fun (σ3 : ZS) => wpX0_addValue_54 σ3 Q)
def wpX0_addValue (g1 : Int) (σ : ZS) (Q : ZS → Prop) : Prop := (5 ≤ g1 ∧ g1 ≤ 6) ∧ (-2147483648 ≤ (zI σ g1 3) ∧ (zI σ g1 3) ≤ 2147483647) ∧ (0 ≤ (zI σ g1 3) → (-2147483648 ≤ (zI σ g1 5) ∧ (zI σ g1 5) ≤ 2147483647) ∧ ((zI σ g1 5) = 0 → wpX0_addValue_38 g1 7 σ Q) ∧ (¬ (zI σ g1 5) = 0 → wpX0_addValue_38 g1 8 σ Q)) ∧ (¬ 0 ≤ (zI σ g1 3) → wpX0_add 6 (zI σ g1 2) (-1) (-1) (-1) σ (fun (σ10 : ZS) => wpX0_addValue_54 σ10 Q))
set_option maxHeartbeats 4000000 in
set_option maxRecDepth 100000 in
theorem kX0_addValue (l : Launch) (D : va_G) (dA : Nat → ClassId) (ad : Int → Nat → Nat) (g1 : Int) (σ : ZS) (Q : ZS → Prop) (sz : Nat) (hw : wpX0_addValue g1 σ Q) : Met l yX0_addValue (gws yX0_addValue cX0_addValue 2 none) (gR 2 0 0) (gPre D dA [.ref (ad 13 1000), .ref (ad g1 1000)] (zC dA ad σ) sz) (va_Qv Q (gAt D dA (va_A (zC dA ad σ) sz) (zC dA ad)) (va_A (zC dA ad σ) sz)) 0 0 (va_A (zC dA ad σ) sz) := by
  refine Met.ofW (cc := cX0_addValue) (maxL := 2) (ret := none) (by decide) rfl ?_
  intro p e s m args below meth c s₁ B hml hv
  obtain ⟨rfl, hsz, hP, hK, hD0⟩ := hv
  have hx := B.exec
  have hb := B.bytes
  have hr := B.returns
  have hts := atoms_spec (ws := gws yX0_addValue cX0_addValue 2 none) B.pre
  have hg : ∀ w ∈ gw, w.before _ s = true := fun w h => hts w (List.mem_cons_of_mem _ h)
  have hown : s.vm.findClass RX0 = some m.cls := findClass_of_methodNamed B.named
  have hlocks := B.notSynchronized
  subst hsz
  have hD := hD0.self (sz := s.heap.size)
  generalize hAe : va_A (zC dA ad σ) s.heap.size = A at hD ⊢
  have hA : ∀ q : Nat, s.heap.size ≤ q → A q := fun q h => by rw [← hAe]; exact Or.inr h
  have hS : va_S A s.heap s.heap [] := va_S.rf
  have hl := lv_entry ([.ref (ad 13 1000), .ref (ad g1 1000)]) (n := 2) (Nat.le_of_ble_eq_true rfl)
  rw [lg_entry_eq]
  generalize (lg_sl ([.ref (ad 13 1000), .ref (ad g1 1000)]) ++ List.replicate (2 - (lg_sl ([.ref (ad 13 1000), .ref (ad g1 1000)])).length) Slot.unset).toArray = ls at hl ⊢
  have hl : lv_has ls 2 [(0, .ref (ad 13 1000)), (1, .ref (ad g1 1000))] := hl
  have hret : ∀ (σ : ZS) (H : Heap) (locs : List Loc) (ls : Array Slot) (pc : Nat), Q σ → va_P D vwC (zC dA ad σ) H → va_D A (zC dA ad σ) → va_S A s.heap H locs → decode cX0_addValue pc = .ok (.return_, 1) → W p l e (gR 2 0 0) s m #[.ref (ad 13 1000), .ref (ad g1 1000)] below meth c H locs 0 0 (MQ below (va_Qv Q (gAt D dA A (zC dA ad)) A) #[.ref (ad 13 1000), .ref (ad g1 1000)] s 0 0 A) (F0 m pc ls []) := fun σ H locs ls pc hw hP hD hS hd => g_vret hx hb hr hlocks hK σ hP hD hS hw (Nat.le_of_ble_eq_true rfl) (Nat.le_of_ble_eq_true rfl) hd
  generalize MQ below (va_Qv Q (gAt D dA A (zC dA ad)) A) #[.ref (ad 13 1000), .ref (ad g1 1000)] s 0 0 A = QQ at hret ⊢
  have j54 : ∀ (σ : ZS), ∀ (H : Heap) (locs : List Loc) (ls : Array Slot), va_P D vwC (zC dA ad σ) H → va_D A (zC dA ad σ) → va_S A s.heap H locs → lv_has ls 2 [] → wpX0_addValue_54 σ Q → W p l e (gR 2 0 0) s m #[.ref (ad 13 1000), .ref (ad g1 1000)] below meth c H locs 0 0 QQ (F0 m 54 ls []) := by
    intro σ H locs ls hP hD hS hl hw
    unfold wpX0_addValue_54 at hw
    exact hret σ _ _ _ _ hw hP hD hS dX0_addValue_54
  have j38 : ∀ (v1 s1 : Int) (σ : ZS), ∀ (H : Heap) (locs : List Loc) (ls : Array Slot), va_P D vwC (zC dA ad σ) H → va_D A (zC dA ad σ) → va_S A s.heap H locs → lv_has ls 2 [(1, .ref (ad v1 1000))] → wpX0_addValue_38 v1 s1 σ Q → W p l e (gR 2 0 0) s m #[.ref (ad 13 1000), .ref (ad g1 1000)] below meth c H locs 0 0 QQ (F0 m 38 ls [.int (Int32.ofInt s1), .ref (ad 13 1000)]) := by
    intro v1 s1 σ H locs ls hP hD hS hl hw
    unfold wpX0_addValue_38 at hw
    refine lv_aload_n hx hb dX0_addValue_38 rfl (lv_at hl 0 rfl) ?_
    obtain ⟨o1, hw⟩ := hw
    refine zgCO_2 hx hb hg hown o1 hK hP q314 dX0_addValue_39 ?_
    refine lv_aload_n hx hb dX0_addValue_42 rfl (lv_at hl 0 rfl) ?_
    refine zgCO_3 hx hb hg hown o1 hK hP q317 dX0_addValue_43 ?_
    refine lv_aload_n hx hb dX0_addValue_46 rfl (lv_at hl 0 rfl) ?_
    refine zgCO_4 hx hb hg hown o1 hK hP q320 dX0_addValue_47 ?_
    refine lv_iconst (v := Int32.ofInt (-1)) hx hb dX0_addValue_50 (by decide) ?_
    refine z_Vv (n := 5) (As := [.int (Int32.ofInt s1), .int (Int32.ofInt (zI σ v1 2)), .int (Int32.ofInt (zI σ v1 3)), .int (Int32.ofInt (zI σ v1 4)), .int (Int32.ofInt (-1))]) (rest := []) hx hb hml hg hown hK hP hD hS hA (kX0_add l D dA ad s1 (zI σ v1 2) (zI σ v1 3) (zI σ v1 4) (-1) σ _ _ hw) (zoC13) rfl q962 q152 q1024 q960 q961 (by decide +kernel) ⟨(Nat.le_of_ble_eq_true rfl), (Nat.le_of_ble_eq_true rfl)⟩ rfl hl.1 rfl (Nat.le_of_ble_eq_true rfl) dX0_addValue_51 ⟨(Nat.le_of_ble_eq_true rfl), (Nat.le_of_ble_eq_true rfl)⟩ (fun σ3 H locs hw hP hD hS => ?_)
    exact j54 σ3 _ _ _ hP hD hS (lv_sub hl [] rfl) hw
  unfold wpX0_addValue at hw
  refine lv_aload_n hx hb dX0_addValue_0 rfl (lv_at hl 1 rfl) ?_
  obtain ⟨o4, hw⟩ := hw
  refine zgCO_3 hx hb hg hown o4 hK hP q317 dX0_addValue_1 ?_
  obtain ⟨o5, hw⟩ := hw
  refine z_if_ge (tgt := 23) hx hb o5 dX0_addValue_4 (by decide) (fun k6 => ?_) (fun k6 => ?_)
  · replace hw := hw.1 k6
    refine lv_aload_n hx hb dX0_addValue_23 rfl (lv_at hl 0 rfl) ?_
    refine lv_aload_n hx hb dX0_addValue_24 rfl (lv_at hl 1 rfl) ?_
    refine zgCO_5 hx hb hg hown o4 hK hP q323 dX0_addValue_25 ?_
    obtain ⟨o7, hw⟩ := hw
    refine z_if_eq (tgt := 36) hx hb o7 dX0_addValue_28 (by decide) (fun k8 => ?_) (fun k8 => ?_)
    · replace hw := hw.1 k8
      refine lv_bipush (v := Int32.ofInt 7) hx hb dX0_addValue_36 (by decide) ?_
      exact j38 g1 7 σ _ _ _ hP hD hS (lv_sub hl [1] rfl) hw
    · replace hw := hw.2 k8
      refine lv_bipush (v := Int32.ofInt 8) hx hb dX0_addValue_31 (by decide) ?_
      refine lv_goto (tgt := 38) hx hb dX0_addValue_33 (by decide) ?_
      exact j38 g1 8 σ _ _ _ hP hD hS (lv_sub hl [1] rfl) hw
  · replace hw := hw.2 k6
    refine lv_aload_n hx hb dX0_addValue_7 rfl (lv_at hl 0 rfl) ?_
    refine lv_bipush (v := Int32.ofInt 6) hx hb dX0_addValue_8 (by decide) ?_
    refine lv_aload_n hx hb dX0_addValue_10 rfl (lv_at hl 1 rfl) ?_
    refine zgCO_2 hx hb hg hown o4 hK hP q314 dX0_addValue_11 ?_
    refine lv_iconst (v := Int32.ofInt (-1)) hx hb dX0_addValue_14 (by decide) ?_
    refine lv_iconst (v := Int32.ofInt (-1)) hx hb dX0_addValue_15 (by decide) ?_
    refine lv_iconst (v := Int32.ofInt (-1)) hx hb dX0_addValue_16 (by decide) ?_
    refine z_Vv (n := 5) (As := [.int (Int32.ofInt 6), .int (Int32.ofInt (zI σ g1 2)), .int (Int32.ofInt (-1)), .int (Int32.ofInt (-1)), .int (Int32.ofInt (-1))]) (rest := []) hx hb hml hg hown hK hP hD hS hA (kX0_add l D dA ad 6 (zI σ g1 2) (-1) (-1) (-1) σ _ _ hw) (zoC13) rfl q962 q152 q1024 q960 q961 (by decide +kernel) ⟨(Nat.le_of_ble_eq_true rfl), (Nat.le_of_ble_eq_true rfl)⟩ rfl hl.1 rfl (Nat.le_of_ble_eq_true rfl) dX0_addValue_17 ⟨(Nat.le_of_ble_eq_true rfl), (Nat.le_of_ble_eq_true rfl)⟩ (fun σ10 H locs hw hP hD hS => ?_)
    refine lv_goto (tgt := 54) hx hb dX0_addValue_20 (by decide) ?_
    exact j54 σ10 _ _ _ hP hD hS (lv_sub hl [] rfl) hw
def wpbX8_words_2 (K2 : Int → ZS → Prop) (v1 : Int) (σ : ZS) (Q : Int → ZS → Prop) : Prop := (-2147483648 ≤ v1 ∧ v1 ≤ 2147483647) ∧ (-2147483648 ≤ (zI σ 12 3) ∧ (zI σ 12 3) ≤ 2147483647) ∧ ((zI σ 12 3) ≤ v1 → Q 0 σ) ∧ (¬ (zI σ 12 3) ≤ v1 → wpX8_operand 5 4 σ (fun (x4 : Int) (σ5 : ZS) => (-2147483648 ≤ x4 ∧ x4 ≤ 2147483647) ∧ (¬ x4 = 0 → wpX0_addValue 5 σ5 (fun (σ9 : ZS) => wpX8_take 44 σ9 (fun (x10 : Int) (σ11 : ZS) => (-2147483648 ≤ x10 ∧ x10 ≤ 2147483647) ∧ (¬ x10 = 0 → K2 (v1 + 1) σ11) ∧ (x10 = 0 → Q 1 σ11)))) ∧ (x4 = 0 → Q 0 σ5)))
def wpX8_words_2 (v1 : Int) (σ : ZS) (Q : Int → ZS → Prop) : Prop := lfp1 (fun K2 v1 σ => wpbX8_words_2 K2 v1 σ Q) v1 σ
def wpX8_words (σ : ZS) (Q : Int → ZS → Prop) : Prop := wpX8_words_2 0 σ Q
set_option maxHeartbeats 4000000 in
set_option maxRecDepth 100000 in
theorem kX8_words (l : Launch) (D : va_G) (dA : Nat → ClassId) (ad : Int → Nat → Nat) (σ : ZS) (Q : Int → ZS → Prop) (sz : Nat) (hw : wpX8_words σ Q) : Met l yX8_words (gws yX8_words cX8_words 2 (some .boolean)) (gR 4 0 0) (gPre D dA [.ref (ad 14 1000)] (zC dA ad σ) sz) (va_Qi (zQi Q) (gAt D dA (va_A (zC dA ad σ) sz) (zC dA ad)) (va_A (zC dA ad σ) sz)) 0 0 (va_A (zC dA ad σ) sz) := by
  refine Met.ofW (cc := cX8_words) (maxL := 2) (ret := (some .boolean)) (by decide) rfl ?_
  intro p e s m args below meth c s₁ B hml hv
  obtain ⟨rfl, hsz, hP, hK, hD0⟩ := hv
  have hx := B.exec
  have hb := B.bytes
  have hr := B.returns
  have hts := atoms_spec (ws := gws yX8_words cX8_words 2 (some .boolean)) B.pre
  have hg : ∀ w ∈ gw, w.before _ s = true := fun w h => hts w (List.mem_cons_of_mem _ h)
  have hown : s.vm.findClass RX8 = some m.cls := findClass_of_methodNamed B.named
  have hlocks := B.notSynchronized
  subst hsz
  have hD := hD0.self (sz := s.heap.size)
  generalize hAe : va_A (zC dA ad σ) s.heap.size = A at hD ⊢
  have hA : ∀ q : Nat, s.heap.size ≤ q → A q := fun q h => by rw [← hAe]; exact Or.inr h
  have hS : va_S A s.heap s.heap [] := va_S.rf
  have hl := lv_entry ([.ref (ad 14 1000)]) (n := 2) (Nat.le_of_ble_eq_true rfl)
  rw [lg_entry_eq]
  generalize (lg_sl ([.ref (ad 14 1000)]) ++ List.replicate (2 - (lg_sl ([.ref (ad 14 1000)])).length) Slot.unset).toArray = ls at hl ⊢
  have hl : lv_has ls 2 [(0, .ref (ad 14 1000))] := hl
  have hret : ∀ (v : Int) (σ : ZS) (H : Heap) (locs : List Loc) (ls : Array Slot) (pc : Nat), (0 ≤ v ∧ v ≤ 1) → Q v σ → va_P D vwC (zC dA ad σ) H → va_D A (zC dA ad σ) → va_S A s.heap H locs → decode cX8_words pc = .ok (.ireturn, 1) → W p l e (gR 4 0 0) s m #[.ref (ad 14 1000)] below meth c H locs 0 0 (MQ below (va_Qi (zQi Q) (gAt D dA A (zC dA ad)) A) #[.ref (ad 14 1000)] s 0 0 A) (F0 m pc ls [.int (Int32.ofInt v)]) := fun v σ H locs ls pc hv hw hP hD hS hd => g_iret hx hb hr (z_nb hv) hlocks hK σ hP hD hS ⟨v, rfl, hw⟩ (Nat.le_of_ble_eq_true rfl) (Nat.le_of_ble_eq_true rfl) hd
  generalize MQ below (va_Qi (zQi Q) (gAt D dA A (zC dA ad)) A) #[.ref (ad 14 1000)] s 0 0 A = QQ at hret ⊢
  have b2 : ∀ (K2 : Int → ZS → Prop), (∀ (v1 : Int) (σ : ZS), K2 v1 σ → ∀ (H : Heap) (locs : List Loc) (ls : Array Slot), va_P D vwC (zC dA ad σ) H → va_D A (zC dA ad σ) → va_S A s.heap H locs → lv_has ls 2 [(0, .ref (ad 14 1000)), (1, .int (Int32.ofInt v1))] → W p l e (gR 4 0 0) s m #[.ref (ad 14 1000)] below meth c H locs 0 0 QQ (F0 m 2 ls [])) → ∀ (v1 : Int) (σ : ZS), wpbX8_words_2 K2 v1 σ Q → ∀ (H : Heap) (locs : List Loc) (ls : Array Slot), va_P D vwC (zC dA ad σ) H → va_D A (zC dA ad σ) → va_S A s.heap H locs → lv_has ls 2 [(0, .ref (ad 14 1000)), (1, .int (Int32.ofInt v1))] → W p l e (gR 4 0 0) s m #[.ref (ad 14 1000)] below meth c H locs 0 0 QQ (F0 m 2 ls []) := by
    intro K2 hK2
    intro v1 σ hw H locs ls hP hD hS hl
    unfold wpbX8_words_2 at hw
    refine lv_iload_n hx hb dX8_words_2 rfl (lv_at hl 1 rfl) ?_
    refine lv_aload_n hx hb dX8_words_3 rfl (lv_at hl 0 rfl) ?_
    refine zgC14_0 hx hb hg hown hK hP q346 dX8_words_4 ?_
    refine zgC12_3 hx hb hg hown hK hP q238 dX8_words_7 ?_
    obtain ⟨o1, hw⟩ := hw
    obtain ⟨o2, hw⟩ := hw
    refine z_icmp_ge (tgt := 55) hx hb o1 o2 dX8_words_10 (by decide) (fun k3 => ?_) (fun k3 => ?_)
    · replace hw := hw.1 k3
      refine lv_iconst (v := Int32.ofInt 0) hx hb dX8_words_55 (by decide) ?_
      exact hret 0 σ _ _ _ _ (by decide) hw hP hD hS dX8_words_56
    · replace hw := hw.2 k3
      refine lv_aload_n hx hb dX8_words_13 rfl (lv_at hl 0 rfl) ?_
      refine lv_aload_n hx hb dX8_words_14 rfl (lv_at hl 0 rfl) ?_
      refine zgC14_2 hx hb hg hown hK hP q348 dX8_words_15 ?_
      refine lv_iconst (v := Int32.ofInt 4) hx hb dX8_words_18 (by decide) ?_
      refine z_Vi (n := 2) (As := [.ref (ad 5 1000), .int (Int32.ofInt 4)]) (rest := []) hx hb hml hg hown hK hP hD hS hA (kX8_operand l D dA ad 5 4 σ _ _ hw) (zoC14) rfl q1001 q153 q998 q1000 q15 (by decide +kernel) ⟨(Nat.le_of_ble_eq_true rfl), (Nat.le_of_ble_eq_true rfl)⟩ rfl hl.1 rfl (Nat.le_of_ble_eq_true rfl) dX8_words_19 ⟨(Nat.le_of_ble_eq_true rfl), (Nat.le_of_ble_eq_true rfl)⟩ (fun x4 σ5 H locs hw hP hD hS => ?_)
      obtain ⟨o6, hw⟩ := hw
      refine z_if_ne (tgt := 27) hx hb o6 dX8_words_22 (by decide) (fun k7 => ?_) (fun k7 => ?_)
      · replace hw := hw.1 k7
        refine lv_aload_n hx hb dX8_words_27 rfl (lv_at hl 0 rfl) ?_
        refine zgC14_1 hx hb hg hown hK hP q347 dX8_words_28 ?_
        refine lv_aload_n hx hb dX8_words_31 rfl (lv_at hl 0 rfl) ?_
        refine zgC14_2 hx hb hg hown hK hP q348 dX8_words_32 ?_
        refine z_Vv (n := 1) (As := [.ref (ad 5 1000)]) (rest := []) hx hb hml hg hown hK hP hD hS hA (kX0_addValue l D dA ad 5 σ5 _ _ hw) (zoC13) rfl q1023 q152 q1020 q1021 q1022 (by decide +kernel) ⟨(Nat.le_of_ble_eq_true rfl), (Nat.le_of_ble_eq_true rfl)⟩ rfl hl.1 rfl (Nat.le_of_ble_eq_true rfl) dX8_words_35 ⟨(Nat.le_of_ble_eq_true rfl), (Nat.le_of_ble_eq_true rfl)⟩ (fun σ9 H locs hw hP hD hS => ?_)
        refine lv_aload_n hx hb dX8_words_38 rfl (lv_at hl 0 rfl) ?_
        refine lv_bipush (v := Int32.ofInt 44) hx hb dX8_words_39 (by decide) ?_
        refine z_Vi (n := 1) (As := [.int (Int32.ofInt 44)]) (rest := []) hx hb hml hg hown hK hP hD hS hA (kX8_take l D dA ad 44 σ9 _ _ hw) (zoC14) rfl q954 q153 q951 q953 q7 (by decide +kernel) ⟨(Nat.le_of_ble_eq_true rfl), (Nat.le_of_ble_eq_true rfl)⟩ rfl hl.1 rfl (Nat.le_of_ble_eq_true rfl) dX8_words_41 ⟨(Nat.le_of_ble_eq_true rfl), (Nat.le_of_ble_eq_true rfl)⟩ (fun x10 σ11 H locs hw hP hD hS => ?_)
        obtain ⟨o12, hw⟩ := hw
        refine z_if_ne (tgt := 49) hx hb o12 dX8_words_44 (by decide) (fun k13 => ?_) (fun k13 => ?_)
        · replace hw := hw.1 k13
          refine lv_iinc (v := Int32.ofInt (v1 + 1)) (lv' := [(1, .int (Int32.ofInt (v1 + 1))), (0, .ref (ad 14 1000))]) hx hb dX8_words_49 hl (k := 1) rfl (Int32.ofInt_add _ _).symm (by decide) rfl (fun ls hl => ?_)
          refine lv_goto (tgt := 2) hx hb dX8_words_52 (by decide) ?_
          exact hK2 (v1 + 1) σ11 hw _ _ _ hP hD hS (lv_sub hl [1, 0] rfl)
        · replace hw := hw.2 k13
          refine lv_iconst (v := Int32.ofInt 1) hx hb dX8_words_47 (by decide) ?_
          exact hret 1 σ11 _ _ _ _ (by decide) hw hP hD hS dX8_words_48
      · replace hw := hw.2 k7
        refine lv_iconst (v := Int32.ofInt 0) hx hb dX8_words_25 (by decide) ?_
        exact hret 0 σ5 _ _ _ _ (by decide) hw hP hD hS dX8_words_26
  have j2 : ∀ (v1 : Int) (σ : ZS), ∀ (H : Heap) (locs : List Loc) (ls : Array Slot), va_P D vwC (zC dA ad σ) H → va_D A (zC dA ad σ) → va_S A s.heap H locs → lv_has ls 2 [(0, .ref (ad 14 1000)), (1, .int (Int32.ofInt v1))] → wpX8_words_2 v1 σ Q → W p l e (gR 4 0 0) s m #[.ref (ad 14 1000)] below meth c H locs 0 0 QQ (F0 m 2 ls []) := by
    intro v1 σ H locs ls hP hD hS hl hw
    exact hw (fun v1 σ => ∀ (H : Heap) (locs : List Loc) (ls : Array Slot), va_P D vwC (zC dA ad σ) H → va_D A (zC dA ad σ) → va_S A s.heap H locs → lv_has ls 2 [(0, .ref (ad 14 1000)), (1, .int (Int32.ofInt v1))] → W p l e (gR 4 0 0) s m #[.ref (ad 14 1000)] below meth c H locs 0 0 QQ (F0 m 2 ls [])) (b2 (fun v1 σ => ∀ (H : Heap) (locs : List Loc) (ls : Array Slot), va_P D vwC (zC dA ad σ) H → va_D A (zC dA ad σ) → va_S A s.heap H locs → lv_has ls 2 [(0, .ref (ad 14 1000)), (1, .int (Int32.ofInt v1))] → W p l e (gR 4 0 0) s m #[.ref (ad 14 1000)] below meth c H locs 0 0 QQ (F0 m 2 ls [])) (fun v1 σ h => h)) _ _ _ hP hD hS hl
  unfold wpX8_words at hw
  refine lv_iconst (v := Int32.ofInt 0) hx hb dX8_words_0 (by decide) ?_
  refine lv_istore_n (lv' := [(1, .int (Int32.ofInt 0)), (0, .ref (ad 14 1000))]) hx hb dX8_words_1 rfl hl (by decide) rfl (fun ls hl => ?_)
  exact j2 0 σ _ _ _ hP hD hS (lv_sub hl [1, 0] rfl) hw
def wpX8_numbered_16 (σ : ZS) (Q : Int → ZS → Prop) : Prop := Q 0 σ
def wpX8_numbered (a1 a2 : Int) (σ : ZS) (Q : Int → ZS → Prop) : Prop := wpX8_type σ (fun (x1 : Int) (σ2 : ZS) => (-2147483648 ≤ x1 ∧ x1 ≤ 2147483647) ∧ (¬ x1 = 2 → wpX8_numbered_16 σ2 Q) ∧ (x1 = 2 → wpX8_value σ2 (fun (x5 : Int) (σ6 : ZS) => (-2147483648 ≤ x5 ∧ x5 ≤ 2147483647) ∧ (-2147483648 ≤ a2 ∧ a2 ≤ 2147483647) ∧ (x5 < a2 → wpX8_value σ6 (fun (x10 : Int) (σ11 : ZS) => wpX0_add a1 x10 (-1) (-1) (-1) σ11 (fun (σ13 : ZS) => Q 1 (zsI σ13 14 4 ((zI σ13 14 4) + 1))))) ∧ (¬ x5 < a2 → wpX8_numbered_16 σ6 Q))))
set_option maxHeartbeats 4000000 in
set_option maxRecDepth 100000 in
theorem kX8_numbered (l : Launch) (D : va_G) (dA : Nat → ClassId) (ad : Int → Nat → Nat) (a1 a2 : Int) (σ : ZS) (Q : Int → ZS → Prop) (sz : Nat) (hw : wpX8_numbered a1 a2 σ Q) : Met l yX8_numbered (gws yX8_numbered cX8_numbered 3 (some .boolean)) (gR 2 0 0) (gPre D dA [.ref (ad 14 1000), .int (Int32.ofInt a1), .int (Int32.ofInt a2)] (zC dA ad σ) sz) (va_Qi (zQi Q) (gAt D dA (va_A (zC dA ad σ) sz) (zC dA ad)) (va_A (zC dA ad σ) sz)) 0 0 (va_A (zC dA ad σ) sz) := by
  refine Met.ofW (cc := cX8_numbered) (maxL := 3) (ret := (some .boolean)) (by decide) rfl ?_
  intro p e s m args below meth c s₁ B hml hv
  obtain ⟨rfl, hsz, hP, hK, hD0⟩ := hv
  have hx := B.exec
  have hb := B.bytes
  have hr := B.returns
  have hts := atoms_spec (ws := gws yX8_numbered cX8_numbered 3 (some .boolean)) B.pre
  have hg : ∀ w ∈ gw, w.before _ s = true := fun w h => hts w (List.mem_cons_of_mem _ h)
  have hown : s.vm.findClass RX8 = some m.cls := findClass_of_methodNamed B.named
  have hlocks := B.notSynchronized
  subst hsz
  have hD := hD0.self (sz := s.heap.size)
  generalize hAe : va_A (zC dA ad σ) s.heap.size = A at hD ⊢
  have hA : ∀ q : Nat, s.heap.size ≤ q → A q := fun q h => by rw [← hAe]; exact Or.inr h
  have hS : va_S A s.heap s.heap [] := va_S.rf
  have hl := lv_entry ([.ref (ad 14 1000), .int (Int32.ofInt a1), .int (Int32.ofInt a2)]) (n := 3) (Nat.le_of_ble_eq_true rfl)
  rw [lg_entry_eq]
  generalize (lg_sl ([.ref (ad 14 1000), .int (Int32.ofInt a1), .int (Int32.ofInt a2)]) ++ List.replicate (3 - (lg_sl ([.ref (ad 14 1000), .int (Int32.ofInt a1), .int (Int32.ofInt a2)])).length) Slot.unset).toArray = ls at hl ⊢
  have hl : lv_has ls 3 [(0, .ref (ad 14 1000)), (1, .int (Int32.ofInt a1)), (2, .int (Int32.ofInt a2))] := hl
  have hret : ∀ (v : Int) (σ : ZS) (H : Heap) (locs : List Loc) (ls : Array Slot) (pc : Nat), (0 ≤ v ∧ v ≤ 1) → Q v σ → va_P D vwC (zC dA ad σ) H → va_D A (zC dA ad σ) → va_S A s.heap H locs → decode cX8_numbered pc = .ok (.ireturn, 1) → W p l e (gR 2 0 0) s m #[.ref (ad 14 1000), .int (Int32.ofInt a1), .int (Int32.ofInt a2)] below meth c H locs 0 0 (MQ below (va_Qi (zQi Q) (gAt D dA A (zC dA ad)) A) #[.ref (ad 14 1000), .int (Int32.ofInt a1), .int (Int32.ofInt a2)] s 0 0 A) (F0 m pc ls [.int (Int32.ofInt v)]) := fun v σ H locs ls pc hv hw hP hD hS hd => g_iret hx hb hr (z_nb hv) hlocks hK σ hP hD hS ⟨v, rfl, hw⟩ (Nat.le_of_ble_eq_true rfl) (Nat.le_of_ble_eq_true rfl) hd
  generalize MQ below (va_Qi (zQi Q) (gAt D dA A (zC dA ad)) A) #[.ref (ad 14 1000), .int (Int32.ofInt a1), .int (Int32.ofInt a2)] s 0 0 A = QQ at hret ⊢
  have j16 : ∀ (σ : ZS), ∀ (H : Heap) (locs : List Loc) (ls : Array Slot), va_P D vwC (zC dA ad σ) H → va_D A (zC dA ad σ) → va_S A s.heap H locs → lv_has ls 3 [] → wpX8_numbered_16 σ Q → W p l e (gR 2 0 0) s m #[.ref (ad 14 1000), .int (Int32.ofInt a1), .int (Int32.ofInt a2)] below meth c H locs 0 0 QQ (F0 m 16 ls []) := by
    intro σ H locs ls hP hD hS hl hw
    unfold wpX8_numbered_16 at hw
    refine lv_iconst (v := Int32.ofInt 0) hx hb dX8_numbered_16 (by decide) ?_
    exact hret 0 σ _ _ _ _ (by decide) hw hP hD hS dX8_numbered_17
  unfold wpX8_numbered at hw
  refine lv_aload_n hx hb dX8_numbered_0 rfl (lv_at hl 0 rfl) ?_
  refine z_Vi (n := 0) (As := []) (rest := []) hx hb hml hg hown hK hP hD hS hA (kX8_type l D dA ad σ _ _ hw) (zoC14) rfl q946 q153 q943 q945 q5 (by decide +kernel) ⟨(Nat.le_of_ble_eq_true rfl), (Nat.le_of_ble_eq_true rfl)⟩ rfl hl.1 rfl (Nat.le_of_ble_eq_true rfl) dX8_numbered_1 ⟨(Nat.le_of_ble_eq_true rfl), (Nat.le_of_ble_eq_true rfl)⟩ (fun x1 σ2 H locs hw hP hD hS => ?_)
  refine lv_iconst (v := Int32.ofInt 2) hx hb dX8_numbered_4 (by decide) ?_
  obtain ⟨o3, hw⟩ := hw
  refine z_icmp_ne (tgt := 16) hx hb o3 (by decide) dX8_numbered_5 (by decide) (fun k4 => ?_) (fun k4 => ?_)
  · replace hw := hw.1 k4
    exact j16 σ2 _ _ _ hP hD hS (lv_sub hl [] rfl) hw
  · replace hw := hw.2 k4
    refine lv_aload_n hx hb dX8_numbered_8 rfl (lv_at hl 0 rfl) ?_
    refine z_Vi (n := 0) (As := []) (rest := []) hx hb hml hg hown hK hP hD hS hA (kX8_value l D dA ad σ2 _ _ hw) (zoC14) rfl q966 q153 q963 q965 q9 (by decide +kernel) ⟨(Nat.le_of_ble_eq_true rfl), (Nat.le_of_ble_eq_true rfl)⟩ rfl hl.1 rfl (Nat.le_of_ble_eq_true rfl) dX8_numbered_9 ⟨(Nat.le_of_ble_eq_true rfl), (Nat.le_of_ble_eq_true rfl)⟩ (fun x5 σ6 H locs hw hP hD hS => ?_)
    refine lv_iload_n hx hb dX8_numbered_12 rfl (lv_at hl 2 rfl) ?_
    obtain ⟨o7, hw⟩ := hw
    obtain ⟨o8, hw⟩ := hw
    refine z_icmp_lt (tgt := 18) hx hb o7 o8 dX8_numbered_13 (by decide) (fun k9 => ?_) (fun k9 => ?_)
    · replace hw := hw.1 k9
      refine lv_aload_n hx hb dX8_numbered_18 rfl (lv_at hl 0 rfl) ?_
      refine zgC14_1 hx hb hg hown hK hP q347 dX8_numbered_19 ?_
      refine lv_iload_n hx hb dX8_numbered_22 rfl (lv_at hl 1 rfl) ?_
      refine lv_aload_n hx hb dX8_numbered_23 rfl (lv_at hl 0 rfl) ?_
      refine z_Vi (n := 0) (As := []) (rest := [.int (Int32.ofInt a1), .ref (ad 13 1000)]) hx hb hml hg hown hK hP hD hS hA (kX8_value l D dA ad σ6 _ _ hw) (zoC14) rfl q966 q153 q963 q965 q9 (by decide +kernel) ⟨(Nat.le_of_ble_eq_true rfl), (Nat.le_of_ble_eq_true rfl)⟩ rfl hl.1 rfl (Nat.le_of_ble_eq_true rfl) dX8_numbered_24 ⟨(Nat.le_of_ble_eq_true rfl), (Nat.le_of_ble_eq_true rfl)⟩ (fun x10 σ11 H locs hw hP hD hS => ?_)
      refine lv_iconst (v := Int32.ofInt (-1)) hx hb dX8_numbered_27 (by decide) ?_
      refine lv_iconst (v := Int32.ofInt (-1)) hx hb dX8_numbered_28 (by decide) ?_
      refine lv_iconst (v := Int32.ofInt (-1)) hx hb dX8_numbered_29 (by decide) ?_
      refine z_Vv (n := 5) (As := [.int (Int32.ofInt a1), .int (Int32.ofInt x10), .int (Int32.ofInt (-1)), .int (Int32.ofInt (-1)), .int (Int32.ofInt (-1))]) (rest := []) hx hb hml hg hown hK hP hD hS hA (kX0_add l D dA ad a1 x10 (-1) (-1) (-1) σ11 _ _ hw) (zoC13) rfl q962 q152 q959 q960 q961 (by decide +kernel) ⟨(Nat.le_of_ble_eq_true rfl), (Nat.le_of_ble_eq_true rfl)⟩ rfl hl.1 rfl (Nat.le_of_ble_eq_true rfl) dX8_numbered_30 ⟨(Nat.le_of_ble_eq_true rfl), (Nat.le_of_ble_eq_true rfl)⟩ (fun σ13 H locs hw hP hD hS => ?_)
      refine lv_aload_n hx hb dX8_numbered_33 rfl (lv_at hl 0 rfl) ?_
      refine lv_dup hx hb dX8_numbered_34 rfl ?_
      refine zgC14_4 hx hb hg hown hK hP q350 dX8_numbered_35 ?_
      refine lv_iconst (v := Int32.ofInt 1) hx hb dX8_numbered_38 (by decide) ?_
      refine z_iadd hx hb dX8_numbered_39 ?_
      refine zpC14_4 (v := ((zI σ13 14 4) + 1)) hx hb hg hown hK hP hD hS q350 dX8_numbered_40 (fun H locs hP hD hS => ?_)
      refine lv_iconst (v := Int32.ofInt 1) hx hb dX8_numbered_43 (by decide) ?_
      exact hret 1 (zsI σ13 14 4 ((zI σ13 14 4) + 1)) _ _ _ _ (by decide) hw hP hD hS dX8_numbered_44
    · replace hw := hw.2 k9
      exact j16 σ6 _ _ _ hP hD hS (lv_sub hl [] rfl) hw
def wpbX8_bytes_2 (K2 : Int → ZS → Prop) (v1 : Int) (σ : ZS) (Q : Int → ZS → Prop) : Prop := (-2147483648 ≤ v1 ∧ v1 ≤ 2147483647) ∧ (-2147483648 ≤ (zI σ 12 3) ∧ (zI σ 12 3) ≤ 2147483647) ∧ ((zI σ 12 3) ≤ v1 → Q 0 σ) ∧ (¬ (zI σ 12 3) ≤ v1 → wpX8_numbered 4 256 σ (fun (x4 : Int) (σ5 : ZS) => (-2147483648 ≤ x4 ∧ x4 ≤ 2147483647) ∧ (¬ x4 = 0 → wpX8_take 44 σ5 (fun (x8 : Int) (σ9 : ZS) => (-2147483648 ≤ x8 ∧ x8 ≤ 2147483647) ∧ (¬ x8 = 0 → K2 (v1 + 1) σ9) ∧ (x8 = 0 → Q 1 σ9))) ∧ (x4 = 0 → Q 0 σ5)))
def wpX8_bytes_2 (v1 : Int) (σ : ZS) (Q : Int → ZS → Prop) : Prop := lfp1 (fun K2 v1 σ => wpbX8_bytes_2 K2 v1 σ Q) v1 σ
def wpX8_bytes (σ : ZS) (Q : Int → ZS → Prop) : Prop := wpX8_bytes_2 0 σ Q
set_option maxHeartbeats 4000000 in
set_option maxRecDepth 100000 in
theorem kX8_bytes (l : Launch) (D : va_G) (dA : Nat → ClassId) (ad : Int → Nat → Nat) (σ : ZS) (Q : Int → ZS → Prop) (sz : Nat) (hw : wpX8_bytes σ Q) : Met l yX8_bytes (gws yX8_bytes cX8_bytes 2 (some .boolean)) (gR 3 0 0) (gPre D dA [.ref (ad 14 1000)] (zC dA ad σ) sz) (va_Qi (zQi Q) (gAt D dA (va_A (zC dA ad σ) sz) (zC dA ad)) (va_A (zC dA ad σ) sz)) 0 0 (va_A (zC dA ad σ) sz) := by
  refine Met.ofW (cc := cX8_bytes) (maxL := 2) (ret := (some .boolean)) (by decide) rfl ?_
  intro p e s m args below meth c s₁ B hml hv
  obtain ⟨rfl, hsz, hP, hK, hD0⟩ := hv
  have hx := B.exec
  have hb := B.bytes
  have hr := B.returns
  have hts := atoms_spec (ws := gws yX8_bytes cX8_bytes 2 (some .boolean)) B.pre
  have hg : ∀ w ∈ gw, w.before _ s = true := fun w h => hts w (List.mem_cons_of_mem _ h)
  have hown : s.vm.findClass RX8 = some m.cls := findClass_of_methodNamed B.named
  have hlocks := B.notSynchronized
  subst hsz
  have hD := hD0.self (sz := s.heap.size)
  generalize hAe : va_A (zC dA ad σ) s.heap.size = A at hD ⊢
  have hA : ∀ q : Nat, s.heap.size ≤ q → A q := fun q h => by rw [← hAe]; exact Or.inr h
  have hS : va_S A s.heap s.heap [] := va_S.rf
  have hl := lv_entry ([.ref (ad 14 1000)]) (n := 2) (Nat.le_of_ble_eq_true rfl)
  rw [lg_entry_eq]
  generalize (lg_sl ([.ref (ad 14 1000)]) ++ List.replicate (2 - (lg_sl ([.ref (ad 14 1000)])).length) Slot.unset).toArray = ls at hl ⊢
  have hl : lv_has ls 2 [(0, .ref (ad 14 1000))] := hl
  have hret : ∀ (v : Int) (σ : ZS) (H : Heap) (locs : List Loc) (ls : Array Slot) (pc : Nat), (0 ≤ v ∧ v ≤ 1) → Q v σ → va_P D vwC (zC dA ad σ) H → va_D A (zC dA ad σ) → va_S A s.heap H locs → decode cX8_bytes pc = .ok (.ireturn, 1) → W p l e (gR 3 0 0) s m #[.ref (ad 14 1000)] below meth c H locs 0 0 (MQ below (va_Qi (zQi Q) (gAt D dA A (zC dA ad)) A) #[.ref (ad 14 1000)] s 0 0 A) (F0 m pc ls [.int (Int32.ofInt v)]) := fun v σ H locs ls pc hv hw hP hD hS hd => g_iret hx hb hr (z_nb hv) hlocks hK σ hP hD hS ⟨v, rfl, hw⟩ (Nat.le_of_ble_eq_true rfl) (Nat.le_of_ble_eq_true rfl) hd
  generalize MQ below (va_Qi (zQi Q) (gAt D dA A (zC dA ad)) A) #[.ref (ad 14 1000)] s 0 0 A = QQ at hret ⊢
  have b2 : ∀ (K2 : Int → ZS → Prop), (∀ (v1 : Int) (σ : ZS), K2 v1 σ → ∀ (H : Heap) (locs : List Loc) (ls : Array Slot), va_P D vwC (zC dA ad σ) H → va_D A (zC dA ad σ) → va_S A s.heap H locs → lv_has ls 2 [(0, .ref (ad 14 1000)), (1, .int (Int32.ofInt v1))] → W p l e (gR 3 0 0) s m #[.ref (ad 14 1000)] below meth c H locs 0 0 QQ (F0 m 2 ls [])) → ∀ (v1 : Int) (σ : ZS), wpbX8_bytes_2 K2 v1 σ Q → ∀ (H : Heap) (locs : List Loc) (ls : Array Slot), va_P D vwC (zC dA ad σ) H → va_D A (zC dA ad σ) → va_S A s.heap H locs → lv_has ls 2 [(0, .ref (ad 14 1000)), (1, .int (Int32.ofInt v1))] → W p l e (gR 3 0 0) s m #[.ref (ad 14 1000)] below meth c H locs 0 0 QQ (F0 m 2 ls []) := by
    intro K2 hK2
    intro v1 σ hw H locs ls hP hD hS hl
    unfold wpbX8_bytes_2 at hw
    refine lv_iload_n hx hb dX8_bytes_2 rfl (lv_at hl 1 rfl) ?_
    refine lv_aload_n hx hb dX8_bytes_3 rfl (lv_at hl 0 rfl) ?_
    refine zgC14_0 hx hb hg hown hK hP q346 dX8_bytes_4 ?_
    refine zgC12_3 hx hb hg hown hK hP q238 dX8_bytes_7 ?_
    obtain ⟨o1, hw⟩ := hw
    obtain ⟨o2, hw⟩ := hw
    refine z_icmp_ge (tgt := 43) hx hb o1 o2 dX8_bytes_10 (by decide) (fun k3 => ?_) (fun k3 => ?_)
    · replace hw := hw.1 k3
      refine lv_iconst (v := Int32.ofInt 0) hx hb dX8_bytes_43 (by decide) ?_
      exact hret 0 σ _ _ _ _ (by decide) hw hP hD hS dX8_bytes_44
    · replace hw := hw.2 k3
      refine lv_aload_n hx hb dX8_bytes_13 rfl (lv_at hl 0 rfl) ?_
      refine lv_iconst (v := Int32.ofInt 4) hx hb dX8_bytes_14 (by decide) ?_
      refine lv_sipush (v := Int32.ofInt 256) hx hb dX8_bytes_15 (by decide) ?_
      refine z_Vi (n := 2) (As := [.int (Int32.ofInt 4), .int (Int32.ofInt 256)]) (rest := []) hx hb hml hg hown hK hP hD hS hA (kX8_numbered l D dA ad 4 256 σ _ _ hw) (zoC14) rfl q1032 q153 q1029 q1031 q21 (by decide +kernel) ⟨(Nat.le_of_ble_eq_true rfl), (Nat.le_of_ble_eq_true rfl)⟩ rfl hl.1 rfl (Nat.le_of_ble_eq_true rfl) dX8_bytes_18 ⟨(Nat.le_of_ble_eq_true rfl), (Nat.le_of_ble_eq_true rfl)⟩ (fun x4 σ5 H locs hw hP hD hS => ?_)
      obtain ⟨o6, hw⟩ := hw
      refine z_if_ne (tgt := 26) hx hb o6 dX8_bytes_21 (by decide) (fun k7 => ?_) (fun k7 => ?_)
      · replace hw := hw.1 k7
        refine lv_aload_n hx hb dX8_bytes_26 rfl (lv_at hl 0 rfl) ?_
        refine lv_bipush (v := Int32.ofInt 44) hx hb dX8_bytes_27 (by decide) ?_
        refine z_Vi (n := 1) (As := [.int (Int32.ofInt 44)]) (rest := []) hx hb hml hg hown hK hP hD hS hA (kX8_take l D dA ad 44 σ5 _ _ hw) (zoC14) rfl q954 q153 q951 q953 q7 (by decide +kernel) ⟨(Nat.le_of_ble_eq_true rfl), (Nat.le_of_ble_eq_true rfl)⟩ rfl hl.1 rfl (Nat.le_of_ble_eq_true rfl) dX8_bytes_29 ⟨(Nat.le_of_ble_eq_true rfl), (Nat.le_of_ble_eq_true rfl)⟩ (fun x8 σ9 H locs hw hP hD hS => ?_)
        obtain ⟨o10, hw⟩ := hw
        refine z_if_ne (tgt := 37) hx hb o10 dX8_bytes_32 (by decide) (fun k11 => ?_) (fun k11 => ?_)
        · replace hw := hw.1 k11
          refine lv_iinc (v := Int32.ofInt (v1 + 1)) (lv' := [(1, .int (Int32.ofInt (v1 + 1))), (0, .ref (ad 14 1000))]) hx hb dX8_bytes_37 hl (k := 1) rfl (Int32.ofInt_add _ _).symm (by decide) rfl (fun ls hl => ?_)
          refine lv_goto (tgt := 2) hx hb dX8_bytes_40 (by decide) ?_
          exact hK2 (v1 + 1) σ9 hw _ _ _ hP hD hS (lv_sub hl [1, 0] rfl)
        · replace hw := hw.2 k11
          refine lv_iconst (v := Int32.ofInt 1) hx hb dX8_bytes_35 (by decide) ?_
          exact hret 1 σ9 _ _ _ _ (by decide) hw hP hD hS dX8_bytes_36
      · replace hw := hw.2 k7
        refine lv_iconst (v := Int32.ofInt 0) hx hb dX8_bytes_24 (by decide) ?_
        exact hret 0 σ5 _ _ _ _ (by decide) hw hP hD hS dX8_bytes_25
  have j2 : ∀ (v1 : Int) (σ : ZS), ∀ (H : Heap) (locs : List Loc) (ls : Array Slot), va_P D vwC (zC dA ad σ) H → va_D A (zC dA ad σ) → va_S A s.heap H locs → lv_has ls 2 [(0, .ref (ad 14 1000)), (1, .int (Int32.ofInt v1))] → wpX8_bytes_2 v1 σ Q → W p l e (gR 3 0 0) s m #[.ref (ad 14 1000)] below meth c H locs 0 0 QQ (F0 m 2 ls []) := by
    intro v1 σ H locs ls hP hD hS hl hw
    exact hw (fun v1 σ => ∀ (H : Heap) (locs : List Loc) (ls : Array Slot), va_P D vwC (zC dA ad σ) H → va_D A (zC dA ad σ) → va_S A s.heap H locs → lv_has ls 2 [(0, .ref (ad 14 1000)), (1, .int (Int32.ofInt v1))] → W p l e (gR 3 0 0) s m #[.ref (ad 14 1000)] below meth c H locs 0 0 QQ (F0 m 2 ls [])) (b2 (fun v1 σ => ∀ (H : Heap) (locs : List Loc) (ls : Array Slot), va_P D vwC (zC dA ad σ) H → va_D A (zC dA ad σ) → va_S A s.heap H locs → lv_has ls 2 [(0, .ref (ad 14 1000)), (1, .int (Int32.ofInt v1))] → W p l e (gR 3 0 0) s m #[.ref (ad 14 1000)] below meth c H locs 0 0 QQ (F0 m 2 ls [])) (fun v1 σ h => h)) _ _ _ hP hD hS hl
  unfold wpX8_bytes at hw
  refine lv_iconst (v := Int32.ofInt 0) hx hb dX8_bytes_0 (by decide) ?_
  refine lv_istore_n (lv' := [(1, .int (Int32.ofInt 0)), (0, .ref (ad 14 1000))]) hx hb dX8_bytes_1 rfl hl (by decide) rfl (fun ls hl => ?_)
  exact j2 0 σ _ _ _ hP hD hS (lv_sub hl [1, 0] rfl) hw
def wpX8_directive (a1 : Int) (σ : ZS) (Q : Int → ZS → Prop) : Prop := (-2147483648 ≤ a1 ∧ a1 ≤ 2147483647) ∧ (a1 = 0 → wpX8_seg (zsI σ 14 4 ((zI σ 14 4) + 1)) (fun (x4 : Int) (σ5 : ZS) => (0 ≤ x4 ∧ x4 ≤ 1) ∧ Q x4 σ5)) ∧ (¬ a1 = 0 → (a1 = 1 → wpX8_named 2 0 (zsI σ 14 4 ((zI σ 14 4) + 1)) (fun (x8 : Int) (σ9 : ZS) => (0 ≤ x8 ∧ x8 ≤ 1) ∧ Q x8 σ9)) ∧ (¬ a1 = 1 → (a1 = 2 → wpX8_named 3 0 (zsI σ 14 4 ((zI σ 14 4) + 1)) (fun (x12 : Int) (σ13 : ZS) => (0 ≤ x12 ∧ x12 ≤ 1) ∧ Q x12 σ13)) ∧ (¬ a1 = 2 → (a1 = 3 → wpX8_words (zsI σ 14 4 ((zI σ 14 4) + 1)) (fun (x16 : Int) (σ17 : ZS) => (0 ≤ x16 ∧ x16 ≤ 1) ∧ Q x16 σ17)) ∧ (¬ a1 = 3 → (a1 = 4 → wpX8_bytes (zsI σ 14 4 ((zI σ 14 4) + 1)) (fun (x20 : Int) (σ21 : ZS) => (0 ≤ x20 ∧ x20 ≤ 1) ∧ Q x20 σ21)) ∧ (¬ a1 = 4 → wpX8_numbered 5 65 (zsI σ 14 4 ((zI σ 14 4) + 1)) (fun (x23 : Int) (σ24 : ZS) => (0 ≤ x23 ∧ x23 ≤ 1) ∧ Q x23 σ24))))))
set_option maxHeartbeats 4000000 in
set_option maxRecDepth 100000 in
theorem kX8_directive (l : Launch) (D : va_G) (dA : Nat → ClassId) (ad : Int → Nat → Nat) (a1 : Int) (σ : ZS) (Q : Int → ZS → Prop) (sz : Nat) (hw : wpX8_directive a1 σ Q) : Met l yX8_directive (gws yX8_directive cX8_directive 2 (some .boolean)) (gR 5 0 0) (gPre D dA [.ref (ad 14 1000), .int (Int32.ofInt a1)] (zC dA ad σ) sz) (va_Qi (zQi Q) (gAt D dA (va_A (zC dA ad σ) sz) (zC dA ad)) (va_A (zC dA ad σ) sz)) 0 0 (va_A (zC dA ad σ) sz) := by
  refine Met.ofW (cc := cX8_directive) (maxL := 2) (ret := (some .boolean)) (by decide) rfl ?_
  intro p e s m args below meth c s₁ B hml hv
  obtain ⟨rfl, hsz, hP, hK, hD0⟩ := hv
  have hx := B.exec
  have hb := B.bytes
  have hr := B.returns
  have hts := atoms_spec (ws := gws yX8_directive cX8_directive 2 (some .boolean)) B.pre
  have hg : ∀ w ∈ gw, w.before _ s = true := fun w h => hts w (List.mem_cons_of_mem _ h)
  have hown : s.vm.findClass RX8 = some m.cls := findClass_of_methodNamed B.named
  have hlocks := B.notSynchronized
  subst hsz
  have hD := hD0.self (sz := s.heap.size)
  generalize hAe : va_A (zC dA ad σ) s.heap.size = A at hD ⊢
  have hA : ∀ q : Nat, s.heap.size ≤ q → A q := fun q h => by rw [← hAe]; exact Or.inr h
  have hS : va_S A s.heap s.heap [] := va_S.rf
  have hl := lv_entry ([.ref (ad 14 1000), .int (Int32.ofInt a1)]) (n := 2) (Nat.le_of_ble_eq_true rfl)
  rw [lg_entry_eq]
  generalize (lg_sl ([.ref (ad 14 1000), .int (Int32.ofInt a1)]) ++ List.replicate (2 - (lg_sl ([.ref (ad 14 1000), .int (Int32.ofInt a1)])).length) Slot.unset).toArray = ls at hl ⊢
  have hl : lv_has ls 2 [(0, .ref (ad 14 1000)), (1, .int (Int32.ofInt a1))] := hl
  have hret : ∀ (v : Int) (σ : ZS) (H : Heap) (locs : List Loc) (ls : Array Slot) (pc : Nat), (0 ≤ v ∧ v ≤ 1) → Q v σ → va_P D vwC (zC dA ad σ) H → va_D A (zC dA ad σ) → va_S A s.heap H locs → decode cX8_directive pc = .ok (.ireturn, 1) → W p l e (gR 5 0 0) s m #[.ref (ad 14 1000), .int (Int32.ofInt a1)] below meth c H locs 0 0 (MQ below (va_Qi (zQi Q) (gAt D dA A (zC dA ad)) A) #[.ref (ad 14 1000), .int (Int32.ofInt a1)] s 0 0 A) (F0 m pc ls [.int (Int32.ofInt v)]) := fun v σ H locs ls pc hv hw hP hD hS hd => g_iret hx hb hr (z_nb hv) hlocks hK σ hP hD hS ⟨v, rfl, hw⟩ (Nat.le_of_ble_eq_true rfl) (Nat.le_of_ble_eq_true rfl) hd
  generalize MQ below (va_Qi (zQi Q) (gAt D dA A (zC dA ad)) A) #[.ref (ad 14 1000), .int (Int32.ofInt a1)] s 0 0 A = QQ at hret ⊢
  unfold wpX8_directive at hw
  refine lv_aload_n hx hb dX8_directive_0 rfl (lv_at hl 0 rfl) ?_
  refine lv_dup hx hb dX8_directive_1 rfl ?_
  refine zgC14_4 hx hb hg hown hK hP q350 dX8_directive_2 ?_
  refine lv_iconst (v := Int32.ofInt 1) hx hb dX8_directive_5 (by decide) ?_
  refine z_iadd hx hb dX8_directive_6 ?_
  refine zpC14_4 (v := ((zI σ 14 4) + 1)) hx hb hg hown hK hP hD hS q350 dX8_directive_7 (fun H locs hP hD hS => ?_)
  refine lv_iload_n hx hb dX8_directive_10 rfl (lv_at hl 1 rfl) ?_
  obtain ⟨o1, hw⟩ := hw
  have t2 := z_ti o1
  by_cases s3 : a1 = 0
  · replace hw := hw.1 s3
    refine lv_tableIn (tgt := 44) hx hb dX8_directive_11 (by rw [t2, s3]; decide) (by rw [t2, s3]; decide) (by rw [t2, s3]; rfl) (by decide) ?_
    refine lv_aload_n hx hb dX8_directive_44 rfl (lv_at hl 0 rfl) ?_
    refine z_Vi (n := 0) (As := []) (rest := []) hx hb hml hg hown hK hP hD hS hA (kX8_seg l D dA ad (zsI σ 14 4 ((zI σ 14 4) + 1)) _ _ hw) (zoC14) rfl q980 q153 q977 q979 q12 (by decide +kernel) ⟨(Nat.le_of_ble_eq_true rfl), (Nat.le_of_ble_eq_true rfl)⟩ rfl hl.1 rfl (Nat.le_of_ble_eq_true rfl) dX8_directive_45 ⟨(Nat.le_of_ble_eq_true rfl), (Nat.le_of_ble_eq_true rfl)⟩ (fun x4 σ5 H locs hw hP hD hS => ?_)
    obtain ⟨o6, hw⟩ := hw
    exact hret x4 σ5 _ _ _ _ o6 hw hP hD hS dX8_directive_48
  replace hw := hw.2 s3
  by_cases s7 : a1 = 1
  · replace hw := hw.1 s7
    refine lv_tableIn (tgt := 49) hx hb dX8_directive_11 (by rw [t2, s7]; decide) (by rw [t2, s7]; decide) (by rw [t2, s7]; rfl) (by decide) ?_
    refine lv_aload_n hx hb dX8_directive_49 rfl (lv_at hl 0 rfl) ?_
    refine lv_iconst (v := Int32.ofInt 2) hx hb dX8_directive_50 (by decide) ?_
    refine lv_iconst (v := Int32.ofInt 0) hx hb dX8_directive_51 (by decide) ?_
    refine z_Vi (n := 2) (As := [.int (Int32.ofInt 2), .int (Int32.ofInt 0)]) (rest := []) hx hb hml hg hown hK hP hD hS hA (kX8_named l D dA ad 2 0 (zsI σ 14 4 ((zI σ 14 4) + 1)) _ _ hw) (zoC14) rfl q993 q153 q990 q992 q13 (by decide +kernel) ⟨(Nat.le_of_ble_eq_true rfl), (Nat.le_of_ble_eq_true rfl)⟩ rfl hl.1 rfl (Nat.le_of_ble_eq_true rfl) dX8_directive_52 ⟨(Nat.le_of_ble_eq_true rfl), (Nat.le_of_ble_eq_true rfl)⟩ (fun x8 σ9 H locs hw hP hD hS => ?_)
    obtain ⟨o10, hw⟩ := hw
    exact hret x8 σ9 _ _ _ _ o10 hw hP hD hS dX8_directive_55
  replace hw := hw.2 s7
  by_cases s11 : a1 = 2
  · replace hw := hw.1 s11
    refine lv_tableIn (tgt := 56) hx hb dX8_directive_11 (by rw [t2, s11]; decide) (by rw [t2, s11]; decide) (by rw [t2, s11]; rfl) (by decide) ?_
    refine lv_aload_n hx hb dX8_directive_56 rfl (lv_at hl 0 rfl) ?_
    refine lv_iconst (v := Int32.ofInt 3) hx hb dX8_directive_57 (by decide) ?_
    refine lv_iconst (v := Int32.ofInt 0) hx hb dX8_directive_58 (by decide) ?_
    refine z_Vi (n := 2) (As := [.int (Int32.ofInt 3), .int (Int32.ofInt 0)]) (rest := []) hx hb hml hg hown hK hP hD hS hA (kX8_named l D dA ad 3 0 (zsI σ 14 4 ((zI σ 14 4) + 1)) _ _ hw) (zoC14) rfl q993 q153 q990 q992 q13 (by decide +kernel) ⟨(Nat.le_of_ble_eq_true rfl), (Nat.le_of_ble_eq_true rfl)⟩ rfl hl.1 rfl (Nat.le_of_ble_eq_true rfl) dX8_directive_59 ⟨(Nat.le_of_ble_eq_true rfl), (Nat.le_of_ble_eq_true rfl)⟩ (fun x12 σ13 H locs hw hP hD hS => ?_)
    obtain ⟨o14, hw⟩ := hw
    exact hret x12 σ13 _ _ _ _ o14 hw hP hD hS dX8_directive_62
  replace hw := hw.2 s11
  by_cases s15 : a1 = 3
  · replace hw := hw.1 s15
    refine lv_tableIn (tgt := 63) hx hb dX8_directive_11 (by rw [t2, s15]; decide) (by rw [t2, s15]; decide) (by rw [t2, s15]; rfl) (by decide) ?_
    refine lv_aload_n hx hb dX8_directive_63 rfl (lv_at hl 0 rfl) ?_
    refine z_Vi (n := 0) (As := []) (rest := []) hx hb hml hg hown hK hP hD hS hA (kX8_words l D dA ad (zsI σ 14 4 ((zI σ 14 4) + 1)) _ _ hw) (zoC14) rfl q997 q153 q994 q996 q14 (by decide +kernel) ⟨(Nat.le_of_ble_eq_true rfl), (Nat.le_of_ble_eq_true rfl)⟩ rfl hl.1 rfl (Nat.le_of_ble_eq_true rfl) dX8_directive_64 ⟨(Nat.le_of_ble_eq_true rfl), (Nat.le_of_ble_eq_true rfl)⟩ (fun x16 σ17 H locs hw hP hD hS => ?_)
    obtain ⟨o18, hw⟩ := hw
    exact hret x16 σ17 _ _ _ _ o18 hw hP hD hS dX8_directive_67
  replace hw := hw.2 s15
  by_cases s19 : a1 = 4
  · replace hw := hw.1 s19
    refine lv_tableIn (tgt := 68) hx hb dX8_directive_11 (by rw [t2, s19]; decide) (by rw [t2, s19]; decide) (by rw [t2, s19]; rfl) (by decide) ?_
    refine lv_aload_n hx hb dX8_directive_68 rfl (lv_at hl 0 rfl) ?_
    refine z_Vi (n := 0) (As := []) (rest := []) hx hb hml hg hown hK hP hD hS hA (kX8_bytes l D dA ad (zsI σ 14 4 ((zI σ 14 4) + 1)) _ _ hw) (zoC14) rfl q1028 q153 q1025 q1027 q20 (by decide +kernel) ⟨(Nat.le_of_ble_eq_true rfl), (Nat.le_of_ble_eq_true rfl)⟩ rfl hl.1 rfl (Nat.le_of_ble_eq_true rfl) dX8_directive_69 ⟨(Nat.le_of_ble_eq_true rfl), (Nat.le_of_ble_eq_true rfl)⟩ (fun x20 σ21 H locs hw hP hD hS => ?_)
    obtain ⟨o22, hw⟩ := hw
    exact hret x20 σ21 _ _ _ _ o22 hw hP hD hS dX8_directive_72
  replace hw := hw.2 s19
  refine lv_tableOut (tgt := 73) hx hb dX8_directive_11 (by rw [t2]; clear hw; omega) (by decide) ?_
  refine lv_aload_n hx hb dX8_directive_73 rfl (lv_at hl 0 rfl) ?_
  refine lv_iconst (v := Int32.ofInt 5) hx hb dX8_directive_74 (by decide) ?_
  refine lv_bipush (v := Int32.ofInt 65) hx hb dX8_directive_75 (by decide) ?_
  refine z_Vi (n := 2) (As := [.int (Int32.ofInt 5), .int (Int32.ofInt 65)]) (rest := []) hx hb hml hg hown hK hP hD hS hA (kX8_numbered l D dA ad 5 65 (zsI σ 14 4 ((zI σ 14 4) + 1)) _ _ hw) (zoC14) rfl q1032 q153 q1029 q1031 q21 (by decide +kernel) ⟨(Nat.le_of_ble_eq_true rfl), (Nat.le_of_ble_eq_true rfl)⟩ rfl hl.1 rfl (Nat.le_of_ble_eq_true rfl) dX8_directive_77 ⟨(Nat.le_of_ble_eq_true rfl), (Nat.le_of_ble_eq_true rfl)⟩ (fun x23 σ24 H locs hw hP hD hS => ?_)
  obtain ⟨o25, hw⟩ := hw
  exact hret x23 σ24 _ _ _ _ o25 hw hP hD hS dX8_directive_80
def wpX0_addByte (a1 : Int) (σ : ZS) (Q : ZS → Prop) : Prop := wpX0_add 4 (a1 % 256) (-1) (-1) (-1) σ (fun (σ2 : ZS) => Q σ2)
set_option maxHeartbeats 4000000 in
set_option maxRecDepth 100000 in
theorem kX0_addByte (l : Launch) (D : va_G) (dA : Nat → ClassId) (ad : Int → Nat → Nat) (a1 : Int) (σ : ZS) (Q : ZS → Prop) (sz : Nat) (hw : wpX0_addByte a1 σ Q) : Met l yX0_addByte (gws yX0_addByte cX0_addByte 2 none) (gR 2 0 0) (gPre D dA [.ref (ad 13 1000), .int (Int32.ofInt a1)] (zC dA ad σ) sz) (va_Qv Q (gAt D dA (va_A (zC dA ad σ) sz) (zC dA ad)) (va_A (zC dA ad σ) sz)) 0 0 (va_A (zC dA ad σ) sz) := by
  refine Met.ofW (cc := cX0_addByte) (maxL := 2) (ret := none) (by decide) rfl ?_
  intro p e s m args below meth c s₁ B hml hv
  obtain ⟨rfl, hsz, hP, hK, hD0⟩ := hv
  have hx := B.exec
  have hb := B.bytes
  have hr := B.returns
  have hts := atoms_spec (ws := gws yX0_addByte cX0_addByte 2 none) B.pre
  have hg : ∀ w ∈ gw, w.before _ s = true := fun w h => hts w (List.mem_cons_of_mem _ h)
  have hown : s.vm.findClass RX0 = some m.cls := findClass_of_methodNamed B.named
  have hlocks := B.notSynchronized
  subst hsz
  have hD := hD0.self (sz := s.heap.size)
  generalize hAe : va_A (zC dA ad σ) s.heap.size = A at hD ⊢
  have hA : ∀ q : Nat, s.heap.size ≤ q → A q := fun q h => by rw [← hAe]; exact Or.inr h
  have hS : va_S A s.heap s.heap [] := va_S.rf
  have hl := lv_entry ([.ref (ad 13 1000), .int (Int32.ofInt a1)]) (n := 2) (Nat.le_of_ble_eq_true rfl)
  rw [lg_entry_eq]
  generalize (lg_sl ([.ref (ad 13 1000), .int (Int32.ofInt a1)]) ++ List.replicate (2 - (lg_sl ([.ref (ad 13 1000), .int (Int32.ofInt a1)])).length) Slot.unset).toArray = ls at hl ⊢
  have hl : lv_has ls 2 [(0, .ref (ad 13 1000)), (1, .int (Int32.ofInt a1))] := hl
  have hret : ∀ (σ : ZS) (H : Heap) (locs : List Loc) (ls : Array Slot) (pc : Nat), Q σ → va_P D vwC (zC dA ad σ) H → va_D A (zC dA ad σ) → va_S A s.heap H locs → decode cX0_addByte pc = .ok (.return_, 1) → W p l e (gR 2 0 0) s m #[.ref (ad 13 1000), .int (Int32.ofInt a1)] below meth c H locs 0 0 (MQ below (va_Qv Q (gAt D dA A (zC dA ad)) A) #[.ref (ad 13 1000), .int (Int32.ofInt a1)] s 0 0 A) (F0 m pc ls []) := fun σ H locs ls pc hw hP hD hS hd => g_vret hx hb hr hlocks hK σ hP hD hS hw (Nat.le_of_ble_eq_true rfl) (Nat.le_of_ble_eq_true rfl) hd
  generalize MQ below (va_Qv Q (gAt D dA A (zC dA ad)) A) #[.ref (ad 13 1000), .int (Int32.ofInt a1)] s 0 0 A = QQ at hret ⊢
  unfold wpX0_addByte at hw
  refine lv_aload_n hx hb dX0_addByte_0 rfl (lv_at hl 0 rfl) ?_
  refine lv_iconst (v := Int32.ofInt 4) hx hb dX0_addByte_1 (by decide) ?_
  refine lv_iload_n hx hb dX0_addByte_2 rfl (lv_at hl 1 rfl) ?_
  refine lv_sipush (v := Int32.ofInt 255) hx hb dX0_addByte_3 (by decide) ?_
  refine z_iandK (M := 256) hx hb 8 (by decide) (by decide) (by decide) dX0_addByte_6 ?_
  refine lv_iconst (v := Int32.ofInt (-1)) hx hb dX0_addByte_7 (by decide) ?_
  refine lv_iconst (v := Int32.ofInt (-1)) hx hb dX0_addByte_8 (by decide) ?_
  refine lv_iconst (v := Int32.ofInt (-1)) hx hb dX0_addByte_9 (by decide) ?_
  refine z_Vv (n := 5) (As := [.int (Int32.ofInt 4), .int (Int32.ofInt (a1 % 256)), .int (Int32.ofInt (-1)), .int (Int32.ofInt (-1)), .int (Int32.ofInt (-1))]) (rest := []) hx hb hml hg hown hK hP hD hS hA (kX0_add l D dA ad 4 (a1 % 256) (-1) (-1) (-1) σ _ _ hw) (zoC13) rfl q962 q152 q1024 q960 q961 (by decide +kernel) ⟨(Nat.le_of_ble_eq_true rfl), (Nat.le_of_ble_eq_true rfl)⟩ rfl hl.1 rfl (Nat.le_of_ble_eq_true rfl) dX0_addByte_10 ⟨(Nat.le_of_ble_eq_true rfl), (Nat.le_of_ble_eq_true rfl)⟩ (fun σ2 H locs hw hP hD hS => ?_)
  exact hret σ2 _ _ _ _ hw hP hD hS dX0_addByte_13
def wpX7_isBare_19 (s0 : Int) (σ : ZS) (Q : Int → ZS → Prop) : Prop := (0 ≤ s0 ∧ s0 ≤ 1) ∧ Q s0 σ
def wpX7_isBare_18 (σ : ZS) (Q : Int → ZS → Prop) : Prop := wpX7_isBare_19 0 σ Q
def wpX7_isBare (g0 : Int) (σ : ZS) (Q : Int → ZS → Prop) : Prop := (5 ≤ g0 ∧ g0 ≤ 6) ∧ (-2147483648 ≤ (zI σ g0 6) ∧ (zI σ g0 6) ≤ 2147483647) ∧ (¬ (zI σ g0 6) = 0 → wpX7_isBare_18 σ Q) ∧ ((zI σ g0 6) = 0 → (-2147483648 ≤ (zI σ g0 7) ∧ (zI σ g0 7) ≤ 2147483647) ∧ (¬ (zI σ g0 7) = 0 → wpX7_isBare_18 σ Q) ∧ ((zI σ g0 7) = 0 → wpX7_isBare_19 1 σ Q))
set_option maxHeartbeats 4000000 in
set_option maxRecDepth 100000 in
theorem kX7_isBare (l : Launch) (D : va_G) (dA : Nat → ClassId) (ad : Int → Nat → Nat) (g0 : Int) (σ : ZS) (Q : Int → ZS → Prop) (sz : Nat) (hw : wpX7_isBare g0 σ Q) : Met l yX7_isBare (gws yX7_isBare cX7_isBare 1 (some .boolean)) (gR 1 0 0) (gPre D dA [.ref (ad g0 1000)] (zC dA ad σ) sz) (va_Qi (zQi Q) (gAt D dA (va_A (zC dA ad σ) sz) (zC dA ad)) (va_A (zC dA ad σ) sz)) 0 0 (va_A (zC dA ad σ) sz) := by
  refine Met.ofW (cc := cX7_isBare) (maxL := 1) (ret := (some .boolean)) (by decide) rfl ?_
  intro p e s m args below meth c s₁ B hml hv
  obtain ⟨rfl, hsz, hP, hK, hD0⟩ := hv
  have hx := B.exec
  have hb := B.bytes
  have hr := B.returns
  have hts := atoms_spec (ws := gws yX7_isBare cX7_isBare 1 (some .boolean)) B.pre
  have hg : ∀ w ∈ gw, w.before _ s = true := fun w h => hts w (List.mem_cons_of_mem _ h)
  have hown : s.vm.findClass RX7 = some m.cls := findClass_of_methodNamed B.named
  have hlocks := B.notSynchronized
  subst hsz
  have hD := hD0.self (sz := s.heap.size)
  generalize hAe : va_A (zC dA ad σ) s.heap.size = A at hD ⊢
  have hA : ∀ q : Nat, s.heap.size ≤ q → A q := fun q h => by rw [← hAe]; exact Or.inr h
  have hS : va_S A s.heap s.heap [] := va_S.rf
  have hl := lv_entry ([.ref (ad g0 1000)]) (n := 1) (Nat.le_of_ble_eq_true rfl)
  rw [lg_entry_eq]
  generalize (lg_sl ([.ref (ad g0 1000)]) ++ List.replicate (1 - (lg_sl ([.ref (ad g0 1000)])).length) Slot.unset).toArray = ls at hl ⊢
  have hl : lv_has ls 1 [(0, .ref (ad g0 1000))] := hl
  have hret : ∀ (v : Int) (σ : ZS) (H : Heap) (locs : List Loc) (ls : Array Slot) (pc : Nat), (0 ≤ v ∧ v ≤ 1) → Q v σ → va_P D vwC (zC dA ad σ) H → va_D A (zC dA ad σ) → va_S A s.heap H locs → decode cX7_isBare pc = .ok (.ireturn, 1) → W p l e (gR 1 0 0) s m #[.ref (ad g0 1000)] below meth c H locs 0 0 (MQ below (va_Qi (zQi Q) (gAt D dA A (zC dA ad)) A) #[.ref (ad g0 1000)] s 0 0 A) (F0 m pc ls [.int (Int32.ofInt v)]) := fun v σ H locs ls pc hv hw hP hD hS hd => g_iret hx hb hr (z_nb hv) hlocks hK σ hP hD hS ⟨v, rfl, hw⟩ (Nat.le_of_ble_eq_true rfl) (Nat.le_of_ble_eq_true rfl) hd
  generalize MQ below (va_Qi (zQi Q) (gAt D dA A (zC dA ad)) A) #[.ref (ad g0 1000)] s 0 0 A = QQ at hret ⊢
  have j19 : ∀ (s0 : Int) (σ : ZS), ∀ (H : Heap) (locs : List Loc) (ls : Array Slot), va_P D vwC (zC dA ad σ) H → va_D A (zC dA ad σ) → va_S A s.heap H locs → lv_has ls 1 [] → wpX7_isBare_19 s0 σ Q → W p l e (gR 1 0 0) s m #[.ref (ad g0 1000)] below meth c H locs 0 0 QQ (F0 m 19 ls [.int (Int32.ofInt s0)]) := by
    intro s0 σ H locs ls hP hD hS hl hw
    unfold wpX7_isBare_19 at hw
    obtain ⟨o1, hw⟩ := hw
    exact hret s0 σ _ _ _ _ o1 hw hP hD hS dX7_isBare_19
  have j18 : ∀ (σ : ZS), ∀ (H : Heap) (locs : List Loc) (ls : Array Slot), va_P D vwC (zC dA ad σ) H → va_D A (zC dA ad σ) → va_S A s.heap H locs → lv_has ls 1 [] → wpX7_isBare_18 σ Q → W p l e (gR 1 0 0) s m #[.ref (ad g0 1000)] below meth c H locs 0 0 QQ (F0 m 18 ls []) := by
    intro σ H locs ls hP hD hS hl hw
    unfold wpX7_isBare_18 at hw
    refine lv_iconst (v := Int32.ofInt 0) hx hb dX7_isBare_18 (by decide) ?_
    exact j19 0 σ _ _ _ hP hD hS (lv_sub hl [] rfl) hw
  unfold wpX7_isBare at hw
  refine lv_aload_n hx hb dX7_isBare_0 rfl (lv_at hl 0 rfl) ?_
  obtain ⟨o2, hw⟩ := hw
  refine zgCO_6 hx hb hg hown o2 hK hP q325 dX7_isBare_1 ?_
  obtain ⟨o3, hw⟩ := hw
  refine z_if_ne (tgt := 18) hx hb o3 dX7_isBare_4 (by decide) (fun k4 => ?_) (fun k4 => ?_)
  · replace hw := hw.1 k4
    exact j18 σ _ _ _ hP hD hS (lv_sub hl [] rfl) hw
  · replace hw := hw.2 k4
    refine lv_aload_n hx hb dX7_isBare_7 rfl (lv_at hl 0 rfl) ?_
    refine zgCO_7 hx hb hg hown o2 hK hP q327 dX7_isBare_8 ?_
    obtain ⟨o5, hw⟩ := hw
    refine z_if_ne (tgt := 18) hx hb o5 dX7_isBare_11 (by decide) (fun k6 => ?_) (fun k6 => ?_)
    · replace hw := hw.1 k6
      exact j18 σ _ _ _ hP hD hS (lv_sub hl [] rfl) hw
    · replace hw := hw.2 k6
      refine lv_iconst (v := Int32.ofInt 1) hx hb dX7_isBare_14 (by decide) ?_
      refine lv_goto (tgt := 19) hx hb dX7_isBare_15 (by decide) ?_
      exact j19 1 σ _ _ _ hP hD hS (lv_sub hl [] rfl) hw
