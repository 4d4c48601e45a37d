theorem q81 : Cond.selects RX11 yX11_item yX11_item ∈ gw := gw_in (i := 81) (by decide +kernel) rfl
theorem q87 : Cond.selects RX11 yX11_label yX11_label ∈ gw := gw_in (i := 87) (by decide +kernel) rfl
theorem q89 : Cond.selects RX11 yX11_directive yX11_directive ∈ gw := gw_in (i := 89) (by decide +kernel) rfl
theorem q96 : Cond.selects RX11 yX11_instruction yX11_instruction ∈ gw := gw_in (i := 96) (by decide +kernel) rfl
theorem q97 : Cond.selects RX11 yX11_mov yX11_mov ∈ gw := gw_in (i := 97) (by decide +kernel) rfl
theorem q105 : Cond.selects RX11 yX11_reckon yX11_reckon ∈ gw := gw_in (i := 105) (by decide +kernel) rfl
theorem q106 : Cond.selects RX11 yX11_stack yX11_stack ∈ gw := gw_in (i := 106) (by decide +kernel) rfl
theorem q107 : Cond.selects RX11 yX11_single yX11_single ∈ gw := gw_in (i := 107) (by decide +kernel) rfl
theorem q108 : Cond.selects RX11 yX11_jump yX11_jump ∈ gw := gw_in (i := 108) (by decide +kernel) rfl
theorem q113 : Cond.selects RX11 yX11_sizeOf yX11_sizeOf ∈ gw := gw_in (i := 113) (by decide +kernel) rfl
theorem q1631 : Cond.fieldLink RX11 132 "SegmentBenchModel" "offsetOf" "[I" ∈ gw := gw_in (i := 1631) (by decide +kernel) rfl
theorem q1644 : Cond.fieldLink RX11 162 "SegmentBenchModel" "pieceAt" "[I" ∈ gw := gw_in (i := 1644) (by decide +kernel) rfl
theorem q1651 : Cond.fieldLink RX11 172 "SegmentBenchModel" "segSize" "[I" ∈ gw := gw_in (i := 1651) (by decide +kernel) rfl
theorem q1908 : Cond.methodLink RX11 433 yX11_item ∈ gw := gw_in (i := 1908) (by decide +kernel) rfl
theorem q1910 : Cond.instanceMethod yX11_item ∈ gw := gw_in (i := 1910) (by decide +kernel) rfl
theorem q1911 : Cond.code yX11_item cX11_item 3 (some .boolean) ∈ gw := gw_in (i := 1911) (by decide +kernel) rfl
theorem q1932 : Cond.methodLink RX11 423 yX11_label ∈ gw := gw_in (i := 1932) (by decide +kernel) rfl
theorem q1934 : Cond.instanceMethod yX11_label ∈ gw := gw_in (i := 1934) (by decide +kernel) rfl
theorem q1935 : Cond.code yX11_label cX11_label 3 none ∈ gw := gw_in (i := 1935) (by decide +kernel) rfl
theorem q1940 : Cond.methodLink RX11 427 yX11_directive ∈ gw := gw_in (i := 1940) (by decide +kernel) rfl
theorem q1942 : Cond.instanceMethod yX11_directive ∈ gw := gw_in (i := 1942) (by decide +kernel) rfl
theorem q1943 : Cond.code yX11_directive cX11_directive 4 (some .boolean) ∈ gw := gw_in (i := 1943) (by decide +kernel) rfl
theorem q1968 : Cond.methodLink RX11 430 yX11_instruction ∈ gw := gw_in (i := 1968) (by decide +kernel) rfl
theorem q1970 : Cond.instanceMethod yX11_instruction ∈ gw := gw_in (i := 1970) (by decide +kernel) rfl
theorem q1971 : Cond.code yX11_instruction cX11_instruction 3 (some .boolean) ∈ gw := gw_in (i := 1971) (by decide +kernel) rfl
theorem q1972 : Cond.methodLink RX11 408 yX11_mov ∈ gw := gw_in (i := 1972) (by decide +kernel) rfl
theorem q1974 : Cond.instanceMethod yX11_mov ∈ gw := gw_in (i := 1974) (by decide +kernel) rfl
theorem q1975 : Cond.code yX11_mov cX11_mov 10 (some .boolean) ∈ gw := gw_in (i := 1975) (by decide +kernel) rfl
theorem q2004 : Cond.methodLink RX11 411 yX11_reckon ∈ gw := gw_in (i := 2004) (by decide +kernel) rfl
theorem q2006 : Cond.instanceMethod yX11_reckon ∈ gw := gw_in (i := 2006) (by decide +kernel) rfl
theorem q2007 : Cond.code yX11_reckon cX11_reckon 10 (some .boolean) ∈ gw := gw_in (i := 2007) (by decide +kernel) rfl
theorem q2008 : Cond.methodLink RX11 414 yX11_stack ∈ gw := gw_in (i := 2008) (by decide +kernel) rfl
theorem q2010 : Cond.instanceMethod yX11_stack ∈ gw := gw_in (i := 2010) (by decide +kernel) rfl
theorem q2011 : Cond.code yX11_stack cX11_stack 3 (some .boolean) ∈ gw := gw_in (i := 2011) (by decide +kernel) rfl
theorem q2012 : Cond.methodLink RX11 417 yX11_single ∈ gw := gw_in (i := 2012) (by decide +kernel) rfl
theorem q2014 : Cond.instanceMethod yX11_single ∈ gw := gw_in (i := 2014) (by decide +kernel) rfl
theorem q2015 : Cond.code yX11_single cX11_single 2 (some .boolean) ∈ gw := gw_in (i := 2015) (by decide +kernel) rfl
theorem q2016 : Cond.methodLink RX11 420 yX11_jump ∈ gw := gw_in (i := 2016) (by decide +kernel) rfl
theorem q2018 : Cond.instanceMethod yX11_jump ∈ gw := gw_in (i := 2018) (by decide +kernel) rfl
theorem q2019 : Cond.code yX11_jump cX11_jump 5 (some .boolean) ∈ gw := gw_in (i := 2019) (by decide +kernel) rfl
theorem q2020 : Cond.methodLink RX11 405 yX11_jumpCode ∈ gw := gw_in (i := 2020) (by decide +kernel) rfl
theorem q2021 : Cond.static yX11_jumpCode ∈ gw := gw_in (i := 2021) (by decide +kernel) rfl
theorem q2022 : Cond.code yX11_jumpCode cX11_jumpCode 1 (some .int) ∈ gw := gw_in (i := 2022) (by decide +kernel) rfl
theorem q2039 : Cond.methodLink RX11 436 yX11_sizeOf ∈ gw := gw_in (i := 2039) (by decide +kernel) rfl
theorem q2041 : Cond.instanceMethod yX11_sizeOf ∈ gw := gw_in (i := 2041) (by decide +kernel) rfl
theorem q2042 : Cond.code yX11_sizeOf cX11_sizeOf 2 (some .int) ∈ gw := gw_in (i := 2042) (by decide +kernel) rfl
theorem dX11_jumpCode_0 : decode cX11_jumpCode 0 = .ok (.iload_n 0, 1) := by decide +kernel
theorem dX11_jumpCode_1 : decode cX11_jumpCode 1 = .ok (.tableswitch 57 35 40 #[39, 42, 45, 48, 51, 54], 39) := by decide +kernel
theorem dX11_jumpCode_40 : decode cX11_jumpCode 40 = .ok (.bipush 114, 2) := by decide +kernel
theorem dX11_jumpCode_42 : decode cX11_jumpCode 42 = .ok (.ireturn, 1) := by decide +kernel
theorem dX11_jumpCode_43 : decode cX11_jumpCode 43 = .ok (.bipush 115, 2) := by decide +kernel
theorem dX11_jumpCode_45 : decode cX11_jumpCode 45 = .ok (.ireturn, 1) := by decide +kernel
theorem dX11_jumpCode_46 : decode cX11_jumpCode 46 = .ok (.bipush 116, 2) := by decide +kernel
theorem dX11_jumpCode_48 : decode cX11_jumpCode 48 = .ok (.ireturn, 1) := by decide +kernel
theorem dX11_jumpCode_49 : decode cX11_jumpCode 49 = .ok (.bipush 117, 2) := by decide +kernel
theorem dX11_jumpCode_51 : decode cX11_jumpCode 51 = .ok (.ireturn, 1) := by decide +kernel
theorem dX11_jumpCode_52 : decode cX11_jumpCode 52 = .ok (.bipush 120, 2) := by decide +kernel
theorem dX11_jumpCode_54 : decode cX11_jumpCode 54 = .ok (.ireturn, 1) := by decide +kernel
theorem dX11_jumpCode_55 : decode cX11_jumpCode 55 = .ok (.bipush 121, 2) := by decide +kernel
theorem dX11_jumpCode_57 : decode cX11_jumpCode 57 = .ok (.ireturn, 1) := by decide +kernel
theorem dX11_jumpCode_58 : decode cX11_jumpCode 58 = .ok (.sipush 226, 3) := by decide +kernel
theorem dX11_jumpCode_61 : decode cX11_jumpCode 61 = .ok (.ireturn, 1) := by decide +kernel
theorem dX11_jump_0 : decode cX11_jump 0 = .ok (.aload_n 0, 1) := by decide +kernel
theorem dX11_jump_1 : decode cX11_jump 1 = .ok (.invokevirtual 337, 3) := by decide +kernel
theorem dX11_jump_4 : decode cX11_jump 4 = .ok (.ifCond .ne 8, 3) := by decide +kernel
theorem dX11_jump_12 : decode cX11_jump 12 = .ok (.aload_n 0, 1) := by decide +kernel
theorem dX11_jump_13 : decode cX11_jump 13 = .ok (.invokevirtual 340, 3) := by decide +kernel
theorem dX11_jump_16 : decode cX11_jump 16 = .ok (.istore_n 3, 1) := by decide +kernel
theorem dX11_jump_17 : decode cX11_jump 17 = .ok (.iload_n 1, 1) := by decide +kernel
theorem dX11_jump_18 : decode cX11_jump 18 = .ok (.bipush 43, 2) := by decide +kernel
theorem dX11_jump_20 : decode cX11_jump 20 = .ok (.if_icmp .ne 7, 3) := by decide +kernel
theorem dX11_jump_27 : decode cX11_jump 27 = .ok (.iload_n 1, 1) := by decide +kernel
theorem dX11_jump_28 : decode cX11_jump 28 = .ok (.bipush 34, 2) := by decide +kernel
theorem dX11_jump_30 : decode cX11_jump 30 = .ok (.if_icmp .eq 9, 3) := by decide +kernel
theorem dX11_jump_33 : decode cX11_jump 33 = .ok (.iload_n 1, 1) := by decide +kernel
theorem dX11_jump_34 : decode cX11_jump 34 = .ok (.bipush 42, 2) := by decide +kernel
theorem dX11_jump_36 : decode cX11_jump 36 = .ok (.if_icmp .ne 7, 3) := by decide +kernel
theorem dX11_jump_43 : decode cX11_jump 43 = .ok (.iconst 2, 1) := by decide +kernel
theorem dX11_jump_23 : decode cX11_jump 23 = .ok (.iconst 4, 1) := by decide +kernel
theorem dX11_jump_24 : decode cX11_jump 24 = .ok (.goto 20, 3) := by decide +kernel
theorem dX11_jump_7 : decode cX11_jump 7 = .ok (.aload_n 0, 1) := by decide +kernel
theorem dX11_jump_8 : decode cX11_jump 8 = .ok (.invokevirtual 301, 3) := by decide +kernel
theorem dX11_jump_11 : decode cX11_jump 11 = .ok (.ireturn, 1) := by decide +kernel
theorem dX11_jump_39 : decode cX11_jump 39 = .ok (.iconst 3, 1) := by decide +kernel
theorem dX11_jump_40 : decode cX11_jump 40 = .ok (.goto 4, 3) := by decide +kernel
theorem dX11_jump_44 : decode cX11_jump 44 = .ok (.istore 4, 2) := by decide +kernel
theorem dX11_jump_46 : decode cX11_jump 46 = .ok (.aload_n 0, 1) := by decide +kernel
theorem dX11_jump_47 : decode cX11_jump 47 = .ok (.iload 4, 2) := by decide +kernel
theorem dX11_jump_49 : decode cX11_jump 49 = .ok (.iload_n 3, 1) := by decide +kernel
theorem dX11_jump_50 : decode cX11_jump 50 = .ok (.aload_n 0, 1) := by decide +kernel
theorem dX11_jump_51 : decode cX11_jump 51 = .ok (.getfield 276, 3) := by decide +kernel
theorem dX11_jump_54 : decode cX11_jump 54 = .ok (.invokevirtual 344, 3) := by decide +kernel
theorem dX11_jump_57 : decode cX11_jump 57 = .ok (.aload_n 0, 1) := by decide +kernel
theorem dX11_jump_58 : decode cX11_jump 58 = .ok (.invokevirtual 305, 3) := by decide +kernel
theorem dX11_jump_61 : decode cX11_jump 61 = .ok (.iload 4, 2) := by decide +kernel
theorem dX11_jump_63 : decode cX11_jump 63 = .ok (.iconst 4, 1) := by decide +kernel
theorem dX11_jump_64 : decode cX11_jump 64 = .ok (.if_icmp .ne 29, 3) := by decide +kernel
theorem dX11_jump_93 : decode cX11_jump 93 = .ok (.iload 4, 2) := by decide +kernel
theorem dX11_jump_95 : decode cX11_jump 95 = .ok (.iconst 2, 1) := by decide +kernel
theorem dX11_jump_96 : decode cX11_jump 96 = .ok (.if_icmp .ne 17, 3) := by decide +kernel
theorem dX11_jump_113 : decode cX11_jump 113 = .ok (.aload_n 0, 1) := by decide +kernel
theorem dX11_jump_114 : decode cX11_jump 114 = .ok (.iload_n 1, 1) := by decide +kernel
theorem dX11_jump_115 : decode cX11_jump 115 = .ok (.bipush 34, 2) := by decide +kernel
theorem dX11_jump_117 : decode cX11_jump 117 = .ok (.if_icmp .ne 7, 3) := by decide +kernel
theorem dX11_jump_124 : decode cX11_jump 124 = .ok (.bipush 6, 2) := by decide +kernel
theorem dX11_jump_120 : decode cX11_jump 120 = .ok (.iconst 4, 1) := by decide +kernel
theorem dX11_jump_121 : decode cX11_jump 121 = .ok (.goto 5, 3) := by decide +kernel
theorem dX11_jump_99 : decode cX11_jump 99 = .ok (.aload_n 0, 1) := by decide +kernel
theorem dX11_jump_100 : decode cX11_jump 100 = .ok (.iconst 5, 1) := by decide +kernel
theorem dX11_jump_101 : decode cX11_jump 101 = .ok (.iload_n 3, 1) := by decide +kernel
theorem dX11_jump_102 : decode cX11_jump 102 = .ok (.iload_n 1, 1) := by decide +kernel
theorem dX11_jump_103 : decode cX11_jump 103 = .ok (.invokestatic 405, 3) := by decide +kernel
theorem dX11_jump_106 : decode cX11_jump 106 = .ok (.iload_n 2, 1) := by decide +kernel
theorem dX11_jump_107 : decode cX11_jump 107 = .ok (.invokevirtual 327, 3) := by decide +kernel
theorem dX11_jump_110 : decode cX11_jump 110 = .ok (.goto 22, 3) := by decide +kernel
theorem dX11_jump_67 : decode cX11_jump 67 = .ok (.aload_n 0, 1) := by decide +kernel
theorem dX11_jump_68 : decode cX11_jump 68 = .ok (.sipush 154, 3) := by decide +kernel
theorem dX11_jump_71 : decode cX11_jump 71 = .ok (.invokevirtual 354, 3) := by decide +kernel
theorem dX11_jump_74 : decode cX11_jump 74 = .ok (.aload_n 0, 1) := by decide +kernel
theorem dX11_jump_75 : decode cX11_jump 75 = .ok (.iconst 2, 1) := by decide +kernel
theorem dX11_jump_76 : decode cX11_jump 76 = .ok (.iload_n 3, 1) := by decide +kernel
theorem dX11_jump_77 : decode cX11_jump 77 = .ok (.iconst 0, 1) := by decide +kernel
theorem dX11_jump_78 : decode cX11_jump 78 = .ok (.iconst 0, 1) := by decide +kernel
theorem dX11_jump_79 : decode cX11_jump 79 = .ok (.invokevirtual 327, 3) := by decide +kernel
theorem dX11_jump_82 : decode cX11_jump 82 = .ok (.aload_n 0, 1) := by decide +kernel
theorem dX11_jump_83 : decode cX11_jump 83 = .ok (.iconst 3, 1) := by decide +kernel
theorem dX11_jump_84 : decode cX11_jump 84 = .ok (.iload_n 3, 1) := by decide +kernel
theorem dX11_jump_85 : decode cX11_jump 85 = .ok (.iconst 0, 1) := by decide +kernel
theorem dX11_jump_86 : decode cX11_jump 86 = .ok (.iconst 0, 1) := by decide +kernel
theorem dX11_jump_87 : decode cX11_jump 87 = .ok (.invokevirtual 327, 3) := by decide +kernel
theorem dX11_jump_90 : decode cX11_jump 90 = .ok (.goto 42, 3) := by decide +kernel
theorem dX11_jump_126 : decode cX11_jump 126 = .ok (.iload_n 3, 1) := by decide +kernel
theorem dX11_jump_127 : decode cX11_jump 127 = .ok (.iconst 0, 1) := by decide +kernel
theorem dX11_jump_128 : decode cX11_jump 128 = .ok (.iload_n 2, 1) := by decide +kernel
theorem dX11_jump_129 : decode cX11_jump 129 = .ok (.invokevirtual 327, 3) := by decide +kernel
theorem dX11_jump_132 : decode cX11_jump 132 = .ok (.iconst 1, 1) := by decide +kernel
theorem dX11_jump_133 : decode cX11_jump 133 = .ok (.ireturn, 1) := by decide +kernel
theorem dX11_instruction_0 : decode cX11_instruction 0 = .ok (.aload_n 0, 1) := by decide +kernel
theorem dX11_instruction_1 : decode cX11_instruction 1 = .ok (.getfield 293, 3) := by decide +kernel
theorem dX11_instruction_4 : decode cX11_instruction 4 = .ok (.istore_n 1, 1) := by decide +kernel
theorem dX11_instruction_5 : decode cX11_instruction 5 = .ok (.aload_n 0, 1) := by decide +kernel
theorem dX11_instruction_6 : decode cX11_instruction 6 = .ok (.getfield 276, 3) := by decide +kernel
theorem dX11_instruction_9 : decode cX11_instruction 9 = .ok (.istore_n 2, 1) := by decide +kernel
theorem dX11_instruction_10 : decode cX11_instruction 10 = .ok (.aload_n 0, 1) := by decide +kernel
theorem dX11_instruction_11 : decode cX11_instruction 11 = .ok (.invokevirtual 305, 3) := by decide +kernel
theorem dX11_instruction_14 : decode cX11_instruction 14 = .ok (.iload_n 1, 1) := by decide +kernel
theorem dX11_instruction_15 : decode cX11_instruction 15 = .ok (.bipush 18, 2) := by decide +kernel
theorem dX11_instruction_17 : decode cX11_instruction 17 = .ok (.if_icmp .ne 8, 3) := by decide +kernel
theorem dX11_instruction_25 : decode cX11_instruction 25 = .ok (.iload_n 1, 1) := by decide +kernel
theorem dX11_instruction_26 : decode cX11_instruction 26 = .ok (.bipush 24, 2) := by decide +kernel
theorem dX11_instruction_28 : decode cX11_instruction 28 = .ok (.if_icmp .gt 34, 3) := by decide +kernel
theorem dX11_instruction_62 : decode cX11_instruction 62 = .ok (.iload_n 1, 1) := by decide +kernel
theorem dX11_instruction_63 : decode cX11_instruction 63 = .ok (.bipush 28, 2) := by decide +kernel
theorem dX11_instruction_65 : decode cX11_instruction 65 = .ok (.if_icmp .gt 9, 3) := by decide +kernel
theorem dX11_instruction_74 : decode cX11_instruction 74 = .ok (.iload_n 1, 1) := by decide +kernel
theorem dX11_instruction_75 : decode cX11_instruction 75 = .ok (.bipush 33, 2) := by decide +kernel
theorem dX11_instruction_77 : decode cX11_instruction 77 = .ok (.if_icmp .gt 9, 3) := by decide +kernel
theorem dX11_instruction_86 : decode cX11_instruction 86 = .ok (.iload_n 1, 1) := by decide +kernel
theorem dX11_instruction_87 : decode cX11_instruction 87 = .ok (.bipush 43, 2) := by decide +kernel
theorem dX11_instruction_89 : decode cX11_instruction 89 = .ok (.if_icmp .gt 10, 3) := by decide +kernel
theorem dX11_instruction_99 : decode cX11_instruction 99 = .ok (.iload_n 1, 1) := by decide +kernel
theorem dX11_instruction_100 : decode cX11_instruction 100 = .ok (.bipush 46, 2) := by decide +kernel
theorem dX11_instruction_102 : decode cX11_instruction 102 = .ok (.if_icmp .ne 48, 3) := by decide +kernel
theorem dX11_instruction_150 : decode cX11_instruction 150 = .ok (.aload_n 0, 1) := by decide +kernel
theorem dX11_instruction_151 : decode cX11_instruction 151 = .ok (.iload_n 1, 1) := by decide +kernel
theorem dX11_instruction_152 : decode cX11_instruction 152 = .ok (.bipush 44, 2) := by decide +kernel
theorem dX11_instruction_154 : decode cX11_instruction 154 = .ok (.if_icmp .ne 9, 3) := by decide +kernel
theorem dX11_instruction_163 : decode cX11_instruction 163 = .ok (.iload_n 1, 1) := by decide +kernel
theorem dX11_instruction_164 : decode cX11_instruction 164 = .ok (.bipush 45, 2) := by decide +kernel
theorem dX11_instruction_166 : decode cX11_instruction 166 = .ok (.if_icmp .ne 9, 3) := by decide +kernel
theorem dX11_instruction_175 : decode cX11_instruction 175 = .ok (.sipush 244, 3) := by decide +kernel
theorem dX11_instruction_169 : decode cX11_instruction 169 = .ok (.sipush 203, 3) := by decide +kernel
theorem dX11_instruction_172 : decode cX11_instruction 172 = .ok (.goto 6, 3) := by decide +kernel
theorem dX11_instruction_157 : decode cX11_instruction 157 = .ok (.sipush 195, 3) := by decide +kernel
theorem dX11_instruction_160 : decode cX11_instruction 160 = .ok (.goto 18, 3) := by decide +kernel
theorem dX11_instruction_105 : decode cX11_instruction 105 = .ok (.aload_n 0, 1) := by decide +kernel
theorem dX11_instruction_106 : decode cX11_instruction 106 = .ok (.getfield 279, 3) := by decide +kernel
theorem dX11_instruction_109 : decode cX11_instruction 109 = .ok (.iconst 2, 1) := by decide +kernel
theorem dX11_instruction_110 : decode cX11_instruction 110 = .ok (.if_icmp .ne 13, 3) := by decide +kernel
theorem dX11_instruction_113 : decode cX11_instruction 113 = .ok (.aload_n 0, 1) := by decide +kernel
theorem dX11_instruction_114 : decode cX11_instruction 114 = .ok (.getfield 296, 3) := by decide +kernel
theorem dX11_instruction_117 : decode cX11_instruction 117 = .ok (.sipush 255, 3) := by decide +kernel
theorem dX11_instruction_120 : decode cX11_instruction 120 = .ok (.if_icmp .le 8, 3) := by decide +kernel
theorem dX11_instruction_128 : decode cX11_instruction 128 = .ok (.aload_n 0, 1) := by decide +kernel
theorem dX11_instruction_129 : decode cX11_instruction 129 = .ok (.sipush 205, 3) := by decide +kernel
theorem dX11_instruction_132 : decode cX11_instruction 132 = .ok (.invokevirtual 354, 3) := by decide +kernel
theorem dX11_instruction_135 : decode cX11_instruction 135 = .ok (.aload_n 0, 1) := by decide +kernel
theorem dX11_instruction_136 : decode cX11_instruction 136 = .ok (.aload_n 0, 1) := by decide +kernel
theorem dX11_instruction_137 : decode cX11_instruction 137 = .ok (.getfield 296, 3) := by decide +kernel
theorem dX11_instruction_140 : decode cX11_instruction 140 = .ok (.invokevirtual 354, 3) := by decide +kernel
theorem dX11_instruction_143 : decode cX11_instruction 143 = .ok (.aload_n 0, 1) := by decide +kernel
theorem dX11_instruction_144 : decode cX11_instruction 144 = .ok (.invokevirtual 305, 3) := by decide +kernel
theorem dX11_instruction_147 : decode cX11_instruction 147 = .ok (.goto 34, 3) := by decide +kernel
theorem dX11_instruction_92 : decode cX11_instruction 92 = .ok (.aload_n 0, 1) := by decide +kernel
theorem dX11_instruction_93 : decode cX11_instruction 93 = .ok (.iload_n 1, 1) := by decide +kernel
theorem dX11_instruction_94 : decode cX11_instruction 94 = .ok (.iload_n 2, 1) := by decide +kernel
theorem dX11_instruction_95 : decode cX11_instruction 95 = .ok (.invokevirtual 420, 3) := by decide +kernel
theorem dX11_instruction_98 : decode cX11_instruction 98 = .ok (.ireturn, 1) := by decide +kernel
theorem dX11_instruction_80 : decode cX11_instruction 80 = .ok (.aload_n 0, 1) := by decide +kernel
theorem dX11_instruction_81 : decode cX11_instruction 81 = .ok (.iload_n 1, 1) := by decide +kernel
theorem dX11_instruction_82 : decode cX11_instruction 82 = .ok (.invokevirtual 417, 3) := by decide +kernel
theorem dX11_instruction_85 : decode cX11_instruction 85 = .ok (.ireturn, 1) := by decide +kernel
theorem dX11_instruction_68 : decode cX11_instruction 68 = .ok (.aload_n 0, 1) := by decide +kernel
theorem dX11_instruction_69 : decode cX11_instruction 69 = .ok (.iload_n 1, 1) := by decide +kernel
theorem dX11_instruction_70 : decode cX11_instruction 70 = .ok (.invokevirtual 414, 3) := by decide +kernel
theorem dX11_instruction_73 : decode cX11_instruction 73 = .ok (.ireturn, 1) := by decide +kernel
theorem dX11_instruction_31 : decode cX11_instruction 31 = .ok (.aload_n 0, 1) := by decide +kernel
theorem dX11_instruction_32 : decode cX11_instruction 32 = .ok (.iload_n 1, 1) := by decide +kernel
theorem dX11_instruction_33 : decode cX11_instruction 33 = .ok (.bipush 19, 2) := by decide +kernel
theorem dX11_instruction_35 : decode cX11_instruction 35 = .ok (.if_icmp .ne 7, 3) := by decide +kernel
theorem dX11_instruction_42 : decode cX11_instruction 42 = .ok (.iload_n 1, 1) := by decide +kernel
theorem dX11_instruction_43 : decode cX11_instruction 43 = .ok (.bipush 20, 2) := by decide +kernel
theorem dX11_instruction_45 : decode cX11_instruction 45 = .ok (.if_icmp .ne 7, 3) := by decide +kernel
theorem dX11_instruction_52 : decode cX11_instruction 52 = .ok (.iload_n 1, 1) := by decide +kernel
theorem dX11_instruction_53 : decode cX11_instruction 53 = .ok (.bipush 21, 2) := by decide +kernel
theorem dX11_instruction_55 : decode cX11_instruction 55 = .ok (.isub, 1) := by decide +kernel
theorem dX11_instruction_56 : decode cX11_instruction 56 = .ok (.iconst 4, 1) := by decide +kernel
theorem dX11_instruction_57 : decode cX11_instruction 57 = .ok (.iadd, 1) := by decide +kernel
theorem dX11_instruction_48 : decode cX11_instruction 48 = .ok (.iconst 1, 1) := by decide +kernel
theorem dX11_instruction_49 : decode cX11_instruction 49 = .ok (.goto 9, 3) := by decide +kernel
theorem dX11_instruction_38 : decode cX11_instruction 38 = .ok (.iconst 0, 1) := by decide +kernel
theorem dX11_instruction_39 : decode cX11_instruction 39 = .ok (.goto 19, 3) := by decide +kernel
theorem dX11_instruction_20 : decode cX11_instruction 20 = .ok (.aload_n 0, 1) := by decide +kernel
theorem dX11_instruction_21 : decode cX11_instruction 21 = .ok (.invokevirtual 408, 3) := by decide +kernel
theorem dX11_instruction_24 : decode cX11_instruction 24 = .ok (.ireturn, 1) := by decide +kernel
theorem dX11_instruction_178 : decode cX11_instruction 178 = .ok (.invokevirtual 354, 3) := by decide +kernel
theorem dX11_instruction_123 : decode cX11_instruction 123 = .ok (.aload_n 0, 1) := by decide +kernel
theorem dX11_instruction_124 : decode cX11_instruction 124 = .ok (.invokevirtual 301, 3) := by decide +kernel
theorem dX11_instruction_127 : decode cX11_instruction 127 = .ok (.ireturn, 1) := by decide +kernel
theorem dX11_instruction_181 : decode cX11_instruction 181 = .ok (.iconst 1, 1) := by decide +kernel
theorem dX11_instruction_182 : decode cX11_instruction 182 = .ok (.ireturn, 1) := by decide +kernel
theorem dX11_instruction_58 : decode cX11_instruction 58 = .ok (.invokevirtual 411, 3) := by decide +kernel
theorem dX11_instruction_61 : decode cX11_instruction 61 = .ok (.ireturn, 1) := by decide +kernel
theorem dX11_item_0 : decode cX11_item 0 = .ok (.aload_n 0, 1) := by decide +kernel
theorem dX11_item_1 : decode cX11_item 1 = .ok (.invokevirtual 337, 3) := by decide +kernel
theorem dX11_item_4 : decode cX11_item 4 = .ok (.ifCond .eq 46, 3) := by decide +kernel
theorem dX11_item_7 : decode cX11_item 7 = .ok (.aload_n 0, 1) := by decide +kernel
theorem dX11_item_8 : decode cX11_item 8 = .ok (.getfield 348, 3) := by decide +kernel
theorem dX11_item_11 : decode cX11_item 11 = .ok (.ifCond .ne 8, 3) := by decide +kernel
theorem dX11_item_19 : decode cX11_item 19 = .ok (.aload_n 0, 1) := by decide +kernel
theorem dX11_item_20 : decode cX11_item 20 = .ok (.invokevirtual 340, 3) := by decide +kernel
theorem dX11_item_23 : decode cX11_item 23 = .ok (.istore_n 1, 1) := by decide +kernel
theorem dX11_item_24 : decode cX11_item 24 = .ok (.aload_n 0, 1) := by decide +kernel
theorem dX11_item_25 : decode cX11_item 25 = .ok (.getfield 276, 3) := by decide +kernel
theorem dX11_item_28 : decode cX11_item 28 = .ok (.istore_n 2, 1) := by decide +kernel
theorem dX11_item_29 : decode cX11_item 29 = .ok (.aload_n 0, 1) := by decide +kernel
theorem dX11_item_30 : decode cX11_item 30 = .ok (.invokevirtual 305, 3) := by decide +kernel
theorem dX11_item_33 : decode cX11_item 33 = .ok (.aload_n 0, 1) := by decide +kernel
theorem dX11_item_34 : decode cX11_item 34 = .ok (.bipush 58, 2) := by decide +kernel
theorem dX11_item_36 : decode cX11_item 36 = .ok (.invokevirtual 384, 3) := by decide +kernel
theorem dX11_item_39 : decode cX11_item 39 = .ok (.ifCond .ne 5, 3) := by decide +kernel
theorem dX11_item_44 : decode cX11_item 44 = .ok (.aload_n 0, 1) := by decide +kernel
theorem dX11_item_45 : decode cX11_item 45 = .ok (.iload_n 1, 1) := by decide +kernel
theorem dX11_item_46 : decode cX11_item 46 = .ok (.iload_n 2, 1) := by decide +kernel
theorem dX11_item_47 : decode cX11_item 47 = .ok (.invokevirtual 423, 3) := by decide +kernel
theorem dX11_item_42 : decode cX11_item 42 = .ok (.iconst 0, 1) := by decide +kernel
theorem dX11_item_43 : decode cX11_item 43 = .ok (.ireturn, 1) := by decide +kernel
theorem dX11_item_14 : decode cX11_item 14 = .ok (.aload_n 0, 1) := by decide +kernel
theorem dX11_item_15 : decode cX11_item 15 = .ok (.invokevirtual 301, 3) := by decide +kernel
theorem dX11_item_18 : decode cX11_item 18 = .ok (.ireturn, 1) := by decide +kernel
theorem dX11_item_50 : decode cX11_item 50 = .ok (.aload_n 0, 1) := by decide +kernel
theorem dX11_item_51 : decode cX11_item 51 = .ok (.getfield 279, 3) := by decide +kernel
theorem dX11_item_54 : decode cX11_item 54 = .ok (.iconst 1, 1) := by decide +kernel
theorem dX11_item_55 : decode cX11_item 55 = .ok (.if_icmp .ne 61, 3) := by decide +kernel
theorem dX11_item_58 : decode cX11_item 58 = .ok (.aload_n 0, 1) := by decide +kernel
theorem dX11_item_59 : decode cX11_item 59 = .ok (.getfield 293, 3) := by decide +kernel
theorem dX11_item_62 : decode cX11_item 62 = .ok (.bipush 12, 2) := by decide +kernel
theorem dX11_item_64 : decode cX11_item 64 = .ok (.if_icmp .lt 52, 3) := by decide +kernel
theorem dX11_item_67 : decode cX11_item 67 = .ok (.aload_n 0, 1) := by decide +kernel
theorem dX11_item_68 : decode cX11_item 68 = .ok (.getfield 348, 3) := by decide +kernel
theorem dX11_item_71 : decode cX11_item 71 = .ok (.ifCond .ne 17, 3) := by decide +kernel
theorem dX11_item_74 : decode cX11_item 74 = .ok (.aload_n 0, 1) := by decide +kernel
theorem dX11_item_75 : decode cX11_item 75 = .ok (.getfield 293, 3) := by decide +kernel
theorem dX11_item_78 : decode cX11_item 78 = .ok (.bipush 14, 2) := by decide +kernel
theorem dX11_item_80 : decode cX11_item 80 = .ok (.if_icmp .le 8, 3) := by decide +kernel
theorem dX11_item_83 : decode cX11_item 83 = .ok (.aload_n 0, 1) := by decide +kernel
theorem dX11_item_84 : decode cX11_item 84 = .ok (.invokevirtual 301, 3) := by decide +kernel
theorem dX11_item_87 : decode cX11_item 87 = .ok (.ireturn, 1) := by decide +kernel
theorem dX11_item_116 : decode cX11_item 116 = .ok (.aload_n 0, 1) := by decide +kernel
theorem dX11_item_117 : decode cX11_item 117 = .ok (.bipush 59, 2) := by decide +kernel
theorem dX11_item_119 : decode cX11_item 119 = .ok (.invokevirtual 384, 3) := by decide +kernel
theorem dX11_item_122 : decode cX11_item 122 = .ok (.ireturn, 1) := by decide +kernel
theorem dX11_item_88 : decode cX11_item 88 = .ok (.aload_n 0, 1) := by decide +kernel
theorem dX11_item_89 : decode cX11_item 89 = .ok (.getfield 293, 3) := by decide +kernel
theorem dX11_item_92 : decode cX11_item 92 = .ok (.bipush 17, 2) := by decide +kernel
theorem dX11_item_94 : decode cX11_item 94 = .ok (.if_icmp .gt 13, 3) := by decide +kernel
theorem dX11_item_107 : decode cX11_item 107 = .ok (.aload_n 0, 1) := by decide +kernel
theorem dX11_item_108 : decode cX11_item 108 = .ok (.invokevirtual 430, 3) := by decide +kernel
theorem dX11_item_111 : decode cX11_item 111 = .ok (.ifCond .ne 5, 3) := by decide +kernel
theorem dX11_item_97 : decode cX11_item 97 = .ok (.aload_n 0, 1) := by decide +kernel
theorem dX11_item_98 : decode cX11_item 98 = .ok (.invokevirtual 427, 3) := by decide +kernel
theorem dX11_item_101 : decode cX11_item 101 = .ok (.ifCond .ne 15, 3) := by decide +kernel
theorem dX11_item_104 : decode cX11_item 104 = .ok (.goto 10, 3) := by decide +kernel
theorem dX11_item_114 : decode cX11_item 114 = .ok (.iconst 0, 1) := by decide +kernel
theorem dX11_item_115 : decode cX11_item 115 = .ok (.ireturn, 1) := by decide +kernel
theorem dX11_parse_0 : decode cX11_parse 0 = .ok (.aload_n 0, 1) := by decide +kernel
theorem dX11_parse_1 : decode cX11_parse 1 = .ok (.iconst 0, 1) := by decide +kernel
theorem dX11_parse_2 : decode cX11_parse 2 = .ok (.putfield 269, 3) := by decide +kernel
theorem dX11_parse_5 : decode cX11_parse 5 = .ok (.aload_n 0, 1) := by decide +kernel
theorem dX11_parse_6 : decode cX11_parse 6 = .ok (.iconst 0, 1) := by decide +kernel
theorem dX11_parse_7 : decode cX11_parse 7 = .ok (.putfield 311, 3) := by decide +kernel
theorem dX11_parse_10 : decode cX11_parse 10 = .ok (.aload_n 0, 1) := by decide +kernel
theorem dX11_parse_11 : decode cX11_parse 11 = .ok (.iconst (-1), 1) := by decide +kernel
theorem dX11_parse_12 : decode cX11_parse 12 = .ok (.putfield 308, 3) := by decide +kernel
theorem dX11_parse_15 : decode cX11_parse 15 = .ok (.aload_n 0, 1) := by decide +kernel
theorem dX11_parse_16 : decode cX11_parse 16 = .ok (.iconst 0, 1) := by decide +kernel
theorem dX11_parse_17 : decode cX11_parse 17 = .ok (.putfield 318, 3) := by decide +kernel
theorem dX11_parse_20 : decode cX11_parse 20 = .ok (.aload_n 0, 1) := by decide +kernel
theorem dX11_parse_21 : decode cX11_parse 21 = .ok (.iconst 0, 1) := by decide +kernel
theorem dX11_parse_22 : decode cX11_parse 22 = .ok (.putfield 324, 3) := by decide +kernel
theorem dX11_parse_25 : decode cX11_parse 25 = .ok (.aload_n 0, 1) := by decide +kernel
theorem dX11_parse_26 : decode cX11_parse 26 = .ok (.iconst (-1), 1) := by decide +kernel
theorem dX11_parse_27 : decode cX11_parse 27 = .ok (.putfield 321, 3) := by decide +kernel
theorem dX11_parse_30 : decode cX11_parse 30 = .ok (.aload_n 0, 1) := by decide +kernel
theorem dX11_parse_31 : decode cX11_parse 31 = .ok (.iconst 0, 1) := by decide +kernel
theorem dX11_parse_32 : decode cX11_parse 32 = .ok (.putfield 348, 3) := by decide +kernel
theorem dX11_parse_35 : decode cX11_parse 35 = .ok (.aload_n 0, 1) := by decide +kernel
theorem dX11_parse_36 : decode cX11_parse 36 = .ok (.iconst 0, 1) := by decide +kernel
theorem dX11_parse_37 : decode cX11_parse 37 = .ok (.putfield 331, 3) := by decide +kernel
theorem dX11_parse_40 : decode cX11_parse 40 = .ok (.aload_n 0, 1) := by decide +kernel
theorem dX11_parse_41 : decode cX11_parse 41 = .ok (.invokevirtual 305, 3) := by decide +kernel
theorem dX11_parse_44 : decode cX11_parse 44 = .ok (.aload_n 0, 1) := by decide +kernel
theorem dX11_parse_45 : decode cX11_parse 45 = .ok (.getfield 279, 3) := by decide +kernel
theorem dX11_parse_48 : decode cX11_parse 48 = .ok (.ifCond .eq 12, 3) := by decide +kernel
theorem dX11_parse_60 : decode cX11_parse 60 = .ok (.iconst 1, 1) := by decide +kernel
theorem dX11_parse_61 : decode cX11_parse 61 = .ok (.ireturn, 1) := by decide +kernel
theorem dX11_parse_51 : decode cX11_parse 51 = .ok (.aload_n 0, 1) := by decide +kernel
theorem dX11_parse_52 : decode cX11_parse 52 = .ok (.invokevirtual 433, 3) := by decide +kernel
theorem dX11_parse_55 : decode cX11_parse 55 = .ok (.ifCond .ne (-11), 3) := by decide +kernel
theorem dX11_parse_58 : decode cX11_parse 58 = .ok (.iconst 0, 1) := by decide +kernel
theorem dX11_parse_59 : decode cX11_parse 59 = .ok (.ireturn, 1) := by decide +kernel
theorem dX11_judge_0 : decode cX11_judge 0 = .ok (.iconst 0, 1) := by decide +kernel
theorem dX11_judge_1 : decode cX11_judge 1 = .ok (.istore_n 1, 1) := by decide +kernel
theorem dX11_judge_2 : decode cX11_judge 2 = .ok (.iload_n 1, 1) := by decide +kernel
theorem dX11_judge_3 : decode cX11_judge 3 = .ok (.aload_n 0, 1) := by decide +kernel
theorem dX11_judge_4 : decode cX11_judge 4 = .ok (.getfield 318, 3) := by decide +kernel
theorem dX11_judge_7 : decode cX11_judge 7 = .ok (.if_icmp .ge 179, 3) := by decide +kernel
theorem dX11_judge_186 : decode cX11_judge 186 = .ok (.return_, 1) := by decide +kernel
theorem dX11_judge_10 : decode cX11_judge 10 = .ok (.aload_n 0, 1) := by decide +kernel
theorem dX11_judge_11 : decode cX11_judge 11 = .ok (.getfield 138, 3) := by decide +kernel
theorem dX11_judge_14 : decode cX11_judge 14 = .ok (.iload_n 1, 1) := by decide +kernel
theorem dX11_judge_15 : decode cX11_judge 15 = .ok (.iaload, 1) := by decide +kernel
theorem dX11_judge_16 : decode cX11_judge 16 = .ok (.istore_n 2, 1) := by decide +kernel
theorem dX11_judge_17 : decode cX11_judge 17 = .ok (.aload_n 0, 1) := by decide +kernel
theorem dX11_judge_18 : decode cX11_judge 18 = .ok (.getfield 123, 3) := by decide +kernel
theorem dX11_judge_21 : decode cX11_judge 21 = .ok (.iload_n 2, 1) := by decide +kernel
theorem dX11_judge_22 : decode cX11_judge 22 = .ok (.iaload, 1) := by decide +kernel
theorem dX11_judge_23 : decode cX11_judge 23 = .ok (.iconst 2, 1) := by decide +kernel
theorem dX11_judge_24 : decode cX11_judge 24 = .ok (.if_icmp .ne 22, 3) := by decide +kernel
theorem dX11_judge_27 : decode cX11_judge 27 = .ok (.aload_n 0, 1) := by decide +kernel
theorem dX11_judge_28 : decode cX11_judge 28 = .ok (.getfield 126, 3) := by decide +kernel
theorem dX11_judge_31 : decode cX11_judge 31 = .ok (.iload_n 2, 1) := by decide +kernel
theorem dX11_judge_32 : decode cX11_judge 32 = .ok (.iaload, 1) := by decide +kernel
theorem dX11_judge_33 : decode cX11_judge 33 = .ok (.aload_n 0, 1) := by decide +kernel
theorem dX11_judge_34 : decode cX11_judge 34 = .ok (.getfield 144, 3) := by decide +kernel
theorem dX11_judge_37 : decode cX11_judge 37 = .ok (.iload_n 1, 1) := by decide +kernel
theorem dX11_judge_38 : decode cX11_judge 38 = .ok (.iaload, 1) := by decide +kernel
theorem dX11_judge_39 : decode cX11_judge 39 = .ok (.if_icmp .ne 7, 3) := by decide +kernel
theorem dX11_judge_42 : decode cX11_judge 42 = .ok (.iconst 1, 1) := by decide +kernel
theorem dX11_judge_43 : decode cX11_judge 43 = .ok (.goto 4, 3) := by decide +kernel
theorem dX11_judge_46 : decode cX11_judge 46 = .ok (.iconst 0, 1) := by decide +kernel
theorem dX11_judge_47 : decode cX11_judge 47 = .ok (.istore_n 3, 1) := by decide +kernel
theorem dX11_judge_48 : decode cX11_judge 48 = .ok (.aload_n 0, 1) := by decide +kernel
theorem dX11_judge_49 : decode cX11_judge 49 = .ok (.getfield 135, 3) := by decide +kernel
theorem dX11_judge_52 : decode cX11_judge 52 = .ok (.iload_n 1, 1) := by decide +kernel
theorem dX11_judge_53 : decode cX11_judge 53 = .ok (.iaload, 1) := by decide +kernel
theorem dX11_judge_54 : decode cX11_judge 54 = .ok (.ifCond .ne 21, 3) := by decide +kernel
theorem dX11_judge_75 : decode cX11_judge 75 = .ok (.aload_n 0, 1) := by decide +kernel
theorem dX11_judge_76 : decode cX11_judge 76 = .ok (.getfield 135, 3) := by decide +kernel
theorem dX11_judge_79 : decode cX11_judge 79 = .ok (.iload_n 1, 1) := by decide +kernel
theorem dX11_judge_80 : decode cX11_judge 80 = .ok (.iaload, 1) := by decide +kernel
theorem dX11_judge_81 : decode cX11_judge 81 = .ok (.iconst 1, 1) := by decide +kernel
theorem dX11_judge_82 : decode cX11_judge 82 = .ok (.if_icmp .ne 20, 3) := by decide +kernel
theorem dX11_judge_102 : decode cX11_judge 102 = .ok (.aload_n 0, 1) := by decide +kernel
theorem dX11_judge_103 : decode cX11_judge 103 = .ok (.getfield 135, 3) := by decide +kernel
theorem dX11_judge_106 : decode cX11_judge 106 = .ok (.iload_n 1, 1) := by decide +kernel
theorem dX11_judge_107 : decode cX11_judge 107 = .ok (.iaload, 1) := by decide +kernel
theorem dX11_judge_108 : decode cX11_judge 108 = .ok (.iconst 2, 1) := by decide +kernel
theorem dX11_judge_109 : decode cX11_judge 109 = .ok (.if_icmp .ne 7, 3) := by decide +kernel
theorem dX11_judge_116 : decode cX11_judge 116 = .ok (.aload_n 0, 1) := by decide +kernel
theorem dX11_judge_117 : decode cX11_judge 117 = .ok (.getfield 135, 3) := by decide +kernel
theorem dX11_judge_120 : decode cX11_judge 120 = .ok (.iload_n 1, 1) := by decide +kernel
theorem dX11_judge_121 : decode cX11_judge 121 = .ok (.iaload, 1) := by decide +kernel
theorem dX11_judge_122 : decode cX11_judge 122 = .ok (.iconst 3, 1) := by decide +kernel
theorem dX11_judge_123 : decode cX11_judge 123 = .ok (.if_icmp .ne 25, 3) := by decide +kernel
theorem dX11_judge_148 : decode cX11_judge 148 = .ok (.aload_n 0, 1) := by decide +kernel
theorem dX11_judge_149 : decode cX11_judge 149 = .ok (.getfield 123, 3) := by decide +kernel
theorem dX11_judge_152 : decode cX11_judge 152 = .ok (.iload_n 2, 1) := by decide +kernel
theorem dX11_judge_153 : decode cX11_judge 153 = .ok (.iaload, 1) := by decide +kernel
theorem dX11_judge_154 : decode cX11_judge 154 = .ok (.iconst 1, 1) := by decide +kernel
theorem dX11_judge_155 : decode cX11_judge 155 = .ok (.if_icmp .le 7, 3) := by decide +kernel
theorem dX11_judge_162 : decode cX11_judge 162 = .ok (.iconst 0, 1) := by decide +kernel
theorem dX11_judge_158 : decode cX11_judge 158 = .ok (.iconst 1, 1) := by decide +kernel
theorem dX11_judge_159 : decode cX11_judge 159 = .ok (.goto 4, 3) := by decide +kernel
theorem dX11_judge_126 : decode cX11_judge 126 = .ok (.iload_n 3, 1) := by decide +kernel
theorem dX11_judge_127 : decode cX11_judge 127 = .ok (.ifCond .ne 13, 3) := by decide +kernel
theorem dX11_judge_130 : decode cX11_judge 130 = .ok (.aload_n 0, 1) := by decide +kernel
theorem dX11_judge_131 : decode cX11_judge 131 = .ok (.getfield 123, 3) := by decide +kernel
theorem dX11_judge_134 : decode cX11_judge 134 = .ok (.iload_n 2, 1) := by decide +kernel
theorem dX11_judge_135 : decode cX11_judge 135 = .ok (.iaload, 1) := by decide +kernel
theorem dX11_judge_136 : decode cX11_judge 136 = .ok (.iconst 3, 1) := by decide +kernel
theorem dX11_judge_137 : decode cX11_judge 137 = .ok (.if_icmp .ne 7, 3) := by decide +kernel
theorem dX11_judge_144 : decode cX11_judge 144 = .ok (.iconst 0, 1) := by decide +kernel
theorem dX11_judge_145 : decode cX11_judge 145 = .ok (.goto 18, 3) := by decide +kernel
theorem dX11_judge_112 : decode cX11_judge 112 = .ok (.iload_n 3, 1) := by decide +kernel
theorem dX11_judge_113 : decode cX11_judge 113 = .ok (.goto 50, 3) := by decide +kernel
theorem dX11_judge_85 : decode cX11_judge 85 = .ok (.aload_n 0, 1) := by decide +kernel
theorem dX11_judge_86 : decode cX11_judge 86 = .ok (.getfield 123, 3) := by decide +kernel
theorem dX11_judge_89 : decode cX11_judge 89 = .ok (.iload_n 2, 1) := by decide +kernel
theorem dX11_judge_90 : decode cX11_judge 90 = .ok (.iaload, 1) := by decide +kernel
theorem dX11_judge_91 : decode cX11_judge 91 = .ok (.ifCond .eq 7, 3) := by decide +kernel
theorem dX11_judge_98 : decode cX11_judge 98 = .ok (.iconst 0, 1) := by decide +kernel
theorem dX11_judge_99 : decode cX11_judge 99 = .ok (.goto 64, 3) := by decide +kernel
theorem dX11_judge_94 : decode cX11_judge 94 = .ok (.iconst 1, 1) := by decide +kernel
theorem dX11_judge_95 : decode cX11_judge 95 = .ok (.goto 68, 3) := by decide +kernel
theorem dX11_judge_57 : decode cX11_judge 57 = .ok (.aload_n 0, 1) := by decide +kernel
theorem dX11_judge_58 : decode cX11_judge 58 = .ok (.getfield 123, 3) := by decide +kernel
theorem dX11_judge_61 : decode cX11_judge 61 = .ok (.iload_n 2, 1) := by decide +kernel
theorem dX11_judge_62 : decode cX11_judge 62 = .ok (.iaload, 1) := by decide +kernel
theorem dX11_judge_63 : decode cX11_judge 63 = .ok (.iconst 2, 1) := by decide +kernel
theorem dX11_judge_64 : decode cX11_judge 64 = .ok (.if_icmp .ne 7, 3) := by decide +kernel
theorem dX11_judge_71 : decode cX11_judge 71 = .ok (.iconst 0, 1) := by decide +kernel
theorem dX11_judge_72 : decode cX11_judge 72 = .ok (.goto 91, 3) := by decide +kernel
theorem dX11_judge_67 : decode cX11_judge 67 = .ok (.iconst 1, 1) := by decide +kernel
theorem dX11_judge_68 : decode cX11_judge 68 = .ok (.goto 95, 3) := by decide +kernel
theorem dX11_judge_163 : decode cX11_judge 163 = .ok (.istore 4, 2) := by decide +kernel
theorem dX11_judge_165 : decode cX11_judge 165 = .ok (.iload 4, 2) := by decide +kernel
theorem dX11_judge_167 : decode cX11_judge 167 = .ok (.ifCond .ne 13, 3) := by decide +kernel
theorem dX11_judge_170 : decode cX11_judge 170 = .ok (.aload_n 0, 1) := by decide +kernel
theorem dX11_judge_171 : decode cX11_judge 171 = .ok (.aload_n 0, 1) := by decide +kernel
theorem dX11_judge_172 : decode cX11_judge 172 = .ok (.getfield 141, 3) := by decide +kernel
theorem dX11_judge_175 : decode cX11_judge 175 = .ok (.iload_n 1, 1) := by decide +kernel
theorem dX11_judge_176 : decode cX11_judge 176 = .ok (.iaload, 1) := by decide +kernel
theorem dX11_judge_177 : decode cX11_judge 177 = .ok (.invokevirtual 314, 3) := by decide +kernel
theorem dX11_judge_140 : decode cX11_judge 140 = .ok (.iconst 1, 1) := by decide +kernel
theorem dX11_judge_141 : decode cX11_judge 141 = .ok (.goto 22, 3) := by decide +kernel
theorem dX11_judge_180 : decode cX11_judge 180 = .ok (.iinc 1 1, 3) := by decide +kernel
theorem dX11_judge_183 : decode cX11_judge 183 = .ok (.goto (-181), 3) := by decide +kernel
theorem dX11_sizeOf_0 : decode cX11_sizeOf 0 = .ok (.aload_n 0, 1) := by decide +kernel
theorem dX11_sizeOf_1 : decode cX11_sizeOf 1 = .ok (.getfield 147, 3) := by decide +kernel
theorem dX11_sizeOf_4 : decode cX11_sizeOf 4 = .ok (.iload_n 1, 1) := by decide +kernel
theorem dX11_sizeOf_5 : decode cX11_sizeOf 5 = .ok (.iaload, 1) := by decide +kernel
theorem dX11_sizeOf_6 : decode cX11_sizeOf 6 = .ok (.tableswitch 80 0 8 #[50, 80, 80, 80, 52, 67, 69, 71, 73], 50) := by decide +kernel
theorem dX11_sizeOf_56 : decode cX11_sizeOf 56 = .ok (.iconst 1, 1) := by decide +kernel
theorem dX11_sizeOf_57 : decode cX11_sizeOf 57 = .ok (.ireturn, 1) := by decide +kernel
theorem dX11_sizeOf_58 : decode cX11_sizeOf 58 = .ok (.aload_n 0, 1) := by decide +kernel
theorem dX11_sizeOf_59 : decode cX11_sizeOf 59 = .ok (.getfield 165, 3) := by decide +kernel
theorem dX11_sizeOf_62 : decode cX11_sizeOf 62 = .ok (.iload_n 1, 1) := by decide +kernel
theorem dX11_sizeOf_63 : decode cX11_sizeOf 63 = .ok (.baload, 1) := by decide +kernel
theorem dX11_sizeOf_64 : decode cX11_sizeOf 64 = .ok (.ifCond .eq 7, 3) := by decide +kernel
theorem dX11_sizeOf_71 : decode cX11_sizeOf 71 = .ok (.iconst 2, 1) := by decide +kernel
theorem dX11_sizeOf_67 : decode cX11_sizeOf 67 = .ok (.iconst 3, 1) := by decide +kernel
theorem dX11_sizeOf_68 : decode cX11_sizeOf 68 = .ok (.goto 4, 3) := by decide +kernel
theorem dX11_sizeOf_73 : decode cX11_sizeOf 73 = .ok (.iconst 2, 1) := by decide +kernel
theorem dX11_sizeOf_74 : decode cX11_sizeOf 74 = .ok (.ireturn, 1) := by decide +kernel
theorem dX11_sizeOf_75 : decode cX11_sizeOf 75 = .ok (.iconst 3, 1) := by decide +kernel
theorem dX11_sizeOf_76 : decode cX11_sizeOf 76 = .ok (.ireturn, 1) := by decide +kernel
theorem dX11_sizeOf_77 : decode cX11_sizeOf 77 = .ok (.iconst 0, 1) := by decide +kernel
theorem dX11_sizeOf_78 : decode cX11_sizeOf 78 = .ok (.ireturn, 1) := by decide +kernel
theorem dX11_sizeOf_79 : decode cX11_sizeOf 79 = .ok (.aload_n 0, 1) := by decide +kernel
theorem dX11_sizeOf_80 : decode cX11_sizeOf 80 = .ok (.getfield 150, 3) := by decide +kernel
theorem dX11_sizeOf_83 : decode cX11_sizeOf 83 = .ok (.iload_n 1, 1) := by decide +kernel
theorem dX11_sizeOf_84 : decode cX11_sizeOf 84 = .ok (.iaload, 1) := by decide +kernel
theorem dX11_sizeOf_85 : decode cX11_sizeOf 85 = .ok (.ireturn, 1) := by decide +kernel
theorem dX11_sizeOf_86 : decode cX11_sizeOf 86 = .ok (.iconst 2, 1) := by decide +kernel
theorem dX11_sizeOf_87 : decode cX11_sizeOf 87 = .ok (.ireturn, 1) := by decide +kernel
theorem dX11_sizeOf_72 : decode cX11_sizeOf 72 = .ok (.ireturn, 1) := by decide +kernel
theorem dX11_lay_0 : decode cX11_lay 0 = .ok (.iconst 0, 1) := by decide +kernel
theorem dX11_lay_1 : decode cX11_lay 1 = .ok (.istore_n 1, 1) := by decide +kernel
theorem dX11_lay_2 : decode cX11_lay 2 = .ok (.iload_n 1, 1) := by decide +kernel
theorem dX11_lay_3 : decode cX11_lay 3 = .ok (.aload_n 0, 1) := by decide +kernel
theorem dX11_lay_4 : decode cX11_lay 4 = .ok (.getfield 331, 3) := by decide +kernel
theorem dX11_lay_7 : decode cX11_lay 7 = .ok (.if_icmp .ge 16, 3) := by decide +kernel
theorem dX11_lay_23 : decode cX11_lay 23 = .ok (.iconst 0, 1) := by decide +kernel
theorem dX11_lay_24 : decode cX11_lay 24 = .ok (.istore_n 1, 1) := by decide +kernel
theorem dX11_lay_10 : decode cX11_lay 10 = .ok (.aload_n 0, 1) := by decide +kernel
theorem dX11_lay_11 : decode cX11_lay 11 = .ok (.getfield 172, 3) := by decide +kernel
theorem dX11_lay_14 : decode cX11_lay 14 = .ok (.iload_n 1, 1) := by decide +kernel
theorem dX11_lay_15 : decode cX11_lay 15 = .ok (.iconst 0, 1) := by decide +kernel
theorem dX11_lay_16 : decode cX11_lay 16 = .ok (.iastore, 1) := by decide +kernel
theorem dX11_lay_17 : decode cX11_lay 17 = .ok (.iinc 1 1, 3) := by decide +kernel
theorem dX11_lay_20 : decode cX11_lay 20 = .ok (.goto (-18), 3) := by decide +kernel
theorem dX11_lay_25 : decode cX11_lay 25 = .ok (.iload_n 1, 1) := by decide +kernel
theorem dX11_lay_26 : decode cX11_lay 26 = .ok (.aload_n 0, 1) := by decide +kernel
theorem dX11_lay_27 : decode cX11_lay 27 = .ok (.getfield 324, 3) := by decide +kernel
theorem dX11_lay_30 : decode cX11_lay 30 = .ok (.if_icmp .ge 70, 3) := by decide +kernel
theorem dX11_lay_100 : decode cX11_lay 100 = .ok (.return_, 1) := by decide +kernel
theorem dX11_lay_33 : decode cX11_lay 33 = .ok (.aload_n 0, 1) := by decide +kernel
theorem dX11_lay_34 : decode cX11_lay 34 = .ok (.getfield 159, 3) := by decide +kernel
theorem dX11_lay_37 : decode cX11_lay 37 = .ok (.iload_n 1, 1) := by decide +kernel
theorem dX11_lay_38 : decode cX11_lay 38 = .ok (.iaload, 1) := by decide +kernel
theorem dX11_lay_39 : decode cX11_lay 39 = .ok (.istore_n 2, 1) := by decide +kernel
theorem dX11_lay_40 : decode cX11_lay 40 = .ok (.aload_n 0, 1) := by decide +kernel
theorem dX11_lay_41 : decode cX11_lay 41 = .ok (.getfield 162, 3) := by decide +kernel
theorem dX11_lay_44 : decode cX11_lay 44 = .ok (.iload_n 1, 1) := by decide +kernel
theorem dX11_lay_45 : decode cX11_lay 45 = .ok (.aload_n 0, 1) := by decide +kernel
theorem dX11_lay_46 : decode cX11_lay 46 = .ok (.getfield 172, 3) := by decide +kernel
theorem dX11_lay_49 : decode cX11_lay 49 = .ok (.iload_n 2, 1) := by decide +kernel
theorem dX11_lay_50 : decode cX11_lay 50 = .ok (.iaload, 1) := by decide +kernel
theorem dX11_lay_51 : decode cX11_lay 51 = .ok (.iastore, 1) := by decide +kernel
theorem dX11_lay_52 : decode cX11_lay 52 = .ok (.aload_n 0, 1) := by decide +kernel
theorem dX11_lay_53 : decode cX11_lay 53 = .ok (.getfield 147, 3) := by decide +kernel
theorem dX11_lay_56 : decode cX11_lay 56 = .ok (.iload_n 1, 1) := by decide +kernel
theorem dX11_lay_57 : decode cX11_lay 57 = .ok (.iaload, 1) := by decide +kernel
theorem dX11_lay_58 : decode cX11_lay 58 = .ok (.bipush 7, 2) := by decide +kernel
theorem dX11_lay_60 : decode cX11_lay 60 = .ok (.if_icmp .ne 20, 3) := by decide +kernel
theorem dX11_lay_63 : decode cX11_lay 63 = .ok (.aload_n 0, 1) := by decide +kernel
theorem dX11_lay_64 : decode cX11_lay 64 = .ok (.getfield 132, 3) := by decide +kernel
theorem dX11_lay_67 : decode cX11_lay 67 = .ok (.aload_n 0, 1) := by decide +kernel
theorem dX11_lay_68 : decode cX11_lay 68 = .ok (.getfield 150, 3) := by decide +kernel
theorem dX11_lay_71 : decode cX11_lay 71 = .ok (.iload_n 1, 1) := by decide +kernel
theorem dX11_lay_72 : decode cX11_lay 72 = .ok (.iaload, 1) := by decide +kernel
theorem dX11_lay_73 : decode cX11_lay 73 = .ok (.aload_n 0, 1) := by decide +kernel
theorem dX11_lay_74 : decode cX11_lay 74 = .ok (.getfield 172, 3) := by decide +kernel
theorem dX11_lay_77 : decode cX11_lay 77 = .ok (.iload_n 2, 1) := by decide +kernel
theorem dX11_lay_78 : decode cX11_lay 78 = .ok (.iaload, 1) := by decide +kernel
theorem dX11_lay_79 : decode cX11_lay 79 = .ok (.iastore, 1) := by decide +kernel
theorem dX11_lay_80 : decode cX11_lay 80 = .ok (.aload_n 0, 1) := by decide +kernel
theorem dX11_lay_81 : decode cX11_lay 81 = .ok (.getfield 172, 3) := by decide +kernel
theorem dX11_lay_84 : decode cX11_lay 84 = .ok (.iload_n 2, 1) := by decide +kernel
theorem dX11_lay_85 : decode cX11_lay 85 = .ok (.dup2, 1) := by decide +kernel
theorem dX11_lay_86 : decode cX11_lay 86 = .ok (.iaload, 1) := by decide +kernel
theorem dX11_lay_87 : decode cX11_lay 87 = .ok (.aload_n 0, 1) := by decide +kernel
theorem dX11_lay_88 : decode cX11_lay 88 = .ok (.iload_n 1, 1) := by decide +kernel
theorem dX11_lay_89 : decode cX11_lay 89 = .ok (.invokevirtual 436, 3) := by decide +kernel
theorem dX11_lay_92 : decode cX11_lay 92 = .ok (.iadd, 1) := by decide +kernel
theorem dX11_lay_93 : decode cX11_lay 93 = .ok (.iastore, 1) := by decide +kernel
theorem dX11_lay_94 : decode cX11_lay 94 = .ok (.iinc 1 1, 3) := by decide +kernel
theorem dX11_lay_97 : decode cX11_lay 97 = .ok (.goto (-72), 3) := by decide +kernel
theorem dX11_distance_0 : decode cX11_distance 0 = .ok (.aload_n 0, 1) := by decide +kernel
theorem dX11_distance_1 : decode cX11_distance 1 = .ok (.getfield 132, 3) := by decide +kernel
theorem dX11_distance_4 : decode cX11_distance 4 = .ok (.aload_n 0, 1) := by decide +kernel
theorem dX11_distance_5 : decode cX11_distance 5 = .ok (.getfield 150, 3) := by decide +kernel
theorem dX11_distance_8 : decode cX11_distance 8 = .ok (.iload_n 1, 1) := by decide +kernel
theorem dX11_distance_9 : decode cX11_distance 9 = .ok (.iaload, 1) := by decide +kernel
theorem dX11_distance_10 : decode cX11_distance 10 = .ok (.iaload, 1) := by decide +kernel
theorem dX11_distance_11 : decode cX11_distance 11 = .ok (.aload_n 0, 1) := by decide +kernel
theorem dX11_distance_12 : decode cX11_distance 12 = .ok (.getfield 162, 3) := by decide +kernel
theorem dX11_distance_15 : decode cX11_distance 15 = .ok (.iload_n 1, 1) := by decide +kernel
theorem dX11_distance_16 : decode cX11_distance 16 = .ok (.iaload, 1) := by decide +kernel
theorem dX11_distance_17 : decode cX11_distance 17 = .ok (.isub, 1) := by decide +kernel
theorem dX11_distance_18 : decode cX11_distance 18 = .ok (.aload_n 0, 1) := by decide +kernel
theorem dX11_distance_19 : decode cX11_distance 19 = .ok (.iload_n 1, 1) := by decide +kernel
theorem dX11_distance_20 : decode cX11_distance 20 = .ok (.invokevirtual 436, 3) := by decide +kernel
theorem dX11_distance_23 : decode cX11_distance 23 = .ok (.isub, 1) := by decide +kernel
theorem dX11_distance_24 : decode cX11_distance 24 = .ok (.ireturn, 1) := by decide +kernel
def wpX11_jumpCode (a0 : Int) (σ : ZS) (Q : Int → ZS → Prop) : Prop := (-2147483648 ≤ a0 ∧ a0 ≤ 2147483647) ∧ (a0 = 35 → Q 114 σ) ∧ (¬ a0 = 35 → (a0 = 36 → Q 115 σ) ∧ (¬ a0 = 36 → (a0 = 37 → Q 116 σ) ∧ (¬ a0 = 37 → (a0 = 38 → Q 117 σ) ∧ (¬ a0 = 38 → (a0 = 39 → Q 120 σ) ∧ (¬ a0 = 39 → (a0 = 40 → Q 121 σ) ∧ (¬ a0 = 40 → Q 226 σ))))))
set_option maxHeartbeats 4000000 in
set_option maxRecDepth 100000 in
theorem kX11_jumpCode (l : Launch) (D : va_G) (dA : Nat → ClassId) (ad : Int → Nat → Nat) (a0 : Int) (σ : ZS) (Q : Int → ZS → Prop) (sz : Nat) (hw : wpX11_jumpCode a0 σ Q) : Met l yX11_jumpCode (gws yX11_jumpCode cX11_jumpCode 1 (some .int)) (gR 1 0 0) (gPre D dA [.int (Int32.ofInt a0)] (zR dA ad σ) sz) (va_Qi (zQi Q) (gAt D dA (va_A (zR dA ad σ) sz) (zR dA ad)) (va_A (zR dA ad σ) sz)) 0 0 (va_A (zR dA ad σ) sz) := by
  refine Met.ofW (cc := cX11_jumpCode) (maxL := 1) (ret := (some .int)) (by decide) rfl ?_
  intro p e s m args below meth c s₁ B hml hv
  obtain ⟨rfl, hsz, hP, hK, hD0⟩ := hv
  have hx := B.exec
  have hb := B.bytes
  have hr := B.returns
  have hts := atoms_spec (ws := gws yX11_jumpCode cX11_jumpCode 1 (some .int)) B.pre
  have hg : ∀ w ∈ gw, w.before _ s = true := fun w h => hts w (List.mem_cons_of_mem _ h)
  have hown : s.vm.findClass RX11 = some m.cls := findClass_of_methodNamed B.named
  have hlocks := B.notSynchronized
  subst hsz
  have hD := hD0.self (sz := s.heap.size)
  generalize hAe : va_A (zR dA ad σ) s.heap.size = A at hD ⊢
  have hA : ∀ q : Nat, s.heap.size ≤ q → A q := fun q h => by rw [← hAe]; exact Or.inr h
  have hS : va_S A s.heap s.heap [] := va_S.rf
  have hl := lv_entry ([.int (Int32.ofInt a0)]) (n := 1) (Nat.le_of_ble_eq_true rfl)
  rw [lg_entry_eq]
  generalize (lg_sl ([.int (Int32.ofInt a0)]) ++ List.replicate (1 - (lg_sl ([.int (Int32.ofInt a0)])).length) Slot.unset).toArray = ls at hl ⊢
  have hl : lv_has ls 1 [(0, .int (Int32.ofInt a0))] := hl
  have hret : ∀ (v : Int) (σ : ZS) (H : Heap) (locs : List Loc) (ls : Array Slot) (pc : Nat), Q v σ → va_P D vwC (zR dA ad σ) H → va_D A (zR dA ad σ) → va_S A s.heap H locs → decode cX11_jumpCode pc = .ok (.ireturn, 1) → W p l e (gR 1 0 0) s m #[.int (Int32.ofInt a0)] below meth c H locs 0 0 (MQ below (va_Qi (zQi Q) (gAt D dA A (zR dA ad)) A) #[.int (Int32.ofInt a0)] s 0 0 A) (F0 m pc ls [.int (Int32.ofInt v)]) := fun v σ H locs ls pc hw hP hD hS hd => g_iret hx hb hr rfl hlocks hK σ hP hD hS ⟨v, rfl, hw⟩ (Nat.le_of_ble_eq_true rfl) (Nat.le_of_ble_eq_true rfl) hd
  generalize MQ below (va_Qi (zQi Q) (gAt D dA A (zR dA ad)) A) #[.int (Int32.ofInt a0)] s 0 0 A = QQ at hret ⊢
  unfold wpX11_jumpCode at hw
  refine lv_iload_n hx hb dX11_jumpCode_0 rfl (lv_at hl 0 rfl) ?_
  obtain ⟨o1, hw⟩ := hw
  have t2 := z_ti o1
  by_cases s3 : a0 = 35
  · replace hw := hw.1 s3
    refine lv_tableIn (tgt := 40) hx hb dX11_jumpCode_1 (by rw [t2, s3]; decide) (by rw [t2, s3]; decide) (by rw [t2, s3]; rfl) (by decide) ?_
    refine lv_bipush (v := Int32.ofInt 114) hx hb dX11_jumpCode_40 (by decide) ?_
    exact hret 114 σ _ _ _ _ hw hP hD hS dX11_jumpCode_42
  replace hw := hw.2 s3
  by_cases s4 : a0 = 36
  · replace hw := hw.1 s4
    refine lv_tableIn (tgt := 43) hx hb dX11_jumpCode_1 (by rw [t2, s4]; decide) (by rw [t2, s4]; decide) (by rw [t2, s4]; rfl) (by decide) ?_
    refine lv_bipush (v := Int32.ofInt 115) hx hb dX11_jumpCode_43 (by decide) ?_
    exact hret 115 σ _ _ _ _ hw hP hD hS dX11_jumpCode_45
  replace hw := hw.2 s4
  by_cases s5 : a0 = 37
  · replace hw := hw.1 s5
    refine lv_tableIn (tgt := 46) hx hb dX11_jumpCode_1 (by rw [t2, s5]; decide) (by rw [t2, s5]; decide) (by rw [t2, s5]; rfl) (by decide) ?_
    refine lv_bipush (v := Int32.ofInt 116) hx hb dX11_jumpCode_46 (by decide) ?_
    exact hret 116 σ _ _ _ _ hw hP hD hS dX11_jumpCode_48
  replace hw := hw.2 s5
  by_cases s6 : a0 = 38
  · replace hw := hw.1 s6
    refine lv_tableIn (tgt := 49) hx hb dX11_jumpCode_1 (by rw [t2, s6]; decide) (by rw [t2, s6]; decide) (by rw [t2, s6]; rfl) (by decide) ?_
    refine lv_bipush (v := Int32.ofInt 117) hx hb dX11_jumpCode_49 (by decide) ?_
    exact hret 117 σ _ _ _ _ hw hP hD hS dX11_jumpCode_51
  replace hw := hw.2 s6
  by_cases s7 : a0 = 39
  · replace hw := hw.1 s7
    refine lv_tableIn (tgt := 52) hx hb dX11_jumpCode_1 (by rw [t2, s7]; decide) (by rw [t2, s7]; decide) (by rw [t2, s7]; rfl) (by decide) ?_
    refine lv_bipush (v := Int32.ofInt 120) hx hb dX11_jumpCode_52 (by decide) ?_
    exact hret 120 σ _ _ _ _ hw hP hD hS dX11_jumpCode_54
  replace hw := hw.2 s7
  by_cases s8 : a0 = 40
  · replace hw := hw.1 s8
    refine lv_tableIn (tgt := 55) hx hb dX11_jumpCode_1 (by rw [t2, s8]; decide) (by rw [t2, s8]; decide) (by rw [t2, s8]; rfl) (by decide) ?_
    refine lv_bipush (v := Int32.ofInt 121) hx hb dX11_jumpCode_55 (by decide) ?_
    exact hret 121 σ _ _ _ _ hw hP hD hS dX11_jumpCode_57
  replace hw := hw.2 s8
  refine lv_tableOut (tgt := 58) hx hb dX11_jumpCode_1 (by rw [t2]; clear hw; omega) (by decide) ?_
  refine lv_sipush (v := Int32.ofInt 226) hx hb dX11_jumpCode_58 (by decide) ?_
  exact hret 226 σ _ _ _ _ hw hP hD hS dX11_jumpCode_61
def wpX11_jump_132 (σ : ZS) (Q : Int → ZS → Prop) : Prop := Q 1 σ
def wpX11_jump_126 (v2 v3 s1 : Int) (σ : ZS) (Q : Int → ZS → Prop) : Prop := wpX11_piece s1 v3 0 v2 σ (fun (σ2 : ZS) => wpX11_jump_132 σ2 Q)
def wpX11_jump_44 (v1 v2 v3 s0 : Int) (σ : ZS) (Q : Int → ZS → Prop) : Prop := wpX11_use s0 v3 (zI σ 0 6) σ (fun (σ4 : ZS) => wpX11_next σ4 (fun (σ6 : ZS) => (-2147483648 ≤ s0 ∧ s0 ≤ 2147483647) ∧ (¬ s0 = 4 → (¬ s0 = 2 → (-2147483648 ≤ v1 ∧ v1 ≤ 2147483647) ∧ (¬ v1 = 34 → wpX11_jump_126 v2 v3 6 σ6 Q) ∧ (v1 = 34 → wpX11_jump_126 v2 v3 4 σ6 Q)) ∧ (s0 = 2 → wpX11_jumpCode v1 σ6 (fun (x12 : Int) (σ13 : ZS) => wpX11_piece 5 v3 x12 v2 σ13 (fun (σ15 : ZS) => wpX11_jump_132 σ15 Q)))) ∧ (s0 = 4 → wpX11_octet 154 σ6 (fun (σ17 : ZS) => wpX11_piece 2 v3 0 0 σ17 (fun (σ19 : ZS) => wpX11_piece 3 v3 0 0 σ19 (fun (σ21 : ZS) => wpX11_jump_132 σ21 Q))))))
def wpX11_jump_39 (v1 v2 v3 : Int) (σ : ZS) (Q : Int → ZS → Prop) : Prop := wpX11_jump_44 v1 v2 v3 3 σ Q
def wpX11_jump (a1 a2 : Int) (σ : ZS) (Q : Int → ZS → Prop) : Prop := wpX11_isName σ (fun (x22 : Int) (σ23 : ZS) => (-2147483648 ≤ x22 ∧ x22 ≤ 2147483647) ∧ (¬ x22 = 0 → wpX11_name σ23 (fun (x26 : Int) (σ27 : ZS) => (-2147483648 ≤ a1 ∧ a1 ≤ 2147483647) ∧ (¬ a1 = 43 → (a1 = 34 → wpX11_jump_39 a1 a2 x26 σ27 Q) ∧ (¬ a1 = 34 → (¬ a1 = 42 → wpX11_jump_44 a1 a2 x26 2 σ27 Q) ∧ (a1 = 42 → wpX11_jump_39 a1 a2 x26 σ27 Q))) ∧ (a1 = 43 → wpX11_jump_44 a1 a2 x26 4 σ27 Q))) ∧ (x22 = 0 → wpX11_fault σ23 (fun (x32 : Int) (σ33 : ZS) => (0 ≤ x32 ∧ x32 ≤ 1) ∧ Q x32 σ33)))
set_option maxHeartbeats 4000000 in
set_option maxRecDepth 100000 in
theorem kX11_jump (l : Launch) (D : va_G) (dA : Nat → ClassId) (ad : Int → Nat → Nat) (a1 a2 : Int) (σ : ZS) (Q : Int → ZS → Prop) (sz : Nat) (hw : wpX11_jump a1 a2 σ Q) : Met l yX11_jump (gws yX11_jump cX11_jump 5 (some .boolean)) (gR 3 0 0) (gPre D dA [.ref (ad 0 1000), .int (Int32.ofInt a1), .int (Int32.ofInt a2)] (zR dA ad σ) sz) (va_Qi (zQi Q) (gAt D dA (va_A (zR dA ad σ) sz) (zR dA ad)) (va_A (zR dA ad σ) sz)) 0 0 (va_A (zR dA ad σ) sz) := by
  refine Met.ofW (cc := cX11_jump) (maxL := 5) (ret := (some .boolean)) (by decide) rfl ?_
  intro p e s m args below meth c s₁ B hml hv
  obtain ⟨rfl, hsz, hP, hK, hD0⟩ := hv
  have hx := B.exec
  have hb := B.bytes
  have hr := B.returns
  have hts := atoms_spec (ws := gws yX11_jump cX11_jump 5 (some .boolean)) B.pre
  have hg : ∀ w ∈ gw, w.before _ s = true := fun w h => hts w (List.mem_cons_of_mem _ h)
  have hown : s.vm.findClass RX11 = some m.cls := findClass_of_methodNamed B.named
  have hlocks := B.notSynchronized
  subst hsz
  have hD := hD0.self (sz := s.heap.size)
  generalize hAe : va_A (zR dA ad σ) s.heap.size = A at hD ⊢
  have hA : ∀ q : Nat, s.heap.size ≤ q → A q := fun q h => by rw [← hAe]; exact Or.inr h
  have hS : va_S A s.heap s.heap [] := va_S.rf
  have hl := lv_entry ([.ref (ad 0 1000), .int (Int32.ofInt a1), .int (Int32.ofInt a2)]) (n := 5) (Nat.le_of_ble_eq_true rfl)
  rw [lg_entry_eq]
  generalize (lg_sl ([.ref (ad 0 1000), .int (Int32.ofInt a1), .int (Int32.ofInt a2)]) ++ List.replicate (5 - (lg_sl ([.ref (ad 0 1000), .int (Int32.ofInt a1), .int (Int32.ofInt a2)])).length) Slot.unset).toArray = ls at hl ⊢
  have hl : lv_has ls 5 [(0, .ref (ad 0 1000)), (1, .int (Int32.ofInt a1)), (2, .int (Int32.ofInt a2))] := hl
  have hret : ∀ (v : Int) (σ : ZS) (H : Heap) (locs : List Loc) (ls : Array Slot) (pc : Nat), (0 ≤ v ∧ v ≤ 1) → Q v σ → va_P D vwC (zR dA ad σ) H → va_D A (zR dA ad σ) → va_S A s.heap H locs → decode cX11_jump pc = .ok (.ireturn, 1) → W p l e (gR 3 0 0) s m #[.ref (ad 0 1000), .int (Int32.ofInt a1), .int (Int32.ofInt a2)] below meth c H locs 0 0 (MQ below (va_Qi (zQi Q) (gAt D dA A (zR dA ad)) A) #[.ref (ad 0 1000), .int (Int32.ofInt a1), .int (Int32.ofInt a2)] s 0 0 A) (F0 m pc ls [.int (Int32.ofInt v)]) := fun v σ H locs ls pc hv hw hP hD hS hd => g_iret hx hb hr (z_nb hv) hlocks hK σ hP hD hS ⟨v, rfl, hw⟩ (Nat.le_of_ble_eq_true rfl) (Nat.le_of_ble_eq_true rfl) hd
  generalize MQ below (va_Qi (zQi Q) (gAt D dA A (zR dA ad)) A) #[.ref (ad 0 1000), .int (Int32.ofInt a1), .int (Int32.ofInt a2)] s 0 0 A = QQ at hret ⊢
  have j132 : ∀ (σ : ZS), ∀ (H : Heap) (locs : List Loc) (ls : Array Slot), va_P D vwC (zR dA ad σ) H → va_D A (zR dA ad σ) → va_S A s.heap H locs → lv_has ls 5 [] → wpX11_jump_132 σ Q → W p l e (gR 3 0 0) s m #[.ref (ad 0 1000), .int (Int32.ofInt a1), .int (Int32.ofInt a2)] below meth c H locs 0 0 QQ (F0 m 132 ls []) := by
    intro σ H locs ls hP hD hS hl hw
    unfold wpX11_jump_132 at hw
    refine lv_iconst (v := Int32.ofInt 1) hx hb dX11_jump_132 (by decide) ?_
    exact hret 1 σ _ _ _ _ (by decide) hw hP hD hS dX11_jump_133
  have j126 : ∀ (v2 v3 s1 : Int) (σ : ZS), ∀ (H : Heap) (locs : List Loc) (ls : Array Slot), va_P D vwC (zR dA ad σ) H → va_D A (zR dA ad σ) → va_S A s.heap H locs → lv_has ls 5 [(2, .int (Int32.ofInt v2)), (3, .int (Int32.ofInt v3))] → wpX11_jump_126 v2 v3 s1 σ Q → W p l e (gR 3 0 0) s m #[.ref (ad 0 1000), .int (Int32.ofInt a1), .int (Int32.ofInt a2)] below meth c H locs 0 0 QQ (F0 m 126 ls [.int (Int32.ofInt s1), .ref (ad 0 1000)]) := by
    intro v2 v3 s1 σ H locs ls hP hD hS hl hw
    unfold wpX11_jump_126 at hw
    refine lv_iload_n hx hb dX11_jump_126 rfl (lv_at hl 1 rfl) ?_
    refine lv_iconst (v := Int32.ofInt 0) hx hb dX11_jump_127 (by decide) ?_
    refine lv_iload_n hx hb dX11_jump_128 rfl (lv_at hl 0 rfl) ?_
    refine z_Vv (n := 4) (As := [.int (Int32.ofInt s1), .int (Int32.ofInt v3), .int (Int32.ofInt 0), .int (Int32.ofInt v2)]) (rest := []) hx hb hml hg hown hK hP hD hS hA (kX11_piece l D dA ad s1 v3 0 v2 σ _ _ hw) (zoR0) rfl q1939 q160 q1936 q1938 q88 (by decide +kernel) ⟨(Nat.le_of_ble_eq_true rfl), (Nat.le_of_ble_eq_true rfl)⟩ rfl hl.1 rfl (Nat.le_of_ble_eq_true rfl) dX11_jump_129 ⟨(Nat.le_of_ble_eq_true rfl), (Nat.le_of_ble_eq_true rfl)⟩ (fun σ2 H locs hw hP hD hS => ?_)
    exact j132 σ2 _ _ _ hP hD hS (lv_sub hl [] rfl) hw
  have j44 : ∀ (v1 v2 v3 s0 : Int) (σ : ZS), ∀ (H : Heap) (locs : List Loc) (ls : Array Slot), va_P D vwC (zR dA ad σ) H → va_D A (zR dA ad σ) → va_S A s.heap H locs → lv_has ls 5 [(0, .ref (ad 0 1000)), (1, .int (Int32.ofInt v1)), (2, .int (Int32.ofInt v2)), (3, .int (Int32.ofInt v3))] → wpX11_jump_44 v1 v2 v3 s0 σ Q → W p l e (gR 3 0 0) s m #[.ref (ad 0 1000), .int (Int32.ofInt a1), .int (Int32.ofInt a2)] below meth c H locs 0 0 QQ (F0 m 44 ls [.int (Int32.ofInt s0)]) := by
    intro v1 v2 v3 s0 σ H locs ls hP hD hS hl hw
    unfold wpX11_jump_44 at hw
    refine lv_istore (lv' := [(4, .int (Int32.ofInt s0)), (0, .ref (ad 0 1000)), (1, .int (Int32.ofInt v1)), (2, .int (Int32.ofInt v2)), (3, .int (Int32.ofInt v3))]) hx hb dX11_jump_44 hl (by decide) rfl (fun ls hl => ?_)
    refine lv_aload_n hx hb dX11_jump_46 rfl (lv_at hl 1 rfl) ?_
    refine lv_iload hx hb dX11_jump_47 (lv_at hl 0 rfl) ?_
    refine lv_iload_n hx hb dX11_jump_49 rfl (lv_at hl 4 rfl) ?_
    refine lv_aload_n hx hb dX11_jump_50 rfl (lv_at hl 1 rfl) ?_
    refine zgR0_6 hx hb hg hown hK hP q1621 dX11_jump_51 ?_
    refine z_Vv (n := 3) (As := [.int (Int32.ofInt s0), .int (Int32.ofInt v3), .int (Int32.ofInt (zI σ 0 6))]) (rest := []) hx hb hml hg hown hK hP hD hS hA (kX11_use l D dA ad s0 v3 (zI σ 0 6) σ _ _ hw) (zoR0) rfl q1959 q160 q1956 q1958 q93 (by decide +kernel) ⟨(Nat.le_of_ble_eq_true rfl), (Nat.le_of_ble_eq_true rfl)⟩ rfl hl.1 rfl (Nat.le_of_ble_eq_true rfl) dX11_jump_54 ⟨(Nat.le_of_ble_eq_true rfl), (Nat.le_of_ble_eq_true rfl)⟩ (fun σ4 H locs hw hP hD hS => ?_)
    refine lv_aload_n hx hb dX11_jump_57 rfl (lv_at hl 1 rfl) ?_
    refine z_Vv (n := 0) (As := []) (rest := []) hx hb hml hg hown hK hP hD hS hA (kX11_next l D dA ad σ4 _ _ hw) (zoR0) rfl q1895 q160 q1892 q1894 q79 (by decide +kernel) ⟨(Nat.le_of_ble_eq_true rfl), (Nat.le_of_ble_eq_true rfl)⟩ rfl hl.1 rfl (Nat.le_of_ble_eq_true rfl) dX11_jump_58 ⟨(Nat.le_of_ble_eq_true rfl), (Nat.le_of_ble_eq_true rfl)⟩ (fun σ6 H locs hw hP hD hS => ?_)
    refine lv_iload hx hb dX11_jump_61 (lv_at hl 0 rfl) ?_
    refine lv_iconst (v := Int32.ofInt 4) hx hb dX11_jump_63 (by decide) ?_
    obtain ⟨o7, hw⟩ := hw
    refine z_icmp_ne (tgt := 93) hx hb o7 (by decide) dX11_jump_64 (by decide) (fun k8 => ?_) (fun k8 => ?_)
    · replace hw := hw.1 k8
      refine lv_iload hx hb dX11_jump_93 (lv_at hl 0 rfl) ?_
      refine lv_iconst (v := Int32.ofInt 2) hx hb dX11_jump_95 (by decide) ?_
      refine z_icmp_ne (tgt := 113) hx hb o7 (by decide) dX11_jump_96 (by decide) (fun k9 => ?_) (fun k9 => ?_)
      · replace hw := hw.1 k9
        refine lv_aload_n hx hb dX11_jump_113 rfl (lv_at hl 1 rfl) ?_
        refine lv_iload_n hx hb dX11_jump_114 rfl (lv_at hl 2 rfl) ?_
        refine lv_bipush (v := Int32.ofInt 34) hx hb dX11_jump_115 (by decide) ?_
        obtain ⟨o10, hw⟩ := hw
        refine z_icmp_ne (tgt := 124) hx hb o10 (by decide) dX11_jump_117 (by decide) (fun k11 => ?_) (fun k11 => ?_)
        · replace hw := hw.1 k11
          refine lv_bipush (v := Int32.ofInt 6) hx hb dX11_jump_124 (by decide) ?_
          exact j126 v2 v3 6 σ6 _ _ _ hP hD hS (lv_sub hl [3, 4] rfl) hw
        · replace hw := hw.2 k11
          refine lv_iconst (v := Int32.ofInt 4) hx hb dX11_jump_120 (by decide) ?_
          refine lv_goto (tgt := 126) hx hb dX11_jump_121 (by decide) ?_
          exact j126 v2 v3 4 σ6 _ _ _ hP hD hS (lv_sub hl [3, 4] rfl) hw
      · replace hw := hw.2 k9
        refine lv_aload_n hx hb dX11_jump_99 rfl (lv_at hl 1 rfl) ?_
        refine lv_iconst (v := Int32.ofInt 5) hx hb dX11_jump_100 (by decide) ?_
        refine lv_iload_n hx hb dX11_jump_101 rfl (lv_at hl 4 rfl) ?_
        refine lv_iload_n hx hb dX11_jump_102 rfl (lv_at hl 2 rfl) ?_
        refine z_Si (n := 1) (As := [.int (Int32.ofInt v1)]) (rest := [.int (Int32.ofInt v3), .int (Int32.ofInt 5), .ref (ad 0 1000)]) hx hb hml hg hown hK hP hD hS hA (kX11_jumpCode l D dA ad v1 σ6 _ _ hw) q2022 q160 q2020 q2021 (by decide +kernel) ⟨(Nat.le_of_ble_eq_true rfl), (Nat.le_of_ble_eq_true rfl)⟩ rfl hl.1 rfl (Nat.le_of_ble_eq_true rfl) dX11_jump_103 ⟨(Nat.le_of_ble_eq_true rfl), (Nat.le_of_ble_eq_true rfl)⟩ (fun x12 σ13 H locs hw hP hD hS => ?_)
        refine lv_iload_n hx hb dX11_jump_106 rfl (lv_at hl 3 rfl) ?_
        refine z_Vv (n := 4) (As := [.int (Int32.ofInt 5), .int (Int32.ofInt v3), .int (Int32.ofInt x12), .int (Int32.ofInt v2)]) (rest := []) hx hb hml hg hown hK hP hD hS hA (kX11_piece l D dA ad 5 v3 x12 v2 σ13 _ _ hw) (zoR0) rfl q1939 q160 q1936 q1938 q88 (by decide +kernel) ⟨(Nat.le_of_ble_eq_true rfl), (Nat.le_of_ble_eq_true rfl)⟩ rfl hl.1 rfl (Nat.le_of_ble_eq_true rfl) dX11_jump_107 ⟨(Nat.le_of_ble_eq_true rfl), (Nat.le_of_ble_eq_true rfl)⟩ (fun σ15 H locs hw hP hD hS => ?_)
        refine lv_goto (tgt := 132) hx hb dX11_jump_110 (by decide) ?_
        exact j132 σ15 _ _ _ hP hD hS (lv_sub hl [] rfl) hw
    · replace hw := hw.2 k8
      refine lv_aload_n hx hb dX11_jump_67 rfl (lv_at hl 1 rfl) ?_
      refine lv_sipush (v := Int32.ofInt 154) hx hb dX11_jump_68 (by decide) ?_
      refine z_Vv (n := 1) (As := [.int (Int32.ofInt 154)]) (rest := []) hx hb hml hg hown hK hP hD hS hA (kX11_octet l D dA ad 154 σ6 _ _ hw) (zoR0) rfl q1951 q160 q1948 q1950 q91 (by decide +kernel) ⟨(Nat.le_of_ble_eq_true rfl), (Nat.le_of_ble_eq_true rfl)⟩ rfl hl.1 rfl (Nat.le_of_ble_eq_true rfl) dX11_jump_71 ⟨(Nat.le_of_ble_eq_true rfl), (Nat.le_of_ble_eq_true rfl)⟩ (fun σ17 H locs hw hP hD hS => ?_)
      refine lv_aload_n hx hb dX11_jump_74 rfl (lv_at hl 1 rfl) ?_
      refine lv_iconst (v := Int32.ofInt 2) hx hb dX11_jump_75 (by decide) ?_
      refine lv_iload_n hx hb dX11_jump_76 rfl (lv_at hl 4 rfl) ?_
      refine lv_iconst (v := Int32.ofInt 0) hx hb dX11_jump_77 (by decide) ?_
      refine lv_iconst (v := Int32.ofInt 0) hx hb dX11_jump_78 (by decide) ?_
      refine z_Vv (n := 4) (As := [.int (Int32.ofInt 2), .int (Int32.ofInt v3), .int (Int32.ofInt 0), .int (Int32.ofInt 0)]) (rest := []) hx hb hml hg hown hK hP hD hS hA (kX11_piece l D dA ad 2 v3 0 0 σ17 _ _ hw) (zoR0) rfl q1939 q160 q1936 q1938 q88 (by decide +kernel) ⟨(Nat.le_of_ble_eq_true rfl), (Nat.le_of_ble_eq_true rfl)⟩ rfl hl.1 rfl (Nat.le_of_ble_eq_true rfl) dX11_jump_79 ⟨(Nat.le_of_ble_eq_true rfl), (Nat.le_of_ble_eq_true rfl)⟩ (fun σ19 H locs hw hP hD hS => ?_)
      refine lv_aload_n hx hb dX11_jump_82 rfl (lv_at hl 1 rfl) ?_
      refine lv_iconst (v := Int32.ofInt 3) hx hb dX11_jump_83 (by decide) ?_
      refine lv_iload_n hx hb dX11_jump_84 rfl (lv_at hl 4 rfl) ?_
      refine lv_iconst (v := Int32.ofInt 0) hx hb dX11_jump_85 (by decide) ?_
      refine lv_iconst (v := Int32.ofInt 0) hx hb dX11_jump_86 (by decide) ?_
      refine z_Vv (n := 4) (As := [.int (Int32.ofInt 3), .int (Int32.ofInt v3), .int (Int32.ofInt 0), .int (Int32.ofInt 0)]) (rest := []) hx hb hml hg hown hK hP hD hS hA (kX11_piece l D dA ad 3 v3 0 0 σ19 _ _ hw) (zoR0) rfl q1939 q160 q1936 q1938 q88 (by decide +kernel) ⟨(Nat.le_of_ble_eq_true rfl), (Nat.le_of_ble_eq_true rfl)⟩ rfl hl.1 rfl (Nat.le_of_ble_eq_true rfl) dX11_jump_87 ⟨(Nat.le_of_ble_eq_true rfl), (Nat.le_of_ble_eq_true rfl)⟩ (fun σ21 H locs hw hP hD hS => ?_)
      refine lv_goto (tgt := 132) hx hb dX11_jump_90 (by decide) ?_
      exact j132 σ21 _ _ _ hP hD hS (lv_sub hl [] rfl) hw
  have j39 : ∀ (v1 v2 v3 : Int) (σ : ZS), ∀ (H : Heap) (locs : List Loc) (ls : Array Slot), va_P D vwC (zR dA ad σ) H → va_D A (zR dA ad σ) → va_S A s.heap H locs → lv_has ls 5 [(0, .ref (ad 0 1000)), (1, .int (Int32.ofInt v1)), (2, .int (Int32.ofInt v2)), (3, .int (Int32.ofInt v3))] → wpX11_jump_39 v1 v2 v3 σ Q → W p l e (gR 3 0 0) s m #[.ref (ad 0 1000), .int (Int32.ofInt a1), .int (Int32.ofInt a2)] below meth c H locs 0 0 QQ (F0 m 39 ls []) := by
    intro v1 v2 v3 σ H locs ls hP hD hS hl hw
    unfold wpX11_jump_39 at hw
    refine lv_iconst (v := Int32.ofInt 3) hx hb dX11_jump_39 (by decide) ?_
    refine lv_goto (tgt := 44) hx hb dX11_jump_40 (by decide) ?_
    exact j44 v1 v2 v3 3 σ _ _ _ hP hD hS (lv_sub hl [0, 1, 2, 3] rfl) hw
  unfold wpX11_jump at hw
  refine lv_aload_n hx hb dX11_jump_0 rfl (lv_at hl 0 rfl) ?_
  refine z_Vi (n := 0) (As := []) (rest := []) hx hb hml hg hown hK hP hD hS hA (kX11_isName l D dA ad σ _ _ hw) (zoR0) rfl q1915 q160 q1912 q1914 q82 (by decide +kernel) ⟨(Nat.le_of_ble_eq_true rfl), (Nat.le_of_ble_eq_true rfl)⟩ rfl hl.1 rfl (Nat.le_of_ble_eq_true rfl) dX11_jump_1 ⟨(Nat.le_of_ble_eq_true rfl), (Nat.le_of_ble_eq_true rfl)⟩ (fun x22 σ23 H locs hw hP hD hS => ?_)
  obtain ⟨o24, hw⟩ := hw
  refine z_if_ne (tgt := 12) hx hb o24 dX11_jump_4 (by decide) (fun k25 => ?_) (fun k25 => ?_)
  · replace hw := hw.1 k25
    refine lv_aload_n hx hb dX11_jump_12 rfl (lv_at hl 0 rfl) ?_
    refine z_Vi (n := 0) (As := []) (rest := []) hx hb hml hg hown hK hP hD hS hA (kX11_name l D dA ad σ23 _ _ hw) (zoR0) rfl q1923 q160 q1920 q1922 q84 (by decide +kernel) ⟨(Nat.le_of_ble_eq_true rfl), (Nat.le_of_ble_eq_true rfl)⟩ rfl hl.1 rfl (Nat.le_of_ble_eq_true rfl) dX11_jump_13 ⟨(Nat.le_of_ble_eq_true rfl), (Nat.le_of_ble_eq_true rfl)⟩ (fun x26 σ27 H locs hw hP hD hS => ?_)
    refine lv_istore_n (lv' := [(3, .int (Int32.ofInt x26)), (0, .ref (ad 0 1000)), (1, .int (Int32.ofInt a1)), (2, .int (Int32.ofInt a2))]) hx hb dX11_jump_16 rfl hl (by decide) rfl (fun ls hl => ?_)
    refine lv_iload_n hx hb dX11_jump_17 rfl (lv_at hl 2 rfl) ?_
    refine lv_bipush (v := Int32.ofInt 43) hx hb dX11_jump_18 (by decide) ?_
    obtain ⟨o28, hw⟩ := hw
    refine z_icmp_ne (tgt := 27) hx hb o28 (by decide) dX11_jump_20 (by decide) (fun k29 => ?_) (fun k29 => ?_)
    · replace hw := hw.1 k29
      refine lv_iload_n hx hb dX11_jump_27 rfl (lv_at hl 2 rfl) ?_
      refine lv_bipush (v := Int32.ofInt 34) hx hb dX11_jump_28 (by decide) ?_
      refine z_icmp_eq (tgt := 39) hx hb o28 (by decide) dX11_jump_30 (by decide) (fun k30 => ?_) (fun k30 => ?_)
      · replace hw := hw.1 k30
        exact j39 a1 a2 x26 σ27 _ _ _ hP hD hS (lv_sub hl [1, 2, 3, 0] rfl) hw
      · replace hw := hw.2 k30
        refine lv_iload_n hx hb dX11_jump_33 rfl (lv_at hl 2 rfl) ?_
        refine lv_bipush (v := Int32.ofInt 42) hx hb dX11_jump_34 (by decide) ?_
        refine z_icmp_ne (tgt := 43) hx hb o28 (by decide) dX11_jump_36 (by decide) (fun k31 => ?_) (fun k31 => ?_)
        · replace hw := hw.1 k31
          refine lv_iconst (v := Int32.ofInt 2) hx hb dX11_jump_43 (by decide) ?_
          exact j44 a1 a2 x26 2 σ27 _ _ _ hP hD hS (lv_sub hl [1, 2, 3, 0] rfl) hw
        · replace hw := hw.2 k31
          exact j39 a1 a2 x26 σ27 _ _ _ hP hD hS (lv_sub hl [1, 2, 3, 0] rfl) hw
    · replace hw := hw.2 k29
      refine lv_iconst (v := Int32.ofInt 4) hx hb dX11_jump_23 (by decide) ?_
      refine lv_goto (tgt := 44) hx hb dX11_jump_24 (by decide) ?_
      exact j44 a1 a2 x26 4 σ27 _ _ _ hP hD hS (lv_sub hl [1, 2, 3, 0] rfl) hw
  · replace hw := hw.2 k25
    refine lv_aload_n hx hb dX11_jump_7 rfl (lv_at hl 0 rfl) ?_
    refine z_Vi (n := 0) (As := []) (rest := []) hx hb hml hg hown hK hP hD hS hA (kX11_fault l D dA ad σ23 _ _ hw) (zoR0) rfl q1919 q160 q1916 q1918 q83 (by decide +kernel) ⟨(Nat.le_of_ble_eq_true rfl), (Nat.le_of_ble_eq_true rfl)⟩ rfl hl.1 rfl (Nat.le_of_ble_eq_true rfl) dX11_jump_8 ⟨(Nat.le_of_ble_eq_true rfl), (Nat.le_of_ble_eq_true rfl)⟩ (fun x32 σ33 H locs hw hP hD hS => ?_)
    obtain ⟨o34, hw⟩ := hw
    exact hret x32 σ33 _ _ _ _ o34 hw hP hD hS dX11_jump_11
def wpX11_instruction_181 (σ : ZS) (Q : Int → ZS → Prop) : Prop := Q 1 σ
def wpX11_instruction_178 (s1 : Int) (σ : ZS) (Q : Int → ZS → Prop) : Prop := wpX11_octet s1 σ (fun (σ2 : ZS) => wpX11_instruction_181 σ2 Q)
def wpX11_instruction_123 (σ : ZS) (Q : Int → ZS → Prop) : Prop := wpX11_fault σ (fun (x3 : Int) (σ4 : ZS) => (0 ≤ x3 ∧ x3 ≤ 1) ∧ Q x3 σ4)
def wpX11_instruction_58 (s1 : Int) (σ : ZS) (Q : Int → ZS → Prop) : Prop := wpX11_reckon s1 σ (fun (x6 : Int) (σ7 : ZS) => (0 ≤ x6 ∧ x6 ≤ 1) ∧ Q x6 σ7)
def wpX11_instruction (σ : ZS) (Q : Int → ZS → Prop) : Prop := wpX11_next σ (fun (σ10 : ZS) => (-2147483648 ≤ (zI σ 0 9) ∧ (zI σ 0 9) ≤ 2147483647) ∧ (¬ (zI σ 0 9) = 18 → (24 < (zI σ 0 9) → (28 < (zI σ 0 9) → (33 < (zI σ 0 9) → (43 < (zI σ 0 9) → (¬ (zI σ 0 9) = 46 → (¬ (zI σ 0 9) = 44 → (¬ (zI σ 0 9) = 45 → wpX11_instruction_178 244 σ10 Q) ∧ ((zI σ 0 9) = 45 → wpX11_instruction_178 203 σ10 Q)) ∧ ((zI σ 0 9) = 44 → wpX11_instruction_178 195 σ10 Q)) ∧ ((zI σ 0 9) = 46 → (-2147483648 ≤ (zI σ10 0 7) ∧ (zI σ10 0 7) ≤ 2147483647) ∧ (¬ (zI σ10 0 7) = 2 → wpX11_instruction_123 σ10 Q) ∧ ((zI σ10 0 7) = 2 → (-2147483648 ≤ (zI σ10 0 10) ∧ (zI σ10 0 10) ≤ 2147483647) ∧ ((zI σ10 0 10) ≤ 255 → wpX11_octet 205 σ10 (fun (σ25 : ZS) => wpX11_octet (zI σ25 0 10) σ25 (fun (σ27 : ZS) => wpX11_next σ27 (fun (σ29 : ZS) => wpX11_instruction_181 σ29 Q)))) ∧ (¬ (zI σ10 0 10) ≤ 255 → wpX11_instruction_123 σ10 Q)))) ∧ (¬ 43 < (zI σ 0 9) → wpX11_jump (zI σ 0 9) (zI σ 0 6) σ10 (fun (x30 : Int) (σ31 : ZS) => (0 ≤ x30 ∧ x30 ≤ 1) ∧ Q x30 σ31))) ∧ (¬ 33 < (zI σ 0 9) → wpX11_single (zI σ 0 9) σ10 (fun (x33 : Int) (σ34 : ZS) => (0 ≤ x33 ∧ x33 ≤ 1) ∧ Q x33 σ34))) ∧ (¬ 28 < (zI σ 0 9) → wpX11_stack (zI σ 0 9) σ10 (fun (x36 : Int) (σ37 : ZS) => (0 ≤ x36 ∧ x36 ≤ 1) ∧ Q x36 σ37))) ∧ (¬ 24 < (zI σ 0 9) → (¬ (zI σ 0 9) = 19 → (¬ (zI σ 0 9) = 20 → wpX11_instruction_58 (((zI σ 0 9) - 21) + 4) σ10 Q) ∧ ((zI σ 0 9) = 20 → wpX11_instruction_58 1 σ10 Q)) ∧ ((zI σ 0 9) = 19 → wpX11_instruction_58 0 σ10 Q))) ∧ ((zI σ 0 9) = 18 → wpX11_mov σ10 (fun (x41 : Int) (σ42 : ZS) => (0 ≤ x41 ∧ x41 ≤ 1) ∧ Q x41 σ42)))
set_option maxHeartbeats 4000000 in
set_option maxRecDepth 100000 in
theorem kX11_instruction (l : Launch) (D : va_G) (dA : Nat → ClassId) (ad : Int → Nat → Nat) (σ : ZS) (Q : Int → ZS → Prop) (sz : Nat) (hw : wpX11_instruction σ Q) : Met l yX11_instruction (gws yX11_instruction cX11_instruction 3 (some .boolean)) (gR 8 0 0) (gPre D dA [.ref (ad 0 1000)] (zR dA ad σ) sz) (va_Qi (zQi Q) (gAt D dA (va_A (zR dA ad σ) sz) (zR dA ad)) (va_A (zR dA ad σ) sz)) 0 0 (va_A (zR dA ad σ) sz) := by
  refine Met.ofW (cc := cX11_instruction) (maxL := 3) (ret := (some .boolean)) (by decide) rfl ?_
  intro p e s m args below meth c s₁ B hml hv
  obtain ⟨rfl, hsz, hP, hK, hD0⟩ := hv
  have hx := B.exec
  have hb := B.bytes
  have hr := B.returns
  have hts := atoms_spec (ws := gws yX11_instruction cX11_instruction 3 (some .boolean)) B.pre
  have hg : ∀ w ∈ gw, w.before _ s = true := fun w h => hts w (List.mem_cons_of_mem _ h)
  have hown : s.vm.findClass RX11 = some m.cls := findClass_of_methodNamed B.named
  have hlocks := B.notSynchronized
  subst hsz
  have hD := hD0.self (sz := s.heap.size)
  generalize hAe : va_A (zR dA ad σ) s.heap.size = A at hD ⊢
  have hA : ∀ q : Nat, s.heap.size ≤ q → A q := fun q h => by rw [← hAe]; exact Or.inr h
  have hS : va_S A s.heap s.heap [] := va_S.rf
  have hl := lv_entry ([.ref (ad 0 1000)]) (n := 3) (Nat.le_of_ble_eq_true rfl)
  rw [lg_entry_eq]
  generalize (lg_sl ([.ref (ad 0 1000)]) ++ List.replicate (3 - (lg_sl ([.ref (ad 0 1000)])).length) Slot.unset).toArray = ls at hl ⊢
  have hl : lv_has ls 3 [(0, .ref (ad 0 1000))] := hl
  have hret : ∀ (v : Int) (σ : ZS) (H : Heap) (locs : List Loc) (ls : Array Slot) (pc : Nat), (0 ≤ v ∧ v ≤ 1) → Q v σ → va_P D vwC (zR dA ad σ) H → va_D A (zR dA ad σ) → va_S A s.heap H locs → decode cX11_instruction pc = .ok (.ireturn, 1) → W p l e (gR 8 0 0) s m #[.ref (ad 0 1000)] below meth c H locs 0 0 (MQ below (va_Qi (zQi Q) (gAt D dA A (zR dA ad)) A) #[.ref (ad 0 1000)] s 0 0 A) (F0 m pc ls [.int (Int32.ofInt v)]) := fun v σ H locs ls pc hv hw hP hD hS hd => g_iret hx hb hr (z_nb hv) hlocks hK σ hP hD hS ⟨v, rfl, hw⟩ (Nat.le_of_ble_eq_true rfl) (Nat.le_of_ble_eq_true rfl) hd
  generalize MQ below (va_Qi (zQi Q) (gAt D dA A (zR dA ad)) A) #[.ref (ad 0 1000)] s 0 0 A = QQ at hret ⊢
  have j181 : ∀ (σ : ZS), ∀ (H : Heap) (locs : List Loc) (ls : Array Slot), va_P D vwC (zR dA ad σ) H → va_D A (zR dA ad σ) → va_S A s.heap H locs → lv_has ls 3 [] → wpX11_instruction_181 σ Q → W p l e (gR 8 0 0) s m #[.ref (ad 0 1000)] below meth c H locs 0 0 QQ (F0 m 181 ls []) := by
    intro σ H locs ls hP hD hS hl hw
    unfold wpX11_instruction_181 at hw
    refine lv_iconst (v := Int32.ofInt 1) hx hb dX11_instruction_181 (by decide) ?_
    exact hret 1 σ _ _ _ _ (by decide) hw hP hD hS dX11_instruction_182
  have j178 : ∀ (s1 : Int) (σ : ZS), ∀ (H : Heap) (locs : List Loc) (ls : Array Slot), va_P D vwC (zR dA ad σ) H → va_D A (zR dA ad σ) → va_S A s.heap H locs → lv_has ls 3 [] → wpX11_instruction_178 s1 σ Q → W p l e (gR 8 0 0) s m #[.ref (ad 0 1000)] below meth c H locs 0 0 QQ (F0 m 178 ls [.int (Int32.ofInt s1), .ref (ad 0 1000)]) := by
    intro s1 σ H locs ls hP hD hS hl hw
    unfold wpX11_instruction_178 at hw
    refine z_Vv (n := 1) (As := [.int (Int32.ofInt s1)]) (rest := []) hx hb hml hg hown hK hP hD hS hA (kX11_octet l D dA ad s1 σ _ _ hw) (zoR0) rfl q1951 q160 q1948 q1950 q91 (by decide +kernel) ⟨(Nat.le_of_ble_eq_true rfl), (Nat.le_of_ble_eq_true rfl)⟩ rfl hl.1 rfl (Nat.le_of_ble_eq_true rfl) dX11_instruction_178 ⟨(Nat.le_of_ble_eq_true rfl), (Nat.le_of_ble_eq_true rfl)⟩ (fun σ2 H locs hw hP hD hS => ?_)
    exact j181 σ2 _ _ _ hP hD hS (lv_sub hl [] rfl) hw
  have j123 : ∀ (σ : ZS), ∀ (H : Heap) (locs : List Loc) (ls : Array Slot), va_P D vwC (zR dA ad σ) H → va_D A (zR dA ad σ) → va_S A s.heap H locs → lv_has ls 3 [(0, .ref (ad 0 1000))] → wpX11_instruction_123 σ Q → W p l e (gR 8 0 0) s m #[.ref (ad 0 1000)] below meth c H locs 0 0 QQ (F0 m 123 ls []) := by
    intro σ H locs ls hP hD hS hl hw
    unfold wpX11_instruction_123 at hw
    refine lv_aload_n hx hb dX11_instruction_123 rfl (lv_at hl 0 rfl) ?_
    refine z_Vi (n := 0) (As := []) (rest := []) hx hb hml hg hown hK hP hD hS hA (kX11_fault l D dA ad σ _ _ hw) (zoR0) rfl q1919 q160 q1916 q1918 q83 (by decide +kernel) ⟨(Nat.le_of_ble_eq_true rfl), (Nat.le_of_ble_eq_true rfl)⟩ rfl hl.1 rfl (Nat.le_of_ble_eq_true rfl) dX11_instruction_124 ⟨(Nat.le_of_ble_eq_true rfl), (Nat.le_of_ble_eq_true rfl)⟩ (fun x3 σ4 H locs hw hP hD hS => ?_)
    obtain ⟨o5, hw⟩ := hw
    exact hret x3 σ4 _ _ _ _ o5 hw hP hD hS dX11_instruction_127
  have j58 : ∀ (s1 : Int) (σ : ZS), ∀ (H : Heap) (locs : List Loc) (ls : Array Slot), va_P D vwC (zR dA ad σ) H → va_D A (zR dA ad σ) → va_S A s.heap H locs → lv_has ls 3 [] → wpX11_instruction_58 s1 σ Q → W p l e (gR 8 0 0) s m #[.ref (ad 0 1000)] below meth c H locs 0 0 QQ (F0 m 58 ls [.int (Int32.ofInt s1), .ref (ad 0 1000)]) := by
    intro s1 σ H locs ls hP hD hS hl hw
    unfold wpX11_instruction_58 at hw
    refine z_Vi (n := 1) (As := [.int (Int32.ofInt s1)]) (rest := []) hx hb hml hg hown hK hP hD hS hA (kX11_reckon l D dA ad s1 σ _ _ hw) (zoR0) rfl q2007 q160 q2004 q2006 q105 (by decide +kernel) ⟨(Nat.le_of_ble_eq_true rfl), (Nat.le_of_ble_eq_true rfl)⟩ rfl hl.1 rfl (Nat.le_of_ble_eq_true rfl) dX11_instruction_58 ⟨(Nat.le_of_ble_eq_true rfl), (Nat.le_of_ble_eq_true rfl)⟩ (fun x6 σ7 H locs hw hP hD hS => ?_)
    obtain ⟨o8, hw⟩ := hw
    exact hret x6 σ7 _ _ _ _ o8 hw hP hD hS dX11_instruction_61
  unfold wpX11_instruction at hw
  refine lv_aload_n hx hb dX11_instruction_0 rfl (lv_at hl 0 rfl) ?_
  refine zgR0_9 hx hb hg hown hK hP q1624 dX11_instruction_1 ?_
  refine lv_istore_n (lv' := [(1, .int (Int32.ofInt (zI σ 0 9))), (0, .ref (ad 0 1000))]) hx hb dX11_instruction_4 rfl hl (by decide) rfl (fun ls hl => ?_)
  refine lv_aload_n hx hb dX11_instruction_5 rfl (lv_at hl 1 rfl) ?_
  refine zgR0_6 hx hb hg hown hK hP q1621 dX11_instruction_6 ?_
  refine lv_istore_n (lv' := [(2, .int (Int32.ofInt (zI σ 0 6))), (1, .int (Int32.ofInt (zI σ 0 9))), (0, .ref (ad 0 1000))]) hx hb dX11_instruction_9 rfl hl (by decide) rfl (fun ls hl => ?_)
  refine lv_aload_n hx hb dX11_instruction_10 rfl (lv_at hl 2 rfl) ?_
  refine z_Vv (n := 0) (As := []) (rest := []) hx hb hml hg hown hK hP hD hS hA (kX11_next l D dA ad σ _ _ hw) (zoR0) rfl q1895 q160 q1892 q1894 q79 (by decide +kernel) ⟨(Nat.le_of_ble_eq_true rfl), (Nat.le_of_ble_eq_true rfl)⟩ rfl hl.1 rfl (Nat.le_of_ble_eq_true rfl) dX11_instruction_11 ⟨(Nat.le_of_ble_eq_true rfl), (Nat.le_of_ble_eq_true rfl)⟩ (fun σ10 H locs hw hP hD hS => ?_)
  refine lv_iload_n hx hb dX11_instruction_14 rfl (lv_at hl 1 rfl) ?_
  refine lv_bipush (v := Int32.ofInt 18) hx hb dX11_instruction_15 (by decide) ?_
  obtain ⟨o11, hw⟩ := hw
  refine z_icmp_ne (tgt := 25) hx hb o11 (by decide) dX11_instruction_17 (by decide) (fun k12 => ?_) (fun k12 => ?_)
  · replace hw := hw.1 k12
    refine lv_iload_n hx hb dX11_instruction_25 rfl (lv_at hl 1 rfl) ?_
    refine lv_bipush (v := Int32.ofInt 24) hx hb dX11_instruction_26 (by decide) ?_
    refine z_icmp_gt (tgt := 62) hx hb o11 (by decide) dX11_instruction_28 (by decide) (fun k13 => ?_) (fun k13 => ?_)
    · replace hw := hw.1 k13
      refine lv_iload_n hx hb dX11_instruction_62 rfl (lv_at hl 1 rfl) ?_
      refine lv_bipush (v := Int32.ofInt 28) hx hb dX11_instruction_63 (by decide) ?_
      refine z_icmp_gt (tgt := 74) hx hb o11 (by decide) dX11_instruction_65 (by decide) (fun k14 => ?_) (fun k14 => ?_)
      · replace hw := hw.1 k14
        refine lv_iload_n hx hb dX11_instruction_74 rfl (lv_at hl 1 rfl) ?_
        refine lv_bipush (v := Int32.ofInt 33) hx hb dX11_instruction_75 (by decide) ?_
        refine z_icmp_gt (tgt := 86) hx hb o11 (by decide) dX11_instruction_77 (by decide) (fun k15 => ?_) (fun k15 => ?_)
        · replace hw := hw.1 k15
          refine lv_iload_n hx hb dX11_instruction_86 rfl (lv_at hl 1 rfl) ?_
          refine lv_bipush (v := Int32.ofInt 43) hx hb dX11_instruction_87 (by decide) ?_
          refine z_icmp_gt (tgt := 99) hx hb o11 (by decide) dX11_instruction_89 (by decide) (fun k16 => ?_) (fun k16 => ?_)
          · replace hw := hw.1 k16
            refine lv_iload_n hx hb dX11_instruction_99 rfl (lv_at hl 1 rfl) ?_
            refine lv_bipush (v := Int32.ofInt 46) hx hb dX11_instruction_100 (by decide) ?_
            refine z_icmp_ne (tgt := 150) hx hb o11 (by decide) dX11_instruction_102 (by decide) (fun k17 => ?_) (fun k17 => ?_)
            · replace hw := hw.1 k17
              refine lv_aload_n hx hb dX11_instruction_150 rfl (lv_at hl 2 rfl) ?_
              refine lv_iload_n hx hb dX11_instruction_151 rfl (lv_at hl 1 rfl) ?_
              refine lv_bipush (v := Int32.ofInt 44) hx hb dX11_instruction_152 (by decide) ?_
              refine z_icmp_ne (tgt := 163) hx hb o11 (by decide) dX11_instruction_154 (by decide) (fun k18 => ?_) (fun k18 => ?_)
              · replace hw := hw.1 k18
                refine lv_iload_n hx hb dX11_instruction_163 rfl (lv_at hl 1 rfl) ?_
                refine lv_bipush (v := Int32.ofInt 45) hx hb dX11_instruction_164 (by decide) ?_
                refine z_icmp_ne (tgt := 175) hx hb o11 (by decide) dX11_instruction_166 (by decide) (fun k19 => ?_) (fun k19 => ?_)
                · replace hw := hw.1 k19
                  refine lv_sipush (v := Int32.ofInt 244) hx hb dX11_instruction_175 (by decide) ?_
                  exact j178 244 σ10 _ _ _ hP hD hS (lv_sub hl [] rfl) hw
                · replace hw := hw.2 k19
                  refine lv_sipush (v := Int32.ofInt 203) hx hb dX11_instruction_169 (by decide) ?_
                  refine lv_goto (tgt := 178) hx hb dX11_instruction_172 (by decide) ?_
                  exact j178 203 σ10 _ _ _ hP hD hS (lv_sub hl [] rfl) hw
              · replace hw := hw.2 k18
                refine lv_sipush (v := Int32.ofInt 195) hx hb dX11_instruction_157 (by decide) ?_
                refine lv_goto (tgt := 178) hx hb dX11_instruction_160 (by decide) ?_
                exact j178 195 σ10 _ _ _ hP hD hS (lv_sub hl [] rfl) hw
            · replace hw := hw.2 k17
              refine lv_aload_n hx hb dX11_instruction_105 rfl (lv_at hl 2 rfl) ?_
              refine zgR0_7 hx hb hg hown hK hP q1622 dX11_instruction_106 ?_
              refine lv_iconst (v := Int32.ofInt 2) hx hb dX11_instruction_109 (by decide) ?_
              obtain ⟨o20, hw⟩ := hw
              refine z_icmp_ne (tgt := 123) hx hb o20 (by decide) dX11_instruction_110 (by decide) (fun k21 => ?_) (fun k21 => ?_)
              · replace hw := hw.1 k21
                exact j123 σ10 _ _ _ hP hD hS (lv_sub hl [2] rfl) hw
              · replace hw := hw.2 k21
                refine lv_aload_n hx hb dX11_instruction_113 rfl (lv_at hl 2 rfl) ?_
                refine zgR0_10 hx hb hg hown hK hP q1625 dX11_instruction_114 ?_
                refine lv_sipush (v := Int32.ofInt 255) hx hb dX11_instruction_117 (by decide) ?_
                obtain ⟨o22, hw⟩ := hw
                refine z_icmp_le (tgt := 128) hx hb o22 (by decide) dX11_instruction_120 (by decide) (fun k23 => ?_) (fun k23 => ?_)
                · replace hw := hw.1 k23
                  refine lv_aload_n hx hb dX11_instruction_128 rfl (lv_at hl 2 rfl) ?_
                  refine lv_sipush (v := Int32.ofInt 205) hx hb dX11_instruction_129 (by decide) ?_
                  refine z_Vv (n := 1) (As := [.int (Int32.ofInt 205)]) (rest := []) hx hb hml hg hown hK hP hD hS hA (kX11_octet l D dA ad 205 σ10 _ _ hw) (zoR0) rfl q1951 q160 q1948 q1950 q91 (by decide +kernel) ⟨(Nat.le_of_ble_eq_true rfl), (Nat.le_of_ble_eq_true rfl)⟩ rfl hl.1 rfl (Nat.le_of_ble_eq_true rfl) dX11_instruction_132 ⟨(Nat.le_of_ble_eq_true rfl), (Nat.le_of_ble_eq_true rfl)⟩ (fun σ25 H locs hw hP hD hS => ?_)
                  refine lv_aload_n hx hb dX11_instruction_135 rfl (lv_at hl 2 rfl) ?_
                  refine lv_aload_n hx hb dX11_instruction_136 rfl (lv_at hl 2 rfl) ?_
                  refine zgR0_10 hx hb hg hown hK hP q1625 dX11_instruction_137 ?_
                  refine z_Vv (n := 1) (As := [.int (Int32.ofInt (zI σ25 0 10))]) (rest := []) hx hb hml hg hown hK hP hD hS hA (kX11_octet l D dA ad (zI σ25 0 10) σ25 _ _ hw) (zoR0) rfl q1951 q160 q1948 q1950 q91 (by decide +kernel) ⟨(Nat.le_of_ble_eq_true rfl), (Nat.le_of_ble_eq_true rfl)⟩ rfl hl.1 rfl (Nat.le_of_ble_eq_true rfl) dX11_instruction_140 ⟨(Nat.le_of_ble_eq_true rfl), (Nat.le_of_ble_eq_true rfl)⟩ (fun σ27 H locs hw hP hD hS => ?_)
                  refine lv_aload_n hx hb dX11_instruction_143 rfl (lv_at hl 2 rfl) ?_
                  refine z_Vv (n := 0) (As := []) (rest := []) hx hb hml hg hown hK hP hD hS hA (kX11_next l D dA ad σ27 _ _ hw) (zoR0) rfl q1895 q160 q1892 q1894 q79 (by decide +kernel) ⟨(Nat.le_of_ble_eq_true rfl), (Nat.le_of_ble_eq_true rfl)⟩ rfl hl.1 rfl (Nat.le_of_ble_eq_true rfl) dX11_instruction_144 ⟨(Nat.le_of_ble_eq_true rfl), (Nat.le_of_ble_eq_true rfl)⟩ (fun σ29 H locs hw hP hD hS => ?_)
                  refine lv_goto (tgt := 181) hx hb dX11_instruction_147 (by decide) ?_
                  exact j181 σ29 _ _ _ hP hD hS (lv_sub hl [] rfl) hw
                · replace hw := hw.2 k23
                  exact j123 σ10 _ _ _ hP hD hS (lv_sub hl [2] rfl) hw
          · replace hw := hw.2 k16
            refine lv_aload_n hx hb dX11_instruction_92 rfl (lv_at hl 2 rfl) ?_
            refine lv_iload_n hx hb dX11_instruction_93 rfl (lv_at hl 1 rfl) ?_
            refine lv_iload_n hx hb dX11_instruction_94 rfl (lv_at hl 0 rfl) ?_
            refine z_Vi (n := 2) (As := [.int (Int32.ofInt (zI σ 0 9)), .int (Int32.ofInt (zI σ 0 6))]) (rest := []) hx hb hml hg hown hK hP hD hS hA (kX11_jump l D dA ad (zI σ 0 9) (zI σ 0 6) σ10 _ _ hw) (zoR0) rfl q2019 q160 q2016 q2018 q108 (by decide +kernel) ⟨(Nat.le_of_ble_eq_true rfl), (Nat.le_of_ble_eq_true rfl)⟩ rfl hl.1 rfl (Nat.le_of_ble_eq_true rfl) dX11_instruction_95 ⟨(Nat.le_of_ble_eq_true rfl), (Nat.le_of_ble_eq_true rfl)⟩ (fun x30 σ31 H locs hw hP hD hS => ?_)
            obtain ⟨o32, hw⟩ := hw
            exact hret x30 σ31 _ _ _ _ o32 hw hP hD hS dX11_instruction_98
        · replace hw := hw.2 k15
          refine lv_aload_n hx hb dX11_instruction_80 rfl (lv_at hl 2 rfl) ?_
          refine lv_iload_n hx hb dX11_instruction_81 rfl (lv_at hl 1 rfl) ?_
          refine z_Vi (n := 1) (As := [.int (Int32.ofInt (zI σ 0 9))]) (rest := []) hx hb hml hg hown hK hP hD hS hA (kX11_single l D dA ad (zI σ 0 9) σ10 _ _ hw) (zoR0) rfl q2015 q160 q2012 q2014 q107 (by decide +kernel) ⟨(Nat.le_of_ble_eq_true rfl), (Nat.le_of_ble_eq_true rfl)⟩ rfl hl.1 rfl (Nat.le_of_ble_eq_true rfl) dX11_instruction_82 ⟨(Nat.le_of_ble_eq_true rfl), (Nat.le_of_ble_eq_true rfl)⟩ (fun x33 σ34 H locs hw hP hD hS => ?_)
          obtain ⟨o35, hw⟩ := hw
          exact hret x33 σ34 _ _ _ _ o35 hw hP hD hS dX11_instruction_85
      · replace hw := hw.2 k14
        refine lv_aload_n hx hb dX11_instruction_68 rfl (lv_at hl 2 rfl) ?_
        refine lv_iload_n hx hb dX11_instruction_69 rfl (lv_at hl 1 rfl) ?_
        refine z_Vi (n := 1) (As := [.int (Int32.ofInt (zI σ 0 9))]) (rest := []) hx hb hml hg hown hK hP hD hS hA (kX11_stack l D dA ad (zI σ 0 9) σ10 _ _ hw) (zoR0) rfl q2011 q160 q2008 q2010 q106 (by decide +kernel) ⟨(Nat.le_of_ble_eq_true rfl), (Nat.le_of_ble_eq_true rfl)⟩ rfl hl.1 rfl (Nat.le_of_ble_eq_true rfl) dX11_instruction_70 ⟨(Nat.le_of_ble_eq_true rfl), (Nat.le_of_ble_eq_true rfl)⟩ (fun x36 σ37 H locs hw hP hD hS => ?_)
        obtain ⟨o38, hw⟩ := hw
        exact hret x36 σ37 _ _ _ _ o38 hw hP hD hS dX11_instruction_73
    · replace hw := hw.2 k13
      refine lv_aload_n hx hb dX11_instruction_31 rfl (lv_at hl 2 rfl) ?_
      refine lv_iload_n hx hb dX11_instruction_32 rfl (lv_at hl 1 rfl) ?_
      refine lv_bipush (v := Int32.ofInt 19) hx hb dX11_instruction_33 (by decide) ?_
      refine z_icmp_ne (tgt := 42) hx hb o11 (by decide) dX11_instruction_35 (by decide) (fun k39 => ?_) (fun k39 => ?_)
      · replace hw := hw.1 k39
        refine lv_iload_n hx hb dX11_instruction_42 rfl (lv_at hl 1 rfl) ?_
        refine lv_bipush (v := Int32.ofInt 20) hx hb dX11_instruction_43 (by decide) ?_
        refine z_icmp_ne (tgt := 52) hx hb o11 (by decide) dX11_instruction_45 (by decide) (fun k40 => ?_) (fun k40 => ?_)
        · replace hw := hw.1 k40
          refine lv_iload_n hx hb dX11_instruction_52 rfl (lv_at hl 1 rfl) ?_
          refine lv_bipush (v := Int32.ofInt 21) hx hb dX11_instruction_53 (by decide) ?_
          refine z_isub hx hb dX11_instruction_55 ?_
          refine lv_iconst (v := Int32.ofInt 4) hx hb dX11_instruction_56 (by decide) ?_
          refine z_iadd hx hb dX11_instruction_57 ?_
          exact j58 (((zI σ 0 9) - 21) + 4) σ10 _ _ _ hP hD hS (lv_sub hl [] rfl) hw
        · replace hw := hw.2 k40
          refine lv_iconst (v := Int32.ofInt 1) hx hb dX11_instruction_48 (by decide) ?_
          refine lv_goto (tgt := 58) hx hb dX11_instruction_49 (by decide) ?_
          exact j58 1 σ10 _ _ _ hP hD hS (lv_sub hl [] rfl) hw
      · replace hw := hw.2 k39
        refine lv_iconst (v := Int32.ofInt 0) hx hb dX11_instruction_38 (by decide) ?_
        refine lv_goto (tgt := 58) hx hb dX11_instruction_39 (by decide) ?_
        exact j58 0 σ10 _ _ _ hP hD hS (lv_sub hl [] rfl) hw
  · replace hw := hw.2 k12
    refine lv_aload_n hx hb dX11_instruction_20 rfl (lv_at hl 2 rfl) ?_
    refine z_Vi (n := 0) (As := []) (rest := []) hx hb hml hg hown hK hP hD hS hA (kX11_mov l D dA ad σ10 _ _ hw) (zoR0) rfl q1975 q160 q1972 q1974 q97 (by decide +kernel) ⟨(Nat.le_of_ble_eq_true rfl), (Nat.le_of_ble_eq_true rfl)⟩ rfl hl.1 rfl (Nat.le_of_ble_eq_true rfl) dX11_instruction_21 ⟨(Nat.le_of_ble_eq_true rfl), (Nat.le_of_ble_eq_true rfl)⟩ (fun x41 σ42 H locs hw hP hD hS => ?_)
    obtain ⟨o43, hw⟩ := hw
    exact hret x41 σ42 _ _ _ _ o43 hw hP hD hS dX11_instruction_24
def wpX11_item_116 (σ : ZS) (Q : Int → ZS → Prop) : Prop := wpX11_take 59 σ (fun (x1 : Int) (σ2 : ZS) => (0 ≤ x1 ∧ x1 ≤ 1) ∧ Q x1 σ2)
def wpX11_item_114 (σ : ZS) (Q : Int → ZS → Prop) : Prop := Q 0 σ
def wpX11_item_88 (σ : ZS) (Q : Int → ZS → Prop) : Prop := (-2147483648 ≤ (zI σ 0 9) ∧ (zI σ 0 9) ≤ 2147483647) ∧ (17 < (zI σ 0 9) → wpX11_instruction σ (fun (x6 : Int) (σ7 : ZS) => (-2147483648 ≤ x6 ∧ x6 ≤ 2147483647) ∧ (¬ x6 = 0 → wpX11_item_116 σ7 Q) ∧ (x6 = 0 → wpX11_item_114 σ7 Q))) ∧ (¬ 17 < (zI σ 0 9) → wpX11_directive σ (fun (x10 : Int) (σ11 : ZS) => (-2147483648 ≤ x10 ∧ x10 ≤ 2147483647) ∧ (¬ x10 = 0 → wpX11_item_116 σ11 Q) ∧ (x10 = 0 → wpX11_item_114 σ11 Q)))
def wpX11_item_50 (σ : ZS) (Q : Int → ZS → Prop) : Prop := (-2147483648 ≤ (zI σ 0 7) ∧ (zI σ 0 7) ≤ 2147483647) ∧ (¬ (zI σ 0 7) = 1 → wpX11_item_116 σ Q) ∧ ((zI σ 0 7) = 1 → (-2147483648 ≤ (zI σ 0 9) ∧ (zI σ 0 9) ≤ 2147483647) ∧ ((zI σ 0 9) < 12 → wpX11_item_116 σ Q) ∧ (¬ (zI σ 0 9) < 12 → (-2147483648 ≤ (zI σ 0 33) ∧ (zI σ 0 33) ≤ 2147483647) ∧ (¬ (zI σ 0 33) = 0 → wpX11_item_88 σ Q) ∧ ((zI σ 0 33) = 0 → ((zI σ 0 9) ≤ 14 → wpX11_item_88 σ Q) ∧ (¬ (zI σ 0 9) ≤ 14 → wpX11_fault σ (fun (x21 : Int) (σ22 : ZS) => (0 ≤ x21 ∧ x21 ≤ 1) ∧ Q x21 σ22)))))
def wpX11_item (σ : ZS) (Q : Int → ZS → Prop) : Prop := wpX11_isName σ (fun (x24 : Int) (σ25 : ZS) => (-2147483648 ≤ x24 ∧ x24 ≤ 2147483647) ∧ (x24 = 0 → wpX11_item_50 σ25 Q) ∧ (¬ x24 = 0 → (-2147483648 ≤ (zI σ25 0 33) ∧ (zI σ25 0 33) ≤ 2147483647) ∧ (¬ (zI σ25 0 33) = 0 → wpX11_name σ25 (fun (x30 : Int) (σ31 : ZS) => wpX11_next σ31 (fun (σ33 : ZS) => wpX11_take 58 σ33 (fun (x34 : Int) (σ35 : ZS) => (-2147483648 ≤ x34 ∧ x34 ≤ 2147483647) ∧ (¬ x34 = 0 → wpX11_label x30 (zI σ31 0 6) σ35 (fun (σ39 : ZS) => wpX11_item_50 σ39 Q)) ∧ (x34 = 0 → Q 0 σ35))))) ∧ ((zI σ25 0 33) = 0 → wpX11_fault σ25 (fun (x40 : Int) (σ41 : ZS) => (0 ≤ x40 ∧ x40 ≤ 1) ∧ Q x40 σ41))))
set_option maxHeartbeats 4000000 in
set_option maxRecDepth 100000 in
theorem kX11_item (l : Launch) (D : va_G) (dA : Nat → ClassId) (ad : Int → Nat → Nat) (σ : ZS) (Q : Int → ZS → Prop) (sz : Nat) (hw : wpX11_item σ Q) : Met l yX11_item (gws yX11_item cX11_item 3 (some .boolean)) (gR 9 0 0) (gPre D dA [.ref (ad 0 1000)] (zR dA ad σ) sz) (va_Qi (zQi Q) (gAt D dA (va_A (zR dA ad σ) sz) (zR dA ad)) (va_A (zR dA ad σ) sz)) 0 0 (va_A (zR dA ad σ) sz) := by
  refine Met.ofW (cc := cX11_item) (maxL := 3) (ret := (some .boolean)) (by decide) rfl ?_
  intro p e s m args below meth c s₁ B hml hv
  obtain ⟨rfl, hsz, hP, hK, hD0⟩ := hv
  have hx := B.exec
  have hb := B.bytes
  have hr := B.returns
  have hts := atoms_spec (ws := gws yX11_item cX11_item 3 (some .boolean)) B.pre
  have hg : ∀ w ∈ gw, w.before _ s = true := fun w h => hts w (List.mem_cons_of_mem _ h)
  have hown : s.vm.findClass RX11 = some m.cls := findClass_of_methodNamed B.named
  have hlocks := B.notSynchronized
  subst hsz
  have hD := hD0.self (sz := s.heap.size)
  generalize hAe : va_A (zR dA ad σ) s.heap.size = A at hD ⊢
  have hA : ∀ q : Nat, s.heap.size ≤ q → A q := fun q h => by rw [← hAe]; exact Or.inr h
  have hS : va_S A s.heap s.heap [] := va_S.rf
  have hl := lv_entry ([.ref (ad 0 1000)]) (n := 3) (Nat.le_of_ble_eq_true rfl)
  rw [lg_entry_eq]
  generalize (lg_sl ([.ref (ad 0 1000)]) ++ List.replicate (3 - (lg_sl ([.ref (ad 0 1000)])).length) Slot.unset).toArray = ls at hl ⊢
  have hl : lv_has ls 3 [(0, .ref (ad 0 1000))] := hl
  have hret : ∀ (v : Int) (σ : ZS) (H : Heap) (locs : List Loc) (ls : Array Slot) (pc : Nat), (0 ≤ v ∧ v ≤ 1) → Q v σ → va_P D vwC (zR dA ad σ) H → va_D A (zR dA ad σ) → va_S A s.heap H locs → decode cX11_item pc = .ok (.ireturn, 1) → W p l e (gR 9 0 0) s m #[.ref (ad 0 1000)] below meth c H locs 0 0 (MQ below (va_Qi (zQi Q) (gAt D dA A (zR dA ad)) A) #[.ref (ad 0 1000)] s 0 0 A) (F0 m pc ls [.int (Int32.ofInt v)]) := fun v σ H locs ls pc hv hw hP hD hS hd => g_iret hx hb hr (z_nb hv) hlocks hK σ hP hD hS ⟨v, rfl, hw⟩ (Nat.le_of_ble_eq_true rfl) (Nat.le_of_ble_eq_true rfl) hd
  generalize MQ below (va_Qi (zQi Q) (gAt D dA A (zR dA ad)) A) #[.ref (ad 0 1000)] s 0 0 A = QQ at hret ⊢
  have j116 : ∀ (σ : ZS), ∀ (H : Heap) (locs : List Loc) (ls : Array Slot), va_P D vwC (zR dA ad σ) H → va_D A (zR dA ad σ) → va_S A s.heap H locs → lv_has ls 3 [(0, .ref (ad 0 1000))] → wpX11_item_116 σ Q → W p l e (gR 9 0 0) s m #[.ref (ad 0 1000)] below meth c H locs 0 0 QQ (F0 m 116 ls []) := by
    intro σ H locs ls hP hD hS hl hw
    unfold wpX11_item_116 at hw
    refine lv_aload_n hx hb dX11_item_116 rfl (lv_at hl 0 rfl) ?_
    refine lv_bipush (v := Int32.ofInt 59) hx hb dX11_item_117 (by decide) ?_
    refine z_Vi (n := 1) (As := [.int (Int32.ofInt 59)]) (rest := []) hx hb hml hg hown hK hP hD hS hA (kX11_take l D dA ad 59 σ _ _ hw) (zoR0) rfl q1931 q160 q1928 q1930 q86 (by decide +kernel) ⟨(Nat.le_of_ble_eq_true rfl), (Nat.le_of_ble_eq_true rfl)⟩ rfl hl.1 rfl (Nat.le_of_ble_eq_true rfl) dX11_item_119 ⟨(Nat.le_of_ble_eq_true rfl), (Nat.le_of_ble_eq_true rfl)⟩ (fun x1 σ2 H locs hw hP hD hS => ?_)
    obtain ⟨o3, hw⟩ := hw
    exact hret x1 σ2 _ _ _ _ o3 hw hP hD hS dX11_item_122
  have j114 : ∀ (σ : ZS), ∀ (H : Heap) (locs : List Loc) (ls : Array Slot), va_P D vwC (zR dA ad σ) H → va_D A (zR dA ad σ) → va_S A s.heap H locs → lv_has ls 3 [] → wpX11_item_114 σ Q → W p l e (gR 9 0 0) s m #[.ref (ad 0 1000)] below meth c H locs 0 0 QQ (F0 m 114 ls []) := by
    intro σ H locs ls hP hD hS hl hw
    unfold wpX11_item_114 at hw
    refine lv_iconst (v := Int32.ofInt 0) hx hb dX11_item_114 (by decide) ?_
    exact hret 0 σ _ _ _ _ (by decide) hw hP hD hS dX11_item_115
  have j88 : ∀ (σ : ZS), ∀ (H : Heap) (locs : List Loc) (ls : Array Slot), va_P D vwC (zR dA ad σ) H → va_D A (zR dA ad σ) → va_S A s.heap H locs → lv_has ls 3 [(0, .ref (ad 0 1000))] → wpX11_item_88 σ Q → W p l e (gR 9 0 0) s m #[.ref (ad 0 1000)] below meth c H locs 0 0 QQ (F0 m 88 ls []) := by
    intro σ H locs ls hP hD hS hl hw
    unfold wpX11_item_88 at hw
    refine lv_aload_n hx hb dX11_item_88 rfl (lv_at hl 0 rfl) ?_
    refine zgR0_9 hx hb hg hown hK hP q1624 dX11_item_89 ?_
    refine lv_bipush (v := Int32.ofInt 17) hx hb dX11_item_92 (by decide) ?_
    obtain ⟨o4, hw⟩ := hw
    refine z_icmp_gt (tgt := 107) hx hb o4 (by decide) dX11_item_94 (by decide) (fun k5 => ?_) (fun k5 => ?_)
    · replace hw := hw.1 k5
      refine lv_aload_n hx hb dX11_item_107 rfl (lv_at hl 0 rfl) ?_
      refine z_Vi (n := 0) (As := []) (rest := []) hx hb hml hg hown hK hP hD hS hA (kX11_instruction l D dA ad σ _ _ hw) (zoR0) rfl q1971 q160 q1968 q1970 q96 (by decide +kernel) ⟨(Nat.le_of_ble_eq_true rfl), (Nat.le_of_ble_eq_true rfl)⟩ rfl hl.1 rfl (Nat.le_of_ble_eq_true rfl) dX11_item_108 ⟨(Nat.le_of_ble_eq_true rfl), (Nat.le_of_ble_eq_true rfl)⟩ (fun x6 σ7 H locs hw hP hD hS => ?_)
      obtain ⟨o8, hw⟩ := hw
      refine z_if_ne (tgt := 116) hx hb o8 dX11_item_111 (by decide) (fun k9 => ?_) (fun k9 => ?_)
      · replace hw := hw.1 k9
        exact j116 σ7 _ _ _ hP hD hS (lv_sub hl [0] rfl) hw
      · replace hw := hw.2 k9
        exact j114 σ7 _ _ _ hP hD hS (lv_sub hl [] rfl) hw
    · replace hw := hw.2 k5
      refine lv_aload_n hx hb dX11_item_97 rfl (lv_at hl 0 rfl) ?_
      refine z_Vi (n := 0) (As := []) (rest := []) hx hb hml hg hown hK hP hD hS hA (kX11_directive l D dA ad σ _ _ hw) (zoR0) rfl q1943 q160 q1940 q1942 q89 (by decide +kernel) ⟨(Nat.le_of_ble_eq_true rfl), (Nat.le_of_ble_eq_true rfl)⟩ rfl hl.1 rfl (Nat.le_of_ble_eq_true rfl) dX11_item_98 ⟨(Nat.le_of_ble_eq_true rfl), (Nat.le_of_ble_eq_true rfl)⟩ (fun x10 σ11 H locs hw hP hD hS => ?_)
      obtain ⟨o12, hw⟩ := hw
      refine z_if_ne (tgt := 116) hx hb o12 dX11_item_101 (by decide) (fun k13 => ?_) (fun k13 => ?_)
      · replace hw := hw.1 k13
        exact j116 σ11 _ _ _ hP hD hS (lv_sub hl [0] rfl) hw
      · replace hw := hw.2 k13
        refine lv_goto (tgt := 114) hx hb dX11_item_104 (by decide) ?_
        exact j114 σ11 _ _ _ hP hD hS (lv_sub hl [] rfl) hw
  have j50 : ∀ (σ : ZS), ∀ (H : Heap) (locs : List Loc) (ls : Array Slot), va_P D vwC (zR dA ad σ) H → va_D A (zR dA ad σ) → va_S A s.heap H locs → lv_has ls 3 [(0, .ref (ad 0 1000))] → wpX11_item_50 σ Q → W p l e (gR 9 0 0) s m #[.ref (ad 0 1000)] below meth c H locs 0 0 QQ (F0 m 50 ls []) := by
    intro σ H locs ls hP hD hS hl hw
    unfold wpX11_item_50 at hw
    refine lv_aload_n hx hb dX11_item_50 rfl (lv_at hl 0 rfl) ?_
    refine zgR0_7 hx hb hg hown hK hP q1622 dX11_item_51 ?_
    refine lv_iconst (v := Int32.ofInt 1) hx hb dX11_item_54 (by decide) ?_
    obtain ⟨o14, hw⟩ := hw
    refine z_icmp_ne (tgt := 116) hx hb o14 (by decide) dX11_item_55 (by decide) (fun k15 => ?_) (fun k15 => ?_)
    · replace hw := hw.1 k15
      exact j116 σ _ _ _ hP hD hS (lv_sub hl [0] rfl) hw
    · replace hw := hw.2 k15
      refine lv_aload_n hx hb dX11_item_58 rfl (lv_at hl 0 rfl) ?_
      refine zgR0_9 hx hb hg hown hK hP q1624 dX11_item_59 ?_
      refine lv_bipush (v := Int32.ofInt 12) hx hb dX11_item_62 (by decide) ?_
      obtain ⟨o16, hw⟩ := hw
      refine z_icmp_lt (tgt := 116) hx hb o16 (by decide) dX11_item_64 (by decide) (fun k17 => ?_) (fun k17 => ?_)
      · replace hw := hw.1 k17
        exact j116 σ _ _ _ hP hD hS (lv_sub hl [0] rfl) hw
      · replace hw := hw.2 k17
        refine lv_aload_n hx hb dX11_item_67 rfl (lv_at hl 0 rfl) ?_
        refine zgR0_33 hx hb hg hown hK hP q1648 dX11_item_68 ?_
        obtain ⟨o18, hw⟩ := hw
        refine z_if_ne (tgt := 88) hx hb o18 dX11_item_71 (by decide) (fun k19 => ?_) (fun k19 => ?_)
        · replace hw := hw.1 k19
          exact j88 σ _ _ _ hP hD hS (lv_sub hl [0] rfl) hw
        · replace hw := hw.2 k19
          refine lv_aload_n hx hb dX11_item_74 rfl (lv_at hl 0 rfl) ?_
          refine zgR0_9 hx hb hg hown hK hP q1624 dX11_item_75 ?_
          refine lv_bipush (v := Int32.ofInt 14) hx hb dX11_item_78 (by decide) ?_
          refine z_icmp_le (tgt := 88) hx hb o16 (by decide) dX11_item_80 (by decide) (fun k20 => ?_) (fun k20 => ?_)
          · replace hw := hw.1 k20
            exact j88 σ _ _ _ hP hD hS (lv_sub hl [0] rfl) hw
          · replace hw := hw.2 k20
            refine lv_aload_n hx hb dX11_item_83 rfl (lv_at hl 0 rfl) ?_
            refine z_Vi (n := 0) (As := []) (rest := []) hx hb hml hg hown hK hP hD hS hA (kX11_fault l D dA ad σ _ _ hw) (zoR0) rfl q1919 q160 q1916 q1918 q83 (by decide +kernel) ⟨(Nat.le_of_ble_eq_true rfl), (Nat.le_of_ble_eq_true rfl)⟩ rfl hl.1 rfl (Nat.le_of_ble_eq_true rfl) dX11_item_84 ⟨(Nat.le_of_ble_eq_true rfl), (Nat.le_of_ble_eq_true rfl)⟩ (fun x21 σ22 H locs hw hP hD hS => ?_)
            obtain ⟨o23, hw⟩ := hw
            exact hret x21 σ22 _ _ _ _ o23 hw hP hD hS dX11_item_87
  unfold wpX11_item at hw
  refine lv_aload_n hx hb dX11_item_0 rfl (lv_at hl 0 rfl) ?_
  refine z_Vi (n := 0) (As := []) (rest := []) hx hb hml hg hown hK hP hD hS hA (kX11_isName l D dA ad σ _ _ hw) (zoR0) rfl q1915 q160 q1912 q1914 q82 (by decide +kernel) ⟨(Nat.le_of_ble_eq_true rfl), (Nat.le_of_ble_eq_true rfl)⟩ rfl hl.1 rfl (Nat.le_of_ble_eq_true rfl) dX11_item_1 ⟨(Nat.le_of_ble_eq_true rfl), (Nat.le_of_ble_eq_true rfl)⟩ (fun x24 σ25 H locs hw hP hD hS => ?_)
  obtain ⟨o26, hw⟩ := hw
  refine z_if_eq (tgt := 50) hx hb o26 dX11_item_4 (by decide) (fun k27 => ?_) (fun k27 => ?_)
  · replace hw := hw.1 k27
    exact j50 σ25 _ _ _ hP hD hS (lv_sub hl [0] rfl) hw
  · replace hw := hw.2 k27
    refine lv_aload_n hx hb dX11_item_7 rfl (lv_at hl 0 rfl) ?_
    refine zgR0_33 hx hb hg hown hK hP q1648 dX11_item_8 ?_
    obtain ⟨o28, hw⟩ := hw
    refine z_if_ne (tgt := 19) hx hb o28 dX11_item_11 (by decide) (fun k29 => ?_) (fun k29 => ?_)
    · replace hw := hw.1 k29
      refine lv_aload_n hx hb dX11_item_19 rfl (lv_at hl 0 rfl) ?_
      refine z_Vi (n := 0) (As := []) (rest := []) hx hb hml hg hown hK hP hD hS hA (kX11_name l D dA ad σ25 _ _ hw) (zoR0) rfl q1923 q160 q1920 q1922 q84 (by decide +kernel) ⟨(Nat.le_of_ble_eq_true rfl), (Nat.le_of_ble_eq_true rfl)⟩ rfl hl.1 rfl (Nat.le_of_ble_eq_true rfl) dX11_item_20 ⟨(Nat.le_of_ble_eq_true rfl), (Nat.le_of_ble_eq_true rfl)⟩ (fun x30 σ31 H locs hw hP hD hS => ?_)
      refine lv_istore_n (lv' := [(1, .int (Int32.ofInt x30)), (0, .ref (ad 0 1000))]) hx hb dX11_item_23 rfl hl (by decide) rfl (fun ls hl => ?_)
      refine lv_aload_n hx hb dX11_item_24 rfl (lv_at hl 1 rfl) ?_
      refine zgR0_6 hx hb hg hown hK hP q1621 dX11_item_25 ?_
      refine lv_istore_n (lv' := [(2, .int (Int32.ofInt (zI σ31 0 6))), (1, .int (Int32.ofInt x30)), (0, .ref (ad 0 1000))]) hx hb dX11_item_28 rfl hl (by decide) rfl (fun ls hl => ?_)
      refine lv_aload_n hx hb dX11_item_29 rfl (lv_at hl 2 rfl) ?_
      refine z_Vv (n := 0) (As := []) (rest := []) hx hb hml hg hown hK hP hD hS hA (kX11_next l D dA ad σ31 _ _ hw) (zoR0) rfl q1895 q160 q1892 q1894 q79 (by decide +kernel) ⟨(Nat.le_of_ble_eq_true rfl), (Nat.le_of_ble_eq_true rfl)⟩ rfl hl.1 rfl (Nat.le_of_ble_eq_true rfl) dX11_item_30 ⟨(Nat.le_of_ble_eq_true rfl), (Nat.le_of_ble_eq_true rfl)⟩ (fun σ33 H locs hw hP hD hS => ?_)
      refine lv_aload_n hx hb dX11_item_33 rfl (lv_at hl 2 rfl) ?_
      refine lv_bipush (v := Int32.ofInt 58) hx hb dX11_item_34 (by decide) ?_
      refine z_Vi (n := 1) (As := [.int (Int32.ofInt 58)]) (rest := []) hx hb hml hg hown hK hP hD hS hA (kX11_take l D dA ad 58 σ33 _ _ hw) (zoR0) rfl q1931 q160 q1928 q1930 q86 (by decide +kernel) ⟨(Nat.le_of_ble_eq_true rfl), (Nat.le_of_ble_eq_true rfl)⟩ rfl hl.1 rfl (Nat.le_of_ble_eq_true rfl) dX11_item_36 ⟨(Nat.le_of_ble_eq_true rfl), (Nat.le_of_ble_eq_true rfl)⟩ (fun x34 σ35 H locs hw hP hD hS => ?_)
      obtain ⟨o36, hw⟩ := hw
      refine z_if_ne (tgt := 44) hx hb o36 dX11_item_39 (by decide) (fun k37 => ?_) (fun k37 => ?_)
      · replace hw := hw.1 k37
        refine lv_aload_n hx hb dX11_item_44 rfl (lv_at hl 2 rfl) ?_
        refine lv_iload_n hx hb dX11_item_45 rfl (lv_at hl 1 rfl) ?_
        refine lv_iload_n hx hb dX11_item_46 rfl (lv_at hl 0 rfl) ?_
        refine z_Vv (n := 2) (As := [.int (Int32.ofInt x30), .int (Int32.ofInt (zI σ31 0 6))]) (rest := []) hx hb hml hg hown hK hP hD hS hA (kX11_label l D dA ad x30 (zI σ31 0 6) σ35 _ _ hw) (zoR0) rfl q1935 q160 q1932 q1934 q87 (by decide +kernel) ⟨(Nat.le_of_ble_eq_true rfl), (Nat.le_of_ble_eq_true rfl)⟩ rfl hl.1 rfl (Nat.le_of_ble_eq_true rfl) dX11_item_47 ⟨(Nat.le_of_ble_eq_true rfl), (Nat.le_of_ble_eq_true rfl)⟩ (fun σ39 H locs hw hP hD hS => ?_)
        exact j50 σ39 _ _ _ hP hD hS (lv_sub hl [2] rfl) hw
      · replace hw := hw.2 k37
        refine lv_iconst (v := Int32.ofInt 0) hx hb dX11_item_42 (by decide) ?_
        exact hret 0 σ35 _ _ _ _ (by decide) hw hP hD hS dX11_item_43
    · replace hw := hw.2 k29
      refine lv_aload_n hx hb dX11_item_14 rfl (lv_at hl 0 rfl) ?_
      refine z_Vi (n := 0) (As := []) (rest := []) hx hb hml hg hown hK hP hD hS hA (kX11_fault l D dA ad σ25 _ _ hw) (zoR0) rfl q1919 q160 q1916 q1918 q83 (by decide +kernel) ⟨(Nat.le_of_ble_eq_true rfl), (Nat.le_of_ble_eq_true rfl)⟩ rfl hl.1 rfl (Nat.le_of_ble_eq_true rfl) dX11_item_15 ⟨(Nat.le_of_ble_eq_true rfl), (Nat.le_of_ble_eq_true rfl)⟩ (fun x40 σ41 H locs hw hP hD hS => ?_)
      obtain ⟨o42, hw⟩ := hw
      exact hret x40 σ41 _ _ _ _ o42 hw hP hD hS dX11_item_18
def wpbX11_parse_44 (K44 : ZS → Prop) (σ : ZS) (Q : Int → ZS → Prop) : Prop := (-2147483648 ≤ (zI σ 0 7) ∧ (zI σ 0 7) ≤ 2147483647) ∧ ((zI σ 0 7) = 0 → Q 1 σ) ∧ (¬ (zI σ 0 7) = 0 → wpX11_item σ (fun (x3 : Int) (σ4 : ZS) => (-2147483648 ≤ x3 ∧ x3 ≤ 2147483647) ∧ (¬ x3 = 0 → K44 σ4) ∧ (x3 = 0 → Q 0 σ4)))
def wpX11_parse_44 (σ : ZS) (Q : Int → ZS → Prop) : Prop := lfp0 (fun K44 σ => wpbX11_parse_44 K44 σ Q) σ
def wpX11_parse (σ : ZS) (Q : Int → ZS → Prop) : Prop := wpX11_next (zsI (zsI (zsI (zsI (zsI (zsI (zsI (zsI σ 0 5 0) 0 17 0) 0 18 (-1)) 0 23 0) 0 31 0) 0 32 (-1)) 0 33 0) 0 34 0) (fun (σ8 : ZS) => wpX11_parse_44 σ8 Q)
set_option maxHeartbeats 4000000 in
set_option maxRecDepth 100000 in
theorem kX11_parse (l : Launch) (D : va_G) (dA : Nat → ClassId) (ad : Int → Nat → Nat) (σ : ZS) (Q : Int → ZS → Prop) (sz : Nat) (hw : wpX11_parse σ Q) : Met l yX11_parse (gws yX11_parse cX11_parse 1 (some .boolean)) (gR 10 0 0) (gPre D dA [.ref (ad 0 1000)] (zR dA ad σ) sz) (va_Qi (zQi Q) (gAt D dA (va_A (zR dA ad σ) sz) (zR dA ad)) (va_A (zR dA ad σ) sz)) 0 0 (va_A (zR dA ad σ) sz) := by
  refine Met.ofW (cc := cX11_parse) (maxL := 1) (ret := (some .boolean)) (by decide) rfl ?_
  intro p e s m args below meth c s₁ B hml hv
  obtain ⟨rfl, hsz, hP, hK, hD0⟩ := hv
  have hx := B.exec
  have hb := B.bytes
  have hr := B.returns
  have hts := atoms_spec (ws := gws yX11_parse cX11_parse 1 (some .boolean)) B.pre
  have hg : ∀ w ∈ gw, w.before _ s = true := fun w h => hts w (List.mem_cons_of_mem _ h)
  have hown : s.vm.findClass RX11 = some m.cls := findClass_of_methodNamed B.named
  have hlocks := B.notSynchronized
  subst hsz
  have hD := hD0.self (sz := s.heap.size)
  generalize hAe : va_A (zR dA ad σ) s.heap.size = A at hD ⊢
  have hA : ∀ q : Nat, s.heap.size ≤ q → A q := fun q h => by rw [← hAe]; exact Or.inr h
  have hS : va_S A s.heap s.heap [] := va_S.rf
  have hl := lv_entry ([.ref (ad 0 1000)]) (n := 1) (Nat.le_of_ble_eq_true rfl)
  rw [lg_entry_eq]
  generalize (lg_sl ([.ref (ad 0 1000)]) ++ List.replicate (1 - (lg_sl ([.ref (ad 0 1000)])).length) Slot.unset).toArray = ls at hl ⊢
  have hl : lv_has ls 1 [(0, .ref (ad 0 1000))] := hl
  have hret : ∀ (v : Int) (σ : ZS) (H : Heap) (locs : List Loc) (ls : Array Slot) (pc : Nat), (0 ≤ v ∧ v ≤ 1) → Q v σ → va_P D vwC (zR dA ad σ) H → va_D A (zR dA ad σ) → va_S A s.heap H locs → decode cX11_parse pc = .ok (.ireturn, 1) → W p l e (gR 10 0 0) s m #[.ref (ad 0 1000)] below meth c H locs 0 0 (MQ below (va_Qi (zQi Q) (gAt D dA A (zR dA ad)) A) #[.ref (ad 0 1000)] s 0 0 A) (F0 m pc ls [.int (Int32.ofInt v)]) := fun v σ H locs ls pc hv hw hP hD hS hd => g_iret hx hb hr (z_nb hv) hlocks hK σ hP hD hS ⟨v, rfl, hw⟩ (Nat.le_of_ble_eq_true rfl) (Nat.le_of_ble_eq_true rfl) hd
  generalize MQ below (va_Qi (zQi Q) (gAt D dA A (zR dA ad)) A) #[.ref (ad 0 1000)] s 0 0 A = QQ at hret ⊢
  have b44 : ∀ (K44 : ZS → Prop), (∀ (σ : ZS), K44 σ → ∀ (H : Heap) (locs : List Loc) (ls : Array Slot), va_P D vwC (zR dA ad σ) H → va_D A (zR dA ad σ) → va_S A s.heap H locs → lv_has ls 1 [(0, .ref (ad 0 1000))] → W p l e (gR 10 0 0) s m #[.ref (ad 0 1000)] below meth c H locs 0 0 QQ (F0 m 44 ls [])) → ∀ (σ : ZS), wpbX11_parse_44 K44 σ Q → ∀ (H : Heap) (locs : List Loc) (ls : Array Slot), va_P D vwC (zR dA ad σ) H → va_D A (zR dA ad σ) → va_S A s.heap H locs → lv_has ls 1 [(0, .ref (ad 0 1000))] → W p l e (gR 10 0 0) s m #[.ref (ad 0 1000)] below meth c H locs 0 0 QQ (F0 m 44 ls []) := by
    intro K44 hK44
    intro σ hw H locs ls hP hD hS hl
    unfold wpbX11_parse_44 at hw
    refine lv_aload_n hx hb dX11_parse_44 rfl (lv_at hl 0 rfl) ?_
    refine zgR0_7 hx hb hg hown hK hP q1622 dX11_parse_45 ?_
    obtain ⟨o1, hw⟩ := hw
    refine z_if_eq (tgt := 60) hx hb o1 dX11_parse_48 (by decide) (fun k2 => ?_) (fun k2 => ?_)
    · replace hw := hw.1 k2
      refine lv_iconst (v := Int32.ofInt 1) hx hb dX11_parse_60 (by decide) ?_
      exact hret 1 σ _ _ _ _ (by decide) hw hP hD hS dX11_parse_61
    · replace hw := hw.2 k2
      refine lv_aload_n hx hb dX11_parse_51 rfl (lv_at hl 0 rfl) ?_
      refine z_Vi (n := 0) (As := []) (rest := []) hx hb hml hg hown hK hP hD hS hA (kX11_item l D dA ad σ _ _ hw) (zoR0) rfl q1911 q160 q1908 q1910 q81 (by decide +kernel) ⟨(Nat.le_of_ble_eq_true rfl), (Nat.le_of_ble_eq_true rfl)⟩ rfl hl.1 rfl (Nat.le_of_ble_eq_true rfl) dX11_parse_52 ⟨(Nat.le_of_ble_eq_true rfl), (Nat.le_of_ble_eq_true rfl)⟩ (fun x3 σ4 H locs hw hP hD hS => ?_)
      obtain ⟨o5, hw⟩ := hw
      refine z_if_ne (tgt := 44) hx hb o5 dX11_parse_55 (by decide) (fun k6 => ?_) (fun k6 => ?_)
      · replace hw := hw.1 k6
        exact hK44 σ4 hw _ _ _ hP hD hS (lv_sub hl [0] rfl)
      · replace hw := hw.2 k6
        refine lv_iconst (v := Int32.ofInt 0) hx hb dX11_parse_58 (by decide) ?_
        exact hret 0 σ4 _ _ _ _ (by decide) hw hP hD hS dX11_parse_59
  have j44 : ∀ (σ : ZS), ∀ (H : Heap) (locs : List Loc) (ls : Array Slot), va_P D vwC (zR dA ad σ) H → va_D A (zR dA ad σ) → va_S A s.heap H locs → lv_has ls 1 [(0, .ref (ad 0 1000))] → wpX11_parse_44 σ Q → W p l e (gR 10 0 0) s m #[.ref (ad 0 1000)] below meth c H locs 0 0 QQ (F0 m 44 ls []) := by
    intro σ H locs ls hP hD hS hl hw
    exact hw (fun σ => ∀ (H : Heap) (locs : List Loc) (ls : Array Slot), va_P D vwC (zR dA ad σ) H → va_D A (zR dA ad σ) → va_S A s.heap H locs → lv_has ls 1 [(0, .ref (ad 0 1000))] → W p l e (gR 10 0 0) s m #[.ref (ad 0 1000)] below meth c H locs 0 0 QQ (F0 m 44 ls [])) (b44 (fun σ => ∀ (H : Heap) (locs : List Loc) (ls : Array Slot), va_P D vwC (zR dA ad σ) H → va_D A (zR dA ad σ) → va_S A s.heap H locs → lv_has ls 1 [(0, .ref (ad 0 1000))] → W p l e (gR 10 0 0) s m #[.ref (ad 0 1000)] below meth c H locs 0 0 QQ (F0 m 44 ls [])) (fun σ h => h)) _ _ _ hP hD hS hl
  unfold wpX11_parse at hw
  refine lv_aload_n hx hb dX11_parse_0 rfl (lv_at hl 0 rfl) ?_
  refine lv_iconst (v := Int32.ofInt 0) hx hb dX11_parse_1 (by decide) ?_
  refine zpR0_5 (v := 0) hx hb hg hown hK hP hD hS q1620 dX11_parse_2 (fun H locs hP hD hS => ?_)
  refine lv_aload_n hx hb dX11_parse_5 rfl (lv_at hl 0 rfl) ?_
  refine lv_iconst (v := Int32.ofInt 0) hx hb dX11_parse_6 (by decide) ?_
  refine zpR0_17 (v := 0) hx hb hg hown hK hP hD hS q1632 dX11_parse_7 (fun H locs hP hD hS => ?_)
  refine lv_aload_n hx hb dX11_parse_10 rfl (lv_at hl 0 rfl) ?_
  refine lv_iconst (v := Int32.ofInt (-1)) hx hb dX11_parse_11 (by decide) ?_
  refine zpR0_18 (v := (-1)) hx hb hg hown hK hP hD hS q1633 dX11_parse_12 (fun H locs hP hD hS => ?_)
  refine lv_aload_n hx hb dX11_parse_15 rfl (lv_at hl 0 rfl) ?_
  refine lv_iconst (v := Int32.ofInt 0) hx hb dX11_parse_16 (by decide) ?_
  refine zpR0_23 (v := 0) hx hb hg hown hK hP hD hS q1638 dX11_parse_17 (fun H locs hP hD hS => ?_)
  refine lv_aload_n hx hb dX11_parse_20 rfl (lv_at hl 0 rfl) ?_
  refine lv_iconst (v := Int32.ofInt 0) hx hb dX11_parse_21 (by decide) ?_
  refine zpR0_31 (v := 0) hx hb hg hown hK hP hD hS q1646 dX11_parse_22 (fun H locs hP hD hS => ?_)
  refine lv_aload_n hx hb dX11_parse_25 rfl (lv_at hl 0 rfl) ?_
  refine lv_iconst (v := Int32.ofInt (-1)) hx hb dX11_parse_26 (by decide) ?_
  refine zpR0_32 (v := (-1)) hx hb hg hown hK hP hD hS q1647 dX11_parse_27 (fun H locs hP hD hS => ?_)
  refine lv_aload_n hx hb dX11_parse_30 rfl (lv_at hl 0 rfl) ?_
  refine lv_iconst (v := Int32.ofInt 0) hx hb dX11_parse_31 (by decide) ?_
  refine zpR0_33 (v := 0) hx hb hg hown (by decide) hK hP hD hS q1648 dX11_parse_32 (fun H locs hP hD hS => ?_)
  refine lv_aload_n hx hb dX11_parse_35 rfl (lv_at hl 0 rfl) ?_
  refine lv_iconst (v := Int32.ofInt 0) hx hb dX11_parse_36 (by decide) ?_
  refine zpR0_34 (v := 0) hx hb hg hown hK hP hD hS q1649 dX11_parse_37 (fun H locs hP hD hS => ?_)
  refine lv_aload_n hx hb dX11_parse_40 rfl (lv_at hl 0 rfl) ?_
  refine z_Vv (n := 0) (As := []) (rest := []) hx hb hml hg hown hK hP hD hS hA (kX11_next l D dA ad (zsI (zsI (zsI (zsI (zsI (zsI (zsI (zsI σ 0 5 0) 0 17 0) 0 18 (-1)) 0 23 0) 0 31 0) 0 32 (-1)) 0 33 0) 0 34 0) _ _ hw) (zoR0) rfl q1895 q160 q1892 q1894 q79 (by decide +kernel) ⟨(Nat.le_of_ble_eq_true rfl), (Nat.le_of_ble_eq_true rfl)⟩ rfl hl.1 rfl (Nat.le_of_ble_eq_true rfl) dX11_parse_41 ⟨(Nat.le_of_ble_eq_true rfl), (Nat.le_of_ble_eq_true rfl)⟩ (fun σ8 H locs hw hP hD hS => ?_)
  exact j44 σ8 _ _ _ hP hD hS (lv_sub hl [0] rfl) hw
def wpX11_judge_180 (K2 : Int → ZS → Prop) (v1 : Int) (σ : ZS) (Q : ZS → Prop) : Prop := K2 (v1 + 1) σ
def wpX11_judge_163 (K2 : Int → ZS → Prop) (v1 s0 : Int) (σ : ZS) (Q : ZS → Prop) : Prop := (-2147483648 ≤ s0 ∧ s0 ≤ 2147483647) ∧ (¬ s0 = 0 → wpX11_judge_180 K2 v1 σ Q) ∧ (s0 = 0 → (0 ≤ v1 ∧ v1 < 480) ∧ wpX11_wrongAt (zA σ 0 21 v1) σ (fun (σ5 : ZS) => wpX11_judge_180 K2 v1 σ5 Q))
def wpX11_judge_140 (K2 : Int → ZS → Prop) (v1 : Int) (σ : ZS) (Q : ZS → Prop) : Prop := wpX11_judge_163 K2 v1 1 σ Q
def wpX11_judge_47 (K2 : Int → ZS → Prop) (v1 v2 s0 : Int) (σ : ZS) (Q : ZS → Prop) : Prop := (0 ≤ v1 ∧ v1 < 480) ∧ (-2147483648 ≤ (zA σ 0 19 v1) ∧ (zA σ 0 19 v1) ≤ 2147483647) ∧ (¬ (zA σ 0 19 v1) = 0 → (¬ (zA σ 0 19 v1) = 1 → (¬ (zA σ 0 19 v1) = 2 → (¬ (zA σ 0 19 v1) = 3 → (0 ≤ v2 ∧ v2 < 240) ∧ (-2147483648 ≤ (zA σ 0 13 v2) ∧ (zA σ 0 13 v2) ≤ 2147483647) ∧ ((zA σ 0 13 v2) ≤ 1 → wpX11_judge_163 K2 v1 0 σ Q) ∧ (¬ (zA σ 0 13 v2) ≤ 1 → wpX11_judge_163 K2 v1 1 σ Q)) ∧ ((zA σ 0 19 v1) = 3 → (-2147483648 ≤ s0 ∧ s0 ≤ 2147483647) ∧ (¬ s0 = 0 → wpX11_judge_140 K2 v1 σ Q) ∧ (s0 = 0 → (0 ≤ v2 ∧ v2 < 240) ∧ (-2147483648 ≤ (zA σ 0 13 v2) ∧ (zA σ 0 13 v2) ≤ 2147483647) ∧ (¬ (zA σ 0 13 v2) = 3 → wpX11_judge_163 K2 v1 0 σ Q) ∧ ((zA σ 0 13 v2) = 3 → wpX11_judge_140 K2 v1 σ Q)))) ∧ ((zA σ 0 19 v1) = 2 → wpX11_judge_163 K2 v1 s0 σ Q)) ∧ ((zA σ 0 19 v1) = 1 → (0 ≤ v2 ∧ v2 < 240) ∧ (-2147483648 ≤ (zA σ 0 13 v2) ∧ (zA σ 0 13 v2) ≤ 2147483647) ∧ ((zA σ 0 13 v2) = 0 → wpX11_judge_163 K2 v1 0 σ Q) ∧ (¬ (zA σ 0 13 v2) = 0 → wpX11_judge_163 K2 v1 1 σ Q))) ∧ ((zA σ 0 19 v1) = 0 → (0 ≤ v2 ∧ v2 < 240) ∧ (-2147483648 ≤ (zA σ 0 13 v2) ∧ (zA σ 0 13 v2) ≤ 2147483647) ∧ (¬ (zA σ 0 13 v2) = 2 → wpX11_judge_163 K2 v1 0 σ Q) ∧ ((zA σ 0 13 v2) = 2 → wpX11_judge_163 K2 v1 1 σ Q))
def wpX11_judge_46 (K2 : Int → ZS → Prop) (v1 v2 : Int) (σ : ZS) (Q : ZS → Prop) : Prop := wpX11_judge_47 K2 v1 v2 0 σ Q
def wpbX11_judge_2 (K2 : Int → ZS → Prop) (v1 : Int) (σ : ZS) (Q : ZS → Prop) : Prop := (-2147483648 ≤ v1 ∧ v1 ≤ 2147483647) ∧ (-2147483648 ≤ (zI σ 0 23) ∧ (zI σ 0 23) ≤ 2147483647) ∧ ((zI σ 0 23) ≤ v1 → Q σ) ∧ (¬ (zI σ 0 23) ≤ v1 → (0 ≤ v1 ∧ v1 < 480) ∧ (0 ≤ (zA σ 0 20 v1) ∧ (zA σ 0 20 v1) < 240) ∧ (-2147483648 ≤ (zA σ 0 13 (zA σ 0 20 v1)) ∧ (zA σ 0 13 (zA σ 0 20 v1)) ≤ 2147483647) ∧ (¬ (zA σ 0 13 (zA σ 0 20 v1)) = 2 → wpX11_judge_46 K2 v1 (zA σ 0 20 v1) σ Q) ∧ ((zA σ 0 13 (zA σ 0 20 v1)) = 2 → (-2147483648 ≤ (zA σ 0 14 (zA σ 0 20 v1)) ∧ (zA σ 0 14 (zA σ 0 20 v1)) ≤ 2147483647) ∧ (-2147483648 ≤ (zA σ 0 22 v1) ∧ (zA σ 0 22 v1) ≤ 2147483647) ∧ (¬ (zA σ 0 14 (zA σ 0 20 v1)) = (zA σ 0 22 v1) → wpX11_judge_46 K2 v1 (zA σ 0 20 v1) σ Q) ∧ ((zA σ 0 14 (zA σ 0 20 v1)) = (zA σ 0 22 v1) → wpX11_judge_47 K2 v1 (zA σ 0 20 v1) 1 σ Q)))
def wpX11_judge_2 (v1 : Int) (σ : ZS) (Q : ZS → Prop) : Prop := lfp1 (fun K2 v1 σ => wpbX11_judge_2 K2 v1 σ Q) v1 σ
def wpX11_judge (σ : ZS) (Q : ZS → Prop) : Prop := wpX11_judge_2 0 σ Q
set_option maxHeartbeats 4000000 in
set_option maxRecDepth 100000 in
theorem kX11_judge (l : Launch) (D : va_G) (dA : Nat → ClassId) (ad : Int → Nat → Nat) (σ : ZS) (Q : ZS → Prop) (sz : Nat) (hw : wpX11_judge σ Q) : Met l yX11_judge (gws yX11_judge cX11_judge 5 none) (gR 2 0 0) (gPre D dA [.ref (ad 0 1000)] (zR dA ad σ) sz) (va_Qv Q (gAt D dA (va_A (zR dA ad σ) sz) (zR dA ad)) (va_A (zR dA ad σ) sz)) 0 0 (va_A (zR dA ad σ) sz) := by
  refine Met.ofW (cc := cX11_judge) (maxL := 5) (ret := none) (by decide) rfl ?_
  intro p e s m args below meth c s₁ B hml hv
  obtain ⟨rfl, hsz, hP, hK, hD0⟩ := hv
  have hx := B.exec
  have hb := B.bytes
  have hr := B.returns
  have hts := atoms_spec (ws := gws yX11_judge cX11_judge 5 none) B.pre
  have hg : ∀ w ∈ gw, w.before _ s = true := fun w h => hts w (List.mem_cons_of_mem _ h)
  have hown : s.vm.findClass RX11 = some m.cls := findClass_of_methodNamed B.named
  have hlocks := B.notSynchronized
  subst hsz
  have hD := hD0.self (sz := s.heap.size)
  generalize hAe : va_A (zR dA ad σ) s.heap.size = A at hD ⊢
  have hA : ∀ q : Nat, s.heap.size ≤ q → A q := fun q h => by rw [← hAe]; exact Or.inr h
  have hS : va_S A s.heap s.heap [] := va_S.rf
  have hl := lv_entry ([.ref (ad 0 1000)]) (n := 5) (Nat.le_of_ble_eq_true rfl)
  rw [lg_entry_eq]
  generalize (lg_sl ([.ref (ad 0 1000)]) ++ List.replicate (5 - (lg_sl ([.ref (ad 0 1000)])).length) Slot.unset).toArray = ls at hl ⊢
  have hl : lv_has ls 5 [(0, .ref (ad 0 1000))] := hl
  have hret : ∀ (σ : ZS) (H : Heap) (locs : List Loc) (ls : Array Slot) (pc : Nat), Q σ → va_P D vwC (zR dA ad σ) H → va_D A (zR dA ad σ) → va_S A s.heap H locs → decode cX11_judge pc = .ok (.return_, 1) → W p l e (gR 2 0 0) s m #[.ref (ad 0 1000)] below meth c H locs 0 0 (MQ below (va_Qv Q (gAt D dA A (zR dA ad)) A) #[.ref (ad 0 1000)] s 0 0 A) (F0 m pc ls []) := fun σ H locs ls pc hw hP hD hS hd => g_vret hx hb hr hlocks hK σ hP hD hS hw (Nat.le_of_ble_eq_true rfl) (Nat.le_of_ble_eq_true rfl) hd
  generalize MQ below (va_Qv Q (gAt D dA A (zR dA ad)) A) #[.ref (ad 0 1000)] s 0 0 A = QQ at hret ⊢
  have b2 : ∀ (K2 : Int → ZS → Prop), (∀ (v1 : Int) (σ : ZS), K2 v1 σ → ∀ (H : Heap) (locs : List Loc) (ls : Array Slot), va_P D vwC (zR dA ad σ) H → va_D A (zR dA ad σ) → va_S A s.heap H locs → lv_has ls 5 [(0, .ref (ad 0 1000)), (1, .int (Int32.ofInt v1))] → W p l e (gR 2 0 0) s m #[.ref (ad 0 1000)] below meth c H locs 0 0 QQ (F0 m 2 ls [])) → ∀ (v1 : Int) (σ : ZS), wpbX11_judge_2 K2 v1 σ Q → ∀ (H : Heap) (locs : List Loc) (ls : Array Slot), va_P D vwC (zR dA ad σ) H → va_D A (zR dA ad σ) → va_S A s.heap H locs → lv_has ls 5 [(0, .ref (ad 0 1000)), (1, .int (Int32.ofInt v1))] → W p l e (gR 2 0 0) s m #[.ref (ad 0 1000)] below meth c H locs 0 0 QQ (F0 m 2 ls []) := by
    intro K2 hK2
    have j180 : ∀ (v1 : Int) (σ : ZS), ∀ (H : Heap) (locs : List Loc) (ls : Array Slot), va_P D vwC (zR dA ad σ) H → va_D A (zR dA ad σ) → va_S A s.heap H locs → lv_has ls 5 [(0, .ref (ad 0 1000)), (1, .int (Int32.ofInt v1))] → wpX11_judge_180 K2 v1 σ Q → W p l e (gR 2 0 0) s m #[.ref (ad 0 1000)] below meth c H locs 0 0 QQ (F0 m 180 ls []) := by
      intro v1 σ H locs ls hP hD hS hl hw
      unfold wpX11_judge_180 at hw
      refine lv_iinc (v := Int32.ofInt (v1 + 1)) (lv' := [(1, .int (Int32.ofInt (v1 + 1))), (0, .ref (ad 0 1000))]) hx hb dX11_judge_180 hl (k := 1) rfl (Int32.ofInt_add _ _).symm (by decide) rfl (fun ls hl => ?_)
      refine lv_goto (tgt := 2) hx hb dX11_judge_183 (by decide) ?_
      exact hK2 (v1 + 1) σ hw _ _ _ hP hD hS (lv_sub hl [1, 0] rfl)
    have j163 : ∀ (v1 s0 : Int) (σ : ZS), ∀ (H : Heap) (locs : List Loc) (ls : Array Slot), va_P D vwC (zR dA ad σ) H → va_D A (zR dA ad σ) → va_S A s.heap H locs → lv_has ls 5 [(0, .ref (ad 0 1000)), (1, .int (Int32.ofInt v1))] → wpX11_judge_163 K2 v1 s0 σ Q → W p l e (gR 2 0 0) s m #[.ref (ad 0 1000)] below meth c H locs 0 0 QQ (F0 m 163 ls [.int (Int32.ofInt s0)]) := by
      intro v1 s0 σ H locs ls hP hD hS hl hw
      unfold wpX11_judge_163 at hw
      refine lv_istore (lv' := [(4, .int (Int32.ofInt s0)), (0, .ref (ad 0 1000)), (1, .int (Int32.ofInt v1))]) hx hb dX11_judge_163 hl (by decide) rfl (fun ls hl => ?_)
      refine lv_iload hx hb dX11_judge_165 (lv_at hl 0 rfl) ?_
      obtain ⟨o1, hw⟩ := hw
      refine z_if_ne (tgt := 180) hx hb o1 dX11_judge_167 (by decide) (fun k2 => ?_) (fun k2 => ?_)
      · replace hw := hw.1 k2
        exact j180 v1 σ _ _ _ hP hD hS (lv_sub hl [1, 2] rfl) hw
      · replace hw := hw.2 k2
        refine lv_aload_n hx hb dX11_judge_170 rfl (lv_at hl 1 rfl) ?_
        refine lv_aload_n hx hb dX11_judge_171 rfl (lv_at hl 1 rfl) ?_
        refine zgR0_21 hx hb hg hown hK hP q1636 dX11_judge_172 ?_
        refine lv_iload_n hx hb dX11_judge_175 rfl (lv_at hl 2 rfl) ?_
        obtain ⟨o3, hw⟩ := hw
        refine zlR0_21 hx hb o3 hK hP dX11_judge_176 ?_
        refine z_Vv (n := 1) (As := [.int (Int32.ofInt (zA σ 0 21 v1))]) (rest := []) hx hb hml hg hown hK hP hD hS hA (kX11_wrongAt l D dA ad (zA σ 0 21 v1) σ _ _ hw) (zoR0) rfl q1927 q160 q1924 q1926 q85 (by decide +kernel) ⟨(Nat.le_of_ble_eq_true rfl), (Nat.le_of_ble_eq_true rfl)⟩ rfl hl.1 rfl (Nat.le_of_ble_eq_true rfl) dX11_judge_177 ⟨(Nat.le_of_ble_eq_true rfl), (Nat.le_of_ble_eq_true rfl)⟩ (fun σ5 H locs hw hP hD hS => ?_)
        exact j180 v1 σ5 _ _ _ hP hD hS (lv_sub hl [1, 2] rfl) hw
    have j140 : ∀ (v1 : Int) (σ : ZS), ∀ (H : Heap) (locs : List Loc) (ls : Array Slot), va_P D vwC (zR dA ad σ) H → va_D A (zR dA ad σ) → va_S A s.heap H locs → lv_has ls 5 [(0, .ref (ad 0 1000)), (1, .int (Int32.ofInt v1))] → wpX11_judge_140 K2 v1 σ Q → W p l e (gR 2 0 0) s m #[.ref (ad 0 1000)] below meth c H locs 0 0 QQ (F0 m 140 ls []) := by
      intro v1 σ H locs ls hP hD hS hl hw
      unfold wpX11_judge_140 at hw
      refine lv_iconst (v := Int32.ofInt 1) hx hb dX11_judge_140 (by decide) ?_
      refine lv_goto (tgt := 163) hx hb dX11_judge_141 (by decide) ?_
      exact j163 v1 1 σ _ _ _ hP hD hS (lv_sub hl [0, 1] rfl) hw
    have j47 : ∀ (v1 v2 s0 : Int) (σ : ZS), ∀ (H : Heap) (locs : List Loc) (ls : Array Slot), va_P D vwC (zR dA ad σ) H → va_D A (zR dA ad σ) → va_S A s.heap H locs → lv_has ls 5 [(0, .ref (ad 0 1000)), (1, .int (Int32.ofInt v1)), (2, .int (Int32.ofInt v2))] → wpX11_judge_47 K2 v1 v2 s0 σ Q → W p l e (gR 2 0 0) s m #[.ref (ad 0 1000)] below meth c H locs 0 0 QQ (F0 m 47 ls [.int (Int32.ofInt s0)]) := by
      intro v1 v2 s0 σ H locs ls hP hD hS hl hw
      unfold wpX11_judge_47 at hw
      refine lv_istore_n (lv' := [(3, .int (Int32.ofInt s0)), (0, .ref (ad 0 1000)), (1, .int (Int32.ofInt v1)), (2, .int (Int32.ofInt v2))]) hx hb dX11_judge_47 rfl hl (by decide) rfl (fun ls hl => ?_)
      refine lv_aload_n hx hb dX11_judge_48 rfl (lv_at hl 1 rfl) ?_
      refine zgR0_19 hx hb hg hown hK hP q1634 dX11_judge_49 ?_
      refine lv_iload_n hx hb dX11_judge_52 rfl (lv_at hl 2 rfl) ?_
      obtain ⟨o6, hw⟩ := hw
      refine zlR0_19 hx hb o6 hK hP dX11_judge_53 ?_
      obtain ⟨o7, hw⟩ := hw
      refine z_if_ne (tgt := 75) hx hb o7 dX11_judge_54 (by decide) (fun k8 => ?_) (fun k8 => ?_)
      · replace hw := hw.1 k8
        refine lv_aload_n hx hb dX11_judge_75 rfl (lv_at hl 1 rfl) ?_
        refine zgR0_19 hx hb hg hown hK hP q1634 dX11_judge_76 ?_
        refine lv_iload_n hx hb dX11_judge_79 rfl (lv_at hl 2 rfl) ?_
        refine zlR0_19 hx hb o6 hK hP dX11_judge_80 ?_
        refine lv_iconst (v := Int32.ofInt 1) hx hb dX11_judge_81 (by decide) ?_
        refine z_icmp_ne (tgt := 102) hx hb o7 (by decide) dX11_judge_82 (by decide) (fun k9 => ?_) (fun k9 => ?_)
        · replace hw := hw.1 k9
          refine lv_aload_n hx hb dX11_judge_102 rfl (lv_at hl 1 rfl) ?_
          refine zgR0_19 hx hb hg hown hK hP q1634 dX11_judge_103 ?_
          refine lv_iload_n hx hb dX11_judge_106 rfl (lv_at hl 2 rfl) ?_
          refine zlR0_19 hx hb o6 hK hP dX11_judge_107 ?_
          refine lv_iconst (v := Int32.ofInt 2) hx hb dX11_judge_108 (by decide) ?_
          refine z_icmp_ne (tgt := 116) hx hb o7 (by decide) dX11_judge_109 (by decide) (fun k10 => ?_) (fun k10 => ?_)
          · replace hw := hw.1 k10
            refine lv_aload_n hx hb dX11_judge_116 rfl (lv_at hl 1 rfl) ?_
            refine zgR0_19 hx hb hg hown hK hP q1634 dX11_judge_117 ?_
            refine lv_iload_n hx hb dX11_judge_120 rfl (lv_at hl 2 rfl) ?_
            refine zlR0_19 hx hb o6 hK hP dX11_judge_121 ?_
            refine lv_iconst (v := Int32.ofInt 3) hx hb dX11_judge_122 (by decide) ?_
            refine z_icmp_ne (tgt := 148) hx hb o7 (by decide) dX11_judge_123 (by decide) (fun k11 => ?_) (fun k11 => ?_)
            · replace hw := hw.1 k11
              refine lv_aload_n hx hb dX11_judge_148 rfl (lv_at hl 1 rfl) ?_
              refine zgR0_13 hx hb hg hown hK hP q1628 dX11_judge_149 ?_
              refine lv_iload_n hx hb dX11_judge_152 rfl (lv_at hl 3 rfl) ?_
              obtain ⟨o12, hw⟩ := hw
              refine zlR0_13 hx hb o12 hK hP dX11_judge_153 ?_
              refine lv_iconst (v := Int32.ofInt 1) hx hb dX11_judge_154 (by decide) ?_
              obtain ⟨o13, hw⟩ := hw
              refine z_icmp_le (tgt := 162) hx hb o13 (by decide) dX11_judge_155 (by decide) (fun k14 => ?_) (fun k14 => ?_)
              · replace hw := hw.1 k14
                refine lv_iconst (v := Int32.ofInt 0) hx hb dX11_judge_162 (by decide) ?_
                exact j163 v1 0 σ _ _ _ hP hD hS (lv_sub hl [1, 2] rfl) hw
              · replace hw := hw.2 k14
                refine lv_iconst (v := Int32.ofInt 1) hx hb dX11_judge_158 (by decide) ?_
                refine lv_goto (tgt := 163) hx hb dX11_judge_159 (by decide) ?_
                exact j163 v1 1 σ _ _ _ hP hD hS (lv_sub hl [1, 2] rfl) hw
            · replace hw := hw.2 k11
              refine lv_iload_n hx hb dX11_judge_126 rfl (lv_at hl 0 rfl) ?_
              obtain ⟨o15, hw⟩ := hw
              refine z_if_ne (tgt := 140) hx hb o15 dX11_judge_127 (by decide) (fun k16 => ?_) (fun k16 => ?_)
              · replace hw := hw.1 k16
                exact j140 v1 σ _ _ _ hP hD hS (lv_sub hl [1, 2] rfl) hw
              · replace hw := hw.2 k16
                refine lv_aload_n hx hb dX11_judge_130 rfl (lv_at hl 1 rfl) ?_
                refine zgR0_13 hx hb hg hown hK hP q1628 dX11_judge_131 ?_
                refine lv_iload_n hx hb dX11_judge_134 rfl (lv_at hl 3 rfl) ?_
                obtain ⟨o17, hw⟩ := hw
                refine zlR0_13 hx hb o17 hK hP dX11_judge_135 ?_
                refine lv_iconst (v := Int32.ofInt 3) hx hb dX11_judge_136 (by decide) ?_
                obtain ⟨o18, hw⟩ := hw
                refine z_icmp_ne (tgt := 144) hx hb o18 (by decide) dX11_judge_137 (by decide) (fun k19 => ?_) (fun k19 => ?_)
                · replace hw := hw.1 k19
                  refine lv_iconst (v := Int32.ofInt 0) hx hb dX11_judge_144 (by decide) ?_
                  refine lv_goto (tgt := 163) hx hb dX11_judge_145 (by decide) ?_
                  exact j163 v1 0 σ _ _ _ hP hD hS (lv_sub hl [1, 2] rfl) hw
                · replace hw := hw.2 k19
                  exact j140 v1 σ _ _ _ hP hD hS (lv_sub hl [1, 2] rfl) hw
          · replace hw := hw.2 k10
            refine lv_iload_n hx hb dX11_judge_112 rfl (lv_at hl 0 rfl) ?_
            refine lv_goto (tgt := 163) hx hb dX11_judge_113 (by decide) ?_
            exact j163 v1 s0 σ _ _ _ hP hD hS (lv_sub hl [1, 2] rfl) hw
        · replace hw := hw.2 k9
          refine lv_aload_n hx hb dX11_judge_85 rfl (lv_at hl 1 rfl) ?_
          refine zgR0_13 hx hb hg hown hK hP q1628 dX11_judge_86 ?_
          refine lv_iload_n hx hb dX11_judge_89 rfl (lv_at hl 3 rfl) ?_
          obtain ⟨o20, hw⟩ := hw
          refine zlR0_13 hx hb o20 hK hP dX11_judge_90 ?_
          obtain ⟨o21, hw⟩ := hw
          refine z_if_eq (tgt := 98) hx hb o21 dX11_judge_91 (by decide) (fun k22 => ?_) (fun k22 => ?_)
          · replace hw := hw.1 k22
            refine lv_iconst (v := Int32.ofInt 0) hx hb dX11_judge_98 (by decide) ?_
            refine lv_goto (tgt := 163) hx hb dX11_judge_99 (by decide) ?_
            exact j163 v1 0 σ _ _ _ hP hD hS (lv_sub hl [1, 2] rfl) hw
          · replace hw := hw.2 k22
            refine lv_iconst (v := Int32.ofInt 1) hx hb dX11_judge_94 (by decide) ?_
            refine lv_goto (tgt := 163) hx hb dX11_judge_95 (by decide) ?_
            exact j163 v1 1 σ _ _ _ hP hD hS (lv_sub hl [1, 2] rfl) hw
      · replace hw := hw.2 k8
        refine lv_aload_n hx hb dX11_judge_57 rfl (lv_at hl 1 rfl) ?_
        refine zgR0_13 hx hb hg hown hK hP q1628 dX11_judge_58 ?_
        refine lv_iload_n hx hb dX11_judge_61 rfl (lv_at hl 3 rfl) ?_
        obtain ⟨o23, hw⟩ := hw
        refine zlR0_13 hx hb o23 hK hP dX11_judge_62 ?_
        refine lv_iconst (v := Int32.ofInt 2) hx hb dX11_judge_63 (by decide) ?_
        obtain ⟨o24, hw⟩ := hw
        refine z_icmp_ne (tgt := 71) hx hb o24 (by decide) dX11_judge_64 (by decide) (fun k25 => ?_) (fun k25 => ?_)
        · replace hw := hw.1 k25
          refine lv_iconst (v := Int32.ofInt 0) hx hb dX11_judge_71 (by decide) ?_
          refine lv_goto (tgt := 163) hx hb dX11_judge_72 (by decide) ?_
          exact j163 v1 0 σ _ _ _ hP hD hS (lv_sub hl [1, 2] rfl) hw
        · replace hw := hw.2 k25
          refine lv_iconst (v := Int32.ofInt 1) hx hb dX11_judge_67 (by decide) ?_
          refine lv_goto (tgt := 163) hx hb dX11_judge_68 (by decide) ?_
          exact j163 v1 1 σ _ _ _ hP hD hS (lv_sub hl [1, 2] rfl) hw
    have j46 : ∀ (v1 v2 : Int) (σ : ZS), ∀ (H : Heap) (locs : List Loc) (ls : Array Slot), va_P D vwC (zR dA ad σ) H → va_D A (zR dA ad σ) → va_S A s.heap H locs → lv_has ls 5 [(0, .ref (ad 0 1000)), (1, .int (Int32.ofInt v1)), (2, .int (Int32.ofInt v2))] → wpX11_judge_46 K2 v1 v2 σ Q → W p l e (gR 2 0 0) s m #[.ref (ad 0 1000)] below meth c H locs 0 0 QQ (F0 m 46 ls []) := by
      intro v1 v2 σ H locs ls hP hD hS hl hw
      unfold wpX11_judge_46 at hw
      refine lv_iconst (v := Int32.ofInt 0) hx hb dX11_judge_46 (by decide) ?_
      exact j47 v1 v2 0 σ _ _ _ hP hD hS (lv_sub hl [0, 1, 2] rfl) hw
    intro v1 σ hw H locs ls hP hD hS hl
    unfold wpbX11_judge_2 at hw
    refine lv_iload_n hx hb dX11_judge_2 rfl (lv_at hl 1 rfl) ?_
    refine lv_aload_n hx hb dX11_judge_3 rfl (lv_at hl 0 rfl) ?_
    refine zgR0_23 hx hb hg hown hK hP q1638 dX11_judge_4 ?_
    obtain ⟨o26, hw⟩ := hw
    obtain ⟨o27, hw⟩ := hw
    refine z_icmp_ge (tgt := 186) hx hb o26 o27 dX11_judge_7 (by decide) (fun k28 => ?_) (fun k28 => ?_)
    · replace hw := hw.1 k28
      exact hret σ _ _ _ _ hw hP hD hS dX11_judge_186
    · replace hw := hw.2 k28
      refine lv_aload_n hx hb dX11_judge_10 rfl (lv_at hl 0 rfl) ?_
      refine zgR0_20 hx hb hg hown hK hP q1635 dX11_judge_11 ?_
      refine lv_iload_n hx hb dX11_judge_14 rfl (lv_at hl 1 rfl) ?_
      obtain ⟨o29, hw⟩ := hw
      refine zlR0_20 hx hb o29 hK hP dX11_judge_15 ?_
      refine lv_istore_n (lv' := [(2, .int (Int32.ofInt (zA σ 0 20 v1))), (0, .ref (ad 0 1000)), (1, .int (Int32.ofInt v1))]) hx hb dX11_judge_16 rfl hl (by decide) rfl (fun ls hl => ?_)
      refine lv_aload_n hx hb dX11_judge_17 rfl (lv_at hl 1 rfl) ?_
      refine zgR0_13 hx hb hg hown hK hP q1628 dX11_judge_18 ?_
      refine lv_iload_n hx hb dX11_judge_21 rfl (lv_at hl 0 rfl) ?_
      obtain ⟨o30, hw⟩ := hw
      refine zlR0_13 hx hb o30 hK hP dX11_judge_22 ?_
      refine lv_iconst (v := Int32.ofInt 2) hx hb dX11_judge_23 (by decide) ?_
      obtain ⟨o31, hw⟩ := hw
      refine z_icmp_ne (tgt := 46) hx hb o31 (by decide) dX11_judge_24 (by decide) (fun k32 => ?_) (fun k32 => ?_)
      · replace hw := hw.1 k32
        exact j46 v1 (zA σ 0 20 v1) σ _ _ _ hP hD hS (lv_sub hl [1, 2, 0] rfl) hw
      · replace hw := hw.2 k32
        refine lv_aload_n hx hb dX11_judge_27 rfl (lv_at hl 1 rfl) ?_
        refine zgR0_14 hx hb hg hown hK hP q1629 dX11_judge_28 ?_
        refine lv_iload_n hx hb dX11_judge_31 rfl (lv_at hl 0 rfl) ?_
        refine zlR0_14 hx hb o30 hK hP dX11_judge_32 ?_
        refine lv_aload_n hx hb dX11_judge_33 rfl (lv_at hl 1 rfl) ?_
        refine zgR0_22 hx hb hg hown hK hP q1637 dX11_judge_34 ?_
        refine lv_iload_n hx hb dX11_judge_37 rfl (lv_at hl 2 rfl) ?_
        refine zlR0_22 hx hb o29 hK hP dX11_judge_38 ?_
        obtain ⟨o33, hw⟩ := hw
        obtain ⟨o34, hw⟩ := hw
        refine z_icmp_ne (tgt := 46) hx hb o33 o34 dX11_judge_39 (by decide) (fun k35 => ?_) (fun k35 => ?_)
        · replace hw := hw.1 k35
          exact j46 v1 (zA σ 0 20 v1) σ _ _ _ hP hD hS (lv_sub hl [1, 2, 0] rfl) hw
        · replace hw := hw.2 k35
          refine lv_iconst (v := Int32.ofInt 1) hx hb dX11_judge_42 (by decide) ?_
          refine lv_goto (tgt := 47) hx hb dX11_judge_43 (by decide) ?_
          exact j47 v1 (zA σ 0 20 v1) 1 σ _ _ _ hP hD hS (lv_sub hl [1, 2, 0] rfl) hw
  have j2 : ∀ (v1 : Int) (σ : ZS), ∀ (H : Heap) (locs : List Loc) (ls : Array Slot), va_P D vwC (zR dA ad σ) H → va_D A (zR dA ad σ) → va_S A s.heap H locs → lv_has ls 5 [(0, .ref (ad 0 1000)), (1, .int (Int32.ofInt v1))] → wpX11_judge_2 v1 σ Q → W p l e (gR 2 0 0) s m #[.ref (ad 0 1000)] below meth c H locs 0 0 QQ (F0 m 2 ls []) := by
    intro v1 σ H locs ls hP hD hS hl hw
    exact hw (fun v1 σ => ∀ (H : Heap) (locs : List Loc) (ls : Array Slot), va_P D vwC (zR dA ad σ) H → va_D A (zR dA ad σ) → va_S A s.heap H locs → lv_has ls 5 [(0, .ref (ad 0 1000)), (1, .int (Int32.ofInt v1))] → W p l e (gR 2 0 0) s m #[.ref (ad 0 1000)] below meth c H locs 0 0 QQ (F0 m 2 ls [])) (b2 (fun v1 σ => ∀ (H : Heap) (locs : List Loc) (ls : Array Slot), va_P D vwC (zR dA ad σ) H → va_D A (zR dA ad σ) → va_S A s.heap H locs → lv_has ls 5 [(0, .ref (ad 0 1000)), (1, .int (Int32.ofInt v1))] → W p l e (gR 2 0 0) s m #[.ref (ad 0 1000)] below meth c H locs 0 0 QQ (F0 m 2 ls [])) (fun v1 σ h => h)) _ _ _ hP hD hS hl
  unfold wpX11_judge at hw
  refine lv_iconst (v := Int32.ofInt 0) hx hb dX11_judge_0 (by decide) ?_
  refine lv_istore_n (lv' := [(1, .int (Int32.ofInt 0)), (0, .ref (ad 0 1000))]) hx hb dX11_judge_1 rfl hl (by decide) rfl (fun ls hl => ?_)
  exact j2 0 σ _ _ _ hP hD hS (lv_sub hl [1, 0] rfl) hw
def wpX11_sizeOf_86 (σ : ZS) (Q : Int → ZS → Prop) : Prop := Q 2 σ
def wpX11_sizeOf_72 (s0 : Int) (σ : ZS) (Q : Int → ZS → Prop) : Prop := Q s0 σ
def wpX11_sizeOf (a1 : Int) (σ : ZS) (Q : Int → ZS → Prop) : Prop := (0 ≤ a1 ∧ a1 < 1200) ∧ (-2147483648 ≤ (zA σ 0 24 a1) ∧ (zA σ 0 24 a1) ≤ 2147483647) ∧ ((zA σ 0 24 a1) = 0 → Q 1 σ) ∧ (¬ (zA σ 0 24 a1) = 0 → ((zA σ 0 24 a1) = 1 → wpX11_sizeOf_86 σ Q) ∧ (¬ (zA σ 0 24 a1) = 1 → ((zA σ 0 24 a1) = 2 → wpX11_sizeOf_86 σ Q) ∧ (¬ (zA σ 0 24 a1) = 2 → ((zA σ 0 24 a1) = 3 → wpX11_sizeOf_86 σ Q) ∧ (¬ (zA σ 0 24 a1) = 3 → ((zA σ 0 24 a1) = 4 → (-2147483648 ≤ (zA σ 0 30 a1) ∧ (zA σ 0 30 a1) ≤ 2147483647) ∧ ((zA σ 0 30 a1) = 0 → wpX11_sizeOf_72 2 σ Q) ∧ (¬ (zA σ 0 30 a1) = 0 → wpX11_sizeOf_72 3 σ Q)) ∧ (¬ (zA σ 0 24 a1) = 4 → ((zA σ 0 24 a1) = 5 → Q 2 σ) ∧ (¬ (zA σ 0 24 a1) = 5 → ((zA σ 0 24 a1) = 6 → Q 3 σ) ∧ (¬ (zA σ 0 24 a1) = 6 → ((zA σ 0 24 a1) = 7 → Q 0 σ) ∧ (¬ (zA σ 0 24 a1) = 7 → ((zA σ 0 24 a1) = 8 → Q (zA σ 0 25 a1) σ) ∧ (¬ (zA σ 0 24 a1) = 8 → wpX11_sizeOf_86 σ Q)))))))))
set_option maxHeartbeats 4000000 in
set_option maxRecDepth 100000 in
theorem kX11_sizeOf (l : Launch) (D : va_G) (dA : Nat → ClassId) (ad : Int → Nat → Nat) (a1 : Int) (σ : ZS) (Q : Int → ZS → Prop) (sz : Nat) (hw : wpX11_sizeOf a1 σ Q) : Met l yX11_sizeOf (gws yX11_sizeOf cX11_sizeOf 2 (some .int)) (gR 1 0 0) (gPre D dA [.ref (ad 0 1000), .int (Int32.ofInt a1)] (zR dA ad σ) sz) (va_Qi (zQi Q) (gAt D dA (va_A (zR dA ad σ) sz) (zR dA ad)) (va_A (zR dA ad σ) sz)) 0 0 (va_A (zR dA ad σ) sz) := by
  refine Met.ofW (cc := cX11_sizeOf) (maxL := 2) (ret := (some .int)) (by decide) rfl ?_
  intro p e s m args below meth c s₁ B hml hv
  obtain ⟨rfl, hsz, hP, hK, hD0⟩ := hv
  have hx := B.exec
  have hb := B.bytes
  have hr := B.returns
  have hts := atoms_spec (ws := gws yX11_sizeOf cX11_sizeOf 2 (some .int)) B.pre
  have hg : ∀ w ∈ gw, w.before _ s = true := fun w h => hts w (List.mem_cons_of_mem _ h)
  have hown : s.vm.findClass RX11 = some m.cls := findClass_of_methodNamed B.named
  have hlocks := B.notSynchronized
  subst hsz
  have hD := hD0.self (sz := s.heap.size)
  generalize hAe : va_A (zR dA ad σ) s.heap.size = A at hD ⊢
  have hA : ∀ q : Nat, s.heap.size ≤ q → A q := fun q h => by rw [← hAe]; exact Or.inr h
  have hS : va_S A s.heap s.heap [] := va_S.rf
  have hl := lv_entry ([.ref (ad 0 1000), .int (Int32.ofInt a1)]) (n := 2) (Nat.le_of_ble_eq_true rfl)
  rw [lg_entry_eq]
  generalize (lg_sl ([.ref (ad 0 1000), .int (Int32.ofInt a1)]) ++ List.replicate (2 - (lg_sl ([.ref (ad 0 1000), .int (Int32.ofInt a1)])).length) Slot.unset).toArray = ls at hl ⊢
  have hl : lv_has ls 2 [(0, .ref (ad 0 1000)), (1, .int (Int32.ofInt a1))] := hl
  have hret : ∀ (v : Int) (σ : ZS) (H : Heap) (locs : List Loc) (ls : Array Slot) (pc : Nat), Q v σ → va_P D vwC (zR dA ad σ) H → va_D A (zR dA ad σ) → va_S A s.heap H locs → decode cX11_sizeOf pc = .ok (.ireturn, 1) → W p l e (gR 1 0 0) s m #[.ref (ad 0 1000), .int (Int32.ofInt a1)] below meth c H locs 0 0 (MQ below (va_Qi (zQi Q) (gAt D dA A (zR dA ad)) A) #[.ref (ad 0 1000), .int (Int32.ofInt a1)] s 0 0 A) (F0 m pc ls [.int (Int32.ofInt v)]) := fun v σ H locs ls pc hw hP hD hS hd => g_iret hx hb hr rfl hlocks hK σ hP hD hS ⟨v, rfl, hw⟩ (Nat.le_of_ble_eq_true rfl) (Nat.le_of_ble_eq_true rfl) hd
  generalize MQ below (va_Qi (zQi Q) (gAt D dA A (zR dA ad)) A) #[.ref (ad 0 1000), .int (Int32.ofInt a1)] s 0 0 A = QQ at hret ⊢
  have j86 : ∀ (σ : ZS), ∀ (H : Heap) (locs : List Loc) (ls : Array Slot), va_P D vwC (zR dA ad σ) H → va_D A (zR dA ad σ) → va_S A s.heap H locs → lv_has ls 2 [] → wpX11_sizeOf_86 σ Q → W p l e (gR 1 0 0) s m #[.ref (ad 0 1000), .int (Int32.ofInt a1)] below meth c H locs 0 0 QQ (F0 m 86 ls []) := by
    intro σ H locs ls hP hD hS hl hw
    unfold wpX11_sizeOf_86 at hw
    refine lv_iconst (v := Int32.ofInt 2) hx hb dX11_sizeOf_86 (by decide) ?_
    exact hret 2 σ _ _ _ _ hw hP hD hS dX11_sizeOf_87
  have j72 : ∀ (s0 : Int) (σ : ZS), ∀ (H : Heap) (locs : List Loc) (ls : Array Slot), va_P D vwC (zR dA ad σ) H → va_D A (zR dA ad σ) → va_S A s.heap H locs → lv_has ls 2 [] → wpX11_sizeOf_72 s0 σ Q → W p l e (gR 1 0 0) s m #[.ref (ad 0 1000), .int (Int32.ofInt a1)] below meth c H locs 0 0 QQ (F0 m 72 ls [.int (Int32.ofInt s0)]) := by
    intro s0 σ H locs ls hP hD hS hl hw
    unfold wpX11_sizeOf_72 at hw
    exact hret s0 σ _ _ _ _ hw hP hD hS dX11_sizeOf_72
  unfold wpX11_sizeOf at hw
  refine lv_aload_n hx hb dX11_sizeOf_0 rfl (lv_at hl 0 rfl) ?_
  refine zgR0_24 hx hb hg hown hK hP q1639 dX11_sizeOf_1 ?_
  refine lv_iload_n hx hb dX11_sizeOf_4 rfl (lv_at hl 1 rfl) ?_
  obtain ⟨o1, hw⟩ := hw
  refine zlR0_24 hx hb o1 hK hP dX11_sizeOf_5 ?_
  obtain ⟨o2, hw⟩ := hw
  have t3 := z_ti o2
  by_cases s4 : (zA σ 0 24 a1) = 0
  · replace hw := hw.1 s4
    refine lv_tableIn (tgt := 56) hx hb dX11_sizeOf_6 (by rw [t3, s4]; decide) (by rw [t3, s4]; decide) (by rw [t3, s4]; rfl) (by decide) ?_
    refine lv_iconst (v := Int32.ofInt 1) hx hb dX11_sizeOf_56 (by decide) ?_
    exact hret 1 σ _ _ _ _ hw hP hD hS dX11_sizeOf_57
  replace hw := hw.2 s4
  by_cases s5 : (zA σ 0 24 a1) = 1
  · replace hw := hw.1 s5
    refine lv_tableIn (tgt := 86) hx hb dX11_sizeOf_6 (by rw [t3, s5]; decide) (by rw [t3, s5]; decide) (by rw [t3, s5]; rfl) (by decide) ?_
    exact j86 σ _ _ _ hP hD hS (lv_sub hl [] rfl) hw
  replace hw := hw.2 s5
  by_cases s6 : (zA σ 0 24 a1) = 2
  · replace hw := hw.1 s6
    refine lv_tableIn (tgt := 86) hx hb dX11_sizeOf_6 (by rw [t3, s6]; decide) (by rw [t3, s6]; decide) (by rw [t3, s6]; rfl) (by decide) ?_
    exact j86 σ _ _ _ hP hD hS (lv_sub hl [] rfl) hw
  replace hw := hw.2 s6
  by_cases s7 : (zA σ 0 24 a1) = 3
  · replace hw := hw.1 s7
    refine lv_tableIn (tgt := 86) hx hb dX11_sizeOf_6 (by rw [t3, s7]; decide) (by rw [t3, s7]; decide) (by rw [t3, s7]; rfl) (by decide) ?_
    exact j86 σ _ _ _ hP hD hS (lv_sub hl [] rfl) hw
  replace hw := hw.2 s7
  by_cases s8 : (zA σ 0 24 a1) = 4
  · replace hw := hw.1 s8
    refine lv_tableIn (tgt := 58) hx hb dX11_sizeOf_6 (by rw [t3, s8]; decide) (by rw [t3, s8]; decide) (by rw [t3, s8]; rfl) (by decide) ?_
    refine lv_aload_n hx hb dX11_sizeOf_58 rfl (lv_at hl 0 rfl) ?_
    refine zgR0_30 hx hb hg hown hK hP q1645 dX11_sizeOf_59 ?_
    refine lv_iload_n hx hb dX11_sizeOf_62 rfl (lv_at hl 1 rfl) ?_
    refine zlR0_30 hx hb o1 hK hP dX11_sizeOf_63 ?_
    obtain ⟨o9, hw⟩ := hw
    refine z_if_eq (tgt := 71) hx hb o9 dX11_sizeOf_64 (by decide) (fun k10 => ?_) (fun k10 => ?_)
    · replace hw := hw.1 k10
      refine lv_iconst (v := Int32.ofInt 2) hx hb dX11_sizeOf_71 (by decide) ?_
      exact j72 2 σ _ _ _ hP hD hS (lv_sub hl [] rfl) hw
    · replace hw := hw.2 k10
      refine lv_iconst (v := Int32.ofInt 3) hx hb dX11_sizeOf_67 (by decide) ?_
      refine lv_goto (tgt := 72) hx hb dX11_sizeOf_68 (by decide) ?_
      exact j72 3 σ _ _ _ hP hD hS (lv_sub hl [] rfl) hw
  replace hw := hw.2 s8
  by_cases s11 : (zA σ 0 24 a1) = 5
  · replace hw := hw.1 s11
    refine lv_tableIn (tgt := 73) hx hb dX11_sizeOf_6 (by rw [t3, s11]; decide) (by rw [t3, s11]; decide) (by rw [t3, s11]; rfl) (by decide) ?_
    refine lv_iconst (v := Int32.ofInt 2) hx hb dX11_sizeOf_73 (by decide) ?_
    exact hret 2 σ _ _ _ _ hw hP hD hS dX11_sizeOf_74
  replace hw := hw.2 s11
  by_cases s12 : (zA σ 0 24 a1) = 6
  · replace hw := hw.1 s12
    refine lv_tableIn (tgt := 75) hx hb dX11_sizeOf_6 (by rw [t3, s12]; decide) (by rw [t3, s12]; decide) (by rw [t3, s12]; rfl) (by decide) ?_
    refine lv_iconst (v := Int32.ofInt 3) hx hb dX11_sizeOf_75 (by decide) ?_
    exact hret 3 σ _ _ _ _ hw hP hD hS dX11_sizeOf_76
  replace hw := hw.2 s12
  by_cases s13 : (zA σ 0 24 a1) = 7
  · replace hw := hw.1 s13
    refine lv_tableIn (tgt := 77) hx hb dX11_sizeOf_6 (by rw [t3, s13]; decide) (by rw [t3, s13]; decide) (by rw [t3, s13]; rfl) (by decide) ?_
    refine lv_iconst (v := Int32.ofInt 0) hx hb dX11_sizeOf_77 (by decide) ?_
    exact hret 0 σ _ _ _ _ hw hP hD hS dX11_sizeOf_78
  replace hw := hw.2 s13
  by_cases s14 : (zA σ 0 24 a1) = 8
  · replace hw := hw.1 s14
    refine lv_tableIn (tgt := 79) hx hb dX11_sizeOf_6 (by rw [t3, s14]; decide) (by rw [t3, s14]; decide) (by rw [t3, s14]; rfl) (by decide) ?_
    refine lv_aload_n hx hb dX11_sizeOf_79 rfl (lv_at hl 0 rfl) ?_
    refine zgR0_25 hx hb hg hown hK hP q1640 dX11_sizeOf_80 ?_
    refine lv_iload_n hx hb dX11_sizeOf_83 rfl (lv_at hl 1 rfl) ?_
    refine zlR0_25 hx hb o1 hK hP dX11_sizeOf_84 ?_
    exact hret (zA σ 0 25 a1) σ _ _ _ _ hw hP hD hS dX11_sizeOf_85
  replace hw := hw.2 s14
  refine lv_tableOut (tgt := 86) hx hb dX11_sizeOf_6 (by rw [t3]; clear hw; omega) (by decide) ?_
  exact j86 σ _ _ _ hP hD hS (lv_sub hl [] rfl) hw
def wpX11_lay_80 (K25 : Int → ZS → Prop) (v1 v2 : Int) (σ : ZS) (Q : ZS → Prop) : Prop := (0 ≤ v2 ∧ v2 < 80) ∧ wpX11_sizeOf v1 σ (fun (x2 : Int) (σ3 : ZS) => K25 (v1 + 1) (zsA σ3 0 36 v2 ((zA σ 0 36 v2) + x2)))
def wpbX11_lay_25 (K25 : Int → ZS → Prop) (v1 : Int) (σ : ZS) (Q : ZS → Prop) : Prop := (-2147483648 ≤ v1 ∧ v1 ≤ 2147483647) ∧ (-2147483648 ≤ (zI σ 0 31) ∧ (zI σ 0 31) ≤ 2147483647) ∧ ((zI σ 0 31) ≤ v1 → Q σ) ∧ (¬ (zI σ 0 31) ≤ v1 → (0 ≤ v1 ∧ v1 < 1200) ∧ (0 ≤ (zA σ 0 28 v1) ∧ (zA σ 0 28 v1) < 80) ∧ (-2147483648 ≤ (zA σ 0 24 v1) ∧ (zA σ 0 24 v1) ≤ 2147483647) ∧ (¬ (zA σ 0 24 v1) = 7 → wpX11_lay_80 K25 v1 (zA σ 0 28 v1) (zsA σ 0 29 v1 (zA σ 0 36 (zA σ 0 28 v1))) Q) ∧ ((zA σ 0 24 v1) = 7 → (0 ≤ (zA σ 0 25 v1) ∧ (zA σ 0 25 v1) < 240) ∧ wpX11_lay_80 K25 v1 (zA σ 0 28 v1) (zsA (zsA σ 0 29 v1 (zA σ 0 36 (zA σ 0 28 v1))) 0 16 (zA σ 0 25 v1) (zA σ 0 36 (zA σ 0 28 v1))) Q))
def wpX11_lay_25 (v1 : Int) (σ : ZS) (Q : ZS → Prop) : Prop := lfp1 (fun K25 v1 σ => wpbX11_lay_25 K25 v1 σ Q) v1 σ
def wpbX11_lay_2 (K2 : Int → ZS → Prop) (v1 : Int) (σ : ZS) (Q : ZS → Prop) : Prop := (-2147483648 ≤ v1 ∧ v1 ≤ 2147483647) ∧ (-2147483648 ≤ (zI σ 0 34) ∧ (zI σ 0 34) ≤ 2147483647) ∧ ((zI σ 0 34) ≤ v1 → wpX11_lay_25 0 σ Q) ∧ (¬ (zI σ 0 34) ≤ v1 → (0 ≤ v1 ∧ v1 < 80) ∧ K2 (v1 + 1) (zsA σ 0 36 v1 0))
def wpX11_lay_2 (v1 : Int) (σ : ZS) (Q : ZS → Prop) : Prop := lfp1 (fun K2 v1 σ => wpbX11_lay_2 K2 v1 σ Q) v1 σ
def wpX11_lay (σ : ZS) (Q : ZS → Prop) : Prop := wpX11_lay_2 0 σ Q
set_option maxHeartbeats 4000000 in
set_option maxRecDepth 100000 in
theorem kX11_lay (l : Launch) (D : va_G) (dA : Nat → ClassId) (ad : Int → Nat → Nat) (σ : ZS) (Q : ZS → Prop) (sz : Nat) (hw : wpX11_lay σ Q) : Met l yX11_lay (gws yX11_lay cX11_lay 3 none) (gR 2 0 0) (gPre D dA [.ref (ad 0 1000)] (zR dA ad σ) sz) (va_Qv Q (gAt D dA (va_A (zR dA ad σ) sz) (zR dA ad)) (va_A (zR dA ad σ) sz)) 0 0 (va_A (zR dA ad σ) sz) := by
  refine Met.ofW (cc := cX11_lay) (maxL := 3) (ret := none) (by decide) rfl ?_
  intro p e s m args below meth c s₁ B hml hv
  obtain ⟨rfl, hsz, hP, hK, hD0⟩ := hv
  have hx := B.exec
  have hb := B.bytes
  have hr := B.returns
  have hts := atoms_spec (ws := gws yX11_lay cX11_lay 3 none) B.pre
  have hg : ∀ w ∈ gw, w.before _ s = true := fun w h => hts w (List.mem_cons_of_mem _ h)
  have hown : s.vm.findClass RX11 = some m.cls := findClass_of_methodNamed B.named
  have hlocks := B.notSynchronized
  subst hsz
  have hD := hD0.self (sz := s.heap.size)
  generalize hAe : va_A (zR dA ad σ) s.heap.size = A at hD ⊢
  have hA : ∀ q : Nat, s.heap.size ≤ q → A q := fun q h => by rw [← hAe]; exact Or.inr h
  have hS : va_S A s.heap s.heap [] := va_S.rf
  have hl := lv_entry ([.ref (ad 0 1000)]) (n := 3) (Nat.le_of_ble_eq_true rfl)
  rw [lg_entry_eq]
  generalize (lg_sl ([.ref (ad 0 1000)]) ++ List.replicate (3 - (lg_sl ([.ref (ad 0 1000)])).length) Slot.unset).toArray = ls at hl ⊢
  have hl : lv_has ls 3 [(0, .ref (ad 0 1000))] := hl
  have hret : ∀ (σ : ZS) (H : Heap) (locs : List Loc) (ls : Array Slot) (pc : Nat), Q σ → va_P D vwC (zR dA ad σ) H → va_D A (zR dA ad σ) → va_S A s.heap H locs → decode cX11_lay pc = .ok (.return_, 1) → W p l e (gR 2 0 0) s m #[.ref (ad 0 1000)] below meth c H locs 0 0 (MQ below (va_Qv Q (gAt D dA A (zR dA ad)) A) #[.ref (ad 0 1000)] s 0 0 A) (F0 m pc ls []) := fun σ H locs ls pc hw hP hD hS hd => g_vret hx hb hr hlocks hK σ hP hD hS hw (Nat.le_of_ble_eq_true rfl) (Nat.le_of_ble_eq_true rfl) hd
  generalize MQ below (va_Qv Q (gAt D dA A (zR dA ad)) A) #[.ref (ad 0 1000)] s 0 0 A = QQ at hret ⊢
  have b25 : ∀ (K25 : Int → ZS → Prop), (∀ (v1 : Int) (σ : ZS), K25 v1 σ → ∀ (H : Heap) (locs : List Loc) (ls : Array Slot), va_P D vwC (zR dA ad σ) H → va_D A (zR dA ad σ) → va_S A s.heap H locs → lv_has ls 3 [(0, .ref (ad 0 1000)), (1, .int (Int32.ofInt v1))] → W p l e (gR 2 0 0) s m #[.ref (ad 0 1000)] below meth c H locs 0 0 QQ (F0 m 25 ls [])) → ∀ (v1 : Int) (σ : ZS), wpbX11_lay_25 K25 v1 σ Q → ∀ (H : Heap) (locs : List Loc) (ls : Array Slot), va_P D vwC (zR dA ad σ) H → va_D A (zR dA ad σ) → va_S A s.heap H locs → lv_has ls 3 [(0, .ref (ad 0 1000)), (1, .int (Int32.ofInt v1))] → W p l e (gR 2 0 0) s m #[.ref (ad 0 1000)] below meth c H locs 0 0 QQ (F0 m 25 ls []) := by
    intro K25 hK25
    have j80 : ∀ (v1 v2 : Int) (σ : ZS), ∀ (H : Heap) (locs : List Loc) (ls : Array Slot), va_P D vwC (zR dA ad σ) H → va_D A (zR dA ad σ) → va_S A s.heap H locs → lv_has ls 3 [(0, .ref (ad 0 1000)), (1, .int (Int32.ofInt v1)), (2, .int (Int32.ofInt v2))] → wpX11_lay_80 K25 v1 v2 σ Q → W p l e (gR 2 0 0) s m #[.ref (ad 0 1000)] below meth c H locs 0 0 QQ (F0 m 80 ls []) := by
      intro v1 v2 σ H locs ls hP hD hS hl hw
      unfold wpX11_lay_80 at hw
      refine lv_aload_n hx hb dX11_lay_80 rfl (lv_at hl 0 rfl) ?_
      refine zgR0_36 hx hb hg hown hK hP q1651 dX11_lay_81 ?_
      refine lv_iload_n hx hb dX11_lay_84 rfl (lv_at hl 2 rfl) ?_
      refine lv_dup2_11 hx hb dX11_lay_85 rfl rfl ?_
      obtain ⟨o1, hw⟩ := hw
      refine zlR0_36 hx hb o1 hK hP dX11_lay_86 ?_
      refine lv_aload_n hx hb dX11_lay_87 rfl (lv_at hl 0 rfl) ?_
      refine lv_iload_n hx hb dX11_lay_88 rfl (lv_at hl 1 rfl) ?_
      refine z_Vi (n := 1) (As := [.int (Int32.ofInt v1)]) (rest := [.int (Int32.ofInt (zA σ 0 36 v2)), .int (Int32.ofInt v2), .ref (ad 0 36)]) hx hb hml hg hown hK hP hD hS hA (kX11_sizeOf l D dA ad v1 σ _ _ hw) (zoR0) rfl q2042 q160 q2039 q2041 q113 (by decide +kernel) ⟨(Nat.le_of_ble_eq_true rfl), (Nat.le_of_ble_eq_true rfl)⟩ rfl hl.1 rfl (Nat.le_of_ble_eq_true rfl) dX11_lay_89 ⟨(Nat.le_of_ble_eq_true rfl), (Nat.le_of_ble_eq_true rfl)⟩ (fun x2 σ3 H locs hw hP hD hS => ?_)
      refine z_iadd hx hb dX11_lay_92 ?_
      refine zsR0_36 (v := ((zA σ 0 36 v2) + x2)) hx hb o1 hK hP hD hS dX11_lay_93 (fun H locs hP hD hS => ?_)
      refine lv_iinc (v := Int32.ofInt (v1 + 1)) (lv' := [(1, .int (Int32.ofInt (v1 + 1))), (0, .ref (ad 0 1000)), (2, .int (Int32.ofInt v2))]) hx hb dX11_lay_94 hl (k := 1) rfl (Int32.ofInt_add _ _).symm (by decide) rfl (fun ls hl => ?_)
      refine lv_goto (tgt := 25) hx hb dX11_lay_97 (by decide) ?_
      exact hK25 (v1 + 1) (zsA σ3 0 36 v2 ((zA σ 0 36 v2) + x2)) hw _ _ _ hP hD hS (lv_sub hl [1, 0] rfl)
    intro v1 σ hw H locs ls hP hD hS hl
    unfold wpbX11_lay_25 at hw
    refine lv_iload_n hx hb dX11_lay_25 rfl (lv_at hl 1 rfl) ?_
    refine lv_aload_n hx hb dX11_lay_26 rfl (lv_at hl 0 rfl) ?_
    refine zgR0_31 hx hb hg hown hK hP q1646 dX11_lay_27 ?_
    obtain ⟨o4, hw⟩ := hw
    obtain ⟨o5, hw⟩ := hw
    refine z_icmp_ge (tgt := 100) hx hb o4 o5 dX11_lay_30 (by decide) (fun k6 => ?_) (fun k6 => ?_)
    · replace hw := hw.1 k6
      exact hret σ _ _ _ _ hw hP hD hS dX11_lay_100
    · replace hw := hw.2 k6
      refine lv_aload_n hx hb dX11_lay_33 rfl (lv_at hl 0 rfl) ?_
      refine zgR0_28 hx hb hg hown hK hP q1643 dX11_lay_34 ?_
      refine lv_iload_n hx hb dX11_lay_37 rfl (lv_at hl 1 rfl) ?_
      obtain ⟨o7, hw⟩ := hw
      refine zlR0_28 hx hb o7 hK hP dX11_lay_38 ?_
      refine lv_istore_n (lv' := [(2, .int (Int32.ofInt (zA σ 0 28 v1))), (0, .ref (ad 0 1000)), (1, .int (Int32.ofInt v1))]) hx hb dX11_lay_39 rfl hl (by decide) rfl (fun ls hl => ?_)
      refine lv_aload_n hx hb dX11_lay_40 rfl (lv_at hl 1 rfl) ?_
      refine zgR0_29 hx hb hg hown hK hP q1644 dX11_lay_41 ?_
      refine lv_iload_n hx hb dX11_lay_44 rfl (lv_at hl 2 rfl) ?_
      refine lv_aload_n hx hb dX11_lay_45 rfl (lv_at hl 1 rfl) ?_
      refine zgR0_36 hx hb hg hown hK hP q1651 dX11_lay_46 ?_
      refine lv_iload_n hx hb dX11_lay_49 rfl (lv_at hl 0 rfl) ?_
      obtain ⟨o8, hw⟩ := hw
      refine zlR0_36 hx hb o8 hK hP dX11_lay_50 ?_
      refine zsR0_29 (v := (zA σ 0 36 (zA σ 0 28 v1))) hx hb o7 hK hP hD hS dX11_lay_51 (fun H locs hP hD hS => ?_)
      refine lv_aload_n hx hb dX11_lay_52 rfl (lv_at hl 1 rfl) ?_
      refine zgR0_24 hx hb hg hown hK hP q1639 dX11_lay_53 ?_
      refine lv_iload_n hx hb dX11_lay_56 rfl (lv_at hl 2 rfl) ?_
      refine zlR0_24 hx hb o7 hK hP dX11_lay_57 ?_
      refine g_nrm (y := Int32.ofInt (zA σ 0 24 v1)) rfl ?_
      refine lv_bipush (v := Int32.ofInt 7) hx hb dX11_lay_58 (by decide) ?_
      obtain ⟨o9, hw⟩ := hw
      refine z_icmp_ne (tgt := 80) hx hb o9 (by decide) dX11_lay_60 (by decide) (fun k10 => ?_) (fun k10 => ?_)
      · replace hw := hw.1 k10
        exact j80 v1 (zA σ 0 28 v1) (zsA σ 0 29 v1 (zA σ 0 36 (zA σ 0 28 v1))) _ _ _ hP hD hS (lv_sub hl [1, 2, 0] rfl) hw
      · replace hw := hw.2 k10
        refine lv_aload_n hx hb dX11_lay_63 rfl (lv_at hl 1 rfl) ?_
        refine zgR0_16 hx hb hg hown hK hP q1631 dX11_lay_64 ?_
        refine lv_aload_n hx hb dX11_lay_67 rfl (lv_at hl 1 rfl) ?_
        refine zgR0_25 hx hb hg hown hK hP q1640 dX11_lay_68 ?_
        refine lv_iload_n hx hb dX11_lay_71 rfl (lv_at hl 2 rfl) ?_
        refine zlR0_25 hx hb o7 hK hP dX11_lay_72 ?_
        refine g_nrm (y := Int32.ofInt (zA σ 0 25 v1)) rfl ?_
        refine lv_aload_n hx hb dX11_lay_73 rfl (lv_at hl 1 rfl) ?_
        refine zgR0_36 hx hb hg hown hK hP q1651 dX11_lay_74 ?_
        refine lv_iload_n hx hb dX11_lay_77 rfl (lv_at hl 0 rfl) ?_
        refine zlR0_36 hx hb o8 hK hP dX11_lay_78 ?_
        refine g_nrm (y := Int32.ofInt (zA σ 0 36 (zA σ 0 28 v1))) rfl ?_
        obtain ⟨o11, hw⟩ := hw
        refine zsR0_16 (v := (zA σ 0 36 (zA σ 0 28 v1))) hx hb o11 hK hP hD hS dX11_lay_79 (fun H locs hP hD hS => ?_)
        exact j80 v1 (zA σ 0 28 v1) (zsA (zsA σ 0 29 v1 (zA σ 0 36 (zA σ 0 28 v1))) 0 16 (zA σ 0 25 v1) (zA σ 0 36 (zA σ 0 28 v1))) _ _ _ hP hD hS (lv_sub hl [1, 2, 0] rfl) hw
  have j25 : ∀ (v1 : Int) (σ : ZS), ∀ (H : Heap) (locs : List Loc) (ls : Array Slot), va_P D vwC (zR dA ad σ) H → va_D A (zR dA ad σ) → va_S A s.heap H locs → lv_has ls 3 [(0, .ref (ad 0 1000)), (1, .int (Int32.ofInt v1))] → wpX11_lay_25 v1 σ Q → W p l e (gR 2 0 0) s m #[.ref (ad 0 1000)] below meth c H locs 0 0 QQ (F0 m 25 ls []) := by
    intro v1 σ H locs ls hP hD hS hl hw
    exact hw (fun v1 σ => ∀ (H : Heap) (locs : List Loc) (ls : Array Slot), va_P D vwC (zR dA ad σ) H → va_D A (zR dA ad σ) → va_S A s.heap H locs → lv_has ls 3 [(0, .ref (ad 0 1000)), (1, .int (Int32.ofInt v1))] → W p l e (gR 2 0 0) s m #[.ref (ad 0 1000)] below meth c H locs 0 0 QQ (F0 m 25 ls [])) (b25 (fun v1 σ => ∀ (H : Heap) (locs : List Loc) (ls : Array Slot), va_P D vwC (zR dA ad σ) H → va_D A (zR dA ad σ) → va_S A s.heap H locs → lv_has ls 3 [(0, .ref (ad 0 1000)), (1, .int (Int32.ofInt v1))] → W p l e (gR 2 0 0) s m #[.ref (ad 0 1000)] below meth c H locs 0 0 QQ (F0 m 25 ls [])) (fun v1 σ h => h)) _ _ _ hP hD hS hl
  have b2 : ∀ (K2 : Int → ZS → Prop), (∀ (v1 : Int) (σ : ZS), K2 v1 σ → ∀ (H : Heap) (locs : List Loc) (ls : Array Slot), va_P D vwC (zR dA ad σ) H → va_D A (zR dA ad σ) → va_S A s.heap H locs → lv_has ls 3 [(0, .ref (ad 0 1000)), (1, .int (Int32.ofInt v1))] → W p l e (gR 2 0 0) s m #[.ref (ad 0 1000)] below meth c H locs 0 0 QQ (F0 m 2 ls [])) → ∀ (v1 : Int) (σ : ZS), wpbX11_lay_2 K2 v1 σ Q → ∀ (H : Heap) (locs : List Loc) (ls : Array Slot), va_P D vwC (zR dA ad σ) H → va_D A (zR dA ad σ) → va_S A s.heap H locs → lv_has ls 3 [(0, .ref (ad 0 1000)), (1, .int (Int32.ofInt v1))] → W p l e (gR 2 0 0) s m #[.ref (ad 0 1000)] below meth c H locs 0 0 QQ (F0 m 2 ls []) := by
    intro K2 hK2
    intro v1 σ hw H locs ls hP hD hS hl
    unfold wpbX11_lay_2 at hw
    refine lv_iload_n hx hb dX11_lay_2 rfl (lv_at hl 1 rfl) ?_
    refine lv_aload_n hx hb dX11_lay_3 rfl (lv_at hl 0 rfl) ?_
    refine zgR0_34 hx hb hg hown hK hP q1649 dX11_lay_4 ?_
    obtain ⟨o12, hw⟩ := hw
    obtain ⟨o13, hw⟩ := hw
    refine z_icmp_ge (tgt := 23) hx hb o12 o13 dX11_lay_7 (by decide) (fun k14 => ?_) (fun k14 => ?_)
    · replace hw := hw.1 k14
      refine lv_iconst (v := Int32.ofInt 0) hx hb dX11_lay_23 (by decide) ?_
      refine lv_istore_n (lv' := [(1, .int (Int32.ofInt 0)), (0, .ref (ad 0 1000))]) hx hb dX11_lay_24 rfl hl (by decide) rfl (fun ls hl => ?_)
      exact j25 0 σ _ _ _ hP hD hS (lv_sub hl [1, 0] rfl) hw
    · replace hw := hw.2 k14
      refine lv_aload_n hx hb dX11_lay_10 rfl (lv_at hl 0 rfl) ?_
      refine zgR0_36 hx hb hg hown hK hP q1651 dX11_lay_11 ?_
      refine lv_iload_n hx hb dX11_lay_14 rfl (lv_at hl 1 rfl) ?_
      refine lv_iconst (v := Int32.ofInt 0) hx hb dX11_lay_15 (by decide) ?_
      obtain ⟨o15, hw⟩ := hw
      refine zsR0_36 (v := 0) hx hb o15 hK hP hD hS dX11_lay_16 (fun H locs hP hD hS => ?_)
      refine lv_iinc (v := Int32.ofInt (v1 + 1)) (lv' := [(1, .int (Int32.ofInt (v1 + 1))), (0, .ref (ad 0 1000))]) hx hb dX11_lay_17 hl (k := 1) rfl (Int32.ofInt_add _ _).symm (by decide) rfl (fun ls hl => ?_)
      refine lv_goto (tgt := 2) hx hb dX11_lay_20 (by decide) ?_
      exact hK2 (v1 + 1) (zsA σ 0 36 v1 0) hw _ _ _ hP hD hS (lv_sub hl [1, 0] rfl)
  have j2 : ∀ (v1 : Int) (σ : ZS), ∀ (H : Heap) (locs : List Loc) (ls : Array Slot), va_P D vwC (zR dA ad σ) H → va_D A (zR dA ad σ) → va_S A s.heap H locs → lv_has ls 3 [(0, .ref (ad 0 1000)), (1, .int (Int32.ofInt v1))] → wpX11_lay_2 v1 σ Q → W p l e (gR 2 0 0) s m #[.ref (ad 0 1000)] below meth c H locs 0 0 QQ (F0 m 2 ls []) := by
    intro v1 σ H locs ls hP hD hS hl hw
    exact hw (fun v1 σ => ∀ (H : Heap) (locs : List Loc) (ls : Array Slot), va_P D vwC (zR dA ad σ) H → va_D A (zR dA ad σ) → va_S A s.heap H locs → lv_has ls 3 [(0, .ref (ad 0 1000)), (1, .int (Int32.ofInt v1))] → W p l e (gR 2 0 0) s m #[.ref (ad 0 1000)] below meth c H locs 0 0 QQ (F0 m 2 ls [])) (b2 (fun v1 σ => ∀ (H : Heap) (locs : List Loc) (ls : Array Slot), va_P D vwC (zR dA ad σ) H → va_D A (zR dA ad σ) → va_S A s.heap H locs → lv_has ls 3 [(0, .ref (ad 0 1000)), (1, .int (Int32.ofInt v1))] → W p l e (gR 2 0 0) s m #[.ref (ad 0 1000)] below meth c H locs 0 0 QQ (F0 m 2 ls [])) (fun v1 σ h => h)) _ _ _ hP hD hS hl
  unfold wpX11_lay at hw
  refine lv_iconst (v := Int32.ofInt 0) hx hb dX11_lay_0 (by decide) ?_
  refine lv_istore_n (lv' := [(1, .int (Int32.ofInt 0)), (0, .ref (ad 0 1000))]) hx hb dX11_lay_1 rfl hl (by decide) rfl (fun ls hl => ?_)
  exact j2 0 σ _ _ _ hP hD hS (lv_sub hl [1, 0] rfl) hw
def wpX11_distance (a1 : Int) (σ : ZS) (Q : Int → ZS → Prop) : Prop := (0 ≤ a1 ∧ a1 < 1200) ∧ (0 ≤ (zA σ 0 25 a1) ∧ (zA σ 0 25 a1) < 240) ∧ wpX11_sizeOf a1 σ (fun (x3 : Int) (σ4 : ZS) => Q (((zA σ 0 16 (zA σ 0 25 a1)) - (zA σ 0 29 a1)) - x3) σ4)
set_option maxHeartbeats 4000000 in
set_option maxRecDepth 100000 in
theorem kX11_distance (l : Launch) (D : va_G) (dA : Nat → ClassId) (ad : Int → Nat → Nat) (a1 : Int) (σ : ZS) (Q : Int → ZS → Prop) (sz : Nat) (hw : wpX11_distance a1 σ Q) : Met l yX11_distance (gws yX11_distance cX11_distance 2 (some .int)) (gR 2 0 0) (gPre D dA [.ref (ad 0 1000), .int (Int32.ofInt a1)] (zR dA ad σ) sz) (va_Qi (zQi Q) (gAt D dA (va_A (zR dA ad σ) sz) (zR dA ad)) (va_A (zR dA ad σ) sz)) 0 0 (va_A (zR dA ad σ) sz) := by
  refine Met.ofW (cc := cX11_distance) (maxL := 2) (ret := (some .int)) (by decide) rfl ?_
  intro p e s m args below meth c s₁ B hml hv
  obtain ⟨rfl, hsz, hP, hK, hD0⟩ := hv
  have hx := B.exec
  have hb := B.bytes
  have hr := B.returns
  have hts := atoms_spec (ws := gws yX11_distance cX11_distance 2 (some .int)) B.pre
  have hg : ∀ w ∈ gw, w.before _ s = true := fun w h => hts w (List.mem_cons_of_mem _ h)
  have hown : s.vm.findClass RX11 = some m.cls := findClass_of_methodNamed B.named
  have hlocks := B.notSynchronized
  subst hsz
  have hD := hD0.self (sz := s.heap.size)
  generalize hAe : va_A (zR dA ad σ) s.heap.size = A at hD ⊢
  have hA : ∀ q : Nat, s.heap.size ≤ q → A q := fun q h => by rw [← hAe]; exact Or.inr h
  have hS : va_S A s.heap s.heap [] := va_S.rf
  have hl := lv_entry ([.ref (ad 0 1000), .int (Int32.ofInt a1)]) (n := 2) (Nat.le_of_ble_eq_true rfl)
  rw [lg_entry_eq]
  generalize (lg_sl ([.ref (ad 0 1000), .int (Int32.ofInt a1)]) ++ List.replicate (2 - (lg_sl ([.ref (ad 0 1000), .int (Int32.ofInt a1)])).length) Slot.unset).toArray = ls at hl ⊢
  have hl : lv_has ls 2 [(0, .ref (ad 0 1000)), (1, .int (Int32.ofInt a1))] := hl
  have hret : ∀ (v : Int) (σ : ZS) (H : Heap) (locs : List Loc) (ls : Array Slot) (pc : Nat), Q v σ → va_P D vwC (zR dA ad σ) H → va_D A (zR dA ad σ) → va_S A s.heap H locs → decode cX11_distance pc = .ok (.ireturn, 1) → W p l e (gR 2 0 0) s m #[.ref (ad 0 1000), .int (Int32.ofInt a1)] below meth c H locs 0 0 (MQ below (va_Qi (zQi Q) (gAt D dA A (zR dA ad)) A) #[.ref (ad 0 1000), .int (Int32.ofInt a1)] s 0 0 A) (F0 m pc ls [.int (Int32.ofInt v)]) := fun v σ H locs ls pc hw hP hD hS hd => g_iret hx hb hr rfl hlocks hK σ hP hD hS ⟨v, rfl, hw⟩ (Nat.le_of_ble_eq_true rfl) (Nat.le_of_ble_eq_true rfl) hd
  generalize MQ below (va_Qi (zQi Q) (gAt D dA A (zR dA ad)) A) #[.ref (ad 0 1000), .int (Int32.ofInt a1)] s 0 0 A = QQ at hret ⊢
  unfold wpX11_distance at hw
  refine lv_aload_n hx hb dX11_distance_0 rfl (lv_at hl 0 rfl) ?_
  refine zgR0_16 hx hb hg hown hK hP q1631 dX11_distance_1 ?_
  refine lv_aload_n hx hb dX11_distance_4 rfl (lv_at hl 0 rfl) ?_
  refine zgR0_25 hx hb hg hown hK hP q1640 dX11_distance_5 ?_
  refine lv_iload_n hx hb dX11_distance_8 rfl (lv_at hl 1 rfl) ?_
  obtain ⟨o1, hw⟩ := hw
  refine zlR0_25 hx hb o1 hK hP dX11_distance_9 ?_
  obtain ⟨o2, hw⟩ := hw
  refine zlR0_16 hx hb o2 hK hP dX11_distance_10 ?_
  refine lv_aload_n hx hb dX11_distance_11 rfl (lv_at hl 0 rfl) ?_
  refine zgR0_29 hx hb hg hown hK hP q1644 dX11_distance_12 ?_
  refine lv_iload_n hx hb dX11_distance_15 rfl (lv_at hl 1 rfl) ?_
  refine zlR0_29 hx hb o1 hK hP dX11_distance_16 ?_
  refine z_isub hx hb dX11_distance_17 ?_
  refine lv_aload_n hx hb dX11_distance_18 rfl (lv_at hl 0 rfl) ?_
  refine lv_iload_n hx hb dX11_distance_19 rfl (lv_at hl 1 rfl) ?_
  refine z_Vi (n := 1) (As := [.int (Int32.ofInt a1)]) (rest := [.int (Int32.ofInt ((zA σ 0 16 (zA σ 0 25 a1)) - (zA σ 0 29 a1)))]) hx hb hml hg hown hK hP hD hS hA (kX11_sizeOf l D dA ad a1 σ _ _ hw) (zoR0) rfl q2042 q160 q2039 q2041 q113 (by decide +kernel) ⟨(Nat.le_of_ble_eq_true rfl), (Nat.le_of_ble_eq_true rfl)⟩ rfl hl.1 rfl (Nat.le_of_ble_eq_true rfl) dX11_distance_20 ⟨(Nat.le_of_ble_eq_true rfl), (Nat.le_of_ble_eq_true rfl)⟩ (fun x3 σ4 H locs hw hP hD hS => ?_)
  refine z_isub hx hb dX11_distance_23 ?_
  exact hret (((zA σ 0 16 (zA σ 0 25 a1)) - (zA σ 0 29 a1)) - x3) σ4 _ _ _ _ hw hP hD hS dX11_distance_24
