theorem q3 : Cond.selects RX9 yX9_put yX9_put ∈ gw := gw_in (i := 3) (by decide +kernel) rfl
theorem q5 : Cond.selects RX8 yX8_type yX8_type ∈ gw := gw_in (i := 5) (by decide +kernel) rfl
theorem q28 : Cond.selects RX2 yX2_declareAll yX2_declareAll ∈ gw := gw_in (i := 28) (by decide +kernel) rfl
theorem q34 : Cond.selects RX2 yX2_measure yX2_measure ∈ gw := gw_in (i := 34) (by decide +kernel) rfl
theorem q35 : Cond.selects RX2 yX2_growJumps yX2_growJumps ∈ gw := gw_in (i := 35) (by decide +kernel) rfl
theorem q177 : Cond.initialized RJ7 ∈ gw := gw_in (i := 177) (by decide +kernel) rfl
theorem q206 : Cond.fieldLink RX2 33 "SegmentBench$Names" "crowdedAt" "I" ∈ gw := gw_in (i := 206) (by decide +kernel) rfl
theorem q232 : Cond.fieldLink RX8 78 "SegmentBench$Tokens" "type" "[I" ∈ gw := gw_in (i := 232) (by decide +kernel) rfl
theorem q238 : Cond.fieldLink RX8 40 "SegmentBench$Tokens" "size" "I" ∈ gw := gw_in (i := 238) (by decide +kernel) rfl
theorem q272 : Cond.fieldLink RX8 35 "SegmentBench$Draft" "size" "I" ∈ gw := gw_in (i := 272) (by decide +kernel) rfl
theorem q273 : Cond.fieldLink RX2 41 "SegmentBench$Draft" "size" "I" ∈ gw := gw_in (i := 273) (by decide +kernel) rfl
theorem q398 : Cond.fieldLink RX3 36 "SegmentBench$ObjectModule" "there" "Z" ∈ gw := gw_in (i := 398) (by decide +kernel) rfl
theorem q400 : Cond.fieldLink RX2 128 "SegmentBench$ObjectModule" "there" "Z" ∈ gw := gw_in (i := 400) (by decide +kernel) rfl
theorem q795 : Cond.methodLink RX9 29 yX5_clear ∈ gw := gw_in (i := 795) (by decide +kernel) rfl
theorem q796 : Cond.instanceMethod yX5_clear ∈ gw := gw_in (i := 796) (by decide +kernel) rfl
theorem q797 : Cond.selects RX5 yX5_clear yX5_clear ∈ gw := gw_in (i := 797) (by decide +kernel) rfl
theorem q798 : Cond.code yX5_clear cX5_clear 1 none ∈ gw := gw_in (i := 798) (by decide +kernel) rfl
theorem q810 : Cond.methodLink RX9 56 yX9_put ∈ gw := gw_in (i := 810) (by decide +kernel) rfl
theorem q812 : Cond.instanceMethod yX9_put ∈ gw := gw_in (i := 812) (by decide +kernel) rfl
theorem q813 : Cond.code yX9_put cX9_put 4 none ∈ gw := gw_in (i := 813) (by decide +kernel) rfl
theorem q943 : Cond.methodLink RX8 43 yX8_type ∈ gw := gw_in (i := 943) (by decide +kernel) rfl
theorem q945 : Cond.instanceMethod yX8_type ∈ gw := gw_in (i := 945) (by decide +kernel) rfl
theorem q946 : Cond.code yX8_type cX8_type 1 (some .int) ∈ gw := gw_in (i := 946) (by decide +kernel) rfl
theorem q1110 : Cond.methodLink RX2 38 yX2_declareAll ∈ gw := gw_in (i := 1110) (by decide +kernel) rfl
theorem q1112 : Cond.instanceMethod yX2_declareAll ∈ gw := gw_in (i := 1112) (by decide +kernel) rfl
theorem q1113 : Cond.code yX2_declareAll cX2_declareAll 3 none ∈ gw := gw_in (i := 1113) (by decide +kernel) rfl
theorem q1158 : Cond.methodLink RX2 90 yX2_measure ∈ gw := gw_in (i := 1158) (by decide +kernel) rfl
theorem q1160 : Cond.instanceMethod yX2_measure ∈ gw := gw_in (i := 1160) (by decide +kernel) rfl
theorem q1161 : Cond.code yX2_measure cX2_measure 3 none ∈ gw := gw_in (i := 1161) (by decide +kernel) rfl
theorem q1162 : Cond.methodLink RX2 97 yJ7_fill_53178 ∈ gw := gw_in (i := 1162) (by decide +kernel) rfl
theorem q1163 : Cond.static yJ7_fill_53178 ∈ gw := gw_in (i := 1163) (by decide +kernel) rfl
theorem q1164 : Cond.code yJ7_fill_53178 cJ7_fill_53178 4 none ∈ gw := gw_in (i := 1164) (by decide +kernel) rfl
theorem q1169 : Cond.methodLink RX2 93 yX2_growJumps ∈ gw := gw_in (i := 1169) (by decide +kernel) rfl
theorem q1171 : Cond.instanceMethod yX2_growJumps ∈ gw := gw_in (i := 1171) (by decide +kernel) rfl
theorem q1172 : Cond.code yX2_growJumps cX2_growJumps 3 (some .boolean) ∈ gw := gw_in (i := 1172) (by decide +kernel) rfl
theorem q1194 : Cond.methodLink RX2 123 yX6_clear ∈ gw := gw_in (i := 1194) (by decide +kernel) rfl
theorem q1195 : Cond.instanceMethod yX6_clear ∈ gw := gw_in (i := 1195) (by decide +kernel) rfl
theorem q1196 : Cond.selects RX6 yX6_clear yX6_clear ∈ gw := gw_in (i := 1196) (by decide +kernel) rfl
theorem q1197 : Cond.code yX6_clear cX6_clear 1 none ∈ gw := gw_in (i := 1197) (by decide +kernel) rfl
theorem q1198 : Cond.methodLink RX6 66 yJ7_fill_53178 ∈ gw := gw_in (i := 1198) (by decide +kernel) rfl
theorem dX5_clear_0 : decode cX5_clear 0 = .ok (.aload_n 0, 1) := by decide +kernel
theorem dX5_clear_1 : decode cX5_clear 1 = .ok (.iconst 0, 1) := by decide +kernel
theorem dX5_clear_2 : decode cX5_clear 2 = .ok (.putfield 28, 3) := by decide +kernel
theorem dX5_clear_5 : decode cX5_clear 5 = .ok (.aload_n 0, 1) := by decide +kernel
theorem dX5_clear_6 : decode cX5_clear 6 = .ok (.iconst (-1), 1) := by decide +kernel
theorem dX5_clear_7 : decode cX5_clear 7 = .ok (.putfield 32, 3) := by decide +kernel
theorem dX5_clear_10 : decode cX5_clear 10 = .ok (.return_, 1) := by decide +kernel
theorem dX9_put_0 : decode cX9_put 0 = .ok (.aload_n 0, 1) := by decide +kernel
theorem dX9_put_1 : decode cX9_put 1 = .ok (.getfield 21, 3) := by decide +kernel
theorem dX9_put_4 : decode cX9_put 4 = .ok (.aload_n 0, 1) := by decide +kernel
theorem dX9_put_5 : decode cX9_put 5 = .ok (.getfield 9, 3) := by decide +kernel
theorem dX9_put_8 : decode cX9_put 8 = .ok (.arraylength, 1) := by decide +kernel
theorem dX9_put_9 : decode cX9_put 9 = .ok (.if_icmp .ge 43, 3) := by decide +kernel
theorem dX9_put_12 : decode cX9_put 12 = .ok (.aload_n 0, 1) := by decide +kernel
theorem dX9_put_13 : decode cX9_put 13 = .ok (.getfield 9, 3) := by decide +kernel
theorem dX9_put_16 : decode cX9_put 16 = .ok (.aload_n 0, 1) := by decide +kernel
theorem dX9_put_17 : decode cX9_put 17 = .ok (.getfield 21, 3) := by decide +kernel
theorem dX9_put_20 : decode cX9_put 20 = .ok (.iload_n 1, 1) := by decide +kernel
theorem dX9_put_21 : decode cX9_put 21 = .ok (.iastore, 1) := by decide +kernel
theorem dX9_put_22 : decode cX9_put 22 = .ok (.aload_n 0, 1) := by decide +kernel
theorem dX9_put_23 : decode cX9_put 23 = .ok (.getfield 15, 3) := by decide +kernel
theorem dX9_put_26 : decode cX9_put 26 = .ok (.aload_n 0, 1) := by decide +kernel
theorem dX9_put_27 : decode cX9_put 27 = .ok (.getfield 21, 3) := by decide +kernel
theorem dX9_put_30 : decode cX9_put 30 = .ok (.iload_n 2, 1) := by decide +kernel
theorem dX9_put_31 : decode cX9_put 31 = .ok (.iastore, 1) := by decide +kernel
theorem dX9_put_32 : decode cX9_put 32 = .ok (.aload_n 0, 1) := by decide +kernel
theorem dX9_put_33 : decode cX9_put 33 = .ok (.getfield 18, 3) := by decide +kernel
theorem dX9_put_36 : decode cX9_put 36 = .ok (.aload_n 0, 1) := by decide +kernel
theorem dX9_put_37 : decode cX9_put 37 = .ok (.getfield 21, 3) := by decide +kernel
theorem dX9_put_40 : decode cX9_put 40 = .ok (.iload_n 3, 1) := by decide +kernel
theorem dX9_put_41 : decode cX9_put 41 = .ok (.iastore, 1) := by decide +kernel
theorem dX9_put_42 : decode cX9_put 42 = .ok (.aload_n 0, 1) := by decide +kernel
theorem dX9_put_43 : decode cX9_put 43 = .ok (.dup, 1) := by decide +kernel
theorem dX9_put_44 : decode cX9_put 44 = .ok (.getfield 21, 3) := by decide +kernel
theorem dX9_put_47 : decode cX9_put 47 = .ok (.iconst 1, 1) := by decide +kernel
theorem dX9_put_48 : decode cX9_put 48 = .ok (.iadd, 1) := by decide +kernel
theorem dX9_put_49 : decode cX9_put 49 = .ok (.putfield 21, 3) := by decide +kernel
theorem dX9_put_52 : decode cX9_put 52 = .ok (.return_, 1) := by decide +kernel
theorem dX9_read_0 : decode cX9_read 0 = .ok (.aload_n 0, 1) := by decide +kernel
theorem dX9_read_1 : decode cX9_read 1 = .ok (.iconst 0, 1) := by decide +kernel
theorem dX9_read_2 : decode cX9_read 2 = .ok (.putfield 21, 3) := by decide +kernel
theorem dX9_read_5 : decode cX9_read 5 = .ok (.aload_n 0, 1) := by decide +kernel
theorem dX9_read_6 : decode cX9_read 6 = .ok (.getfield 25, 3) := by decide +kernel
theorem dX9_read_9 : decode cX9_read 9 = .ok (.invokevirtual 29, 3) := by decide +kernel
theorem dX9_read_12 : decode cX9_read 12 = .ok (.iconst 0, 1) := by decide +kernel
theorem dX9_read_13 : decode cX9_read 13 = .ok (.istore_n 3, 1) := by decide +kernel
theorem dX9_read_14 : decode cX9_read 14 = .ok (.iconst 0, 1) := by decide +kernel
theorem dX9_read_15 : decode cX9_read 15 = .ok (.istore 4, 2) := by decide +kernel
theorem dX9_read_17 : decode cX9_read 17 = .ok (.iload 4, 2) := by decide +kernel
theorem dX9_read_19 : decode cX9_read 19 = .ok (.iload_n 2, 1) := by decide +kernel
theorem dX9_read_20 : decode cX9_read 20 = .ok (.if_icmp .ge 89, 3) := by decide +kernel
theorem dX9_read_109 : decode cX9_read 109 = .ok (.aload_n 0, 1) := by decide +kernel
theorem dX9_read_110 : decode cX9_read 110 = .ok (.iconst 0, 1) := by decide +kernel
theorem dX9_read_111 : decode cX9_read 111 = .ok (.iconst 0, 1) := by decide +kernel
theorem dX9_read_112 : decode cX9_read 112 = .ok (.iload_n 2, 1) := by decide +kernel
theorem dX9_read_113 : decode cX9_read 113 = .ok (.invokevirtual 56, 3) := by decide +kernel
theorem dX9_read_116 : decode cX9_read 116 = .ok (.return_, 1) := by decide +kernel
theorem dX8_type_0 : decode cX8_type 0 = .ok (.aload_n 0, 1) := by decide +kernel
theorem dX8_type_1 : decode cX8_type 1 = .ok (.getfield 7, 3) := by decide +kernel
theorem dX8_type_4 : decode cX8_type 4 = .ok (.getfield 78, 3) := by decide +kernel
theorem dX8_type_7 : decode cX8_type 7 = .ok (.aload_n 0, 1) := by decide +kernel
theorem dX8_type_8 : decode cX8_type 8 = .ok (.getfield 27, 3) := by decide +kernel
theorem dX8_type_11 : decode cX8_type 11 = .ok (.iaload, 1) := by decide +kernel
theorem dX8_type_12 : decode cX8_type 12 = .ok (.ireturn, 1) := by decide +kernel
theorem dX8_parse_0 : decode cX8_parse 0 = .ok (.aload_n 0, 1) := by decide +kernel
theorem dX8_parse_1 : decode cX8_parse 1 = .ok (.iconst 0, 1) := by decide +kernel
theorem dX8_parse_2 : decode cX8_parse 2 = .ok (.putfield 27, 3) := by decide +kernel
theorem dX8_parse_5 : decode cX8_parse 5 = .ok (.aload_n 0, 1) := by decide +kernel
theorem dX8_parse_6 : decode cX8_parse 6 = .ok (.iconst 0, 1) := by decide +kernel
theorem dX8_parse_7 : decode cX8_parse 7 = .ok (.putfield 31, 3) := by decide +kernel
theorem dX8_parse_10 : decode cX8_parse 10 = .ok (.aload_n 0, 1) := by decide +kernel
theorem dX8_parse_11 : decode cX8_parse 11 = .ok (.getfield 13, 3) := by decide +kernel
theorem dX8_parse_14 : decode cX8_parse 14 = .ok (.iconst 0, 1) := by decide +kernel
theorem dX8_parse_15 : decode cX8_parse 15 = .ok (.putfield 35, 3) := by decide +kernel
theorem dX8_parse_18 : decode cX8_parse 18 = .ok (.iconst 0, 1) := by decide +kernel
theorem dX8_parse_19 : decode cX8_parse 19 = .ok (.istore_n 1, 1) := by decide +kernel
theorem dX8_parse_20 : decode cX8_parse 20 = .ok (.iload_n 1, 1) := by decide +kernel
theorem dX8_parse_21 : decode cX8_parse 21 = .ok (.aload_n 0, 1) := by decide +kernel
theorem dX8_parse_22 : decode cX8_parse 22 = .ok (.getfield 7, 3) := by decide +kernel
theorem dX8_parse_25 : decode cX8_parse 25 = .ok (.getfield 40, 3) := by decide +kernel
theorem dX8_parse_28 : decode cX8_parse 28 = .ok (.if_icmp .ge 137, 3) := by decide +kernel
theorem dX8_parse_31 : decode cX8_parse 31 = .ok (.aload_n 0, 1) := by decide +kernel
theorem dX8_parse_32 : decode cX8_parse 32 = .ok (.invokevirtual 43, 3) := by decide +kernel
theorem dX8_parse_35 : decode cX8_parse 35 = .ok (.ifCond .eq 130, 3) := by decide +kernel
theorem dX8_parse_165 : decode cX8_parse 165 = .ok (.iconst (-1), 1) := by decide +kernel
theorem dX8_parse_166 : decode cX8_parse 166 = .ok (.ireturn, 1) := by decide +kernel
theorem dX2_declareAll_0 : decode cX2_declareAll 0 = .ok (.aload_n 0, 1) := by decide +kernel
theorem dX2_declareAll_1 : decode cX2_declareAll 1 = .ok (.iconst 0, 1) := by decide +kernel
theorem dX2_declareAll_2 : decode cX2_declareAll 2 = .ok (.putfield 26, 3) := by decide +kernel
theorem dX2_declareAll_5 : decode cX2_declareAll 5 = .ok (.iconst (-1), 1) := by decide +kernel
theorem dX2_declareAll_6 : decode cX2_declareAll 6 = .ok (.istore_n 1, 1) := by decide +kernel
theorem dX2_declareAll_7 : decode cX2_declareAll 7 = .ok (.iconst 0, 1) := by decide +kernel
theorem dX2_declareAll_8 : decode cX2_declareAll 8 = .ok (.istore_n 2, 1) := by decide +kernel
theorem dX2_declareAll_9 : decode cX2_declareAll 9 = .ok (.iload_n 2, 1) := by decide +kernel
theorem dX2_declareAll_10 : decode cX2_declareAll 10 = .ok (.aload_n 0, 1) := by decide +kernel
theorem dX2_declareAll_11 : decode cX2_declareAll 11 = .ok (.getfield 9, 3) := by decide +kernel
theorem dX2_declareAll_14 : decode cX2_declareAll 14 = .ok (.getfield 41, 3) := by decide +kernel
theorem dX2_declareAll_17 : decode cX2_declareAll 17 = .ok (.if_icmp .ge 89, 3) := by decide +kernel
theorem dX2_declareAll_106 : decode cX2_declareAll 106 = .ok (.return_, 1) := by decide +kernel
theorem dX2_firstWrong_0 : decode cX2_firstWrong 0 = .ok (.aload_n 0, 1) := by decide +kernel
theorem dX2_firstWrong_1 : decode cX2_firstWrong 1 = .ok (.aload_n 0, 1) := by decide +kernel
theorem dX2_firstWrong_2 : decode cX2_firstWrong 2 = .ok (.getfield 15, 3) := by decide +kernel
theorem dX2_firstWrong_5 : decode cX2_firstWrong 5 = .ok (.getfield 33, 3) := by decide +kernel
theorem dX2_firstWrong_8 : decode cX2_firstWrong 8 = .ok (.putfield 30, 3) := by decide +kernel
theorem dX2_firstWrong_11 : decode cX2_firstWrong 11 = .ok (.aload_n 0, 1) := by decide +kernel
theorem dX2_firstWrong_12 : decode cX2_firstWrong 12 = .ok (.invokevirtual 38, 3) := by decide +kernel
theorem dX2_firstWrong_15 : decode cX2_firstWrong 15 = .ok (.iconst 0, 1) := by decide +kernel
theorem dX2_firstWrong_16 : decode cX2_firstWrong 16 = .ok (.istore_n 1, 1) := by decide +kernel
theorem dX2_firstWrong_17 : decode cX2_firstWrong 17 = .ok (.iload_n 1, 1) := by decide +kernel
theorem dX2_firstWrong_18 : decode cX2_firstWrong 18 = .ok (.aload_n 0, 1) := by decide +kernel
theorem dX2_firstWrong_19 : decode cX2_firstWrong 19 = .ok (.getfield 9, 3) := by decide +kernel
theorem dX2_firstWrong_22 : decode cX2_firstWrong 22 = .ok (.getfield 41, 3) := by decide +kernel
theorem dX2_firstWrong_25 : decode cX2_firstWrong 25 = .ok (.if_icmp .ge 30, 3) := by decide +kernel
theorem dX2_firstWrong_55 : decode cX2_firstWrong 55 = .ok (.aload_n 0, 1) := by decide +kernel
theorem dX2_firstWrong_56 : decode cX2_firstWrong 56 = .ok (.getfield 30, 3) := by decide +kernel
theorem dX2_firstWrong_59 : decode cX2_firstWrong 59 = .ok (.ireturn, 1) := by decide +kernel
theorem dX2_measure_0 : decode cX2_measure 0 = .ok (.aload_n 0, 1) := by decide +kernel
theorem dX2_measure_1 : decode cX2_measure 1 = .ok (.getfield 23, 3) := by decide +kernel
theorem dX2_measure_4 : decode cX2_measure 4 = .ok (.iconst 0, 1) := by decide +kernel
theorem dX2_measure_5 : decode cX2_measure 5 = .ok (.invokestatic 97, 3) := by decide +kernel
theorem dX2_measure_8 : decode cX2_measure 8 = .ok (.iconst 0, 1) := by decide +kernel
theorem dX2_measure_9 : decode cX2_measure 9 = .ok (.istore_n 1, 1) := by decide +kernel
theorem dX2_measure_10 : decode cX2_measure 10 = .ok (.iload_n 1, 1) := by decide +kernel
theorem dX2_measure_11 : decode cX2_measure 11 = .ok (.aload_n 0, 1) := by decide +kernel
theorem dX2_measure_12 : decode cX2_measure 12 = .ok (.getfield 9, 3) := by decide +kernel
theorem dX2_measure_15 : decode cX2_measure 15 = .ok (.getfield 41, 3) := by decide +kernel
theorem dX2_measure_18 : decode cX2_measure 18 = .ok (.if_icmp .ge 94, 3) := by decide +kernel
theorem dX2_measure_112 : decode cX2_measure 112 = .ok (.return_, 1) := by decide +kernel
theorem dX2_growJumps_0 : decode cX2_growJumps 0 = .ok (.iconst 0, 1) := by decide +kernel
theorem dX2_growJumps_1 : decode cX2_growJumps 1 = .ok (.istore_n 1, 1) := by decide +kernel
theorem dX2_growJumps_2 : decode cX2_growJumps 2 = .ok (.iconst 0, 1) := by decide +kernel
theorem dX2_growJumps_3 : decode cX2_growJumps 3 = .ok (.istore_n 2, 1) := by decide +kernel
theorem dX2_growJumps_4 : decode cX2_growJumps 4 = .ok (.iload_n 2, 1) := by decide +kernel
theorem dX2_growJumps_5 : decode cX2_growJumps 5 = .ok (.aload_n 0, 1) := by decide +kernel
theorem dX2_growJumps_6 : decode cX2_growJumps 6 = .ok (.getfield 9, 3) := by decide +kernel
theorem dX2_growJumps_9 : decode cX2_growJumps 9 = .ok (.getfield 41, 3) := by decide +kernel
theorem dX2_growJumps_12 : decode cX2_growJumps 12 = .ok (.if_icmp .ge 67, 3) := by decide +kernel
theorem dX2_growJumps_79 : decode cX2_growJumps 79 = .ok (.iload_n 1, 1) := by decide +kernel
theorem dX2_growJumps_80 : decode cX2_growJumps 80 = .ok (.ireturn, 1) := by decide +kernel
theorem dX2_sizeJumps_0 : decode cX2_sizeJumps 0 = .ok (.iconst 0, 1) := by decide +kernel
theorem dX2_sizeJumps_1 : decode cX2_sizeJumps 1 = .ok (.istore_n 1, 1) := by decide +kernel
theorem dX2_sizeJumps_2 : decode cX2_sizeJumps 2 = .ok (.iload_n 1, 1) := by decide +kernel
theorem dX2_sizeJumps_3 : decode cX2_sizeJumps 3 = .ok (.aload_n 0, 1) := by decide +kernel
theorem dX2_sizeJumps_4 : decode cX2_sizeJumps 4 = .ok (.getfield 9, 3) := by decide +kernel
theorem dX2_sizeJumps_7 : decode cX2_sizeJumps 7 = .ok (.getfield 41, 3) := by decide +kernel
theorem dX2_sizeJumps_10 : decode cX2_sizeJumps 10 = .ok (.if_icmp .gt 23, 3) := by decide +kernel
theorem dX2_sizeJumps_13 : decode cX2_sizeJumps 13 = .ok (.aload_n 0, 1) := by decide +kernel
theorem dX2_sizeJumps_14 : decode cX2_sizeJumps 14 = .ok (.invokevirtual 90, 3) := by decide +kernel
theorem dX2_sizeJumps_17 : decode cX2_sizeJumps 17 = .ok (.aload_n 0, 1) := by decide +kernel
theorem dX2_sizeJumps_18 : decode cX2_sizeJumps 18 = .ok (.invokevirtual 93, 3) := by decide +kernel
theorem dX2_sizeJumps_21 : decode cX2_sizeJumps 21 = .ok (.ifCond .ne 6, 3) := by decide +kernel
theorem dX2_sizeJumps_24 : decode cX2_sizeJumps 24 = .ok (.goto 9, 3) := by decide +kernel
theorem dX2_sizeJumps_33 : decode cX2_sizeJumps 33 = .ok (.iconst 0, 1) := by decide +kernel
theorem dX2_sizeJumps_34 : decode cX2_sizeJumps 34 = .ok (.istore_n 1, 1) := by decide +kernel
theorem dX2_sizeJumps_35 : decode cX2_sizeJumps 35 = .ok (.iconst 0, 1) := by decide +kernel
theorem dX2_sizeJumps_36 : decode cX2_sizeJumps 36 = .ok (.istore_n 2, 1) := by decide +kernel
theorem dX2_sizeJumps_37 : decode cX2_sizeJumps 37 = .ok (.iload_n 2, 1) := by decide +kernel
theorem dX2_sizeJumps_38 : decode cX2_sizeJumps 38 = .ok (.aload_n 0, 1) := by decide +kernel
theorem dX2_sizeJumps_39 : decode cX2_sizeJumps 39 = .ok (.getfield 26, 3) := by decide +kernel
theorem dX2_sizeJumps_42 : decode cX2_sizeJumps 42 = .ok (.if_icmp .ge 18, 3) := by decide +kernel
theorem dX2_sizeJumps_60 : decode cX2_sizeJumps 60 = .ok (.iload_n 1, 1) := by decide +kernel
theorem dX2_sizeJumps_61 : decode cX2_sizeJumps 61 = .ok (.ireturn, 1) := by decide +kernel
theorem dX2_firstTooFar_0 : decode cX2_firstTooFar 0 = .ok (.iconst 0, 1) := by decide +kernel
theorem dX2_firstTooFar_1 : decode cX2_firstTooFar 1 = .ok (.istore_n 1, 1) := by decide +kernel
theorem dX2_firstTooFar_2 : decode cX2_firstTooFar 2 = .ok (.iload_n 1, 1) := by decide +kernel
theorem dX2_firstTooFar_3 : decode cX2_firstTooFar 3 = .ok (.aload_n 0, 1) := by decide +kernel
theorem dX2_firstTooFar_4 : decode cX2_firstTooFar 4 = .ok (.getfield 9, 3) := by decide +kernel
theorem dX2_firstTooFar_7 : decode cX2_firstTooFar 7 = .ok (.getfield 41, 3) := by decide +kernel
theorem dX2_firstTooFar_10 : decode cX2_firstTooFar 10 = .ok (.if_icmp .ge 44, 3) := by decide +kernel
theorem dX2_firstTooFar_54 : decode cX2_firstTooFar 54 = .ok (.iconst (-1), 1) := by decide +kernel
theorem dX2_firstTooFar_55 : decode cX2_firstTooFar 55 = .ok (.ireturn, 1) := by decide +kernel
theorem dX6_clear_0 : decode cX6_clear 0 = .ok (.aload_n 0, 1) := by decide +kernel
theorem dX6_clear_1 : decode cX6_clear 1 = .ok (.iconst 0, 1) := by decide +kernel
theorem dX6_clear_2 : decode cX6_clear 2 = .ok (.putfield 9, 3) := by decide +kernel
theorem dX6_clear_5 : decode cX6_clear 5 = .ok (.aload_n 0, 1) := by decide +kernel
theorem dX6_clear_6 : decode cX6_clear 6 = .ok (.iconst 0, 1) := by decide +kernel
theorem dX6_clear_7 : decode cX6_clear 7 = .ok (.putfield 15, 3) := by decide +kernel
theorem dX6_clear_10 : decode cX6_clear 10 = .ok (.aload_n 0, 1) := by decide +kernel
theorem dX6_clear_11 : decode cX6_clear 11 = .ok (.iconst 0, 1) := by decide +kernel
theorem dX6_clear_12 : decode cX6_clear 12 = .ok (.putfield 36, 3) := by decide +kernel
theorem dX6_clear_15 : decode cX6_clear 15 = .ok (.aload_n 0, 1) := by decide +kernel
theorem dX6_clear_16 : decode cX6_clear 16 = .ok (.iconst 0, 1) := by decide +kernel
theorem dX6_clear_17 : decode cX6_clear 17 = .ok (.putfield 54, 3) := by decide +kernel
theorem dX6_clear_20 : decode cX6_clear 20 = .ok (.aload_n 0, 1) := by decide +kernel
theorem dX6_clear_21 : decode cX6_clear 21 = .ok (.getfield 33, 3) := by decide +kernel
theorem dX6_clear_24 : decode cX6_clear 24 = .ok (.iconst 0, 1) := by decide +kernel
theorem dX6_clear_25 : decode cX6_clear 25 = .ok (.invokestatic 66, 3) := by decide +kernel
theorem dX6_clear_28 : decode cX6_clear 28 = .ok (.return_, 1) := by decide +kernel
theorem dX2_write_0 : decode cX2_write 0 = .ok (.aload_n 1, 1) := by decide +kernel
theorem dX2_write_1 : decode cX2_write 1 = .ok (.invokevirtual 123, 3) := by decide +kernel
theorem dX2_write_4 : decode cX2_write 4 = .ok (.aload_n 1, 1) := by decide +kernel
theorem dX2_write_5 : decode cX2_write 5 = .ok (.iconst 1, 1) := by decide +kernel
theorem dX2_write_6 : decode cX2_write 6 = .ok (.putfield 128, 3) := by decide +kernel
theorem dX2_write_9 : decode cX2_write 9 = .ok (.iconst 0, 1) := by decide +kernel
theorem dX2_write_10 : decode cX2_write 10 = .ok (.istore_n 2, 1) := by decide +kernel
theorem dX2_write_11 : decode cX2_write 11 = .ok (.iload_n 2, 1) := by decide +kernel
theorem dX2_write_12 : decode cX2_write 12 = .ok (.aload_n 0, 1) := by decide +kernel
theorem dX2_write_13 : decode cX2_write 13 = .ok (.getfield 26, 3) := by decide +kernel
theorem dX2_write_16 : decode cX2_write 16 = .ok (.if_icmp .ge 44, 3) := by decide +kernel
theorem dX2_write_60 : decode cX2_write 60 = .ok (.iconst 0, 1) := by decide +kernel
theorem dX2_write_61 : decode cX2_write 61 = .ok (.istore_n 2, 1) := by decide +kernel
theorem dX2_write_62 : decode cX2_write 62 = .ok (.iload_n 2, 1) := by decide +kernel
theorem dX2_write_63 : decode cX2_write 63 = .ok (.aload_n 0, 1) := by decide +kernel
theorem dX2_write_64 : decode cX2_write 64 = .ok (.getfield 9, 3) := by decide +kernel
theorem dX2_write_67 : decode cX2_write 67 = .ok (.getfield 41, 3) := by decide +kernel
theorem dX2_write_70 : decode cX2_write 70 = .ok (.if_icmp .ge 84, 3) := by decide +kernel
theorem dX2_write_154 : decode cX2_write 154 = .ok (.return_, 1) := by decide +kernel
theorem dX3_hasModules_0 : decode cX3_hasModules 0 = .ok (.iconst 0, 1) := by decide +kernel
theorem dX3_hasModules_1 : decode cX3_hasModules 1 = .ok (.istore_n 1, 1) := by decide +kernel
theorem dX3_hasModules_2 : decode cX3_hasModules 2 = .ok (.iload_n 1, 1) := by decide +kernel
theorem dX3_hasModules_3 : decode cX3_hasModules 3 = .ok (.iconst 3, 1) := by decide +kernel
theorem dX3_hasModules_4 : decode cX3_hasModules 4 = .ok (.if_icmp .ge 23, 3) := by decide +kernel
theorem dX3_hasModules_7 : decode cX3_hasModules 7 = .ok (.aload_n 0, 1) := by decide +kernel
theorem dX3_hasModules_8 : decode cX3_hasModules 8 = .ok (.getfield 9, 3) := by decide +kernel
theorem dX3_hasModules_11 : decode cX3_hasModules 11 = .ok (.iload_n 1, 1) := by decide +kernel
theorem dX3_hasModules_12 : decode cX3_hasModules 12 = .ok (.aaload, 1) := by decide +kernel
theorem dX3_hasModules_13 : decode cX3_hasModules 13 = .ok (.getfield 36, 3) := by decide +kernel
theorem dX3_hasModules_16 : decode cX3_hasModules 16 = .ok (.ifCond .eq 5, 3) := by decide +kernel
theorem dX3_hasModules_21 : decode cX3_hasModules 21 = .ok (.iinc 1 1, 3) := by decide +kernel
theorem dX3_hasModules_24 : decode cX3_hasModules 24 = .ok (.goto (-22), 3) := by decide +kernel
theorem dX3_hasModules_27 : decode cX3_hasModules 27 = .ok (.iconst 0, 1) := by decide +kernel
theorem dX3_hasModules_28 : decode cX3_hasModules 28 = .ok (.ireturn, 1) := by decide +kernel
set_option maxHeartbeats 4000000 in
set_option maxRecDepth 100000 in
theorem c_X5_clear (l : Launch) (D : va_G) (dA : Nat → ClassId) (a1 : Nat) (a9 : Nat) (a10 : Nat) (a11 : Nat) (a12 : Nat) (a13 : Nat) (sz : Nat) : Met l yX5_clear (gws yX5_clear cX5_clear 1 none) (gR 2 0 0) (gPre D dA [.ref a1] [(a1, .inr (5, [.ref a9, .ref a10, .ref a11, .ref a12, .ref a13, .int 0, .int (-1)]))] sz) (va_Qv (fun _ : Nat → Nat => True) (gAt D dA (va_A [(a1, .inr (5, [.ref a9, .ref a10, .ref a11, .ref a12, .ref a13, .int 0, .int (-1)]))] sz) (fun ad : Nat → Nat => [(a1, .inr (5, [.ref a9, .ref a10, .ref a11, .ref a12, .ref a13, .int 0, .int (-1)]))])) (va_A [(a1, .inr (5, [.ref a9, .ref a10, .ref a11, .ref a12, .ref a13, .int 0, .int (-1)]))] sz)) 0 0 (va_A [(a1, .inr (5, [.ref a9, .ref a10, .ref a11, .ref a12, .ref a13, .int 0, .int (-1)]))] sz) := by
  refine Met.ofW (cc := cX5_clear) (maxL := 1) (ret := none) (by decide) rfl ?_
  intro p e s m args below meth c s₁ B hml hv
  obtain ⟨rfl, hsz, hP, hK, hD0⟩ := hv
  have hx := B.exec
  have hb := B.bytes
  have hr := B.returns
  have hts := atoms_spec (ws := gws yX5_clear cX5_clear 1 none) B.pre
  have hg : ∀ w ∈ gw, w.before _ s = true := fun w h => hts w (List.mem_cons_of_mem _ h)
  have hown : s.vm.findClass RX5 = some m.cls := findClass_of_methodNamed B.named
  have hlocks := B.notSynchronized
  subst hsz
  have hD := hD0.self (sz := s.heap.size)
  generalize hAe : va_A [(a1, .inr (5, [.ref a9, .ref a10, .ref a11, .ref a12, .ref a13, .int 0, .int (-1)]))] s.heap.size = A at hD ⊢
  have hA : ∀ q : Nat, s.heap.size ≤ q → A q := fun q h => by rw [← hAe]; exact Or.inr h
  have hS : va_S A s.heap s.heap [] := va_S.rf
  have hP : va_P D vwC [(a1, .inr (5, [.ref a9, .ref a10, .ref a11, .ref a12, .ref a13, .int 0, .int (-1)]))] s.heap := hP
  have hl := lv_entry ([.ref a1]) (n := 1) (Nat.le_of_ble_eq_true rfl)
  rw [lg_entry_eq]
  generalize (lg_sl ([.ref a1]) ++ List.replicate (1 - (lg_sl ([.ref a1])).length) Slot.unset).toArray = ls at hl ⊢
  have hl : lv_has ls 1 [(0, .ref a1)] := hl
  refine lv_aload_n hx hb dX5_clear_0 rfl (lv_at hl 0 rfl) ?_
  refine lv_iconst (v := 0) hx hb dX5_clear_1 (by decide) ?_
  refine g_put (w' := [(a1, .inr (5, [.ref a9, .ref a10, .ref a11, .ref a12, .ref a13, .int 0, .int (-1)]))]) hx hb hg hown hK hP hD hS 0 rfl rfl inX5 tyX5_ok nmX5 5 (by decide) q204 rfl rfl rfl (Nat.le_of_ble_eq_true rfl) rfl dX5_clear_2 (fun H locs hP hD hS => ?_)
  refine lv_aload_n hx hb dX5_clear_5 rfl (lv_at hl 0 rfl) ?_
  refine lv_iconst (v := (-1)) hx hb dX5_clear_6 (by decide) ?_
  refine g_put (w' := [(a1, .inr (5, [.ref a9, .ref a10, .ref a11, .ref a12, .ref a13, .int 0, .int (-1)]))]) hx hb hg hown hK hP hD hS 0 rfl rfl inX5 tyX5_ok nmX5 6 (by decide) q205 rfl rfl rfl (Nat.le_of_ble_eq_true rfl) rfl dX5_clear_7 (fun H locs hP hD hS => ?_)
  obtain ⟨hP, hD⟩ := g_cut (is := [0]) (w' := [(a1, .inr (5, [.ref a9, .ref a10, .ref a11, .ref a12, .ref a13, .int 0, .int (-1)]))]) hP hD (by decide) rfl rfl
  exact g_vret hx hb hr hlocks hK (fun k => ([] : List Nat).getD k 0) hP hD hS trivial (Nat.le_of_ble_eq_true rfl) (Nat.le_of_ble_eq_true rfl) dX5_clear_10
set_option maxHeartbeats 4000000 in
set_option maxRecDepth 100000 in
theorem c_X9_put (l : Launch) (D : va_G) (dA : Nat → ClassId) (a2 : Nat) (a14 : Nat) (a15 : Nat) (a16 : Nat) (a1 : Nat) (sz : Nat) : Met l yX9_put (gws yX9_put cX9_put 4 none) (gR 2 0 0) (gPre D dA [.ref a2, .int 0, .int 0, .int 0] [(a2, .inr (9, [.ref a14, .ref a15, .ref a16, .int 0, .ref a1])), (a14, .inl (dA 0, 481, .inl (fun _ => 0))), (a15, .inl (dA 0, 481, .inl (fun _ => 0))), (a16, .inl (dA 0, 481, .inl (fun _ => 0)))] sz) (va_Qv (fun _ : Nat → Nat => True) (gAt D dA (va_A [(a2, .inr (9, [.ref a14, .ref a15, .ref a16, .int 0, .ref a1])), (a14, .inl (dA 0, 481, .inl (fun _ => 0))), (a15, .inl (dA 0, 481, .inl (fun _ => 0))), (a16, .inl (dA 0, 481, .inl (fun _ => 0)))] sz) (fun ad : Nat → Nat => [(a2, .inr (9, [.ref a14, .ref a15, .ref a16, .int 1, .ref a1])), (a14, .inl (dA 0, 481, .inl (fun _ => 0))), (a15, .inl (dA 0, 481, .inl (fun _ => 0))), (a16, .inl (dA 0, 481, .inl (fun _ => 0)))])) (va_A [(a2, .inr (9, [.ref a14, .ref a15, .ref a16, .int 0, .ref a1])), (a14, .inl (dA 0, 481, .inl (fun _ => 0))), (a15, .inl (dA 0, 481, .inl (fun _ => 0))), (a16, .inl (dA 0, 481, .inl (fun _ => 0)))] sz)) 0 0 (va_A [(a2, .inr (9, [.ref a14, .ref a15, .ref a16, .int 0, .ref a1])), (a14, .inl (dA 0, 481, .inl (fun _ => 0))), (a15, .inl (dA 0, 481, .inl (fun _ => 0))), (a16, .inl (dA 0, 481, .inl (fun _ => 0)))] sz) := by
  refine Met.ofW (cc := cX9_put) (maxL := 4) (ret := none) (by decide) rfl ?_
  intro p e s m args below meth c s₁ B hml hv
  obtain ⟨rfl, hsz, hP, hK, hD0⟩ := hv
  have hx := B.exec
  have hb := B.bytes
  have hr := B.returns
  have hts := atoms_spec (ws := gws yX9_put cX9_put 4 none) B.pre
  have hg : ∀ w ∈ gw, w.before _ s = true := fun w h => hts w (List.mem_cons_of_mem _ h)
  have hown : s.vm.findClass RX9 = some m.cls := findClass_of_methodNamed B.named
  have hlocks := B.notSynchronized
  subst hsz
  have hD := hD0.self (sz := s.heap.size)
  generalize hAe : va_A [(a2, .inr (9, [.ref a14, .ref a15, .ref a16, .int 0, .ref a1])), (a14, .inl (dA 0, 481, .inl (fun _ => 0))), (a15, .inl (dA 0, 481, .inl (fun _ => 0))), (a16, .inl (dA 0, 481, .inl (fun _ => 0)))] s.heap.size = A at hD ⊢
  have hA : ∀ q : Nat, s.heap.size ≤ q → A q := fun q h => by rw [← hAe]; exact Or.inr h
  have hS : va_S A s.heap s.heap [] := va_S.rf
  have hP : va_P D vwC [(a2, .inr (9, [.ref a14, .ref a15, .ref a16, .int 0, .ref a1])), (a14, .inl (dA 0, 481, .inl (fun _ => 0))), (a15, .inl (dA 0, 481, .inl (fun _ => 0))), (a16, .inl (dA 0, 481, .inl (fun _ => 0)))] s.heap := hP
  have hl := lv_entry ([.ref a2, .int 0, .int 0, .int 0]) (n := 4) (Nat.le_of_ble_eq_true rfl)
  rw [lg_entry_eq]
  generalize (lg_sl ([.ref a2, .int 0, .int 0, .int 0]) ++ List.replicate (4 - (lg_sl ([.ref a2, .int 0, .int 0, .int 0])).length) Slot.unset).toArray = ls at hl ⊢
  have hl : lv_has ls 4 [(0, .ref a2), (1, .int 0), (2, .int 0), (3, .int 0)] := hl
  refine lv_aload_n hx hb dX9_put_0 rfl (lv_at hl 0 rfl) ?_
  refine g_get hx hb hg hown hK hP 0 rfl rfl inX9 3 (by decide) q237 rfl dX9_put_1 ?_
  refine lv_aload_n hx hb dX9_put_4 rfl (lv_at hl 0 rfl) ?_
  refine g_get hx hb hg hown hK hP 0 rfl rfl inX9 0 (by decide) q231 rfl dX9_put_5 ?_
  refine va_alen (v := 481) hx hb hK hP 1 0 rfl rfl (by decide) dX9_put_8 ?_
  refine lv_icmp_ge (tgt := 52) hx hb dX9_put_9 (by decide) (fun h => absurd h (by decide)) (fun _ => ?_)
  refine lv_aload_n hx hb dX9_put_12 rfl (lv_at hl 0 rfl) ?_
  refine g_get hx hb hg hown hK hP 0 rfl rfl inX9 0 (by decide) q231 rfl dX9_put_13 ?_
  refine lv_aload_n hx hb dX9_put_16 rfl (lv_at hl 0 rfl) ?_
  refine g_get hx hb hg hown hK hP 0 rfl rfl inX9 3 (by decide) q237 rfl dX9_put_17 ?_
  refine lv_iload_n hx hb dX9_put_20 rfl (lv_at hl 1 rfl) ?_
  refine va_iast hx hb hK hP hD hS 1 0 rfl rfl (by unfold vp_in; decide) dX9_put_21 (fun H locs hP hD hS => ?_)
  rw [g_u0] at hP hD
  have hP : va_P D vwC [(a2, .inr (9, [.ref a14, .ref a15, .ref a16, .int 0, .ref a1])), (a14, .inl (dA 0, 481, .inl (fun _ => 0))), (a15, .inl (dA 0, 481, .inl (fun _ => 0))), (a16, .inl (dA 0, 481, .inl (fun _ => 0)))] H := hP
  have hD : va_D A [(a2, .inr (9, [.ref a14, .ref a15, .ref a16, .int 0, .ref a1])), (a14, .inl (dA 0, 481, .inl (fun _ => 0))), (a15, .inl (dA 0, 481, .inl (fun _ => 0))), (a16, .inl (dA 0, 481, .inl (fun _ => 0)))] := hD
  refine lv_aload_n hx hb dX9_put_22 rfl (lv_at hl 0 rfl) ?_
  refine g_get hx hb hg hown hK hP 0 rfl rfl inX9 1 (by decide) q233 rfl dX9_put_23 ?_
  refine lv_aload_n hx hb dX9_put_26 rfl (lv_at hl 0 rfl) ?_
  refine g_get hx hb hg hown hK hP 0 rfl rfl inX9 3 (by decide) q237 rfl dX9_put_27 ?_
  refine lv_iload_n hx hb dX9_put_30 rfl (lv_at hl 2 rfl) ?_
  refine va_iast hx hb hK hP hD hS 2 0 rfl rfl (by unfold vp_in; decide) dX9_put_31 (fun H locs hP hD hS => ?_)
  rw [g_u0] at hP hD
  have hP : va_P D vwC [(a2, .inr (9, [.ref a14, .ref a15, .ref a16, .int 0, .ref a1])), (a14, .inl (dA 0, 481, .inl (fun _ => 0))), (a15, .inl (dA 0, 481, .inl (fun _ => 0))), (a16, .inl (dA 0, 481, .inl (fun _ => 0)))] H := hP
  have hD : va_D A [(a2, .inr (9, [.ref a14, .ref a15, .ref a16, .int 0, .ref a1])), (a14, .inl (dA 0, 481, .inl (fun _ => 0))), (a15, .inl (dA 0, 481, .inl (fun _ => 0))), (a16, .inl (dA 0, 481, .inl (fun _ => 0)))] := hD
  refine lv_aload_n hx hb dX9_put_32 rfl (lv_at hl 0 rfl) ?_
  refine g_get hx hb hg hown hK hP 0 rfl rfl inX9 2 (by decide) q235 rfl dX9_put_33 ?_
  refine lv_aload_n hx hb dX9_put_36 rfl (lv_at hl 0 rfl) ?_
  refine g_get hx hb hg hown hK hP 0 rfl rfl inX9 3 (by decide) q237 rfl dX9_put_37 ?_
  refine lv_iload_n hx hb dX9_put_40 rfl (lv_at hl 3 rfl) ?_
  refine va_iast hx hb hK hP hD hS 3 0 rfl rfl (by unfold vp_in; decide) dX9_put_41 (fun H locs hP hD hS => ?_)
  rw [g_u0] at hP hD
  have hP : va_P D vwC [(a2, .inr (9, [.ref a14, .ref a15, .ref a16, .int 0, .ref a1])), (a14, .inl (dA 0, 481, .inl (fun _ => 0))), (a15, .inl (dA 0, 481, .inl (fun _ => 0))), (a16, .inl (dA 0, 481, .inl (fun _ => 0)))] H := hP
  have hD : va_D A [(a2, .inr (9, [.ref a14, .ref a15, .ref a16, .int 0, .ref a1])), (a14, .inl (dA 0, 481, .inl (fun _ => 0))), (a15, .inl (dA 0, 481, .inl (fun _ => 0))), (a16, .inl (dA 0, 481, .inl (fun _ => 0)))] := hD
  refine lv_aload_n hx hb dX9_put_42 rfl (lv_at hl 0 rfl) ?_
  refine lv_dup hx hb dX9_put_43 rfl ?_
  refine g_get hx hb hg hown hK hP 0 rfl rfl inX9 3 (by decide) q237 rfl dX9_put_44 ?_
  refine lv_iconst (v := 1) hx hb dX9_put_47 (by decide) ?_
  refine lv_iadd hx hb dX9_put_48 ?_
  refine g_nrm (y := 1) (by decide) ?_
  refine g_put (w' := [(a2, .inr (9, [.ref a14, .ref a15, .ref a16, .int 1, .ref a1])), (a14, .inl (dA 0, 481, .inl (fun _ => 0))), (a15, .inl (dA 0, 481, .inl (fun _ => 0))), (a16, .inl (dA 0, 481, .inl (fun _ => 0)))]) hx hb hg hown hK hP hD hS 0 rfl rfl inX9 tyX9_ok nmX9 3 (by decide) q237 rfl rfl rfl (Nat.le_of_ble_eq_true rfl) rfl dX9_put_49 (fun H locs hP hD hS => ?_)
  obtain ⟨hP, hD⟩ := g_cut (is := [0, 1, 2, 3]) (w' := [(a2, .inr (9, [.ref a14, .ref a15, .ref a16, .int 1, .ref a1])), (a14, .inl (dA 0, 481, .inl (fun _ => 0))), (a15, .inl (dA 0, 481, .inl (fun _ => 0))), (a16, .inl (dA 0, 481, .inl (fun _ => 0)))]) hP hD (by decide) rfl rfl
  exact g_vret hx hb hr hlocks hK (fun k => ([] : List Nat).getD k 0) hP hD hS trivial (Nat.le_of_ble_eq_true rfl) (Nat.le_of_ble_eq_true rfl) dX9_put_52
set_option maxHeartbeats 4000000 in
set_option maxRecDepth 100000 in
theorem c_X9_read (l : Launch) (D : va_G) (dA : Nat → ClassId) (a2 : Nat) (a0 : Nat) (a14 : Nat) (a15 : Nat) (a16 : Nat) (a1 : Nat) (a9 : Nat) (a10 : Nat) (a11 : Nat) (a12 : Nat) (a13 : Nat) (sz : Nat) : Met l yX9_read (gws yX9_read cX9_read 6 none) (gR 4 0 0) (gPre D dA [.ref a2, .ref a0, .int 0] [(a2, .inr (9, [.ref a14, .ref a15, .ref a16, .int 0, .ref a1])), (a1, .inr (5, [.ref a9, .ref a10, .ref a11, .ref a12, .ref a13, .int 0, .int (-1)])), (a14, .inl (dA 0, 481, .inl (fun _ => 0))), (a15, .inl (dA 0, 481, .inl (fun _ => 0))), (a16, .inl (dA 0, 481, .inl (fun _ => 0)))] sz) (va_Qv (fun _ : Nat → Nat => True) (gAt D dA (va_A [(a2, .inr (9, [.ref a14, .ref a15, .ref a16, .int 0, .ref a1])), (a1, .inr (5, [.ref a9, .ref a10, .ref a11, .ref a12, .ref a13, .int 0, .int (-1)])), (a14, .inl (dA 0, 481, .inl (fun _ => 0))), (a15, .inl (dA 0, 481, .inl (fun _ => 0))), (a16, .inl (dA 0, 481, .inl (fun _ => 0)))] sz) (fun ad : Nat → Nat => [(a2, .inr (9, [.ref a14, .ref a15, .ref a16, .int 1, .ref a1])), (a1, .inr (5, [.ref a9, .ref a10, .ref a11, .ref a12, .ref a13, .int 0, .int (-1)])), (a14, .inl (dA 0, 481, .inl (fun _ => 0))), (a15, .inl (dA 0, 481, .inl (fun _ => 0))), (a16, .inl (dA 0, 481, .inl (fun _ => 0)))])) (va_A [(a2, .inr (9, [.ref a14, .ref a15, .ref a16, .int 0, .ref a1])), (a1, .inr (5, [.ref a9, .ref a10, .ref a11, .ref a12, .ref a13, .int 0, .int (-1)])), (a14, .inl (dA 0, 481, .inl (fun _ => 0))), (a15, .inl (dA 0, 481, .inl (fun _ => 0))), (a16, .inl (dA 0, 481, .inl (fun _ => 0)))] sz)) 0 0 (va_A [(a2, .inr (9, [.ref a14, .ref a15, .ref a16, .int 0, .ref a1])), (a1, .inr (5, [.ref a9, .ref a10, .ref a11, .ref a12, .ref a13, .int 0, .int (-1)])), (a14, .inl (dA 0, 481, .inl (fun _ => 0))), (a15, .inl (dA 0, 481, .inl (fun _ => 0))), (a16, .inl (dA 0, 481, .inl (fun _ => 0)))] sz) := by
  refine Met.ofW (cc := cX9_read) (maxL := 6) (ret := none) (by decide) rfl ?_
  intro p e s m args below meth c s₁ B hml hv
  obtain ⟨rfl, hsz, hP, hK, hD0⟩ := hv
  have hx := B.exec
  have hb := B.bytes
  have hr := B.returns
  have hts := atoms_spec (ws := gws yX9_read cX9_read 6 none) B.pre
  have hg : ∀ w ∈ gw, w.before _ s = true := fun w h => hts w (List.mem_cons_of_mem _ h)
  have hown : s.vm.findClass RX9 = some m.cls := findClass_of_methodNamed B.named
  have hlocks := B.notSynchronized
  subst hsz
  have hD := hD0.self (sz := s.heap.size)
  generalize hAe : va_A [(a2, .inr (9, [.ref a14, .ref a15, .ref a16, .int 0, .ref a1])), (a1, .inr (5, [.ref a9, .ref a10, .ref a11, .ref a12, .ref a13, .int 0, .int (-1)])), (a14, .inl (dA 0, 481, .inl (fun _ => 0))), (a15, .inl (dA 0, 481, .inl (fun _ => 0))), (a16, .inl (dA 0, 481, .inl (fun _ => 0)))] s.heap.size = A at hD ⊢
  have hA : ∀ q : Nat, s.heap.size ≤ q → A q := fun q h => by rw [← hAe]; exact Or.inr h
  have hS : va_S A s.heap s.heap [] := va_S.rf
  have hP : va_P D vwC [(a2, .inr (9, [.ref a14, .ref a15, .ref a16, .int 0, .ref a1])), (a1, .inr (5, [.ref a9, .ref a10, .ref a11, .ref a12, .ref a13, .int 0, .int (-1)])), (a14, .inl (dA 0, 481, .inl (fun _ => 0))), (a15, .inl (dA 0, 481, .inl (fun _ => 0))), (a16, .inl (dA 0, 481, .inl (fun _ => 0)))] s.heap := hP
  have hl := lv_entry ([.ref a2, .ref a0, .int 0]) (n := 6) (Nat.le_of_ble_eq_true rfl)
  rw [lg_entry_eq]
  generalize (lg_sl ([.ref a2, .ref a0, .int 0]) ++ List.replicate (6 - (lg_sl ([.ref a2, .ref a0, .int 0])).length) Slot.unset).toArray = ls at hl ⊢
  have hl : lv_has ls 6 [(0, .ref a2), (1, .ref a0), (2, .int 0)] := hl
  refine lv_aload_n hx hb dX9_read_0 rfl (lv_at hl 0 rfl) ?_
  refine lv_iconst (v := 0) hx hb dX9_read_1 (by decide) ?_
  refine g_put (w' := [(a2, .inr (9, [.ref a14, .ref a15, .ref a16, .int 0, .ref a1])), (a1, .inr (5, [.ref a9, .ref a10, .ref a11, .ref a12, .ref a13, .int 0, .int (-1)])), (a14, .inl (dA 0, 481, .inl (fun _ => 0))), (a15, .inl (dA 0, 481, .inl (fun _ => 0))), (a16, .inl (dA 0, 481, .inl (fun _ => 0)))]) hx hb hg hown hK hP hD hS 0 rfl rfl inX9 tyX9_ok nmX9 3 (by decide) q237 rfl rfl rfl (Nat.le_of_ble_eq_true rfl) rfl dX9_read_2 (fun H locs hP hD hS => ?_)
  refine lv_aload_n hx hb dX9_read_5 rfl (lv_at hl 0 rfl) ?_
  refine g_get hx hb hg hown hK hP 0 rfl rfl inX9 4 (by decide) q239 rfl dX9_read_6 ?_
  refine g_Vv (n := 0) (As := []) (rest := []) (wr := [(a2, .inr (9, [.ref a14, .ref a15, .ref a16, .int 0, .ref a1])), (a14, .inl (dA 0, 481, .inl (fun _ => 0))), (a15, .inl (dA 0, 481, .inl (fun _ => 0))), (a16, .inl (dA 0, 481, .inl (fun _ => 0)))]) hx hb hml hg hown hK hP hD hS hA (c_X5_clear l D dA a1 a9 a10 a11 a12 a13 _) [1] [0, 2, 3, 4] rfl (by decide) rfl (by decide) (by decide) 0 rfl rfl q798 q150 q795 q796 q797 (by decide +kernel) ⟨(Nat.le_of_ble_eq_true rfl), (Nat.le_of_ble_eq_true rfl)⟩ rfl hl.1 rfl (Nat.le_of_ble_eq_true rfl) dX9_read_9 ⟨(Nat.le_of_ble_eq_true rfl), (Nat.le_of_ble_eq_true rfl)⟩ (fun u1 H locs w3 hP hD hS => ?_)
  refine W.widen (k := 0) (n := 0) (Nat.le_of_ble_eq_true rfl) (Nat.le_of_ble_eq_true rfl) ?_
  have hP : va_P D vwC [(a2, .inr (9, [.ref a14, .ref a15, .ref a16, .int 0, .ref a1])), (a14, .inl (dA 0, 481, .inl (fun _ => 0))), (a15, .inl (dA 0, 481, .inl (fun _ => 0))), (a16, .inl (dA 0, 481, .inl (fun _ => 0))), (a1, .inr (5, [.ref a9, .ref a10, .ref a11, .ref a12, .ref a13, .int 0, .int (-1)]))] H := hP
  have hD : va_D A [(a2, .inr (9, [.ref a14, .ref a15, .ref a16, .int 0, .ref a1])), (a14, .inl (dA 0, 481, .inl (fun _ => 0))), (a15, .inl (dA 0, 481, .inl (fun _ => 0))), (a16, .inl (dA 0, 481, .inl (fun _ => 0))), (a1, .inr (5, [.ref a9, .ref a10, .ref a11, .ref a12, .ref a13, .int 0, .int (-1)]))] := hD
  refine lv_iconst (v := 0) hx hb dX9_read_12 (by decide) ?_
  refine lv_istore_n (lv' := [(3, .int 0), (0, .ref a2), (1, .ref a0), (2, .int 0)]) hx hb dX9_read_13 rfl hl (by decide) rfl (fun ls hl => ?_)
  refine lv_iconst (v := 0) hx hb dX9_read_14 (by decide) ?_
  refine lv_istore (lv' := [(4, .int 0), (3, .int 0), (0, .ref a2), (1, .ref a0), (2, .int 0)]) hx hb dX9_read_15 hl (by decide) rfl (fun ls hl => ?_)
  refine lv_iload hx hb dX9_read_17 (lv_at hl 0 rfl) ?_
  refine lv_iload_n hx hb dX9_read_19 rfl (lv_at hl 4 rfl) ?_
  refine lv_icmp_ge (tgt := 109) hx hb dX9_read_20 (by decide) (fun _ => ?_) (fun h => absurd (by decide) h)
  refine lv_aload_n hx hb dX9_read_109 rfl (lv_at hl 2 rfl) ?_
  refine lv_iconst (v := 0) hx hb dX9_read_110 (by decide) ?_
  refine lv_iconst (v := 0) hx hb dX9_read_111 (by decide) ?_
  refine lv_iload_n hx hb dX9_read_112 rfl (lv_at hl 4 rfl) ?_
  refine g_Vv (n := 3) (As := [.int 0, .int 0, .int 0]) (rest := []) (wr := [(a1, .inr (5, [.ref a9, .ref a10, .ref a11, .ref a12, .ref a13, .int 0, .int (-1)]))]) hx hb hml hg hown hK hP hD hS hA (c_X9_put l D dA a2 a14 a15 a16 a1 _) [0, 1, 2, 3] [4] rfl (by decide) rfl (by decide) (by decide) 0 rfl rfl q813 q151 q810 q812 q3 (by decide +kernel) ⟨(Nat.le_of_ble_eq_true rfl), (Nat.le_of_ble_eq_true rfl)⟩ rfl hl.1 rfl (Nat.le_of_ble_eq_true rfl) dX9_read_113 ⟨(Nat.le_of_ble_eq_true rfl), (Nat.le_of_ble_eq_true rfl)⟩ (fun u4 H locs w6 hP hD hS => ?_)
  refine W.widen (k := 0) (n := 0) (Nat.le_of_ble_eq_true rfl) (Nat.le_of_ble_eq_true rfl) ?_
  have hP : va_P D vwC [(a1, .inr (5, [.ref a9, .ref a10, .ref a11, .ref a12, .ref a13, .int 0, .int (-1)])), (a2, .inr (9, [.ref a14, .ref a15, .ref a16, .int 1, .ref a1])), (a14, .inl (dA 0, 481, .inl (fun _ => 0))), (a15, .inl (dA 0, 481, .inl (fun _ => 0))), (a16, .inl (dA 0, 481, .inl (fun _ => 0)))] H := hP
  have hD : va_D A [(a1, .inr (5, [.ref a9, .ref a10, .ref a11, .ref a12, .ref a13, .int 0, .int (-1)])), (a2, .inr (9, [.ref a14, .ref a15, .ref a16, .int 1, .ref a1])), (a14, .inl (dA 0, 481, .inl (fun _ => 0))), (a15, .inl (dA 0, 481, .inl (fun _ => 0))), (a16, .inl (dA 0, 481, .inl (fun _ => 0)))] := hD
  obtain ⟨hP, hD⟩ := g_cut (is := [1, 0, 2, 3, 4]) (w' := [(a2, .inr (9, [.ref a14, .ref a15, .ref a16, .int 1, .ref a1])), (a1, .inr (5, [.ref a9, .ref a10, .ref a11, .ref a12, .ref a13, .int 0, .int (-1)])), (a14, .inl (dA 0, 481, .inl (fun _ => 0))), (a15, .inl (dA 0, 481, .inl (fun _ => 0))), (a16, .inl (dA 0, 481, .inl (fun _ => 0)))]) hP hD (by decide) rfl rfl
  exact g_vret hx hb hr hlocks hK (fun k => ([] : List Nat).getD k 0) hP hD hS trivial (Nat.le_of_ble_eq_true rfl) (Nat.le_of_ble_eq_true rfl) dX9_read_116
set_option maxHeartbeats 4000000 in
set_option maxRecDepth 100000 in
theorem c_X8_type (l : Launch) (D : va_G) (dA : Nat → ClassId) (a3 : Nat) (a2 : Nat) (a17 : Nat) (a18 : Nat) (a19 : Nat) (a14 : Nat) (a15 : Nat) (a16 : Nat) (a1 : Nat) (sz : Nat) : Met l yX8_type (gws yX8_type cX8_type 1 (some .int)) (gR 2 0 0) (gPre D dA [.ref a3] [(a3, .inr (8, [.ref a2, .ref a17, .ref a18, .ref a19, .int 0, .int 0])), (a2, .inr (9, [.ref a14, .ref a15, .ref a16, .int 1, .ref a1])), (a14, .inl (dA 0, 481, .inl (fun _ => 0)))] sz) (va_Qi (fun (r : Int32) (_ : Nat → Nat) => r = 0) (gAt D dA (va_A [(a3, .inr (8, [.ref a2, .ref a17, .ref a18, .ref a19, .int 0, .int 0])), (a2, .inr (9, [.ref a14, .ref a15, .ref a16, .int 1, .ref a1])), (a14, .inl (dA 0, 481, .inl (fun _ => 0)))] sz) (fun ad : Nat → Nat => [(a3, .inr (8, [.ref a2, .ref a17, .ref a18, .ref a19, .int 0, .int 0])), (a2, .inr (9, [.ref a14, .ref a15, .ref a16, .int 1, .ref a1])), (a14, .inl (dA 0, 481, .inl (fun _ => 0)))])) (va_A [(a3, .inr (8, [.ref a2, .ref a17, .ref a18, .ref a19, .int 0, .int 0])), (a2, .inr (9, [.ref a14, .ref a15, .ref a16, .int 1, .ref a1])), (a14, .inl (dA 0, 481, .inl (fun _ => 0)))] sz)) 0 0 (va_A [(a3, .inr (8, [.ref a2, .ref a17, .ref a18, .ref a19, .int 0, .int 0])), (a2, .inr (9, [.ref a14, .ref a15, .ref a16, .int 1, .ref a1])), (a14, .inl (dA 0, 481, .inl (fun _ => 0)))] sz) := by
  refine Met.ofW (cc := cX8_type) (maxL := 1) (ret := (some .int)) (by decide) rfl ?_
  intro p e s m args below meth c s₁ B hml hv
  obtain ⟨rfl, hsz, hP, hK, hD0⟩ := hv
  have hx := B.exec
  have hb := B.bytes
  have hr := B.returns
  have hts := atoms_spec (ws := gws yX8_type cX8_type 1 (some .int)) B.pre
  have hg : ∀ w ∈ gw, w.before _ s = true := fun w h => hts w (List.mem_cons_of_mem _ h)
  have hown : s.vm.findClass RX8 = some m.cls := findClass_of_methodNamed B.named
  have hlocks := B.notSynchronized
  subst hsz
  have hD := hD0.self (sz := s.heap.size)
  generalize hAe : va_A [(a3, .inr (8, [.ref a2, .ref a17, .ref a18, .ref a19, .int 0, .int 0])), (a2, .inr (9, [.ref a14, .ref a15, .ref a16, .int 1, .ref a1])), (a14, .inl (dA 0, 481, .inl (fun _ => 0)))] s.heap.size = A at hD ⊢
  have hA : ∀ q : Nat, s.heap.size ≤ q → A q := fun q h => by rw [← hAe]; exact Or.inr h
  have hS : va_S A s.heap s.heap [] := va_S.rf
  have hP : va_P D vwC [(a3, .inr (8, [.ref a2, .ref a17, .ref a18, .ref a19, .int 0, .int 0])), (a2, .inr (9, [.ref a14, .ref a15, .ref a16, .int 1, .ref a1])), (a14, .inl (dA 0, 481, .inl (fun _ => 0)))] s.heap := hP
  have hl := lv_entry ([.ref a3]) (n := 1) (Nat.le_of_ble_eq_true rfl)
  rw [lg_entry_eq]
  generalize (lg_sl ([.ref a3]) ++ List.replicate (1 - (lg_sl ([.ref a3])).length) Slot.unset).toArray = ls at hl ⊢
  have hl : lv_has ls 1 [(0, .ref a3)] := hl
  refine lv_aload_n hx hb dX8_type_0 rfl (lv_at hl 0 rfl) ?_
  refine g_get hx hb hg hown hK hP 0 rfl rfl inX8 0 (by decide) q346 rfl dX8_type_1 ?_
  refine g_get hx hb hg hown hK hP 1 rfl rfl inX9 0 (by decide) q232 rfl dX8_type_4 ?_
  refine lv_aload_n hx hb dX8_type_7 rfl (lv_at hl 0 rfl) ?_
  refine g_get hx hb hg hown hK hP 0 rfl rfl inX8 4 (by decide) q350 rfl dX8_type_8 ?_
  refine va_iald hx hb hK hP 2 0 rfl rfl (by unfold vp_in; decide) dX8_type_11 ?_
  refine g_nrm (y := 0) (by first | rfl | decide) ?_
  obtain ⟨hP, hD⟩ := g_cut (is := [0, 1, 2]) (w' := [(a3, .inr (8, [.ref a2, .ref a17, .ref a18, .ref a19, .int 0, .int 0])), (a2, .inr (9, [.ref a14, .ref a15, .ref a16, .int 1, .ref a1])), (a14, .inl (dA 0, 481, .inl (fun _ => 0)))]) hP hD (by decide) rfl rfl
  exact g_iret hx hb hr rfl hlocks hK (fun k => ([] : List Nat).getD k 0) hP hD hS rfl (Nat.le_of_ble_eq_true rfl) (Nat.le_of_ble_eq_true rfl) dX8_type_12
set_option maxHeartbeats 4000000 in
set_option maxRecDepth 100000 in
theorem c_X8_parse (l : Launch) (D : va_G) (dA : Nat → ClassId) (a3 : Nat) (a2 : Nat) (a17 : Nat) (a18 : Nat) (a19 : Nat) (a14 : Nat) (a15 : Nat) (a16 : Nat) (a1 : Nat) (a20 : Nat) (a21 : Nat) (a22 : Nat) (a23 : Nat) (a24 : Nat) (a25 : Nat) (a26 : Nat) (sz : Nat) : Met l yX8_parse (gws yX8_parse cX8_parse 4 (some .int)) (gR 4 0 0) (gPre D dA [.ref a3] [(a3, .inr (8, [.ref a2, .ref a17, .ref a18, .ref a19, .int 0, .int 0])), (a2, .inr (9, [.ref a14, .ref a15, .ref a16, .int 1, .ref a1])), (a14, .inl (dA 0, 481, .inl (fun _ => 0))), (a17, .inr (0, [.ref a20, .ref a21, .ref a22, .ref a23, .ref a24, .ref a25, .ref a26, .int 0]))] sz) (va_Qi (fun (r : Int32) (_ : Nat → Nat) => r = -1) (gAt D dA (va_A [(a3, .inr (8, [.ref a2, .ref a17, .ref a18, .ref a19, .int 0, .int 0])), (a2, .inr (9, [.ref a14, .ref a15, .ref a16, .int 1, .ref a1])), (a14, .inl (dA 0, 481, .inl (fun _ => 0))), (a17, .inr (0, [.ref a20, .ref a21, .ref a22, .ref a23, .ref a24, .ref a25, .ref a26, .int 0]))] sz) (fun ad : Nat → Nat => [(a3, .inr (8, [.ref a2, .ref a17, .ref a18, .ref a19, .int 0, .int 0])), (a2, .inr (9, [.ref a14, .ref a15, .ref a16, .int 1, .ref a1])), (a14, .inl (dA 0, 481, .inl (fun _ => 0))), (a17, .inr (0, [.ref a20, .ref a21, .ref a22, .ref a23, .ref a24, .ref a25, .ref a26, .int 0]))])) (va_A [(a3, .inr (8, [.ref a2, .ref a17, .ref a18, .ref a19, .int 0, .int 0])), (a2, .inr (9, [.ref a14, .ref a15, .ref a16, .int 1, .ref a1])), (a14, .inl (dA 0, 481, .inl (fun _ => 0))), (a17, .inr (0, [.ref a20, .ref a21, .ref a22, .ref a23, .ref a24, .ref a25, .ref a26, .int 0]))] sz)) 0 0 (va_A [(a3, .inr (8, [.ref a2, .ref a17, .ref a18, .ref a19, .int 0, .int 0])), (a2, .inr (9, [.ref a14, .ref a15, .ref a16, .int 1, .ref a1])), (a14, .inl (dA 0, 481, .inl (fun _ => 0))), (a17, .inr (0, [.ref a20, .ref a21, .ref a22, .ref a23, .ref a24, .ref a25, .ref a26, .int 0]))] sz) := by
  refine Met.ofW (cc := cX8_parse) (maxL := 4) (ret := (some .int)) (by decide) rfl ?_
  intro p e s m args below meth c s₁ B hml hv
  obtain ⟨rfl, hsz, hP, hK, hD0⟩ := hv
  have hx := B.exec
  have hb := B.bytes
  have hr := B.returns
  have hts := atoms_spec (ws := gws yX8_parse cX8_parse 4 (some .int)) B.pre
  have hg : ∀ w ∈ gw, w.before _ s = true := fun w h => hts w (List.mem_cons_of_mem _ h)
  have hown : s.vm.findClass RX8 = some m.cls := findClass_of_methodNamed B.named
  have hlocks := B.notSynchronized
  subst hsz
  have hD := hD0.self (sz := s.heap.size)
  generalize hAe : va_A [(a3, .inr (8, [.ref a2, .ref a17, .ref a18, .ref a19, .int 0, .int 0])), (a2, .inr (9, [.ref a14, .ref a15, .ref a16, .int 1, .ref a1])), (a14, .inl (dA 0, 481, .inl (fun _ => 0))), (a17, .inr (0, [.ref a20, .ref a21, .ref a22, .ref a23, .ref a24, .ref a25, .ref a26, .int 0]))] s.heap.size = A at hD ⊢
  have hA : ∀ q : Nat, s.heap.size ≤ q → A q := fun q h => by rw [← hAe]; exact Or.inr h
  have hS : va_S A s.heap s.heap [] := va_S.rf
  have hP : va_P D vwC [(a3, .inr (8, [.ref a2, .ref a17, .ref a18, .ref a19, .int 0, .int 0])), (a2, .inr (9, [.ref a14, .ref a15, .ref a16, .int 1, .ref a1])), (a14, .inl (dA 0, 481, .inl (fun _ => 0))), (a17, .inr (0, [.ref a20, .ref a21, .ref a22, .ref a23, .ref a24, .ref a25, .ref a26, .int 0]))] s.heap := hP
  have hl := lv_entry ([.ref a3]) (n := 4) (Nat.le_of_ble_eq_true rfl)
  rw [lg_entry_eq]
  generalize (lg_sl ([.ref a3]) ++ List.replicate (4 - (lg_sl ([.ref a3])).length) Slot.unset).toArray = ls at hl ⊢
  have hl : lv_has ls 4 [(0, .ref a3)] := hl
  refine lv_aload_n hx hb dX8_parse_0 rfl (lv_at hl 0 rfl) ?_
  refine lv_iconst (v := 0) hx hb dX8_parse_1 (by decide) ?_
  refine g_put (w' := [(a3, .inr (8, [.ref a2, .ref a17, .ref a18, .ref a19, .int 0, .int 0])), (a2, .inr (9, [.ref a14, .ref a15, .ref a16, .int 1, .ref a1])), (a14, .inl (dA 0, 481, .inl (fun _ => 0))), (a17, .inr (0, [.ref a20, .ref a21, .ref a22, .ref a23, .ref a24, .ref a25, .ref a26, .int 0]))]) hx hb hg hown hK hP hD hS 0 rfl rfl inX8 tyX8_ok nmX8 4 (by decide) q350 rfl rfl rfl (Nat.le_of_ble_eq_true rfl) rfl dX8_parse_2 (fun H locs hP hD hS => ?_)
  refine lv_aload_n hx hb dX8_parse_5 rfl (lv_at hl 0 rfl) ?_
  refine lv_iconst (v := 0) hx hb dX8_parse_6 (by decide) ?_
  refine g_put (w' := [(a3, .inr (8, [.ref a2, .ref a17, .ref a18, .ref a19, .int 0, .int 0])), (a2, .inr (9, [.ref a14, .ref a15, .ref a16, .int 1, .ref a1])), (a14, .inl (dA 0, 481, .inl (fun _ => 0))), (a17, .inr (0, [.ref a20, .ref a21, .ref a22, .ref a23, .ref a24, .ref a25, .ref a26, .int 0]))]) hx hb hg hown hK hP hD hS 0 rfl rfl inX8 tyX8_ok nmX8 5 (by decide) q351 rfl rfl rfl (Nat.le_of_ble_eq_true rfl) rfl dX8_parse_7 (fun H locs hP hD hS => ?_)
  refine lv_aload_n hx hb dX8_parse_10 rfl (lv_at hl 0 rfl) ?_
  refine g_get hx hb hg hown hK hP 0 rfl rfl inX8 1 (by decide) q347 rfl dX8_parse_11 ?_
  refine lv_iconst (v := 0) hx hb dX8_parse_14 (by decide) ?_
  refine g_put (w' := [(a3, .inr (8, [.ref a2, .ref a17, .ref a18, .ref a19, .int 0, .int 0])), (a2, .inr (9, [.ref a14, .ref a15, .ref a16, .int 1, .ref a1])), (a14, .inl (dA 0, 481, .inl (fun _ => 0))), (a17, .inr (0, [.ref a20, .ref a21, .ref a22, .ref a23, .ref a24, .ref a25, .ref a26, .int 0]))]) hx hb hg hown hK hP hD hS 3 rfl rfl inX0 tyX0_ok nmX0 7 (by decide) q272 rfl rfl rfl (Nat.le_of_ble_eq_true rfl) rfl dX8_parse_15 (fun H locs hP hD hS => ?_)
  refine lv_iconst (v := 0) hx hb dX8_parse_18 (by decide) ?_
  refine lv_istore_n (lv' := [(1, .int 0), (0, .ref a3)]) hx hb dX8_parse_19 rfl hl (by decide) rfl (fun ls hl => ?_)
  refine lv_iload_n hx hb dX8_parse_20 rfl (lv_at hl 0 rfl) ?_
  refine lv_aload_n hx hb dX8_parse_21 rfl (lv_at hl 1 rfl) ?_
  refine g_get hx hb hg hown hK hP 0 rfl rfl inX8 0 (by decide) q346 rfl dX8_parse_22 ?_
  refine g_get hx hb hg hown hK hP 1 rfl rfl inX9 3 (by decide) q238 rfl dX8_parse_25 ?_
  refine lv_icmp_ge (tgt := 165) hx hb dX8_parse_28 (by decide) (fun h => absurd h (by decide)) (fun _ => ?_)
  refine lv_aload_n hx hb dX8_parse_31 rfl (lv_at hl 1 rfl) ?_
  refine g_Vi (n := 0) (As := []) (rest := []) (wr := [(a17, .inr (0, [.ref a20, .ref a21, .ref a22, .ref a23, .ref a24, .ref a25, .ref a26, .int 0]))]) hx hb hml hg hown hK hP hD hS hA (c_X8_type l D dA a3 a2 a17 a18 a19 a14 a15 a16 a1 _) [0, 1, 2] [3] rfl (by decide) rfl (by decide) (by decide) 0 rfl rfl q946 q153 q943 q945 q5 (by decide +kernel) ⟨(Nat.le_of_ble_eq_true rfl), (Nat.le_of_ble_eq_true rfl)⟩ rfl hl.1 rfl (Nat.le_of_ble_eq_true rfl) dX8_parse_32 ⟨(Nat.le_of_ble_eq_true rfl), (Nat.le_of_ble_eq_true rfl)⟩ (fun r2 u1 H locs w3 hP hD hS => ?_)
  refine W.widen (k := 0) (n := 0) (Nat.le_of_ble_eq_true rfl) (Nat.le_of_ble_eq_true rfl) ?_
  have hP : va_P D vwC [(a17, .inr (0, [.ref a20, .ref a21, .ref a22, .ref a23, .ref a24, .ref a25, .ref a26, .int 0])), (a3, .inr (8, [.ref a2, .ref a17, .ref a18, .ref a19, .int 0, .int 0])), (a2, .inr (9, [.ref a14, .ref a15, .ref a16, .int 1, .ref a1])), (a14, .inl (dA 0, 481, .inl (fun _ => 0)))] H := hP
  have hD : va_D A [(a17, .inr (0, [.ref a20, .ref a21, .ref a22, .ref a23, .ref a24, .ref a25, .ref a26, .int 0])), (a3, .inr (8, [.ref a2, .ref a17, .ref a18, .ref a19, .int 0, .int 0])), (a2, .inr (9, [.ref a14, .ref a15, .ref a16, .int 1, .ref a1])), (a14, .inl (dA 0, 481, .inl (fun _ => 0)))] := hD
  obtain rfl : r2 = 0 := w3
  refine lv_if_eq (tgt := 165) hx hb dX8_parse_35 (by decide) (fun _ => ?_) (fun h => absurd (by decide) h)
  refine lv_iconst (v := (-1)) hx hb dX8_parse_165 (by decide) ?_
  obtain ⟨hP, hD⟩ := g_cut (is := [1, 2, 3, 0]) (w' := [(a3, .inr (8, [.ref a2, .ref a17, .ref a18, .ref a19, .int 0, .int 0])), (a2, .inr (9, [.ref a14, .ref a15, .ref a16, .int 1, .ref a1])), (a14, .inl (dA 0, 481, .inl (fun _ => 0))), (a17, .inr (0, [.ref a20, .ref a21, .ref a22, .ref a23, .ref a24, .ref a25, .ref a26, .int 0]))]) hP hD (by decide) rfl rfl
  exact g_iret hx hb hr rfl hlocks hK (fun k => ([] : List Nat).getD k 0) hP hD hS rfl (Nat.le_of_ble_eq_true rfl) (Nat.le_of_ble_eq_true rfl) dX8_parse_166
set_option maxHeartbeats 4000000 in
set_option maxRecDepth 100000 in
theorem c_X2_declareAll (l : Launch) (D : va_G) (dA : Nat → ClassId) (a4 : Nat) (a17 : Nat) (a1 : Nat) (a27 : Nat) (a28 : Nat) (a20 : Nat) (a21 : Nat) (a22 : Nat) (a23 : Nat) (a24 : Nat) (a25 : Nat) (a26 : Nat) (sz : Nat) : Met l yX2_declareAll (gws yX2_declareAll cX2_declareAll 3 none) (gR 2 0 0) (gPre D dA [.ref a4] [(a4, .inr (2, [.ref a17, .ref a1, .ref a27, .ref a28, .int 0, .int (-1)])), (a17, .inr (0, [.ref a20, .ref a21, .ref a22, .ref a23, .ref a24, .ref a25, .ref a26, .int 0]))] sz) (va_Qv (fun _ : Nat → Nat => True) (gAt D dA (va_A [(a4, .inr (2, [.ref a17, .ref a1, .ref a27, .ref a28, .int 0, .int (-1)])), (a17, .inr (0, [.ref a20, .ref a21, .ref a22, .ref a23, .ref a24, .ref a25, .ref a26, .int 0]))] sz) (fun ad : Nat → Nat => [(a4, .inr (2, [.ref a17, .ref a1, .ref a27, .ref a28, .int 0, .int (-1)])), (a17, .inr (0, [.ref a20, .ref a21, .ref a22, .ref a23, .ref a24, .ref a25, .ref a26, .int 0]))])) (va_A [(a4, .inr (2, [.ref a17, .ref a1, .ref a27, .ref a28, .int 0, .int (-1)])), (a17, .inr (0, [.ref a20, .ref a21, .ref a22, .ref a23, .ref a24, .ref a25, .ref a26, .int 0]))] sz)) 0 0 (va_A [(a4, .inr (2, [.ref a17, .ref a1, .ref a27, .ref a28, .int 0, .int (-1)])), (a17, .inr (0, [.ref a20, .ref a21, .ref a22, .ref a23, .ref a24, .ref a25, .ref a26, .int 0]))] sz) := by
  refine Met.ofW (cc := cX2_declareAll) (maxL := 3) (ret := none) (by decide) rfl ?_
  intro p e s m args below meth c s₁ B hml hv
  obtain ⟨rfl, hsz, hP, hK, hD0⟩ := hv
  have hx := B.exec
  have hb := B.bytes
  have hr := B.returns
  have hts := atoms_spec (ws := gws yX2_declareAll cX2_declareAll 3 none) B.pre
  have hg : ∀ w ∈ gw, w.before _ s = true := fun w h => hts w (List.mem_cons_of_mem _ h)
  have hown : s.vm.findClass RX2 = some m.cls := findClass_of_methodNamed B.named
  have hlocks := B.notSynchronized
  subst hsz
  have hD := hD0.self (sz := s.heap.size)
  generalize hAe : va_A [(a4, .inr (2, [.ref a17, .ref a1, .ref a27, .ref a28, .int 0, .int (-1)])), (a17, .inr (0, [.ref a20, .ref a21, .ref a22, .ref a23, .ref a24, .ref a25, .ref a26, .int 0]))] s.heap.size = A at hD ⊢
  have hA : ∀ q : Nat, s.heap.size ≤ q → A q := fun q h => by rw [← hAe]; exact Or.inr h
  have hS : va_S A s.heap s.heap [] := va_S.rf
  have hP : va_P D vwC [(a4, .inr (2, [.ref a17, .ref a1, .ref a27, .ref a28, .int 0, .int (-1)])), (a17, .inr (0, [.ref a20, .ref a21, .ref a22, .ref a23, .ref a24, .ref a25, .ref a26, .int 0]))] s.heap := hP
  have hl := lv_entry ([.ref a4]) (n := 3) (Nat.le_of_ble_eq_true rfl)
  rw [lg_entry_eq]
  generalize (lg_sl ([.ref a4]) ++ List.replicate (3 - (lg_sl ([.ref a4])).length) Slot.unset).toArray = ls at hl ⊢
  have hl : lv_has ls 3 [(0, .ref a4)] := hl
  refine lv_aload_n hx hb dX2_declareAll_0 rfl (lv_at hl 0 rfl) ?_
  refine lv_iconst (v := 0) hx hb dX2_declareAll_1 (by decide) ?_
  refine g_put (w' := [(a4, .inr (2, [.ref a17, .ref a1, .ref a27, .ref a28, .int 0, .int (-1)])), (a17, .inr (0, [.ref a20, .ref a21, .ref a22, .ref a23, .ref a24, .ref a25, .ref a26, .int 0]))]) hx hb hg hown hK hP hD hS 0 rfl rfl inX2 tyX2_ok nmX2 4 (by decide) q375 rfl rfl rfl (Nat.le_of_ble_eq_true rfl) rfl dX2_declareAll_2 (fun H locs hP hD hS => ?_)
  refine lv_iconst (v := (-1)) hx hb dX2_declareAll_5 (by decide) ?_
  refine lv_istore_n (lv' := [(1, .int (-1)), (0, .ref a4)]) hx hb dX2_declareAll_6 rfl hl (by decide) rfl (fun ls hl => ?_)
  refine lv_iconst (v := 0) hx hb dX2_declareAll_7 (by decide) ?_
  refine lv_istore_n (lv' := [(2, .int 0), (1, .int (-1)), (0, .ref a4)]) hx hb dX2_declareAll_8 rfl hl (by decide) rfl (fun ls hl => ?_)
  refine lv_iload_n hx hb dX2_declareAll_9 rfl (lv_at hl 0 rfl) ?_
  refine lv_aload_n hx hb dX2_declareAll_10 rfl (lv_at hl 2 rfl) ?_
  refine g_get hx hb hg hown hK hP 0 rfl rfl inX2 0 (by decide) q371 rfl dX2_declareAll_11 ?_
  refine g_get hx hb hg hown hK hP 1 rfl rfl inX0 7 (by decide) q273 rfl dX2_declareAll_14 ?_
  refine lv_icmp_ge (tgt := 106) hx hb dX2_declareAll_17 (by decide) (fun _ => ?_) (fun h => absurd (by decide) h)
  obtain ⟨hP, hD⟩ := g_cut (is := [0, 1]) (w' := [(a4, .inr (2, [.ref a17, .ref a1, .ref a27, .ref a28, .int 0, .int (-1)])), (a17, .inr (0, [.ref a20, .ref a21, .ref a22, .ref a23, .ref a24, .ref a25, .ref a26, .int 0]))]) hP hD (by decide) rfl rfl
  exact g_vret hx hb hr hlocks hK (fun k => ([] : List Nat).getD k 0) hP hD hS trivial (Nat.le_of_ble_eq_true rfl) (Nat.le_of_ble_eq_true rfl) dX2_declareAll_106
set_option maxHeartbeats 4000000 in
set_option maxRecDepth 100000 in
theorem c_X2_firstWrong (l : Launch) (D : va_G) (dA : Nat → ClassId) (a4 : Nat) (a17 : Nat) (a1 : Nat) (a27 : Nat) (a28 : Nat) (a20 : Nat) (a21 : Nat) (a22 : Nat) (a23 : Nat) (a24 : Nat) (a25 : Nat) (a26 : Nat) (a9 : Nat) (a10 : Nat) (a11 : Nat) (a12 : Nat) (a13 : Nat) (sz : Nat) : Met l yX2_firstWrong (gws yX2_firstWrong cX2_firstWrong 2 (some .int)) (gR 4 0 0) (gPre D dA [.ref a4] [(a4, .inr (2, [.ref a17, .ref a1, .ref a27, .ref a28, .int 0, .int (-1)])), (a17, .inr (0, [.ref a20, .ref a21, .ref a22, .ref a23, .ref a24, .ref a25, .ref a26, .int 0])), (a1, .inr (5, [.ref a9, .ref a10, .ref a11, .ref a12, .ref a13, .int 0, .int (-1)]))] sz) (va_Qi (fun (r : Int32) (_ : Nat → Nat) => r = -1) (gAt D dA (va_A [(a4, .inr (2, [.ref a17, .ref a1, .ref a27, .ref a28, .int 0, .int (-1)])), (a17, .inr (0, [.ref a20, .ref a21, .ref a22, .ref a23, .ref a24, .ref a25, .ref a26, .int 0])), (a1, .inr (5, [.ref a9, .ref a10, .ref a11, .ref a12, .ref a13, .int 0, .int (-1)]))] sz) (fun ad : Nat → Nat => [(a4, .inr (2, [.ref a17, .ref a1, .ref a27, .ref a28, .int 0, .int (-1)])), (a17, .inr (0, [.ref a20, .ref a21, .ref a22, .ref a23, .ref a24, .ref a25, .ref a26, .int 0])), (a1, .inr (5, [.ref a9, .ref a10, .ref a11, .ref a12, .ref a13, .int 0, .int (-1)]))])) (va_A [(a4, .inr (2, [.ref a17, .ref a1, .ref a27, .ref a28, .int 0, .int (-1)])), (a17, .inr (0, [.ref a20, .ref a21, .ref a22, .ref a23, .ref a24, .ref a25, .ref a26, .int 0])), (a1, .inr (5, [.ref a9, .ref a10, .ref a11, .ref a12, .ref a13, .int 0, .int (-1)]))] sz)) 0 0 (va_A [(a4, .inr (2, [.ref a17, .ref a1, .ref a27, .ref a28, .int 0, .int (-1)])), (a17, .inr (0, [.ref a20, .ref a21, .ref a22, .ref a23, .ref a24, .ref a25, .ref a26, .int 0])), (a1, .inr (5, [.ref a9, .ref a10, .ref a11, .ref a12, .ref a13, .int 0, .int (-1)]))] sz) := by
  refine Met.ofW (cc := cX2_firstWrong) (maxL := 2) (ret := (some .int)) (by decide) rfl ?_
  intro p e s m args below meth c s₁ B hml hv
  obtain ⟨rfl, hsz, hP, hK, hD0⟩ := hv
  have hx := B.exec
  have hb := B.bytes
  have hr := B.returns
  have hts := atoms_spec (ws := gws yX2_firstWrong cX2_firstWrong 2 (some .int)) B.pre
  have hg : ∀ w ∈ gw, w.before _ s = true := fun w h => hts w (List.mem_cons_of_mem _ h)
  have hown : s.vm.findClass RX2 = some m.cls := findClass_of_methodNamed B.named
  have hlocks := B.notSynchronized
  subst hsz
  have hD := hD0.self (sz := s.heap.size)
  generalize hAe : va_A [(a4, .inr (2, [.ref a17, .ref a1, .ref a27, .ref a28, .int 0, .int (-1)])), (a17, .inr (0, [.ref a20, .ref a21, .ref a22, .ref a23, .ref a24, .ref a25, .ref a26, .int 0])), (a1, .inr (5, [.ref a9, .ref a10, .ref a11, .ref a12, .ref a13, .int 0, .int (-1)]))] s.heap.size = A at hD ⊢
  have hA : ∀ q : Nat, s.heap.size ≤ q → A q := fun q h => by rw [← hAe]; exact Or.inr h
  have hS : va_S A s.heap s.heap [] := va_S.rf
  have hP : va_P D vwC [(a4, .inr (2, [.ref a17, .ref a1, .ref a27, .ref a28, .int 0, .int (-1)])), (a17, .inr (0, [.ref a20, .ref a21, .ref a22, .ref a23, .ref a24, .ref a25, .ref a26, .int 0])), (a1, .inr (5, [.ref a9, .ref a10, .ref a11, .ref a12, .ref a13, .int 0, .int (-1)]))] s.heap := hP
  have hl := lv_entry ([.ref a4]) (n := 2) (Nat.le_of_ble_eq_true rfl)
  rw [lg_entry_eq]
  generalize (lg_sl ([.ref a4]) ++ List.replicate (2 - (lg_sl ([.ref a4])).length) Slot.unset).toArray = ls at hl ⊢
  have hl : lv_has ls 2 [(0, .ref a4)] := hl
  refine lv_aload_n hx hb dX2_firstWrong_0 rfl (lv_at hl 0 rfl) ?_
  refine lv_aload_n hx hb dX2_firstWrong_1 rfl (lv_at hl 0 rfl) ?_
  refine g_get hx hb hg hown hK hP 0 rfl rfl inX2 1 (by decide) q372 rfl dX2_firstWrong_2 ?_
  refine g_get hx hb hg hown hK hP 2 rfl rfl inX5 6 (by decide) q206 rfl dX2_firstWrong_5 ?_
  refine g_put (w' := [(a4, .inr (2, [.ref a17, .ref a1, .ref a27, .ref a28, .int 0, .int (-1)])), (a17, .inr (0, [.ref a20, .ref a21, .ref a22, .ref a23, .ref a24, .ref a25, .ref a26, .int 0])), (a1, .inr (5, [.ref a9, .ref a10, .ref a11, .ref a12, .ref a13, .int 0, .int (-1)]))]) hx hb hg hown hK hP hD hS 0 rfl rfl inX2 tyX2_ok nmX2 5 (by decide) q376 rfl rfl rfl (Nat.le_of_ble_eq_true rfl) rfl dX2_firstWrong_8 (fun H locs hP hD hS => ?_)
  refine lv_aload_n hx hb dX2_firstWrong_11 rfl (lv_at hl 0 rfl) ?_
  refine g_Vv (n := 0) (As := []) (rest := []) (wr := [(a1, .inr (5, [.ref a9, .ref a10, .ref a11, .ref a12, .ref a13, .int 0, .int (-1)]))]) hx hb hml hg hown hK hP hD hS hA (c_X2_declareAll l D dA a4 a17 a1 a27 a28 a20 a21 a22 a23 a24 a25 a26 _) [0, 1] [2] rfl (by decide) rfl (by decide) (by decide) 0 rfl rfl q1113 q155 q1110 q1112 q28 (by decide +kernel) ⟨(Nat.le_of_ble_eq_true rfl), (Nat.le_of_ble_eq_true rfl)⟩ rfl hl.1 rfl (Nat.le_of_ble_eq_true rfl) dX2_firstWrong_12 ⟨(Nat.le_of_ble_eq_true rfl), (Nat.le_of_ble_eq_true rfl)⟩ (fun u1 H locs w3 hP hD hS => ?_)
  refine W.widen (k := 0) (n := 0) (Nat.le_of_ble_eq_true rfl) (Nat.le_of_ble_eq_true rfl) ?_
  have hP : va_P D vwC [(a1, .inr (5, [.ref a9, .ref a10, .ref a11, .ref a12, .ref a13, .int 0, .int (-1)])), (a4, .inr (2, [.ref a17, .ref a1, .ref a27, .ref a28, .int 0, .int (-1)])), (a17, .inr (0, [.ref a20, .ref a21, .ref a22, .ref a23, .ref a24, .ref a25, .ref a26, .int 0]))] H := hP
  have hD : va_D A [(a1, .inr (5, [.ref a9, .ref a10, .ref a11, .ref a12, .ref a13, .int 0, .int (-1)])), (a4, .inr (2, [.ref a17, .ref a1, .ref a27, .ref a28, .int 0, .int (-1)])), (a17, .inr (0, [.ref a20, .ref a21, .ref a22, .ref a23, .ref a24, .ref a25, .ref a26, .int 0]))] := hD
  refine lv_iconst (v := 0) hx hb dX2_firstWrong_15 (by decide) ?_
  refine lv_istore_n (lv' := [(1, .int 0), (0, .ref a4)]) hx hb dX2_firstWrong_16 rfl hl (by decide) rfl (fun ls hl => ?_)
  refine lv_iload_n hx hb dX2_firstWrong_17 rfl (lv_at hl 0 rfl) ?_
  refine lv_aload_n hx hb dX2_firstWrong_18 rfl (lv_at hl 1 rfl) ?_
  refine g_get hx hb hg hown hK hP 1 rfl rfl inX2 0 (by decide) q371 rfl dX2_firstWrong_19 ?_
  refine g_get hx hb hg hown hK hP 2 rfl rfl inX0 7 (by decide) q273 rfl dX2_firstWrong_22 ?_
  refine lv_icmp_ge (tgt := 55) hx hb dX2_firstWrong_25 (by decide) (fun _ => ?_) (fun h => absurd (by decide) h)
  refine lv_aload_n hx hb dX2_firstWrong_55 rfl (lv_at hl 1 rfl) ?_
  refine g_get hx hb hg hown hK hP 1 rfl rfl inX2 5 (by decide) q376 rfl dX2_firstWrong_56 ?_
  obtain ⟨hP, hD⟩ := g_cut (is := [1, 2, 0]) (w' := [(a4, .inr (2, [.ref a17, .ref a1, .ref a27, .ref a28, .int 0, .int (-1)])), (a17, .inr (0, [.ref a20, .ref a21, .ref a22, .ref a23, .ref a24, .ref a25, .ref a26, .int 0])), (a1, .inr (5, [.ref a9, .ref a10, .ref a11, .ref a12, .ref a13, .int 0, .int (-1)]))]) hP hD (by decide) rfl rfl
  exact g_iret hx hb hr rfl hlocks hK (fun k => ([] : List Nat).getD k 0) hP hD hS rfl (Nat.le_of_ble_eq_true rfl) (Nat.le_of_ble_eq_true rfl) dX2_firstWrong_59
set_option maxHeartbeats 4000000 in
set_option maxRecDepth 100000 in
theorem c_X2_measure (l : Launch) (D : va_G) (dA : Nat → ClassId) (a4 : Nat) (a17 : Nat) (a1 : Nat) (a27 : Nat) (a28 : Nat) (a20 : Nat) (a21 : Nat) (a22 : Nat) (a23 : Nat) (a24 : Nat) (a25 : Nat) (a26 : Nat) (sz : Nat) : Met l yX2_measure (gws yX2_measure cX2_measure 3 none) (gR 4 0 0) (gPre D dA [.ref a4] [(a4, .inr (2, [.ref a17, .ref a1, .ref a27, .ref a28, .int 0, .int (-1)])), (a17, .inr (0, [.ref a20, .ref a21, .ref a22, .ref a23, .ref a24, .ref a25, .ref a26, .int 0])), (a28, .inl (dA 0, 60, .inl (fun _ => 0)))] sz) (va_Qv (fun _ : Nat → Nat => True) (gAt D dA (va_A [(a4, .inr (2, [.ref a17, .ref a1, .ref a27, .ref a28, .int 0, .int (-1)])), (a17, .inr (0, [.ref a20, .ref a21, .ref a22, .ref a23, .ref a24, .ref a25, .ref a26, .int 0])), (a28, .inl (dA 0, 60, .inl (fun _ => 0)))] sz) (fun ad : Nat → Nat => [(a4, .inr (2, [.ref a17, .ref a1, .ref a27, .ref a28, .int 0, .int (-1)])), (a17, .inr (0, [.ref a20, .ref a21, .ref a22, .ref a23, .ref a24, .ref a25, .ref a26, .int 0])), (a28, .inl (dA 0, 60, .inl (fun _ => 0)))])) (va_A [(a4, .inr (2, [.ref a17, .ref a1, .ref a27, .ref a28, .int 0, .int (-1)])), (a17, .inr (0, [.ref a20, .ref a21, .ref a22, .ref a23, .ref a24, .ref a25, .ref a26, .int 0])), (a28, .inl (dA 0, 60, .inl (fun _ => 0)))] sz)) 0 0 (va_A [(a4, .inr (2, [.ref a17, .ref a1, .ref a27, .ref a28, .int 0, .int (-1)])), (a17, .inr (0, [.ref a20, .ref a21, .ref a22, .ref a23, .ref a24, .ref a25, .ref a26, .int 0])), (a28, .inl (dA 0, 60, .inl (fun _ => 0)))] sz) := by
  refine Met.ofW (cc := cX2_measure) (maxL := 3) (ret := none) (by decide) rfl ?_
  intro p e s m args below meth c s₁ B hml hv
  obtain ⟨rfl, hsz, hP, hK, hD0⟩ := hv
  have hx := B.exec
  have hb := B.bytes
  have hr := B.returns
  have hts := atoms_spec (ws := gws yX2_measure cX2_measure 3 none) B.pre
  have hg : ∀ w ∈ gw, w.before _ s = true := fun w h => hts w (List.mem_cons_of_mem _ h)
  have hown : s.vm.findClass RX2 = some m.cls := findClass_of_methodNamed B.named
  have hlocks := B.notSynchronized
  subst hsz
  have hD := hD0.self (sz := s.heap.size)
  generalize hAe : va_A [(a4, .inr (2, [.ref a17, .ref a1, .ref a27, .ref a28, .int 0, .int (-1)])), (a17, .inr (0, [.ref a20, .ref a21, .ref a22, .ref a23, .ref a24, .ref a25, .ref a26, .int 0])), (a28, .inl (dA 0, 60, .inl (fun _ => 0)))] s.heap.size = A at hD ⊢
  have hA : ∀ q : Nat, s.heap.size ≤ q → A q := fun q h => by rw [← hAe]; exact Or.inr h
  have hS : va_S A s.heap s.heap [] := va_S.rf
  have hP : va_P D vwC [(a4, .inr (2, [.ref a17, .ref a1, .ref a27, .ref a28, .int 0, .int (-1)])), (a17, .inr (0, [.ref a20, .ref a21, .ref a22, .ref a23, .ref a24, .ref a25, .ref a26, .int 0])), (a28, .inl (dA 0, 60, .inl (fun _ => 0)))] s.heap := hP
  have hl := lv_entry ([.ref a4]) (n := 3) (Nat.le_of_ble_eq_true rfl)
  rw [lg_entry_eq]
  generalize (lg_sl ([.ref a4]) ++ List.replicate (3 - (lg_sl ([.ref a4])).length) Slot.unset).toArray = ls at hl ⊢
  have hl : lv_has ls 3 [(0, .ref a4)] := hl
  refine lv_aload_n hx hb dX2_measure_0 rfl (lv_at hl 0 rfl) ?_
  refine g_get hx hb hg hown hK hP 0 rfl rfl inX2 3 (by decide) q374 rfl dX2_measure_1 ?_
  refine lv_iconst (v := 0) hx hb dX2_measure_4 (by decide) ?_
  refine g_Sv (n := 2) (As := [.ref a28, .int 0]) (rest := []) (wr := [(a4, .inr (2, [.ref a17, .ref a1, .ref a27, .ref a28, .int 0, .int (-1)])), (a17, .inr (0, [.ref a20, .ref a21, .ref a22, .ref a23, .ref a24, .ref a25, .ref a26, .int 0]))]) hx hb hml hg hown hK hP hD hS hA (c_fill l D dA a28 60 (by decide) _) [2] [0, 1] rfl (by decide) rfl (by decide) (by decide) q1164 q177 q1162 q1163 (by decide +kernel) ⟨(Nat.le_of_ble_eq_true rfl), (Nat.le_of_ble_eq_true rfl)⟩ rfl hl.1 rfl (Nat.le_of_ble_eq_true rfl) dX2_measure_5 ⟨(Nat.le_of_ble_eq_true rfl), (Nat.le_of_ble_eq_true rfl)⟩ (fun u1 H locs w3 hP hD hS => ?_)
  refine W.widen (k := 0) (n := 0) (Nat.le_of_ble_eq_true rfl) (Nat.le_of_ble_eq_true rfl) ?_
  have hP : va_P D vwC [(a4, .inr (2, [.ref a17, .ref a1, .ref a27, .ref a28, .int 0, .int (-1)])), (a17, .inr (0, [.ref a20, .ref a21, .ref a22, .ref a23, .ref a24, .ref a25, .ref a26, .int 0])), (a28, .inl (dA 0, 60, .inl (fun _ => 0)))] H := hP
  have hD : va_D A [(a4, .inr (2, [.ref a17, .ref a1, .ref a27, .ref a28, .int 0, .int (-1)])), (a17, .inr (0, [.ref a20, .ref a21, .ref a22, .ref a23, .ref a24, .ref a25, .ref a26, .int 0])), (a28, .inl (dA 0, 60, .inl (fun _ => 0)))] := hD
  refine lv_iconst (v := 0) hx hb dX2_measure_8 (by decide) ?_
  refine lv_istore_n (lv' := [(1, .int 0), (0, .ref a4)]) hx hb dX2_measure_9 rfl hl (by decide) rfl (fun ls hl => ?_)
  refine lv_iload_n hx hb dX2_measure_10 rfl (lv_at hl 0 rfl) ?_
  refine lv_aload_n hx hb dX2_measure_11 rfl (lv_at hl 1 rfl) ?_
  refine g_get hx hb hg hown hK hP 0 rfl rfl inX2 0 (by decide) q371 rfl dX2_measure_12 ?_
  refine g_get hx hb hg hown hK hP 1 rfl rfl inX0 7 (by decide) q273 rfl dX2_measure_15 ?_
  refine lv_icmp_ge (tgt := 112) hx hb dX2_measure_18 (by decide) (fun _ => ?_) (fun h => absurd (by decide) h)
  obtain ⟨hP, hD⟩ := g_cut (is := [0, 1, 2]) (w' := [(a4, .inr (2, [.ref a17, .ref a1, .ref a27, .ref a28, .int 0, .int (-1)])), (a17, .inr (0, [.ref a20, .ref a21, .ref a22, .ref a23, .ref a24, .ref a25, .ref a26, .int 0])), (a28, .inl (dA 0, 60, .inl (fun _ => 0)))]) hP hD (by decide) rfl rfl
  exact g_vret hx hb hr hlocks hK (fun k => ([] : List Nat).getD k 0) hP hD hS trivial (Nat.le_of_ble_eq_true rfl) (Nat.le_of_ble_eq_true rfl) dX2_measure_112
set_option maxHeartbeats 4000000 in
set_option maxRecDepth 100000 in
theorem c_X2_growJumps (l : Launch) (D : va_G) (dA : Nat → ClassId) (a4 : Nat) (a17 : Nat) (a1 : Nat) (a27 : Nat) (a28 : Nat) (a20 : Nat) (a21 : Nat) (a22 : Nat) (a23 : Nat) (a24 : Nat) (a25 : Nat) (a26 : Nat) (sz : Nat) : Met l yX2_growJumps (gws yX2_growJumps cX2_growJumps 3 (some .boolean)) (gR 2 0 0) (gPre D dA [.ref a4] [(a4, .inr (2, [.ref a17, .ref a1, .ref a27, .ref a28, .int 0, .int (-1)])), (a17, .inr (0, [.ref a20, .ref a21, .ref a22, .ref a23, .ref a24, .ref a25, .ref a26, .int 0]))] sz) (va_Qi (fun (r : Int32) (_ : Nat → Nat) => r = 0) (gAt D dA (va_A [(a4, .inr (2, [.ref a17, .ref a1, .ref a27, .ref a28, .int 0, .int (-1)])), (a17, .inr (0, [.ref a20, .ref a21, .ref a22, .ref a23, .ref a24, .ref a25, .ref a26, .int 0]))] sz) (fun ad : Nat → Nat => [(a4, .inr (2, [.ref a17, .ref a1, .ref a27, .ref a28, .int 0, .int (-1)])), (a17, .inr (0, [.ref a20, .ref a21, .ref a22, .ref a23, .ref a24, .ref a25, .ref a26, .int 0]))])) (va_A [(a4, .inr (2, [.ref a17, .ref a1, .ref a27, .ref a28, .int 0, .int (-1)])), (a17, .inr (0, [.ref a20, .ref a21, .ref a22, .ref a23, .ref a24, .ref a25, .ref a26, .int 0]))] sz)) 0 0 (va_A [(a4, .inr (2, [.ref a17, .ref a1, .ref a27, .ref a28, .int 0, .int (-1)])), (a17, .inr (0, [.ref a20, .ref a21, .ref a22, .ref a23, .ref a24, .ref a25, .ref a26, .int 0]))] sz) := by
  refine Met.ofW (cc := cX2_growJumps) (maxL := 3) (ret := (some .boolean)) (by decide) rfl ?_
  intro p e s m args below meth c s₁ B hml hv
  obtain ⟨rfl, hsz, hP, hK, hD0⟩ := hv
  have hx := B.exec
  have hb := B.bytes
  have hr := B.returns
  have hts := atoms_spec (ws := gws yX2_growJumps cX2_growJumps 3 (some .boolean)) B.pre
  have hg : ∀ w ∈ gw, w.before _ s = true := fun w h => hts w (List.mem_cons_of_mem _ h)
  have hown : s.vm.findClass RX2 = some m.cls := findClass_of_methodNamed B.named
  have hlocks := B.notSynchronized
  subst hsz
  have hD := hD0.self (sz := s.heap.size)
  generalize hAe : va_A [(a4, .inr (2, [.ref a17, .ref a1, .ref a27, .ref a28, .int 0, .int (-1)])), (a17, .inr (0, [.ref a20, .ref a21, .ref a22, .ref a23, .ref a24, .ref a25, .ref a26, .int 0]))] s.heap.size = A at hD ⊢
  have hA : ∀ q : Nat, s.heap.size ≤ q → A q := fun q h => by rw [← hAe]; exact Or.inr h
  have hS : va_S A s.heap s.heap [] := va_S.rf
  have hP : va_P D vwC [(a4, .inr (2, [.ref a17, .ref a1, .ref a27, .ref a28, .int 0, .int (-1)])), (a17, .inr (0, [.ref a20, .ref a21, .ref a22, .ref a23, .ref a24, .ref a25, .ref a26, .int 0]))] s.heap := hP
  have hl := lv_entry ([.ref a4]) (n := 3) (Nat.le_of_ble_eq_true rfl)
  rw [lg_entry_eq]
  generalize (lg_sl ([.ref a4]) ++ List.replicate (3 - (lg_sl ([.ref a4])).length) Slot.unset).toArray = ls at hl ⊢
  have hl : lv_has ls 3 [(0, .ref a4)] := hl
  refine lv_iconst (v := 0) hx hb dX2_growJumps_0 (by decide) ?_
  refine lv_istore_n (lv' := [(1, .int 0), (0, .ref a4)]) hx hb dX2_growJumps_1 rfl hl (by decide) rfl (fun ls hl => ?_)
  refine lv_iconst (v := 0) hx hb dX2_growJumps_2 (by decide) ?_
  refine lv_istore_n (lv' := [(2, .int 0), (1, .int 0), (0, .ref a4)]) hx hb dX2_growJumps_3 rfl hl (by decide) rfl (fun ls hl => ?_)
  refine lv_iload_n hx hb dX2_growJumps_4 rfl (lv_at hl 0 rfl) ?_
  refine lv_aload_n hx hb dX2_growJumps_5 rfl (lv_at hl 2 rfl) ?_
  refine g_get hx hb hg hown hK hP 0 rfl rfl inX2 0 (by decide) q371 rfl dX2_growJumps_6 ?_
  refine g_get hx hb hg hown hK hP 1 rfl rfl inX0 7 (by decide) q273 rfl dX2_growJumps_9 ?_
  refine lv_icmp_ge (tgt := 79) hx hb dX2_growJumps_12 (by decide) (fun _ => ?_) (fun h => absurd (by decide) h)
  refine lv_iload_n hx hb dX2_growJumps_79 rfl (lv_at hl 1 rfl) ?_
  obtain ⟨hP, hD⟩ := g_cut (is := [0, 1]) (w' := [(a4, .inr (2, [.ref a17, .ref a1, .ref a27, .ref a28, .int 0, .int (-1)])), (a17, .inr (0, [.ref a20, .ref a21, .ref a22, .ref a23, .ref a24, .ref a25, .ref a26, .int 0]))]) hP hD (by decide) rfl rfl
  exact g_iret hx hb hr rfl hlocks hK (fun k => ([] : List Nat).getD k 0) hP hD hS rfl (Nat.le_of_ble_eq_true rfl) (Nat.le_of_ble_eq_true rfl) dX2_growJumps_80
set_option maxHeartbeats 4000000 in
set_option maxRecDepth 100000 in
theorem c_X2_sizeJumps (l : Launch) (D : va_G) (dA : Nat → ClassId) (a4 : Nat) (a17 : Nat) (a1 : Nat) (a27 : Nat) (a28 : Nat) (a20 : Nat) (a21 : Nat) (a22 : Nat) (a23 : Nat) (a24 : Nat) (a25 : Nat) (a26 : Nat) (sz : Nat) : Met l yX2_sizeJumps (gws yX2_sizeJumps cX2_sizeJumps 3 (some .int)) (gR 6 0 0) (gPre D dA [.ref a4] [(a4, .inr (2, [.ref a17, .ref a1, .ref a27, .ref a28, .int 0, .int (-1)])), (a17, .inr (0, [.ref a20, .ref a21, .ref a22, .ref a23, .ref a24, .ref a25, .ref a26, .int 0])), (a28, .inl (dA 0, 60, .inl (fun _ => 0)))] sz) (va_Qi (fun (r : Int32) (_ : Nat → Nat) => r = 0) (gAt D dA (va_A [(a4, .inr (2, [.ref a17, .ref a1, .ref a27, .ref a28, .int 0, .int (-1)])), (a17, .inr (0, [.ref a20, .ref a21, .ref a22, .ref a23, .ref a24, .ref a25, .ref a26, .int 0])), (a28, .inl (dA 0, 60, .inl (fun _ => 0)))] sz) (fun ad : Nat → Nat => [(a4, .inr (2, [.ref a17, .ref a1, .ref a27, .ref a28, .int 0, .int (-1)])), (a17, .inr (0, [.ref a20, .ref a21, .ref a22, .ref a23, .ref a24, .ref a25, .ref a26, .int 0])), (a28, .inl (dA 0, 60, .inl (fun _ => 0)))])) (va_A [(a4, .inr (2, [.ref a17, .ref a1, .ref a27, .ref a28, .int 0, .int (-1)])), (a17, .inr (0, [.ref a20, .ref a21, .ref a22, .ref a23, .ref a24, .ref a25, .ref a26, .int 0])), (a28, .inl (dA 0, 60, .inl (fun _ => 0)))] sz)) 0 0 (va_A [(a4, .inr (2, [.ref a17, .ref a1, .ref a27, .ref a28, .int 0, .int (-1)])), (a17, .inr (0, [.ref a20, .ref a21, .ref a22, .ref a23, .ref a24, .ref a25, .ref a26, .int 0])), (a28, .inl (dA 0, 60, .inl (fun _ => 0)))] sz) := by
  refine Met.ofW (cc := cX2_sizeJumps) (maxL := 3) (ret := (some .int)) (by decide) rfl ?_
  intro p e s m args below meth c s₁ B hml hv
  obtain ⟨rfl, hsz, hP, hK, hD0⟩ := hv
  have hx := B.exec
  have hb := B.bytes
  have hr := B.returns
  have hts := atoms_spec (ws := gws yX2_sizeJumps cX2_sizeJumps 3 (some .int)) B.pre
  have hg : ∀ w ∈ gw, w.before _ s = true := fun w h => hts w (List.mem_cons_of_mem _ h)
  have hown : s.vm.findClass RX2 = some m.cls := findClass_of_methodNamed B.named
  have hlocks := B.notSynchronized
  subst hsz
  have hD := hD0.self (sz := s.heap.size)
  generalize hAe : va_A [(a4, .inr (2, [.ref a17, .ref a1, .ref a27, .ref a28, .int 0, .int (-1)])), (a17, .inr (0, [.ref a20, .ref a21, .ref a22, .ref a23, .ref a24, .ref a25, .ref a26, .int 0])), (a28, .inl (dA 0, 60, .inl (fun _ => 0)))] s.heap.size = A at hD ⊢
  have hA : ∀ q : Nat, s.heap.size ≤ q → A q := fun q h => by rw [← hAe]; exact Or.inr h
  have hS : va_S A s.heap s.heap [] := va_S.rf
  have hP : va_P D vwC [(a4, .inr (2, [.ref a17, .ref a1, .ref a27, .ref a28, .int 0, .int (-1)])), (a17, .inr (0, [.ref a20, .ref a21, .ref a22, .ref a23, .ref a24, .ref a25, .ref a26, .int 0])), (a28, .inl (dA 0, 60, .inl (fun _ => 0)))] s.heap := hP
  have hl := lv_entry ([.ref a4]) (n := 3) (Nat.le_of_ble_eq_true rfl)
  rw [lg_entry_eq]
  generalize (lg_sl ([.ref a4]) ++ List.replicate (3 - (lg_sl ([.ref a4])).length) Slot.unset).toArray = ls at hl ⊢
  have hl : lv_has ls 3 [(0, .ref a4)] := hl
  refine lv_iconst (v := 0) hx hb dX2_sizeJumps_0 (by decide) ?_
  refine lv_istore_n (lv' := [(1, .int 0), (0, .ref a4)]) hx hb dX2_sizeJumps_1 rfl hl (by decide) rfl (fun ls hl => ?_)
  refine lv_iload_n hx hb dX2_sizeJumps_2 rfl (lv_at hl 0 rfl) ?_
  refine lv_aload_n hx hb dX2_sizeJumps_3 rfl (lv_at hl 1 rfl) ?_
  refine g_get hx hb hg hown hK hP 0 rfl rfl inX2 0 (by decide) q371 rfl dX2_sizeJumps_4 ?_
  refine g_get hx hb hg hown hK hP 1 rfl rfl inX0 7 (by decide) q273 rfl dX2_sizeJumps_7 ?_
  refine lv_icmp_gt (tgt := 33) hx hb dX2_sizeJumps_10 (by decide) (fun h => absurd h (by decide)) (fun _ => ?_)
  refine lv_aload_n hx hb dX2_sizeJumps_13 rfl (lv_at hl 1 rfl) ?_
  refine g_Vv (n := 0) (As := []) (rest := []) (wr := []) hx hb hml hg hown hK hP hD hS hA (c_X2_measure l D dA a4 a17 a1 a27 a28 a20 a21 a22 a23 a24 a25 a26 _) [0, 1, 2] [] rfl (by decide) rfl (by decide) (by decide) 0 rfl rfl q1161 q155 q1158 q1160 q34 (by decide +kernel) ⟨(Nat.le_of_ble_eq_true rfl), (Nat.le_of_ble_eq_true rfl)⟩ rfl hl.1 rfl (Nat.le_of_ble_eq_true rfl) dX2_sizeJumps_14 ⟨(Nat.le_of_ble_eq_true rfl), (Nat.le_of_ble_eq_true rfl)⟩ (fun u1 H locs w3 hP hD hS => ?_)
  refine W.widen (k := 0) (n := 0) (Nat.le_of_ble_eq_true rfl) (Nat.le_of_ble_eq_true rfl) ?_
  have hP : va_P D vwC [(a4, .inr (2, [.ref a17, .ref a1, .ref a27, .ref a28, .int 0, .int (-1)])), (a17, .inr (0, [.ref a20, .ref a21, .ref a22, .ref a23, .ref a24, .ref a25, .ref a26, .int 0])), (a28, .inl (dA 0, 60, .inl (fun _ => 0)))] H := hP
  have hD : va_D A [(a4, .inr (2, [.ref a17, .ref a1, .ref a27, .ref a28, .int 0, .int (-1)])), (a17, .inr (0, [.ref a20, .ref a21, .ref a22, .ref a23, .ref a24, .ref a25, .ref a26, .int 0])), (a28, .inl (dA 0, 60, .inl (fun _ => 0)))] := hD
  refine lv_aload_n hx hb dX2_sizeJumps_17 rfl (lv_at hl 1 rfl) ?_
  refine g_Vi (n := 0) (As := []) (rest := []) (wr := [(a28, .inl (dA 0, 60, .inl (fun _ => 0)))]) hx hb hml hg hown hK hP hD hS hA (c_X2_growJumps l D dA a4 a17 a1 a27 a28 a20 a21 a22 a23 a24 a25 a26 _) [0, 1] [2] rfl (by decide) rfl (by decide) (by decide) 0 rfl rfl q1172 q155 q1169 q1171 q35 (by decide +kernel) ⟨(Nat.le_of_ble_eq_true rfl), (Nat.le_of_ble_eq_true rfl)⟩ rfl hl.1 rfl (Nat.le_of_ble_eq_true rfl) dX2_sizeJumps_18 ⟨(Nat.le_of_ble_eq_true rfl), (Nat.le_of_ble_eq_true rfl)⟩ (fun r5 u4 H locs w6 hP hD hS => ?_)
  refine W.widen (k := 0) (n := 0) (Nat.le_of_ble_eq_true rfl) (Nat.le_of_ble_eq_true rfl) ?_
  have hP : va_P D vwC [(a28, .inl (dA 0, 60, .inl (fun _ => 0))), (a4, .inr (2, [.ref a17, .ref a1, .ref a27, .ref a28, .int 0, .int (-1)])), (a17, .inr (0, [.ref a20, .ref a21, .ref a22, .ref a23, .ref a24, .ref a25, .ref a26, .int 0]))] H := hP
  have hD : va_D A [(a28, .inl (dA 0, 60, .inl (fun _ => 0))), (a4, .inr (2, [.ref a17, .ref a1, .ref a27, .ref a28, .int 0, .int (-1)])), (a17, .inr (0, [.ref a20, .ref a21, .ref a22, .ref a23, .ref a24, .ref a25, .ref a26, .int 0]))] := hD
  obtain rfl : r5 = 0 := w6
  refine lv_if_ne (tgt := 27) hx hb dX2_sizeJumps_21 (by decide) (fun h => absurd (by decide) h) (fun _ => ?_)
  refine lv_goto (tgt := 33) hx hb dX2_sizeJumps_24 (by decide) ?_
  refine lv_iconst (v := 0) hx hb dX2_sizeJumps_33 (by decide) ?_
  refine lv_istore_n (lv' := [(1, .int 0), (0, .ref a4)]) hx hb dX2_sizeJumps_34 rfl hl (by decide) rfl (fun ls hl => ?_)
  refine lv_iconst (v := 0) hx hb dX2_sizeJumps_35 (by decide) ?_
  refine lv_istore_n (lv' := [(2, .int 0), (1, .int 0), (0, .ref a4)]) hx hb dX2_sizeJumps_36 rfl hl (by decide) rfl (fun ls hl => ?_)
  refine lv_iload_n hx hb dX2_sizeJumps_37 rfl (lv_at hl 0 rfl) ?_
  refine lv_aload_n hx hb dX2_sizeJumps_38 rfl (lv_at hl 2 rfl) ?_
  refine g_get hx hb hg hown hK hP 1 rfl rfl inX2 4 (by decide) q375 rfl dX2_sizeJumps_39 ?_
  refine lv_icmp_ge (tgt := 60) hx hb dX2_sizeJumps_42 (by decide) (fun _ => ?_) (fun h => absurd (by decide) h)
  refine lv_iload_n hx hb dX2_sizeJumps_60 rfl (lv_at hl 1 rfl) ?_
  obtain ⟨hP, hD⟩ := g_cut (is := [1, 2, 0]) (w' := [(a4, .inr (2, [.ref a17, .ref a1, .ref a27, .ref a28, .int 0, .int (-1)])), (a17, .inr (0, [.ref a20, .ref a21, .ref a22, .ref a23, .ref a24, .ref a25, .ref a26, .int 0])), (a28, .inl (dA 0, 60, .inl (fun _ => 0)))]) hP hD (by decide) rfl rfl
  exact g_iret hx hb hr rfl hlocks hK (fun k => ([] : List Nat).getD k 0) hP hD hS rfl (Nat.le_of_ble_eq_true rfl) (Nat.le_of_ble_eq_true rfl) dX2_sizeJumps_61
set_option maxHeartbeats 4000000 in
set_option maxRecDepth 100000 in
theorem c_X2_firstTooFar (l : Launch) (D : va_G) (dA : Nat → ClassId) (a4 : Nat) (a17 : Nat) (a1 : Nat) (a27 : Nat) (a28 : Nat) (a20 : Nat) (a21 : Nat) (a22 : Nat) (a23 : Nat) (a24 : Nat) (a25 : Nat) (a26 : Nat) (sz : Nat) : Met l yX2_firstTooFar (gws yX2_firstTooFar cX2_firstTooFar 2 (some .int)) (gR 2 0 0) (gPre D dA [.ref a4] [(a4, .inr (2, [.ref a17, .ref a1, .ref a27, .ref a28, .int 0, .int (-1)])), (a17, .inr (0, [.ref a20, .ref a21, .ref a22, .ref a23, .ref a24, .ref a25, .ref a26, .int 0]))] sz) (va_Qi (fun (r : Int32) (_ : Nat → Nat) => r = -1) (gAt D dA (va_A [(a4, .inr (2, [.ref a17, .ref a1, .ref a27, .ref a28, .int 0, .int (-1)])), (a17, .inr (0, [.ref a20, .ref a21, .ref a22, .ref a23, .ref a24, .ref a25, .ref a26, .int 0]))] sz) (fun ad : Nat → Nat => [(a4, .inr (2, [.ref a17, .ref a1, .ref a27, .ref a28, .int 0, .int (-1)])), (a17, .inr (0, [.ref a20, .ref a21, .ref a22, .ref a23, .ref a24, .ref a25, .ref a26, .int 0]))])) (va_A [(a4, .inr (2, [.ref a17, .ref a1, .ref a27, .ref a28, .int 0, .int (-1)])), (a17, .inr (0, [.ref a20, .ref a21, .ref a22, .ref a23, .ref a24, .ref a25, .ref a26, .int 0]))] sz)) 0 0 (va_A [(a4, .inr (2, [.ref a17, .ref a1, .ref a27, .ref a28, .int 0, .int (-1)])), (a17, .inr (0, [.ref a20, .ref a21, .ref a22, .ref a23, .ref a24, .ref a25, .ref a26, .int 0]))] sz) := by
  refine Met.ofW (cc := cX2_firstTooFar) (maxL := 2) (ret := (some .int)) (by decide) rfl ?_
  intro p e s m args below meth c s₁ B hml hv
  obtain ⟨rfl, hsz, hP, hK, hD0⟩ := hv
  have hx := B.exec
  have hb := B.bytes
  have hr := B.returns
  have hts := atoms_spec (ws := gws yX2_firstTooFar cX2_firstTooFar 2 (some .int)) B.pre
  have hg : ∀ w ∈ gw, w.before _ s = true := fun w h => hts w (List.mem_cons_of_mem _ h)
  have hown : s.vm.findClass RX2 = some m.cls := findClass_of_methodNamed B.named
  have hlocks := B.notSynchronized
  subst hsz
  have hD := hD0.self (sz := s.heap.size)
  generalize hAe : va_A [(a4, .inr (2, [.ref a17, .ref a1, .ref a27, .ref a28, .int 0, .int (-1)])), (a17, .inr (0, [.ref a20, .ref a21, .ref a22, .ref a23, .ref a24, .ref a25, .ref a26, .int 0]))] s.heap.size = A at hD ⊢
  have hA : ∀ q : Nat, s.heap.size ≤ q → A q := fun q h => by rw [← hAe]; exact Or.inr h
  have hS : va_S A s.heap s.heap [] := va_S.rf
  have hP : va_P D vwC [(a4, .inr (2, [.ref a17, .ref a1, .ref a27, .ref a28, .int 0, .int (-1)])), (a17, .inr (0, [.ref a20, .ref a21, .ref a22, .ref a23, .ref a24, .ref a25, .ref a26, .int 0]))] s.heap := hP
  have hl := lv_entry ([.ref a4]) (n := 2) (Nat.le_of_ble_eq_true rfl)
  rw [lg_entry_eq]
  generalize (lg_sl ([.ref a4]) ++ List.replicate (2 - (lg_sl ([.ref a4])).length) Slot.unset).toArray = ls at hl ⊢
  have hl : lv_has ls 2 [(0, .ref a4)] := hl
  refine lv_iconst (v := 0) hx hb dX2_firstTooFar_0 (by decide) ?_
  refine lv_istore_n (lv' := [(1, .int 0), (0, .ref a4)]) hx hb dX2_firstTooFar_1 rfl hl (by decide) rfl (fun ls hl => ?_)
  refine lv_iload_n hx hb dX2_firstTooFar_2 rfl (lv_at hl 0 rfl) ?_
  refine lv_aload_n hx hb dX2_firstTooFar_3 rfl (lv_at hl 1 rfl) ?_
  refine g_get hx hb hg hown hK hP 0 rfl rfl inX2 0 (by decide) q371 rfl dX2_firstTooFar_4 ?_
  refine g_get hx hb hg hown hK hP 1 rfl rfl inX0 7 (by decide) q273 rfl dX2_firstTooFar_7 ?_
  refine lv_icmp_ge (tgt := 54) hx hb dX2_firstTooFar_10 (by decide) (fun _ => ?_) (fun h => absurd (by decide) h)
  refine lv_iconst (v := (-1)) hx hb dX2_firstTooFar_54 (by decide) ?_
  obtain ⟨hP, hD⟩ := g_cut (is := [0, 1]) (w' := [(a4, .inr (2, [.ref a17, .ref a1, .ref a27, .ref a28, .int 0, .int (-1)])), (a17, .inr (0, [.ref a20, .ref a21, .ref a22, .ref a23, .ref a24, .ref a25, .ref a26, .int 0]))]) hP hD (by decide) rfl rfl
  exact g_iret hx hb hr rfl hlocks hK (fun k => ([] : List Nat).getD k 0) hP hD hS rfl (Nat.le_of_ble_eq_true rfl) (Nat.le_of_ble_eq_true rfl) dX2_firstTooFar_55
set_option maxHeartbeats 4000000 in
set_option maxRecDepth 100000 in
theorem c_X6_clear (l : Launch) (D : va_G) (dA : Nat → ClassId) (a29 : Nat) (a32 : Nat) (a33 : Nat) (a34 : Nat) (a35 : Nat) (a36 : Nat) (a37 : Nat) (a38 : Nat) (a39 : Nat) (a40 : Nat) (a41 : Nat) (a42 : Nat) (a43 : Nat) (a44 : Nat) (sz : Nat) : Met l yX6_clear (gws yX6_clear cX6_clear 1 none) (gR 4 0 0) (gPre D dA [.ref a29] [(a29, .inr (6, [.int 0, .int 0, .ref a32, .ref a33, .ref a34, .ref a35, .ref a36, .int 0, .ref a37, .ref a38, .ref a39, .ref a40, .ref a41, .int 0, .ref a42, .ref a43, .ref a44])), (a36, .inl (dA 0, 400, .inl (fun _ => 0)))] sz) (va_Qv (fun _ : Nat → Nat => True) (gAt D dA (va_A [(a29, .inr (6, [.int 0, .int 0, .ref a32, .ref a33, .ref a34, .ref a35, .ref a36, .int 0, .ref a37, .ref a38, .ref a39, .ref a40, .ref a41, .int 0, .ref a42, .ref a43, .ref a44])), (a36, .inl (dA 0, 400, .inl (fun _ => 0)))] sz) (fun ad : Nat → Nat => [(a29, .inr (6, [.int 0, .int 0, .ref a32, .ref a33, .ref a34, .ref a35, .ref a36, .int 0, .ref a37, .ref a38, .ref a39, .ref a40, .ref a41, .int 0, .ref a42, .ref a43, .ref a44])), (a36, .inl (dA 0, 400, .inl (fun _ => 0)))])) (va_A [(a29, .inr (6, [.int 0, .int 0, .ref a32, .ref a33, .ref a34, .ref a35, .ref a36, .int 0, .ref a37, .ref a38, .ref a39, .ref a40, .ref a41, .int 0, .ref a42, .ref a43, .ref a44])), (a36, .inl (dA 0, 400, .inl (fun _ => 0)))] sz)) 0 0 (va_A [(a29, .inr (6, [.int 0, .int 0, .ref a32, .ref a33, .ref a34, .ref a35, .ref a36, .int 0, .ref a37, .ref a38, .ref a39, .ref a40, .ref a41, .int 0, .ref a42, .ref a43, .ref a44])), (a36, .inl (dA 0, 400, .inl (fun _ => 0)))] sz) := by
  refine Met.ofW (cc := cX6_clear) (maxL := 1) (ret := none) (by decide) rfl ?_
  intro p e s m args below meth c s₁ B hml hv
  obtain ⟨rfl, hsz, hP, hK, hD0⟩ := hv
  have hx := B.exec
  have hb := B.bytes
  have hr := B.returns
  have hts := atoms_spec (ws := gws yX6_clear cX6_clear 1 none) B.pre
  have hg : ∀ w ∈ gw, w.before _ s = true := fun w h => hts w (List.mem_cons_of_mem _ h)
  have hown : s.vm.findClass RX6 = some m.cls := findClass_of_methodNamed B.named
  have hlocks := B.notSynchronized
  subst hsz
  have hD := hD0.self (sz := s.heap.size)
  generalize hAe : va_A [(a29, .inr (6, [.int 0, .int 0, .ref a32, .ref a33, .ref a34, .ref a35, .ref a36, .int 0, .ref a37, .ref a38, .ref a39, .ref a40, .ref a41, .int 0, .ref a42, .ref a43, .ref a44])), (a36, .inl (dA 0, 400, .inl (fun _ => 0)))] s.heap.size = A at hD ⊢
  have hA : ∀ q : Nat, s.heap.size ≤ q → A q := fun q h => by rw [← hAe]; exact Or.inr h
  have hS : va_S A s.heap s.heap [] := va_S.rf
  have hP : va_P D vwC [(a29, .inr (6, [.int 0, .int 0, .ref a32, .ref a33, .ref a34, .ref a35, .ref a36, .int 0, .ref a37, .ref a38, .ref a39, .ref a40, .ref a41, .int 0, .ref a42, .ref a43, .ref a44])), (a36, .inl (dA 0, 400, .inl (fun _ => 0)))] s.heap := hP
  have hl := lv_entry ([.ref a29]) (n := 1) (Nat.le_of_ble_eq_true rfl)
  rw [lg_entry_eq]
  generalize (lg_sl ([.ref a29]) ++ List.replicate (1 - (lg_sl ([.ref a29])).length) Slot.unset).toArray = ls at hl ⊢
  have hl : lv_has ls 1 [(0, .ref a29)] := hl
  refine lv_aload_n hx hb dX6_clear_0 rfl (lv_at hl 0 rfl) ?_
  refine lv_iconst (v := 0) hx hb dX6_clear_1 (by decide) ?_
  refine g_put (w' := [(a29, .inr (6, [.int 0, .int 0, .ref a32, .ref a33, .ref a34, .ref a35, .ref a36, .int 0, .ref a37, .ref a38, .ref a39, .ref a40, .ref a41, .int 0, .ref a42, .ref a43, .ref a44])), (a36, .inl (dA 0, 400, .inl (fun _ => 0)))]) hx hb hg hown hK hP hD hS 0 rfl rfl inX6 tyX6_ok nmX6 0 (by decide) q397 rfl rfl rfl (Nat.le_of_ble_eq_true rfl) rfl dX6_clear_2 (fun H locs hP hD hS => ?_)
  refine lv_aload_n hx hb dX6_clear_5 rfl (lv_at hl 0 rfl) ?_
  refine lv_iconst (v := 0) hx hb dX6_clear_6 (by decide) ?_
  refine g_put (w' := [(a29, .inr (6, [.int 0, .int 0, .ref a32, .ref a33, .ref a34, .ref a35, .ref a36, .int 0, .ref a37, .ref a38, .ref a39, .ref a40, .ref a41, .int 0, .ref a42, .ref a43, .ref a44])), (a36, .inl (dA 0, 400, .inl (fun _ => 0)))]) hx hb hg hown hK hP hD hS 0 rfl rfl inX6 tyX6_ok nmX6 1 (by decide) q401 rfl rfl rfl (Nat.le_of_ble_eq_true rfl) rfl dX6_clear_7 (fun H locs hP hD hS => ?_)
  refine lv_aload_n hx hb dX6_clear_10 rfl (lv_at hl 0 rfl) ?_
  refine lv_iconst (v := 0) hx hb dX6_clear_11 (by decide) ?_
  refine g_put (w' := [(a29, .inr (6, [.int 0, .int 0, .ref a32, .ref a33, .ref a34, .ref a35, .ref a36, .int 0, .ref a37, .ref a38, .ref a39, .ref a40, .ref a41, .int 0, .ref a42, .ref a43, .ref a44])), (a36, .inl (dA 0, 400, .inl (fun _ => 0)))]) hx hb hg hown hK hP hD hS 0 rfl rfl inX6 tyX6_ok nmX6 7 (by decide) q417 rfl rfl rfl (Nat.le_of_ble_eq_true rfl) rfl dX6_clear_12 (fun H locs hP hD hS => ?_)
  refine lv_aload_n hx hb dX6_clear_15 rfl (lv_at hl 0 rfl) ?_
  refine lv_iconst (v := 0) hx hb dX6_clear_16 (by decide) ?_
  refine g_put (w' := [(a29, .inr (6, [.int 0, .int 0, .ref a32, .ref a33, .ref a34, .ref a35, .ref a36, .int 0, .ref a37, .ref a38, .ref a39, .ref a40, .ref a41, .int 0, .ref a42, .ref a43, .ref a44])), (a36, .inl (dA 0, 400, .inl (fun _ => 0)))]) hx hb hg hown hK hP hD hS 0 rfl rfl inX6 tyX6_ok nmX6 13 (by decide) q434 rfl rfl rfl (Nat.le_of_ble_eq_true rfl) rfl dX6_clear_17 (fun H locs hP hD hS => ?_)
  refine lv_aload_n hx hb dX6_clear_20 rfl (lv_at hl 0 rfl) ?_
  refine g_get hx hb hg hown hK hP 0 rfl rfl inX6 6 (by decide) q414 rfl dX6_clear_21 ?_
  refine lv_iconst (v := 0) hx hb dX6_clear_24 (by decide) ?_
  refine g_Sv (n := 2) (As := [.ref a36, .int 0]) (rest := []) (wr := [(a29, .inr (6, [.int 0, .int 0, .ref a32, .ref a33, .ref a34, .ref a35, .ref a36, .int 0, .ref a37, .ref a38, .ref a39, .ref a40, .ref a41, .int 0, .ref a42, .ref a43, .ref a44]))]) hx hb hml hg hown hK hP hD hS hA (c_fill l D dA a36 400 (by decide) _) [1] [0] rfl (by decide) rfl (by decide) (by decide) q1164 q177 q1198 q1163 (by decide +kernel) ⟨(Nat.le_of_ble_eq_true rfl), (Nat.le_of_ble_eq_true rfl)⟩ rfl hl.1 rfl (Nat.le_of_ble_eq_true rfl) dX6_clear_25 ⟨(Nat.le_of_ble_eq_true rfl), (Nat.le_of_ble_eq_true rfl)⟩ (fun u1 H locs w3 hP hD hS => ?_)
  refine W.widen (k := 0) (n := 0) (Nat.le_of_ble_eq_true rfl) (Nat.le_of_ble_eq_true rfl) ?_
  have hP : va_P D vwC [(a29, .inr (6, [.int 0, .int 0, .ref a32, .ref a33, .ref a34, .ref a35, .ref a36, .int 0, .ref a37, .ref a38, .ref a39, .ref a40, .ref a41, .int 0, .ref a42, .ref a43, .ref a44])), (a36, .inl (dA 0, 400, .inl (fun _ => 0)))] H := hP
  have hD : va_D A [(a29, .inr (6, [.int 0, .int 0, .ref a32, .ref a33, .ref a34, .ref a35, .ref a36, .int 0, .ref a37, .ref a38, .ref a39, .ref a40, .ref a41, .int 0, .ref a42, .ref a43, .ref a44])), (a36, .inl (dA 0, 400, .inl (fun _ => 0)))] := hD
  obtain ⟨hP, hD⟩ := g_cut (is := [0, 1]) (w' := [(a29, .inr (6, [.int 0, .int 0, .ref a32, .ref a33, .ref a34, .ref a35, .ref a36, .int 0, .ref a37, .ref a38, .ref a39, .ref a40, .ref a41, .int 0, .ref a42, .ref a43, .ref a44])), (a36, .inl (dA 0, 400, .inl (fun _ => 0)))]) hP hD (by decide) rfl rfl
  exact g_vret hx hb hr hlocks hK (fun k => ([] : List Nat).getD k 0) hP hD hS trivial (Nat.le_of_ble_eq_true rfl) (Nat.le_of_ble_eq_true rfl) dX6_clear_28
set_option maxHeartbeats 4000000 in
set_option maxRecDepth 100000 in
theorem c_X2_write (l : Launch) (D : va_G) (dA : Nat → ClassId) (a4 : Nat) (a29 : Nat) (a17 : Nat) (a1 : Nat) (a27 : Nat) (a28 : Nat) (a20 : Nat) (a21 : Nat) (a22 : Nat) (a23 : Nat) (a24 : Nat) (a25 : Nat) (a26 : Nat) (a32 : Nat) (a33 : Nat) (a34 : Nat) (a35 : Nat) (a36 : Nat) (a37 : Nat) (a38 : Nat) (a39 : Nat) (a40 : Nat) (a41 : Nat) (a42 : Nat) (a43 : Nat) (a44 : Nat) (sz : Nat) : Met l yX2_write (gws yX2_write cX2_write 4 none) (gR 6 0 0) (gPre D dA [.ref a4, .ref a29] [(a4, .inr (2, [.ref a17, .ref a1, .ref a27, .ref a28, .int 0, .int (-1)])), (a17, .inr (0, [.ref a20, .ref a21, .ref a22, .ref a23, .ref a24, .ref a25, .ref a26, .int 0])), (a29, .inr (6, [.int 0, .int 0, .ref a32, .ref a33, .ref a34, .ref a35, .ref a36, .int 0, .ref a37, .ref a38, .ref a39, .ref a40, .ref a41, .int 0, .ref a42, .ref a43, .ref a44])), (a36, .inl (dA 0, 400, .inl (fun _ => 0)))] sz) (va_Qv (fun _ : Nat → Nat => True) (gAt D dA (va_A [(a4, .inr (2, [.ref a17, .ref a1, .ref a27, .ref a28, .int 0, .int (-1)])), (a17, .inr (0, [.ref a20, .ref a21, .ref a22, .ref a23, .ref a24, .ref a25, .ref a26, .int 0])), (a29, .inr (6, [.int 0, .int 0, .ref a32, .ref a33, .ref a34, .ref a35, .ref a36, .int 0, .ref a37, .ref a38, .ref a39, .ref a40, .ref a41, .int 0, .ref a42, .ref a43, .ref a44])), (a36, .inl (dA 0, 400, .inl (fun _ => 0)))] sz) (fun ad : Nat → Nat => [(a4, .inr (2, [.ref a17, .ref a1, .ref a27, .ref a28, .int 0, .int (-1)])), (a17, .inr (0, [.ref a20, .ref a21, .ref a22, .ref a23, .ref a24, .ref a25, .ref a26, .int 0])), (a29, .inr (6, [.int 1, .int 0, .ref a32, .ref a33, .ref a34, .ref a35, .ref a36, .int 0, .ref a37, .ref a38, .ref a39, .ref a40, .ref a41, .int 0, .ref a42, .ref a43, .ref a44])), (a36, .inl (dA 0, 400, .inl (fun _ => 0)))])) (va_A [(a4, .inr (2, [.ref a17, .ref a1, .ref a27, .ref a28, .int 0, .int (-1)])), (a17, .inr (0, [.ref a20, .ref a21, .ref a22, .ref a23, .ref a24, .ref a25, .ref a26, .int 0])), (a29, .inr (6, [.int 0, .int 0, .ref a32, .ref a33, .ref a34, .ref a35, .ref a36, .int 0, .ref a37, .ref a38, .ref a39, .ref a40, .ref a41, .int 0, .ref a42, .ref a43, .ref a44])), (a36, .inl (dA 0, 400, .inl (fun _ => 0)))] sz)) 0 0 (va_A [(a4, .inr (2, [.ref a17, .ref a1, .ref a27, .ref a28, .int 0, .int (-1)])), (a17, .inr (0, [.ref a20, .ref a21, .ref a22, .ref a23, .ref a24, .ref a25, .ref a26, .int 0])), (a29, .inr (6, [.int 0, .int 0, .ref a32, .ref a33, .ref a34, .ref a35, .ref a36, .int 0, .ref a37, .ref a38, .ref a39, .ref a40, .ref a41, .int 0, .ref a42, .ref a43, .ref a44])), (a36, .inl (dA 0, 400, .inl (fun _ => 0)))] sz) := by
  refine Met.ofW (cc := cX2_write) (maxL := 4) (ret := none) (by decide) rfl ?_
  intro p e s m args below meth c s₁ B hml hv
  obtain ⟨rfl, hsz, hP, hK, hD0⟩ := hv
  have hx := B.exec
  have hb := B.bytes
  have hr := B.returns
  have hts := atoms_spec (ws := gws yX2_write cX2_write 4 none) B.pre
  have hg : ∀ w ∈ gw, w.before _ s = true := fun w h => hts w (List.mem_cons_of_mem _ h)
  have hown : s.vm.findClass RX2 = some m.cls := findClass_of_methodNamed B.named
  have hlocks := B.notSynchronized
  subst hsz
  have hD := hD0.self (sz := s.heap.size)
  generalize hAe : va_A [(a4, .inr (2, [.ref a17, .ref a1, .ref a27, .ref a28, .int 0, .int (-1)])), (a17, .inr (0, [.ref a20, .ref a21, .ref a22, .ref a23, .ref a24, .ref a25, .ref a26, .int 0])), (a29, .inr (6, [.int 0, .int 0, .ref a32, .ref a33, .ref a34, .ref a35, .ref a36, .int 0, .ref a37, .ref a38, .ref a39, .ref a40, .ref a41, .int 0, .ref a42, .ref a43, .ref a44])), (a36, .inl (dA 0, 400, .inl (fun _ => 0)))] s.heap.size = A at hD ⊢
  have hA : ∀ q : Nat, s.heap.size ≤ q → A q := fun q h => by rw [← hAe]; exact Or.inr h
  have hS : va_S A s.heap s.heap [] := va_S.rf
  have hP : va_P D vwC [(a4, .inr (2, [.ref a17, .ref a1, .ref a27, .ref a28, .int 0, .int (-1)])), (a17, .inr (0, [.ref a20, .ref a21, .ref a22, .ref a23, .ref a24, .ref a25, .ref a26, .int 0])), (a29, .inr (6, [.int 0, .int 0, .ref a32, .ref a33, .ref a34, .ref a35, .ref a36, .int 0, .ref a37, .ref a38, .ref a39, .ref a40, .ref a41, .int 0, .ref a42, .ref a43, .ref a44])), (a36, .inl (dA 0, 400, .inl (fun _ => 0)))] s.heap := hP
  have hl := lv_entry ([.ref a4, .ref a29]) (n := 4) (Nat.le_of_ble_eq_true rfl)
  rw [lg_entry_eq]
  generalize (lg_sl ([.ref a4, .ref a29]) ++ List.replicate (4 - (lg_sl ([.ref a4, .ref a29])).length) Slot.unset).toArray = ls at hl ⊢
  have hl : lv_has ls 4 [(0, .ref a4), (1, .ref a29)] := hl
  refine lv_aload_n hx hb dX2_write_0 rfl (lv_at hl 1 rfl) ?_
  refine g_Vv (n := 0) (As := []) (rest := []) (wr := [(a4, .inr (2, [.ref a17, .ref a1, .ref a27, .ref a28, .int 0, .int (-1)])), (a17, .inr (0, [.ref a20, .ref a21, .ref a22, .ref a23, .ref a24, .ref a25, .ref a26, .int 0]))]) hx hb hml hg hown hK hP hD hS hA (c_X6_clear l D dA a29 a32 a33 a34 a35 a36 a37 a38 a39 a40 a41 a42 a43 a44 _) [2, 3] [0, 1] rfl (by decide) rfl (by decide) (by decide) 0 rfl rfl q1197 q156 q1194 q1195 q1196 (by decide +kernel) ⟨(Nat.le_of_ble_eq_true rfl), (Nat.le_of_ble_eq_true rfl)⟩ rfl hl.1 rfl (Nat.le_of_ble_eq_true rfl) dX2_write_1 ⟨(Nat.le_of_ble_eq_true rfl), (Nat.le_of_ble_eq_true rfl)⟩ (fun u1 H locs w3 hP hD hS => ?_)
  refine W.widen (k := 0) (n := 0) (Nat.le_of_ble_eq_true rfl) (Nat.le_of_ble_eq_true rfl) ?_
  have hP : va_P D vwC [(a4, .inr (2, [.ref a17, .ref a1, .ref a27, .ref a28, .int 0, .int (-1)])), (a17, .inr (0, [.ref a20, .ref a21, .ref a22, .ref a23, .ref a24, .ref a25, .ref a26, .int 0])), (a29, .inr (6, [.int 0, .int 0, .ref a32, .ref a33, .ref a34, .ref a35, .ref a36, .int 0, .ref a37, .ref a38, .ref a39, .ref a40, .ref a41, .int 0, .ref a42, .ref a43, .ref a44])), (a36, .inl (dA 0, 400, .inl (fun _ => 0)))] H := hP
  have hD : va_D A [(a4, .inr (2, [.ref a17, .ref a1, .ref a27, .ref a28, .int 0, .int (-1)])), (a17, .inr (0, [.ref a20, .ref a21, .ref a22, .ref a23, .ref a24, .ref a25, .ref a26, .int 0])), (a29, .inr (6, [.int 0, .int 0, .ref a32, .ref a33, .ref a34, .ref a35, .ref a36, .int 0, .ref a37, .ref a38, .ref a39, .ref a40, .ref a41, .int 0, .ref a42, .ref a43, .ref a44])), (a36, .inl (dA 0, 400, .inl (fun _ => 0)))] := hD
  refine lv_aload_n hx hb dX2_write_4 rfl (lv_at hl 1 rfl) ?_
  refine lv_iconst (v := 1) hx hb dX2_write_5 (by decide) ?_
  refine g_put (w' := [(a4, .inr (2, [.ref a17, .ref a1, .ref a27, .ref a28, .int 0, .int (-1)])), (a17, .inr (0, [.ref a20, .ref a21, .ref a22, .ref a23, .ref a24, .ref a25, .ref a26, .int 0])), (a29, .inr (6, [.int 1, .int 0, .ref a32, .ref a33, .ref a34, .ref a35, .ref a36, .int 0, .ref a37, .ref a38, .ref a39, .ref a40, .ref a41, .int 0, .ref a42, .ref a43, .ref a44])), (a36, .inl (dA 0, 400, .inl (fun _ => 0)))]) hx hb hg hown hK hP hD hS 2 rfl rfl inX6 tyX6_ok nmX6 0 (by decide) q400 rfl rfl rfl (Nat.le_of_ble_eq_true rfl) rfl dX2_write_6 (fun H locs hP hD hS => ?_)
  refine lv_iconst (v := 0) hx hb dX2_write_9 (by decide) ?_
  refine lv_istore_n (lv' := [(2, .int 0), (0, .ref a4), (1, .ref a29)]) hx hb dX2_write_10 rfl hl (by decide) rfl (fun ls hl => ?_)
  refine lv_iload_n hx hb dX2_write_11 rfl (lv_at hl 0 rfl) ?_
  refine lv_aload_n hx hb dX2_write_12 rfl (lv_at hl 1 rfl) ?_
  refine g_get hx hb hg hown hK hP 0 rfl rfl inX2 4 (by decide) q375 rfl dX2_write_13 ?_
  refine lv_icmp_ge (tgt := 60) hx hb dX2_write_16 (by decide) (fun _ => ?_) (fun h => absurd (by decide) h)
  refine lv_iconst (v := 0) hx hb dX2_write_60 (by decide) ?_
  refine lv_istore_n (lv' := [(2, .int 0), (0, .ref a4), (1, .ref a29)]) hx hb dX2_write_61 rfl hl (by decide) rfl (fun ls hl => ?_)
  refine lv_iload_n hx hb dX2_write_62 rfl (lv_at hl 0 rfl) ?_
  refine lv_aload_n hx hb dX2_write_63 rfl (lv_at hl 1 rfl) ?_
  refine g_get hx hb hg hown hK hP 0 rfl rfl inX2 0 (by decide) q371 rfl dX2_write_64 ?_
  refine g_get hx hb hg hown hK hP 1 rfl rfl inX0 7 (by decide) q273 rfl dX2_write_67 ?_
  refine lv_icmp_ge (tgt := 154) hx hb dX2_write_70 (by decide) (fun _ => ?_) (fun h => absurd (by decide) h)
  obtain ⟨hP, hD⟩ := g_cut (is := [0, 1, 2, 3]) (w' := [(a4, .inr (2, [.ref a17, .ref a1, .ref a27, .ref a28, .int 0, .int (-1)])), (a17, .inr (0, [.ref a20, .ref a21, .ref a22, .ref a23, .ref a24, .ref a25, .ref a26, .int 0])), (a29, .inr (6, [.int 1, .int 0, .ref a32, .ref a33, .ref a34, .ref a35, .ref a36, .int 0, .ref a37, .ref a38, .ref a39, .ref a40, .ref a41, .int 0, .ref a42, .ref a43, .ref a44])), (a36, .inl (dA 0, 400, .inl (fun _ => 0)))]) hP hD (by decide) rfl rfl
  exact g_vret hx hb hr hlocks hK (fun k => ([] : List Nat).getD k 0) hP hD hS trivial (Nat.le_of_ble_eq_true rfl) (Nat.le_of_ble_eq_true rfl) dX2_write_154
set_option maxHeartbeats 4000000 in
set_option maxRecDepth 100000 in
theorem c_X3_hasModules (l : Launch) (D : va_G) (dA : Nat → ClassId) (a6 : Nat) (a5 : Nat) (a71 : Nat) (a72 : Nat) (a73 : Nat) (a74 : Nat) (a75 : Nat) (a29 : Nat) (a30 : Nat) (a31 : Nat) (a32 : Nat) (a33 : Nat) (a34 : Nat) (a35 : Nat) (a36 : Nat) (a37 : Nat) (a38 : Nat) (a39 : Nat) (a40 : Nat) (a41 : Nat) (a42 : Nat) (a43 : Nat) (a44 : Nat) (a45 : Nat) (a46 : Nat) (a47 : Nat) (a48 : Nat) (a49 : Nat) (a50 : Nat) (a51 : Nat) (a52 : Nat) (a53 : Nat) (a54 : Nat) (a55 : Nat) (a56 : Nat) (a57 : Nat) (a58 : Nat) (a59 : Nat) (a60 : Nat) (a61 : Nat) (a62 : Nat) (a63 : Nat) (a64 : Nat) (a65 : Nat) (a66 : Nat) (a67 : Nat) (a68 : Nat) (a69 : Nat) (a70 : Nat) (sz : Nat) : Met l yX3_hasModules (gws yX3_hasModules cX3_hasModules 2 (some .boolean)) (gR 2 0 0) (gPre D dA [.ref a6] [(a6, .inr (3, [.ref a5, .ref a71, .ref a72, .ref a73, .int 0, .ref a74, .ref a75])), (a5, .inl (dA 4, 3, .inr (.inr (.inr (.inr (gM a29 a30 a31)))))), (a29, .inr (6, [.int 0, .int 0, .ref a32, .ref a33, .ref a34, .ref a35, .ref a36, .int 0, .ref a37, .ref a38, .ref a39, .ref a40, .ref a41, .int 0, .ref a42, .ref a43, .ref a44])), (a30, .inr (6, [.int 0, .int 0, .ref a45, .ref a46, .ref a47, .ref a48, .ref a49, .int 0, .ref a50, .ref a51, .ref a52, .ref a53, .ref a54, .int 0, .ref a55, .ref a56, .ref a57])), (a31, .inr (6, [.int 0, .int 0, .ref a58, .ref a59, .ref a60, .ref a61, .ref a62, .int 0, .ref a63, .ref a64, .ref a65, .ref a66, .ref a67, .int 0, .ref a68, .ref a69, .ref a70]))] sz) (va_Qi (fun (r : Int32) (_ : Nat → Nat) => r = 0) (gAt D dA (va_A [(a6, .inr (3, [.ref a5, .ref a71, .ref a72, .ref a73, .int 0, .ref a74, .ref a75])), (a5, .inl (dA 4, 3, .inr (.inr (.inr (.inr (gM a29 a30 a31)))))), (a29, .inr (6, [.int 0, .int 0, .ref a32, .ref a33, .ref a34, .ref a35, .ref a36, .int 0, .ref a37, .ref a38, .ref a39, .ref a40, .ref a41, .int 0, .ref a42, .ref a43, .ref a44])), (a30, .inr (6, [.int 0, .int 0, .ref a45, .ref a46, .ref a47, .ref a48, .ref a49, .int 0, .ref a50, .ref a51, .ref a52, .ref a53, .ref a54, .int 0, .ref a55, .ref a56, .ref a57])), (a31, .inr (6, [.int 0, .int 0, .ref a58, .ref a59, .ref a60, .ref a61, .ref a62, .int 0, .ref a63, .ref a64, .ref a65, .ref a66, .ref a67, .int 0, .ref a68, .ref a69, .ref a70]))] sz) (fun ad : Nat → Nat => [(a6, .inr (3, [.ref a5, .ref a71, .ref a72, .ref a73, .int 0, .ref a74, .ref a75])), (a5, .inl (dA 4, 3, .inr (.inr (.inr (.inr (gM a29 a30 a31)))))), (a29, .inr (6, [.int 0, .int 0, .ref a32, .ref a33, .ref a34, .ref a35, .ref a36, .int 0, .ref a37, .ref a38, .ref a39, .ref a40, .ref a41, .int 0, .ref a42, .ref a43, .ref a44])), (a30, .inr (6, [.int 0, .int 0, .ref a45, .ref a46, .ref a47, .ref a48, .ref a49, .int 0, .ref a50, .ref a51, .ref a52, .ref a53, .ref a54, .int 0, .ref a55, .ref a56, .ref a57])), (a31, .inr (6, [.int 0, .int 0, .ref a58, .ref a59, .ref a60, .ref a61, .ref a62, .int 0, .ref a63, .ref a64, .ref a65, .ref a66, .ref a67, .int 0, .ref a68, .ref a69, .ref a70]))])) (va_A [(a6, .inr (3, [.ref a5, .ref a71, .ref a72, .ref a73, .int 0, .ref a74, .ref a75])), (a5, .inl (dA 4, 3, .inr (.inr (.inr (.inr (gM a29 a30 a31)))))), (a29, .inr (6, [.int 0, .int 0, .ref a32, .ref a33, .ref a34, .ref a35, .ref a36, .int 0, .ref a37, .ref a38, .ref a39, .ref a40, .ref a41, .int 0, .ref a42, .ref a43, .ref a44])), (a30, .inr (6, [.int 0, .int 0, .ref a45, .ref a46, .ref a47, .ref a48, .ref a49, .int 0, .ref a50, .ref a51, .ref a52, .ref a53, .ref a54, .int 0, .ref a55, .ref a56, .ref a57])), (a31, .inr (6, [.int 0, .int 0, .ref a58, .ref a59, .ref a60, .ref a61, .ref a62, .int 0, .ref a63, .ref a64, .ref a65, .ref a66, .ref a67, .int 0, .ref a68, .ref a69, .ref a70]))] sz)) 0 0 (va_A [(a6, .inr (3, [.ref a5, .ref a71, .ref a72, .ref a73, .int 0, .ref a74, .ref a75])), (a5, .inl (dA 4, 3, .inr (.inr (.inr (.inr (gM a29 a30 a31)))))), (a29, .inr (6, [.int 0, .int 0, .ref a32, .ref a33, .ref a34, .ref a35, .ref a36, .int 0, .ref a37, .ref a38, .ref a39, .ref a40, .ref a41, .int 0, .ref a42, .ref a43, .ref a44])), (a30, .inr (6, [.int 0, .int 0, .ref a45, .ref a46, .ref a47, .ref a48, .ref a49, .int 0, .ref a50, .ref a51, .ref a52, .ref a53, .ref a54, .int 0, .ref a55, .ref a56, .ref a57])), (a31, .inr (6, [.int 0, .int 0, .ref a58, .ref a59, .ref a60, .ref a61, .ref a62, .int 0, .ref a63, .ref a64, .ref a65, .ref a66, .ref a67, .int 0, .ref a68, .ref a69, .ref a70]))] sz) := by
  refine Met.ofW (cc := cX3_hasModules) (maxL := 2) (ret := (some .boolean)) (by decide) rfl ?_
  intro p e s m args below meth c s₁ B hml hv
  obtain ⟨rfl, hsz, hP, hK, hD0⟩ := hv
  have hx := B.exec
  have hb := B.bytes
  have hr := B.returns
  have hts := atoms_spec (ws := gws yX3_hasModules cX3_hasModules 2 (some .boolean)) B.pre
  have hg : ∀ w ∈ gw, w.before _ s = true := fun w h => hts w (List.mem_cons_of_mem _ h)
  have hown : s.vm.findClass RX3 = some m.cls := findClass_of_methodNamed B.named
  have hlocks := B.notSynchronized
  subst hsz
  have hD := hD0.self (sz := s.heap.size)
  generalize hAe : va_A [(a6, .inr (3, [.ref a5, .ref a71, .ref a72, .ref a73, .int 0, .ref a74, .ref a75])), (a5, .inl (dA 4, 3, .inr (.inr (.inr (.inr (gM a29 a30 a31)))))), (a29, .inr (6, [.int 0, .int 0, .ref a32, .ref a33, .ref a34, .ref a35, .ref a36, .int 0, .ref a37, .ref a38, .ref a39, .ref a40, .ref a41, .int 0, .ref a42, .ref a43, .ref a44])), (a30, .inr (6, [.int 0, .int 0, .ref a45, .ref a46, .ref a47, .ref a48, .ref a49, .int 0, .ref a50, .ref a51, .ref a52, .ref a53, .ref a54, .int 0, .ref a55, .ref a56, .ref a57])), (a31, .inr (6, [.int 0, .int 0, .ref a58, .ref a59, .ref a60, .ref a61, .ref a62, .int 0, .ref a63, .ref a64, .ref a65, .ref a66, .ref a67, .int 0, .ref a68, .ref a69, .ref a70]))] s.heap.size = A at hD ⊢
  have hA : ∀ q : Nat, s.heap.size ≤ q → A q := fun q h => by rw [← hAe]; exact Or.inr h
  have hS : va_S A s.heap s.heap [] := va_S.rf
  have hP : va_P D vwC [(a6, .inr (3, [.ref a5, .ref a71, .ref a72, .ref a73, .int 0, .ref a74, .ref a75])), (a5, .inl (dA 4, 3, .inr (.inr (.inr (.inr (gM a29 a30 a31)))))), (a29, .inr (6, [.int 0, .int 0, .ref a32, .ref a33, .ref a34, .ref a35, .ref a36, .int 0, .ref a37, .ref a38, .ref a39, .ref a40, .ref a41, .int 0, .ref a42, .ref a43, .ref a44])), (a30, .inr (6, [.int 0, .int 0, .ref a45, .ref a46, .ref a47, .ref a48, .ref a49, .int 0, .ref a50, .ref a51, .ref a52, .ref a53, .ref a54, .int 0, .ref a55, .ref a56, .ref a57])), (a31, .inr (6, [.int 0, .int 0, .ref a58, .ref a59, .ref a60, .ref a61, .ref a62, .int 0, .ref a63, .ref a64, .ref a65, .ref a66, .ref a67, .int 0, .ref a68, .ref a69, .ref a70]))] s.heap := hP
  have hl := lv_entry ([.ref a6]) (n := 2) (Nat.le_of_ble_eq_true rfl)
  rw [lg_entry_eq]
  generalize (lg_sl ([.ref a6]) ++ List.replicate (2 - (lg_sl ([.ref a6])).length) Slot.unset).toArray = ls at hl ⊢
  have hl : lv_has ls 2 [(0, .ref a6)] := hl
  refine lv_iconst (v := 0) hx hb dX3_hasModules_0 (by decide) ?_
  refine lv_istore_n (lv' := [(1, .int 0), (0, .ref a6)]) hx hb dX3_hasModules_1 rfl hl (by decide) rfl (fun ls hl => ?_)
  refine lv_iload_n hx hb dX3_hasModules_2 rfl (lv_at hl 0 rfl) ?_
  refine lv_iconst (v := 3) hx hb dX3_hasModules_3 (by decide) ?_
  refine lv_icmp_ge (tgt := 27) hx hb dX3_hasModules_4 (by decide) (fun h => absurd h (by decide)) (fun _ => ?_)
  refine lv_aload_n hx hb dX3_hasModules_7 rfl (lv_at hl 1 rfl) ?_
  refine g_get hx hb hg hown hK hP 0 rfl rfl inX3 0 (by decide) q483 rfl dX3_hasModules_8 ?_
  refine lv_iload_n hx hb dX3_hasModules_11 rfl (lv_at hl 0 rfl) ?_
  refine va_aldq hx hb hK hP 1 4 rfl rfl (by unfold vp_in; decide) dX3_hasModules_12 ?_
  refine g_topv (gM_0 _ _ _) ?_
  refine g_get hx hb hg hown hK hP 2 rfl rfl inX6 0 (by decide) q398 rfl dX3_hasModules_13 ?_
  refine lv_if_eq (tgt := 21) hx hb dX3_hasModules_16 (by decide) (fun _ => ?_) (fun h => absurd (by decide) h)
  refine lv_iinc (v := 1) (lv' := [(1, .int 1), (0, .ref a6)]) hx hb dX3_hasModules_21 hl (k := 0) rfl (by decide) (by decide) rfl (fun ls hl => ?_)
  refine lv_goto (tgt := 2) hx hb dX3_hasModules_24 (by decide) ?_
  refine lv_iload_n hx hb dX3_hasModules_2 rfl (lv_at hl 0 rfl) ?_
  refine lv_iconst (v := 3) hx hb dX3_hasModules_3 (by decide) ?_
  refine lv_icmp_ge (tgt := 27) hx hb dX3_hasModules_4 (by decide) (fun h => absurd h (by decide)) (fun _ => ?_)
  refine lv_aload_n hx hb dX3_hasModules_7 rfl (lv_at hl 1 rfl) ?_
  refine g_get hx hb hg hown hK hP 0 rfl rfl inX3 0 (by decide) q483 rfl dX3_hasModules_8 ?_
  refine lv_iload_n hx hb dX3_hasModules_11 rfl (lv_at hl 0 rfl) ?_
  refine va_aldq hx hb hK hP 1 4 rfl rfl (by unfold vp_in; decide) dX3_hasModules_12 ?_
  refine g_topv (gM_1 _ _ _) ?_
  refine g_get hx hb hg hown hK hP 3 rfl rfl inX6 0 (by decide) q398 rfl dX3_hasModules_13 ?_
  refine lv_if_eq (tgt := 21) hx hb dX3_hasModules_16 (by decide) (fun _ => ?_) (fun h => absurd (by decide) h)
  refine lv_iinc (v := 2) (lv' := [(1, .int 2), (0, .ref a6)]) hx hb dX3_hasModules_21 hl (k := 0) rfl (by decide) (by decide) rfl (fun ls hl => ?_)
  refine lv_goto (tgt := 2) hx hb dX3_hasModules_24 (by decide) ?_
  refine lv_iload_n hx hb dX3_hasModules_2 rfl (lv_at hl 0 rfl) ?_
  refine lv_iconst (v := 3) hx hb dX3_hasModules_3 (by decide) ?_
  refine lv_icmp_ge (tgt := 27) hx hb dX3_hasModules_4 (by decide) (fun h => absurd h (by decide)) (fun _ => ?_)
  refine lv_aload_n hx hb dX3_hasModules_7 rfl (lv_at hl 1 rfl) ?_
  refine g_get hx hb hg hown hK hP 0 rfl rfl inX3 0 (by decide) q483 rfl dX3_hasModules_8 ?_
  refine lv_iload_n hx hb dX3_hasModules_11 rfl (lv_at hl 0 rfl) ?_
  refine va_aldq hx hb hK hP 1 4 rfl rfl (by unfold vp_in; decide) dX3_hasModules_12 ?_
  refine g_topv (gM_2 _ _ _) ?_
  refine g_get hx hb hg hown hK hP 4 rfl rfl inX6 0 (by decide) q398 rfl dX3_hasModules_13 ?_
  refine lv_if_eq (tgt := 21) hx hb dX3_hasModules_16 (by decide) (fun _ => ?_) (fun h => absurd (by decide) h)
  refine lv_iinc (v := 3) (lv' := [(1, .int 3), (0, .ref a6)]) hx hb dX3_hasModules_21 hl (k := 0) rfl (by decide) (by decide) rfl (fun ls hl => ?_)
  refine lv_goto (tgt := 2) hx hb dX3_hasModules_24 (by decide) ?_
  refine lv_iload_n hx hb dX3_hasModules_2 rfl (lv_at hl 0 rfl) ?_
  refine lv_iconst (v := 3) hx hb dX3_hasModules_3 (by decide) ?_
  refine lv_icmp_ge (tgt := 27) hx hb dX3_hasModules_4 (by decide) (fun _ => ?_) (fun h => absurd (by decide) h)
  refine lv_iconst (v := 0) hx hb dX3_hasModules_27 (by decide) ?_
  obtain ⟨hP, hD⟩ := g_cut (is := [0, 1, 2, 3, 4]) (w' := [(a6, .inr (3, [.ref a5, .ref a71, .ref a72, .ref a73, .int 0, .ref a74, .ref a75])), (a5, .inl (dA 4, 3, .inr (.inr (.inr (.inr (gM a29 a30 a31)))))), (a29, .inr (6, [.int 0, .int 0, .ref a32, .ref a33, .ref a34, .ref a35, .ref a36, .int 0, .ref a37, .ref a38, .ref a39, .ref a40, .ref a41, .int 0, .ref a42, .ref a43, .ref a44])), (a30, .inr (6, [.int 0, .int 0, .ref a45, .ref a46, .ref a47, .ref a48, .ref a49, .int 0, .ref a50, .ref a51, .ref a52, .ref a53, .ref a54, .int 0, .ref a55, .ref a56, .ref a57])), (a31, .inr (6, [.int 0, .int 0, .ref a58, .ref a59, .ref a60, .ref a61, .ref a62, .int 0, .ref a63, .ref a64, .ref a65, .ref a66, .ref a67, .int 0, .ref a68, .ref a69, .ref a70]))]) hP hD (by decide) rfl rfl
  exact g_iret hx hb hr rfl hlocks hK (fun k => ([] : List Nat).getD k 0) hP hD hS rfl (Nat.le_of_ble_eq_true rfl) (Nat.le_of_ble_eq_true rfl) dX3_hasModules_28
