theorem q28 : Cond.selects RX2 yX2_declareAll yX2_declareAll ∈ gw := gw_in (i := 28) (by decide +kernel) rfl
theorem q29 : Cond.selects RX2 yX2_openSegment yX2_openSegment ∈ gw := gw_in (i := 29) (by decide +kernel) rfl
theorem q30 : Cond.selects RX2 yX2_mayDeclare yX2_mayDeclare ∈ gw := gw_in (i := 30) (by decide +kernel) rfl
theorem q32 : Cond.selects RX2 yX2_declare yX2_declare ∈ gw := gw_in (i := 32) (by decide +kernel) rfl
theorem q33 : Cond.selects RX2 yX2_isUseRight yX2_isUseRight ∈ gw := gw_in (i := 33) (by decide +kernel) rfl
theorem q36 : Cond.selects RX2 yX2_isExtern yX2_isExtern ∈ gw := gw_in (i := 36) (by decide +kernel) rfl
theorem q37 : Cond.selects RX2 yX2_distance yX2_distance ∈ gw := gw_in (i := 37) (by decide +kernel) rfl
theorem q150 : Cond.initialized RX5 ∈ gw := gw_in (i := 150) (by decide +kernel) rfl
theorem q177 : Cond.initialized RJ7 ∈ gw := gw_in (i := 177) (by decide +kernel) rfl
theorem q199 : Cond.fieldLink RX2 89 "SegmentBench$Names" "segment" "[I" ∈ gw := gw_in (i := 199) (by decide +kernel) rfl
theorem q201 : Cond.fieldLink RX2 86 "SegmentBench$Names" "align" "[I" ∈ gw := gw_in (i := 201) (by decide +kernel) rfl
theorem q203 : Cond.fieldLink RX2 110 "SegmentBench$Names" "offset" "[I" ∈ gw := gw_in (i := 203) (by decide +kernel) rfl
theorem q258 : Cond.fieldLink RX2 57 "SegmentBench$Draft" "type" "[I" ∈ gw := gw_in (i := 258) (by decide +kernel) rfl
theorem q260 : Cond.fieldLink RX2 83 "SegmentBench$Draft" "value" "[I" ∈ gw := gw_in (i := 260) (by decide +kernel) rfl
theorem q268 : Cond.fieldLink RX2 68 "SegmentBench$Draft" "segment" "[I" ∈ gw := gw_in (i := 268) (by decide +kernel) rfl
theorem q270 : Cond.fieldLink RX2 103 "SegmentBench$Draft" "offset" "[I" ∈ gw := gw_in (i := 270) (by decide +kernel) rfl
theorem q273 : Cond.fieldLink RX2 41 "SegmentBench$Draft" "size" "I" ∈ gw := gw_in (i := 273) (by decide +kernel) rfl
theorem q373 : Cond.fieldLink RX2 19 "SegmentBench$Layout" "segmentName" "[I" ∈ gw := gw_in (i := 373) (by decide +kernel) rfl
theorem q374 : Cond.fieldLink RX2 23 "SegmentBench$Layout" "segmentSize" "[I" ∈ gw := gw_in (i := 374) (by decide +kernel) rfl
theorem q375 : Cond.fieldLink RX2 26 "SegmentBench$Layout" "segments" "I" ∈ gw := gw_in (i := 375) (by decide +kernel) rfl
theorem q1110 : Cond.methodLink RX2 38 yX2_declareAll ∈ gw := gw_in (i := 1110) (by decide +kernel) rfl
theorem q1112 : Cond.instanceMethod yX2_declareAll ∈ gw := gw_in (i := 1112) (by decide +kernel) rfl
theorem q1113 : Cond.code yX2_declareAll cX2_declareAll 3 none ∈ gw := gw_in (i := 1113) (by decide +kernel) rfl
theorem q1114 : Cond.methodLink RX2 60 yX2_openSegment ∈ gw := gw_in (i := 1114) (by decide +kernel) rfl
theorem q1116 : Cond.instanceMethod yX2_openSegment ∈ gw := gw_in (i := 1116) (by decide +kernel) rfl
theorem q1117 : Cond.code yX2_openSegment cX2_openSegment 5 (some .int) ∈ gw := gw_in (i := 1117) (by decide +kernel) rfl
theorem q1118 : Cond.methodLink RX2 77 yX2_mayDeclare ∈ gw := gw_in (i := 1118) (by decide +kernel) rfl
theorem q1120 : Cond.instanceMethod yX2_mayDeclare ∈ gw := gw_in (i := 1120) (by decide +kernel) rfl
theorem q1121 : Cond.code yX2_mayDeclare cX2_mayDeclare 3 (some .boolean) ∈ gw := gw_in (i := 1121) (by decide +kernel) rfl
theorem q1126 : Cond.methodLink RX2 80 yX5_make ∈ gw := gw_in (i := 1126) (by decide +kernel) rfl
theorem q1127 : Cond.instanceMethod yX5_make ∈ gw := gw_in (i := 1127) (by decide +kernel) rfl
theorem q1128 : Cond.selects RX5 yX5_make yX5_make ∈ gw := gw_in (i := 1128) (by decide +kernel) rfl
theorem q1129 : Cond.code yX5_make cX5_make 4 none ∈ gw := gw_in (i := 1129) (by decide +kernel) rfl
theorem q1130 : Cond.methodLink RX2 64 yX2_declare ∈ gw := gw_in (i := 1130) (by decide +kernel) rfl
theorem q1132 : Cond.instanceMethod yX2_declare ∈ gw := gw_in (i := 1132) (by decide +kernel) rfl
theorem q1133 : Cond.code yX2_declare cX2_declare 4 none ∈ gw := gw_in (i := 1133) (by decide +kernel) rfl
theorem q1134 : Cond.methodLink RX2 46 yX2_isUseRight ∈ gw := gw_in (i := 1134) (by decide +kernel) rfl
theorem q1136 : Cond.instanceMethod yX2_isUseRight ∈ gw := gw_in (i := 1136) (by decide +kernel) rfl
theorem q1137 : Cond.code yX2_isUseRight cX2_isUseRight 5 (some .boolean) ∈ gw := gw_in (i := 1137) (by decide +kernel) rfl
theorem q1162 : Cond.methodLink RX2 97 yJ7_fill_53178 ∈ gw := gw_in (i := 1162) (by decide +kernel) rfl
theorem q1163 : Cond.static yJ7_fill_53178 ∈ gw := gw_in (i := 1163) (by decide +kernel) rfl
theorem q1164 : Cond.code yJ7_fill_53178 cJ7_fill_53178 4 none ∈ gw := gw_in (i := 1164) (by decide +kernel) rfl
theorem q1165 : Cond.methodLink RX2 106 yX0_bytesOf ∈ gw := gw_in (i := 1165) (by decide +kernel) rfl
theorem q1166 : Cond.instanceMethod yX0_bytesOf ∈ gw := gw_in (i := 1166) (by decide +kernel) rfl
theorem q1167 : Cond.selects RX0 yX0_bytesOf yX0_bytesOf ∈ gw := gw_in (i := 1167) (by decide +kernel) rfl
theorem q1168 : Cond.code yX0_bytesOf cX0_bytesOf 2 (some .int) ∈ gw := gw_in (i := 1168) (by decide +kernel) rfl
theorem q1173 : Cond.methodLink RX2 111 yX2_isExtern ∈ gw := gw_in (i := 1173) (by decide +kernel) rfl
theorem q1175 : Cond.instanceMethod yX2_isExtern ∈ gw := gw_in (i := 1175) (by decide +kernel) rfl
theorem q1176 : Cond.code yX2_isExtern cX2_isExtern 2 (some .boolean) ∈ gw := gw_in (i := 1176) (by decide +kernel) rfl
theorem q1177 : Cond.methodLink RX2 114 yX2_distance ∈ gw := gw_in (i := 1177) (by decide +kernel) rfl
theorem q1179 : Cond.instanceMethod yX2_distance ∈ gw := gw_in (i := 1179) (by decide +kernel) rfl
theorem q1180 : Cond.code yX2_distance cX2_distance 2 (some .int) ∈ gw := gw_in (i := 1180) (by decide +kernel) rfl
theorem q1181 : Cond.methodLink RX2 117 yX2_isShort ∈ gw := gw_in (i := 1181) (by decide +kernel) rfl
theorem dX5_make_0 : decode cX5_make 0 = .ok (.aload_n 0, 1) := by decide +kernel
theorem dX5_make_1 : decode cX5_make 1 = .ok (.getfield 15, 3) := by decide +kernel
theorem dX5_make_4 : decode cX5_make 4 = .ok (.iload_n 1, 1) := by decide +kernel
theorem dX5_make_5 : decode cX5_make 5 = .ok (.iload_n 2, 1) := by decide +kernel
theorem dX5_make_6 : decode cX5_make 6 = .ok (.iastore, 1) := by decide +kernel
theorem dX5_make_7 : decode cX5_make 7 = .ok (.aload_n 0, 1) := by decide +kernel
theorem dX5_make_8 : decode cX5_make 8 = .ok (.getfield 19, 3) := by decide +kernel
theorem dX5_make_11 : decode cX5_make 11 = .ok (.iload_n 1, 1) := by decide +kernel
theorem dX5_make_12 : decode cX5_make 12 = .ok (.iload_n 3, 1) := by decide +kernel
theorem dX5_make_13 : decode cX5_make 13 = .ok (.iastore, 1) := by decide +kernel
theorem dX5_make_14 : decode cX5_make 14 = .ok (.return_, 1) := by decide +kernel
theorem dX2_openSegment_0 : decode cX2_openSegment 0 = .ok (.aload_n 0, 1) := by decide +kernel
theorem dX2_openSegment_1 : decode cX2_openSegment 1 = .ok (.getfield 9, 3) := by decide +kernel
theorem dX2_openSegment_4 : decode cX2_openSegment 4 = .ok (.getfield 74, 3) := by decide +kernel
theorem dX2_openSegment_7 : decode cX2_openSegment 7 = .ok (.iload_n 1, 1) := by decide +kernel
theorem dX2_openSegment_8 : decode cX2_openSegment 8 = .ok (.iaload, 1) := by decide +kernel
theorem dX2_openSegment_9 : decode cX2_openSegment 9 = .ok (.istore_n 3, 1) := by decide +kernel
theorem dX2_openSegment_10 : decode cX2_openSegment 10 = .ok (.aload_n 0, 1) := by decide +kernel
theorem dX2_openSegment_11 : decode cX2_openSegment 11 = .ok (.getfield 9, 3) := by decide +kernel
theorem dX2_openSegment_14 : decode cX2_openSegment 14 = .ok (.getfield 83, 3) := by decide +kernel
theorem dX2_openSegment_17 : decode cX2_openSegment 17 = .ok (.iload_n 1, 1) := by decide +kernel
theorem dX2_openSegment_18 : decode cX2_openSegment 18 = .ok (.iaload, 1) := by decide +kernel
theorem dX2_openSegment_19 : decode cX2_openSegment 19 = .ok (.istore 4, 2) := by decide +kernel
theorem dX2_openSegment_21 : decode cX2_openSegment 21 = .ok (.aload_n 0, 1) := by decide +kernel
theorem dX2_openSegment_22 : decode cX2_openSegment 22 = .ok (.getfield 15, 3) := by decide +kernel
theorem dX2_openSegment_25 : decode cX2_openSegment 25 = .ok (.getfield 71, 3) := by decide +kernel
theorem dX2_openSegment_28 : decode cX2_openSegment 28 = .ok (.iload_n 3, 1) := by decide +kernel
theorem dX2_openSegment_29 : decode cX2_openSegment 29 = .ok (.iaload, 1) := by decide +kernel
theorem dX2_openSegment_30 : decode cX2_openSegment 30 = .ok (.iconst 1, 1) := by decide +kernel
theorem dX2_openSegment_31 : decode cX2_openSegment 31 = .ok (.if_icmp .ne 27, 3) := by decide +kernel
theorem dX2_openSegment_34 : decode cX2_openSegment 34 = .ok (.aload_n 0, 1) := by decide +kernel
theorem dX2_openSegment_35 : decode cX2_openSegment 35 = .ok (.getfield 15, 3) := by decide +kernel
theorem dX2_openSegment_38 : decode cX2_openSegment 38 = .ok (.getfield 86, 3) := by decide +kernel
theorem dX2_openSegment_41 : decode cX2_openSegment 41 = .ok (.iload_n 3, 1) := by decide +kernel
theorem dX2_openSegment_42 : decode cX2_openSegment 42 = .ok (.iaload, 1) := by decide +kernel
theorem dX2_openSegment_43 : decode cX2_openSegment 43 = .ok (.iload 4, 2) := by decide +kernel
theorem dX2_openSegment_45 : decode cX2_openSegment 45 = .ok (.if_icmp .ne 13, 3) := by decide +kernel
theorem dX2_openSegment_48 : decode cX2_openSegment 48 = .ok (.aload_n 0, 1) := by decide +kernel
theorem dX2_openSegment_49 : decode cX2_openSegment 49 = .ok (.getfield 15, 3) := by decide +kernel
theorem dX2_openSegment_52 : decode cX2_openSegment 52 = .ok (.getfield 89, 3) := by decide +kernel
theorem dX2_openSegment_55 : decode cX2_openSegment 55 = .ok (.iload_n 3, 1) := by decide +kernel
theorem dX2_openSegment_56 : decode cX2_openSegment 56 = .ok (.iaload, 1) := by decide +kernel
theorem dX2_openSegment_57 : decode cX2_openSegment 57 = .ok (.ireturn, 1) := by decide +kernel
theorem dX2_openSegment_58 : decode cX2_openSegment 58 = .ok (.aload_n 0, 1) := by decide +kernel
theorem dX2_openSegment_59 : decode cX2_openSegment 59 = .ok (.iload_n 1, 1) := by decide +kernel
theorem dX2_openSegment_60 : decode cX2_openSegment 60 = .ok (.invokevirtual 77, 3) := by decide +kernel
theorem dX2_openSegment_63 : decode cX2_openSegment 63 = .ok (.ifCond .eq 12, 3) := by decide +kernel
theorem dX2_openSegment_66 : decode cX2_openSegment 66 = .ok (.aload_n 0, 1) := by decide +kernel
theorem dX2_openSegment_67 : decode cX2_openSegment 67 = .ok (.getfield 26, 3) := by decide +kernel
theorem dX2_openSegment_70 : decode cX2_openSegment 70 = .ok (.bipush 60, 2) := by decide +kernel
theorem dX2_openSegment_72 : decode cX2_openSegment 72 = .ok (.if_icmp .lt 5, 3) := by decide +kernel
theorem dX2_openSegment_77 : decode cX2_openSegment 77 = .ok (.aload_n 0, 1) := by decide +kernel
theorem dX2_openSegment_78 : decode cX2_openSegment 78 = .ok (.getfield 15, 3) := by decide +kernel
theorem dX2_openSegment_81 : decode cX2_openSegment 81 = .ok (.iload_n 3, 1) := by decide +kernel
theorem dX2_openSegment_82 : decode cX2_openSegment 82 = .ok (.iconst 1, 1) := by decide +kernel
theorem dX2_openSegment_83 : decode cX2_openSegment 83 = .ok (.aload_n 0, 1) := by decide +kernel
theorem dX2_openSegment_84 : decode cX2_openSegment 84 = .ok (.getfield 26, 3) := by decide +kernel
theorem dX2_openSegment_87 : decode cX2_openSegment 87 = .ok (.invokevirtual 80, 3) := by decide +kernel
theorem dX2_openSegment_90 : decode cX2_openSegment 90 = .ok (.aload_n 0, 1) := by decide +kernel
theorem dX2_openSegment_91 : decode cX2_openSegment 91 = .ok (.getfield 15, 3) := by decide +kernel
theorem dX2_openSegment_94 : decode cX2_openSegment 94 = .ok (.getfield 86, 3) := by decide +kernel
theorem dX2_openSegment_97 : decode cX2_openSegment 97 = .ok (.iload_n 3, 1) := by decide +kernel
theorem dX2_openSegment_98 : decode cX2_openSegment 98 = .ok (.iload 4, 2) := by decide +kernel
theorem dX2_openSegment_100 : decode cX2_openSegment 100 = .ok (.iastore, 1) := by decide +kernel
theorem dX2_openSegment_101 : decode cX2_openSegment 101 = .ok (.aload_n 0, 1) := by decide +kernel
theorem dX2_openSegment_102 : decode cX2_openSegment 102 = .ok (.getfield 19, 3) := by decide +kernel
theorem dX2_openSegment_105 : decode cX2_openSegment 105 = .ok (.aload_n 0, 1) := by decide +kernel
theorem dX2_openSegment_106 : decode cX2_openSegment 106 = .ok (.getfield 26, 3) := by decide +kernel
theorem dX2_openSegment_109 : decode cX2_openSegment 109 = .ok (.iload_n 3, 1) := by decide +kernel
theorem dX2_openSegment_110 : decode cX2_openSegment 110 = .ok (.iastore, 1) := by decide +kernel
theorem dX2_openSegment_111 : decode cX2_openSegment 111 = .ok (.aload_n 0, 1) := by decide +kernel
theorem dX2_openSegment_112 : decode cX2_openSegment 112 = .ok (.dup, 1) := by decide +kernel
theorem dX2_openSegment_113 : decode cX2_openSegment 113 = .ok (.getfield 26, 3) := by decide +kernel
theorem dX2_openSegment_116 : decode cX2_openSegment 116 = .ok (.iconst 1, 1) := by decide +kernel
theorem dX2_openSegment_117 : decode cX2_openSegment 117 = .ok (.iadd, 1) := by decide +kernel
theorem dX2_openSegment_118 : decode cX2_openSegment 118 = .ok (.putfield 26, 3) := by decide +kernel
theorem dX2_openSegment_121 : decode cX2_openSegment 121 = .ok (.aload_n 0, 1) := by decide +kernel
theorem dX2_openSegment_122 : decode cX2_openSegment 122 = .ok (.getfield 26, 3) := by decide +kernel
theorem dX2_openSegment_125 : decode cX2_openSegment 125 = .ok (.iconst 1, 1) := by decide +kernel
theorem dX2_openSegment_126 : decode cX2_openSegment 126 = .ok (.isub, 1) := by decide +kernel
theorem dX2_openSegment_127 : decode cX2_openSegment 127 = .ok (.ireturn, 1) := by decide +kernel
theorem dX2_openSegment_75 : decode cX2_openSegment 75 = .ok (.iload_n 2, 1) := by decide +kernel
theorem dX2_openSegment_76 : decode cX2_openSegment 76 = .ok (.ireturn, 1) := by decide +kernel
theorem dX2_declare_0 : decode cX2_declare 0 = .ok (.aload_n 0, 1) := by decide +kernel
theorem dX2_declare_1 : decode cX2_declare 1 = .ok (.iload_n 1, 1) := by decide +kernel
theorem dX2_declare_2 : decode cX2_declare 2 = .ok (.invokevirtual 77, 3) := by decide +kernel
theorem dX2_declare_5 : decode cX2_declare 5 = .ok (.ifCond .eq 21, 3) := by decide +kernel
theorem dX2_declare_8 : decode cX2_declare 8 = .ok (.aload_n 0, 1) := by decide +kernel
theorem dX2_declare_9 : decode cX2_declare 9 = .ok (.getfield 15, 3) := by decide +kernel
theorem dX2_declare_12 : decode cX2_declare 12 = .ok (.aload_n 0, 1) := by decide +kernel
theorem dX2_declare_13 : decode cX2_declare 13 = .ok (.getfield 9, 3) := by decide +kernel
theorem dX2_declare_16 : decode cX2_declare 16 = .ok (.getfield 74, 3) := by decide +kernel
theorem dX2_declare_19 : decode cX2_declare 19 = .ok (.iload_n 1, 1) := by decide +kernel
theorem dX2_declare_20 : decode cX2_declare 20 = .ok (.iaload, 1) := by decide +kernel
theorem dX2_declare_21 : decode cX2_declare 21 = .ok (.iload_n 2, 1) := by decide +kernel
theorem dX2_declare_22 : decode cX2_declare 22 = .ok (.iload_n 3, 1) := by decide +kernel
theorem dX2_declare_23 : decode cX2_declare 23 = .ok (.invokevirtual 80, 3) := by decide +kernel
theorem dX2_declare_26 : decode cX2_declare 26 = .ok (.return_, 1) := by decide +kernel
theorem dX2_declareAll_0 : decode cX2_declareAll 0 = .ok (.aload_n 0, 1) := by decide +kernel
theorem dX2_declareAll_1 : decode cX2_declareAll 1 = .ok (.iconst 0, 1) := by decide +kernel
theorem dX2_declareAll_2 : decode cX2_declareAll 2 = .ok (.putfield 26, 3) := by decide +kernel
theorem dX2_declareAll_5 : decode cX2_declareAll 5 = .ok (.iconst (-1), 1) := by decide +kernel
theorem dX2_declareAll_6 : decode cX2_declareAll 6 = .ok (.istore_n 1, 1) := by decide +kernel
theorem dX2_declareAll_7 : decode cX2_declareAll 7 = .ok (.iconst 0, 1) := by decide +kernel
theorem dX2_declareAll_8 : decode cX2_declareAll 8 = .ok (.istore_n 2, 1) := by decide +kernel
theorem dX2_declareAll_9 : decode cX2_declareAll 9 = .ok (.iload_n 2, 1) := by decide +kernel
theorem dX2_declareAll_10 : decode cX2_declareAll 10 = .ok (.aload_n 0, 1) := by decide +kernel
theorem dX2_declareAll_11 : decode cX2_declareAll 11 = .ok (.getfield 9, 3) := by decide +kernel
theorem dX2_declareAll_14 : decode cX2_declareAll 14 = .ok (.getfield 41, 3) := by decide +kernel
theorem dX2_declareAll_17 : decode cX2_declareAll 17 = .ok (.if_icmp .ge 89, 3) := by decide +kernel
theorem dX2_declareAll_106 : decode cX2_declareAll 106 = .ok (.return_, 1) := by decide +kernel
theorem dX2_declareAll_20 : decode cX2_declareAll 20 = .ok (.aload_n 0, 1) := by decide +kernel
theorem dX2_declareAll_21 : decode cX2_declareAll 21 = .ok (.getfield 9, 3) := by decide +kernel
theorem dX2_declareAll_24 : decode cX2_declareAll 24 = .ok (.getfield 57, 3) := by decide +kernel
theorem dX2_declareAll_27 : decode cX2_declareAll 27 = .ok (.iload_n 2, 1) := by decide +kernel
theorem dX2_declareAll_28 : decode cX2_declareAll 28 = .ok (.iaload, 1) := by decide +kernel
theorem dX2_declareAll_29 : decode cX2_declareAll 29 = .ok (.tableswitch 61 0 3 #[31, 41, 61, 51], 31) := by decide +kernel
theorem dX2_declareAll_60 : decode cX2_declareAll 60 = .ok (.aload_n 0, 1) := by decide +kernel
theorem dX2_declareAll_61 : decode cX2_declareAll 61 = .ok (.iload_n 2, 1) := by decide +kernel
theorem dX2_declareAll_62 : decode cX2_declareAll 62 = .ok (.iload_n 1, 1) := by decide +kernel
theorem dX2_declareAll_63 : decode cX2_declareAll 63 = .ok (.invokevirtual 60, 3) := by decide +kernel
theorem dX2_declareAll_66 : decode cX2_declareAll 66 = .ok (.istore_n 1, 1) := by decide +kernel
theorem dX2_declareAll_67 : decode cX2_declareAll 67 = .ok (.goto 23, 3) := by decide +kernel
theorem dX2_declareAll_70 : decode cX2_declareAll 70 = .ok (.aload_n 0, 1) := by decide +kernel
theorem dX2_declareAll_71 : decode cX2_declareAll 71 = .ok (.iload_n 2, 1) := by decide +kernel
theorem dX2_declareAll_72 : decode cX2_declareAll 72 = .ok (.iconst 2, 1) := by decide +kernel
theorem dX2_declareAll_73 : decode cX2_declareAll 73 = .ok (.iload_n 1, 1) := by decide +kernel
theorem dX2_declareAll_74 : decode cX2_declareAll 74 = .ok (.invokevirtual 64, 3) := by decide +kernel
theorem dX2_declareAll_77 : decode cX2_declareAll 77 = .ok (.goto 13, 3) := by decide +kernel
theorem dX2_declareAll_80 : decode cX2_declareAll 80 = .ok (.aload_n 0, 1) := by decide +kernel
theorem dX2_declareAll_81 : decode cX2_declareAll 81 = .ok (.iload_n 2, 1) := by decide +kernel
theorem dX2_declareAll_82 : decode cX2_declareAll 82 = .ok (.iconst 3, 1) := by decide +kernel
theorem dX2_declareAll_83 : decode cX2_declareAll 83 = .ok (.iconst (-1), 1) := by decide +kernel
theorem dX2_declareAll_84 : decode cX2_declareAll 84 = .ok (.invokevirtual 64, 3) := by decide +kernel
theorem dX2_declareAll_87 : decode cX2_declareAll 87 = .ok (.goto 3, 3) := by decide +kernel
theorem dX2_declareAll_90 : decode cX2_declareAll 90 = .ok (.aload_n 0, 1) := by decide +kernel
theorem dX2_declareAll_91 : decode cX2_declareAll 91 = .ok (.getfield 9, 3) := by decide +kernel
theorem dX2_declareAll_94 : decode cX2_declareAll 94 = .ok (.getfield 68, 3) := by decide +kernel
theorem dX2_declareAll_97 : decode cX2_declareAll 97 = .ok (.iload_n 2, 1) := by decide +kernel
theorem dX2_declareAll_98 : decode cX2_declareAll 98 = .ok (.iload_n 1, 1) := by decide +kernel
theorem dX2_declareAll_99 : decode cX2_declareAll 99 = .ok (.iastore, 1) := by decide +kernel
theorem dX2_declareAll_100 : decode cX2_declareAll 100 = .ok (.iinc 2 1, 3) := by decide +kernel
theorem dX2_declareAll_103 : decode cX2_declareAll 103 = .ok (.goto (-94), 3) := by decide +kernel
theorem dX2_isUseRight_0 : decode cX2_isUseRight 0 = .ok (.aload_n 0, 1) := by decide +kernel
theorem dX2_isUseRight_1 : decode cX2_isUseRight 1 = .ok (.getfield 9, 3) := by decide +kernel
theorem dX2_isUseRight_4 : decode cX2_isUseRight 4 = .ok (.getfield 74, 3) := by decide +kernel
theorem dX2_isUseRight_7 : decode cX2_isUseRight 7 = .ok (.iload_n 1, 1) := by decide +kernel
theorem dX2_isUseRight_8 : decode cX2_isUseRight 8 = .ok (.iaload, 1) := by decide +kernel
theorem dX2_isUseRight_9 : decode cX2_isUseRight 9 = .ok (.istore_n 2, 1) := by decide +kernel
theorem dX2_isUseRight_10 : decode cX2_isUseRight 10 = .ok (.iload_n 2, 1) := by decide +kernel
theorem dX2_isUseRight_11 : decode cX2_isUseRight 11 = .ok (.ifCond .ge 5, 3) := by decide +kernel
theorem dX2_isUseRight_16 : decode cX2_isUseRight 16 = .ok (.aload_n 0, 1) := by decide +kernel
theorem dX2_isUseRight_17 : decode cX2_isUseRight 17 = .ok (.getfield 15, 3) := by decide +kernel
theorem dX2_isUseRight_20 : decode cX2_isUseRight 20 = .ok (.getfield 71, 3) := by decide +kernel
theorem dX2_isUseRight_23 : decode cX2_isUseRight 23 = .ok (.iload_n 2, 1) := by decide +kernel
theorem dX2_isUseRight_24 : decode cX2_isUseRight 24 = .ok (.iaload, 1) := by decide +kernel
theorem dX2_isUseRight_25 : decode cX2_isUseRight 25 = .ok (.istore_n 3, 1) := by decide +kernel
theorem dX2_isUseRight_26 : decode cX2_isUseRight 26 = .ok (.iload_n 3, 1) := by decide +kernel
theorem dX2_isUseRight_27 : decode cX2_isUseRight 27 = .ok (.iconst 2, 1) := by decide +kernel
theorem dX2_isUseRight_28 : decode cX2_isUseRight 28 = .ok (.if_icmp .ne 28, 3) := by decide +kernel
theorem dX2_isUseRight_31 : decode cX2_isUseRight 31 = .ok (.aload_n 0, 1) := by decide +kernel
theorem dX2_isUseRight_32 : decode cX2_isUseRight 32 = .ok (.getfield 15, 3) := by decide +kernel
theorem dX2_isUseRight_35 : decode cX2_isUseRight 35 = .ok (.getfield 89, 3) := by decide +kernel
theorem dX2_isUseRight_38 : decode cX2_isUseRight 38 = .ok (.iload_n 2, 1) := by decide +kernel
theorem dX2_isUseRight_39 : decode cX2_isUseRight 39 = .ok (.iaload, 1) := by decide +kernel
theorem dX2_isUseRight_40 : decode cX2_isUseRight 40 = .ok (.aload_n 0, 1) := by decide +kernel
theorem dX2_isUseRight_41 : decode cX2_isUseRight 41 = .ok (.getfield 9, 3) := by decide +kernel
theorem dX2_isUseRight_44 : decode cX2_isUseRight 44 = .ok (.getfield 68, 3) := by decide +kernel
theorem dX2_isUseRight_47 : decode cX2_isUseRight 47 = .ok (.iload_n 1, 1) := by decide +kernel
theorem dX2_isUseRight_48 : decode cX2_isUseRight 48 = .ok (.iaload, 1) := by decide +kernel
theorem dX2_isUseRight_49 : decode cX2_isUseRight 49 = .ok (.if_icmp .ne 7, 3) := by decide +kernel
theorem dX2_isUseRight_52 : decode cX2_isUseRight 52 = .ok (.iconst 1, 1) := by decide +kernel
theorem dX2_isUseRight_53 : decode cX2_isUseRight 53 = .ok (.goto 4, 3) := by decide +kernel
theorem dX2_isUseRight_14 : decode cX2_isUseRight 14 = .ok (.iconst 1, 1) := by decide +kernel
theorem dX2_isUseRight_15 : decode cX2_isUseRight 15 = .ok (.ireturn, 1) := by decide +kernel
theorem dX2_isUseRight_56 : decode cX2_isUseRight 56 = .ok (.iconst 0, 1) := by decide +kernel
theorem dX2_isUseRight_57 : decode cX2_isUseRight 57 = .ok (.istore 4, 2) := by decide +kernel
theorem dX2_isUseRight_59 : decode cX2_isUseRight 59 = .ok (.aload_n 0, 1) := by decide +kernel
theorem dX2_isUseRight_60 : decode cX2_isUseRight 60 = .ok (.getfield 9, 3) := by decide +kernel
theorem dX2_isUseRight_63 : decode cX2_isUseRight 63 = .ok (.getfield 57, 3) := by decide +kernel
theorem dX2_isUseRight_66 : decode cX2_isUseRight 66 = .ok (.iload_n 1, 1) := by decide +kernel
theorem dX2_isUseRight_67 : decode cX2_isUseRight 67 = .ok (.iaload, 1) := by decide +kernel
theorem dX2_isUseRight_68 : decode cX2_isUseRight 68 = .ok (.tableswitch 116 2 12 #[60, 116, 116, 116, 116, 71, 71, 84, 81, 84, 100], 60) := by decide +kernel
theorem dX2_isUseRight_128 : decode cX2_isUseRight 128 = .ok (.iload_n 3, 1) := by decide +kernel
theorem dX2_isUseRight_129 : decode cX2_isUseRight 129 = .ok (.iconst 2, 1) := by decide +kernel
theorem dX2_isUseRight_130 : decode cX2_isUseRight 130 = .ok (.if_icmp .ne 7, 3) := by decide +kernel
theorem dX2_isUseRight_137 : decode cX2_isUseRight 137 = .ok (.iconst 0, 1) := by decide +kernel
theorem dX2_isUseRight_133 : decode cX2_isUseRight 133 = .ok (.iconst 1, 1) := by decide +kernel
theorem dX2_isUseRight_134 : decode cX2_isUseRight 134 = .ok (.goto 4, 3) := by decide +kernel
theorem dX2_isUseRight_149 : decode cX2_isUseRight 149 = .ok (.iload 4, 2) := by decide +kernel
theorem dX2_isUseRight_151 : decode cX2_isUseRight 151 = .ok (.ireturn, 1) := by decide +kernel
theorem dX2_isUseRight_168 : decode cX2_isUseRight 168 = .ok (.iload_n 3, 1) := by decide +kernel
theorem dX2_isUseRight_169 : decode cX2_isUseRight 169 = .ok (.iconst 2, 1) := by decide +kernel
theorem dX2_isUseRight_170 : decode cX2_isUseRight 170 = .ok (.if_icmp .eq 8, 3) := by decide +kernel
theorem dX2_isUseRight_173 : decode cX2_isUseRight 173 = .ok (.iload_n 3, 1) := by decide +kernel
theorem dX2_isUseRight_174 : decode cX2_isUseRight 174 = .ok (.iconst 3, 1) := by decide +kernel
theorem dX2_isUseRight_175 : decode cX2_isUseRight 175 = .ok (.if_icmp .ne 7, 3) := by decide +kernel
theorem dX2_isUseRight_182 : decode cX2_isUseRight 182 = .ok (.iconst 0, 1) := by decide +kernel
theorem dX2_isUseRight_138 : decode cX2_isUseRight 138 = .ok (.ireturn, 1) := by decide +kernel
theorem dX2_isUseRight_184 : decode cX2_isUseRight 184 = .ok (.iconst 1, 1) := by decide +kernel
theorem dX2_isUseRight_185 : decode cX2_isUseRight 185 = .ok (.ireturn, 1) := by decide +kernel
theorem dX2_isUseRight_139 : decode cX2_isUseRight 139 = .ok (.iload_n 3, 1) := by decide +kernel
theorem dX2_isUseRight_140 : decode cX2_isUseRight 140 = .ok (.ifCond .eq 7, 3) := by decide +kernel
theorem dX2_isUseRight_147 : decode cX2_isUseRight 147 = .ok (.iconst 0, 1) := by decide +kernel
theorem dX2_isUseRight_143 : decode cX2_isUseRight 143 = .ok (.iconst 1, 1) := by decide +kernel
theorem dX2_isUseRight_144 : decode cX2_isUseRight 144 = .ok (.goto 4, 3) := by decide +kernel
theorem dX2_isUseRight_152 : decode cX2_isUseRight 152 = .ok (.iload 4, 2) := by decide +kernel
theorem dX2_isUseRight_154 : decode cX2_isUseRight 154 = .ok (.ifCond .ne 8, 3) := by decide +kernel
theorem dX2_isUseRight_157 : decode cX2_isUseRight 157 = .ok (.iload_n 3, 1) := by decide +kernel
theorem dX2_isUseRight_158 : decode cX2_isUseRight 158 = .ok (.iconst 3, 1) := by decide +kernel
theorem dX2_isUseRight_159 : decode cX2_isUseRight 159 = .ok (.if_icmp .ne 7, 3) := by decide +kernel
theorem dX2_isUseRight_166 : decode cX2_isUseRight 166 = .ok (.iconst 0, 1) := by decide +kernel
theorem dX2_isUseRight_178 : decode cX2_isUseRight 178 = .ok (.iconst 1, 1) := by decide +kernel
theorem dX2_isUseRight_179 : decode cX2_isUseRight 179 = .ok (.goto 4, 3) := by decide +kernel
theorem dX2_isUseRight_183 : decode cX2_isUseRight 183 = .ok (.ireturn, 1) := by decide +kernel
theorem dX2_isUseRight_148 : decode cX2_isUseRight 148 = .ok (.ireturn, 1) := by decide +kernel
theorem dX2_isUseRight_162 : decode cX2_isUseRight 162 = .ok (.iconst 1, 1) := by decide +kernel
theorem dX2_isUseRight_163 : decode cX2_isUseRight 163 = .ok (.goto 4, 3) := by decide +kernel
theorem dX2_isUseRight_167 : decode cX2_isUseRight 167 = .ok (.ireturn, 1) := by decide +kernel
theorem dX2_firstWrong_0 : decode cX2_firstWrong 0 = .ok (.aload_n 0, 1) := by decide +kernel
theorem dX2_firstWrong_1 : decode cX2_firstWrong 1 = .ok (.aload_n 0, 1) := by decide +kernel
theorem dX2_firstWrong_2 : decode cX2_firstWrong 2 = .ok (.getfield 15, 3) := by decide +kernel
theorem dX2_firstWrong_5 : decode cX2_firstWrong 5 = .ok (.getfield 33, 3) := by decide +kernel
theorem dX2_firstWrong_8 : decode cX2_firstWrong 8 = .ok (.putfield 30, 3) := by decide +kernel
theorem dX2_firstWrong_11 : decode cX2_firstWrong 11 = .ok (.aload_n 0, 1) := by decide +kernel
theorem dX2_firstWrong_12 : decode cX2_firstWrong 12 = .ok (.invokevirtual 38, 3) := by decide +kernel
theorem dX2_firstWrong_15 : decode cX2_firstWrong 15 = .ok (.iconst 0, 1) := by decide +kernel
theorem dX2_firstWrong_16 : decode cX2_firstWrong 16 = .ok (.istore_n 1, 1) := by decide +kernel
theorem dX2_firstWrong_17 : decode cX2_firstWrong 17 = .ok (.iload_n 1, 1) := by decide +kernel
theorem dX2_firstWrong_18 : decode cX2_firstWrong 18 = .ok (.aload_n 0, 1) := by decide +kernel
theorem dX2_firstWrong_19 : decode cX2_firstWrong 19 = .ok (.getfield 9, 3) := by decide +kernel
theorem dX2_firstWrong_22 : decode cX2_firstWrong 22 = .ok (.getfield 41, 3) := by decide +kernel
theorem dX2_firstWrong_25 : decode cX2_firstWrong 25 = .ok (.if_icmp .ge 30, 3) := by decide +kernel
theorem dX2_firstWrong_55 : decode cX2_firstWrong 55 = .ok (.aload_n 0, 1) := by decide +kernel
theorem dX2_firstWrong_56 : decode cX2_firstWrong 56 = .ok (.getfield 30, 3) := by decide +kernel
theorem dX2_firstWrong_59 : decode cX2_firstWrong 59 = .ok (.ireturn, 1) := by decide +kernel
theorem dX2_firstWrong_28 : decode cX2_firstWrong 28 = .ok (.aload_n 0, 1) := by decide +kernel
theorem dX2_firstWrong_29 : decode cX2_firstWrong 29 = .ok (.iload_n 1, 1) := by decide +kernel
theorem dX2_firstWrong_30 : decode cX2_firstWrong 30 = .ok (.invokevirtual 46, 3) := by decide +kernel
theorem dX2_firstWrong_33 : decode cX2_firstWrong 33 = .ok (.ifCond .ne 16, 3) := by decide +kernel
theorem dX2_firstWrong_36 : decode cX2_firstWrong 36 = .ok (.aload_n 0, 1) := by decide +kernel
theorem dX2_firstWrong_37 : decode cX2_firstWrong 37 = .ok (.aload_n 0, 1) := by decide +kernel
theorem dX2_firstWrong_38 : decode cX2_firstWrong 38 = .ok (.getfield 9, 3) := by decide +kernel
theorem dX2_firstWrong_41 : decode cX2_firstWrong 41 = .ok (.getfield 50, 3) := by decide +kernel
theorem dX2_firstWrong_44 : decode cX2_firstWrong 44 = .ok (.iload_n 1, 1) := by decide +kernel
theorem dX2_firstWrong_45 : decode cX2_firstWrong 45 = .ok (.iaload, 1) := by decide +kernel
theorem dX2_firstWrong_46 : decode cX2_firstWrong 46 = .ok (.invokevirtual 53, 3) := by decide +kernel
theorem dX2_firstWrong_49 : decode cX2_firstWrong 49 = .ok (.iinc 1 1, 3) := by decide +kernel
theorem dX2_firstWrong_52 : decode cX2_firstWrong 52 = .ok (.goto (-35), 3) := by decide +kernel
theorem dX0_bytesOf_0 : decode cX0_bytesOf 0 = .ok (.aload_n 0, 1) := by decide +kernel
theorem dX0_bytesOf_1 : decode cX0_bytesOf 1 = .ok (.getfield 11, 3) := by decide +kernel
theorem dX0_bytesOf_4 : decode cX0_bytesOf 4 = .ok (.iload_n 1, 1) := by decide +kernel
theorem dX0_bytesOf_5 : decode cX0_bytesOf 5 = .ok (.iaload, 1) := by decide +kernel
theorem dX0_bytesOf_6 : decode cX0_bytesOf 6 = .ok (.tableswitch 65 4 12 #[50, 52, 59, 59, 59, 52, 59, 61, 63], 50) := by decide +kernel
theorem dX0_bytesOf_56 : decode cX0_bytesOf 56 = .ok (.iconst 1, 1) := by decide +kernel
theorem dX0_bytesOf_57 : decode cX0_bytesOf 57 = .ok (.ireturn, 1) := by decide +kernel
theorem dX0_bytesOf_67 : decode cX0_bytesOf 67 = .ok (.iconst 3, 1) := by decide +kernel
theorem dX0_bytesOf_68 : decode cX0_bytesOf 68 = .ok (.ireturn, 1) := by decide +kernel
theorem dX0_bytesOf_69 : decode cX0_bytesOf 69 = .ok (.iconst 5, 1) := by decide +kernel
theorem dX0_bytesOf_70 : decode cX0_bytesOf 70 = .ok (.ireturn, 1) := by decide +kernel
theorem dX0_bytesOf_71 : decode cX0_bytesOf 71 = .ok (.iconst 0, 1) := by decide +kernel
theorem dX0_bytesOf_72 : decode cX0_bytesOf 72 = .ok (.ireturn, 1) := by decide +kernel
theorem dX0_bytesOf_58 : decode cX0_bytesOf 58 = .ok (.aload_n 0, 1) := by decide +kernel
theorem dX0_bytesOf_59 : decode cX0_bytesOf 59 = .ok (.getfield 15, 3) := by decide +kernel
theorem dX0_bytesOf_62 : decode cX0_bytesOf 62 = .ok (.iload_n 1, 1) := by decide +kernel
theorem dX0_bytesOf_63 : decode cX0_bytesOf 63 = .ok (.iaload, 1) := by decide +kernel
theorem dX0_bytesOf_64 : decode cX0_bytesOf 64 = .ok (.ireturn, 1) := by decide +kernel
theorem dX0_bytesOf_65 : decode cX0_bytesOf 65 = .ok (.iconst 2, 1) := by decide +kernel
theorem dX0_bytesOf_66 : decode cX0_bytesOf 66 = .ok (.ireturn, 1) := by decide +kernel
theorem dX2_measure_0 : decode cX2_measure 0 = .ok (.aload_n 0, 1) := by decide +kernel
theorem dX2_measure_1 : decode cX2_measure 1 = .ok (.getfield 23, 3) := by decide +kernel
theorem dX2_measure_4 : decode cX2_measure 4 = .ok (.iconst 0, 1) := by decide +kernel
theorem dX2_measure_5 : decode cX2_measure 5 = .ok (.invokestatic 97, 3) := by decide +kernel
theorem dX2_measure_8 : decode cX2_measure 8 = .ok (.iconst 0, 1) := by decide +kernel
theorem dX2_measure_9 : decode cX2_measure 9 = .ok (.istore_n 1, 1) := by decide +kernel
theorem dX2_measure_10 : decode cX2_measure 10 = .ok (.iload_n 1, 1) := by decide +kernel
theorem dX2_measure_11 : decode cX2_measure 11 = .ok (.aload_n 0, 1) := by decide +kernel
theorem dX2_measure_12 : decode cX2_measure 12 = .ok (.getfield 9, 3) := by decide +kernel
theorem dX2_measure_15 : decode cX2_measure 15 = .ok (.getfield 41, 3) := by decide +kernel
theorem dX2_measure_18 : decode cX2_measure 18 = .ok (.if_icmp .ge 94, 3) := by decide +kernel
theorem dX2_measure_112 : decode cX2_measure 112 = .ok (.return_, 1) := by decide +kernel
theorem dX2_measure_21 : decode cX2_measure 21 = .ok (.aload_n 0, 1) := by decide +kernel
theorem dX2_measure_22 : decode cX2_measure 22 = .ok (.getfield 9, 3) := by decide +kernel
theorem dX2_measure_25 : decode cX2_measure 25 = .ok (.getfield 68, 3) := by decide +kernel
theorem dX2_measure_28 : decode cX2_measure 28 = .ok (.iload_n 1, 1) := by decide +kernel
theorem dX2_measure_29 : decode cX2_measure 29 = .ok (.iaload, 1) := by decide +kernel
theorem dX2_measure_30 : decode cX2_measure 30 = .ok (.istore_n 2, 1) := by decide +kernel
theorem dX2_measure_31 : decode cX2_measure 31 = .ok (.iload_n 2, 1) := by decide +kernel
theorem dX2_measure_32 : decode cX2_measure 32 = .ok (.ifCond .lt 74, 3) := by decide +kernel
theorem dX2_measure_35 : decode cX2_measure 35 = .ok (.aload_n 0, 1) := by decide +kernel
theorem dX2_measure_36 : decode cX2_measure 36 = .ok (.getfield 9, 3) := by decide +kernel
theorem dX2_measure_39 : decode cX2_measure 39 = .ok (.getfield 103, 3) := by decide +kernel
theorem dX2_measure_42 : decode cX2_measure 42 = .ok (.iload_n 1, 1) := by decide +kernel
theorem dX2_measure_43 : decode cX2_measure 43 = .ok (.aload_n 0, 1) := by decide +kernel
theorem dX2_measure_44 : decode cX2_measure 44 = .ok (.getfield 23, 3) := by decide +kernel
theorem dX2_measure_47 : decode cX2_measure 47 = .ok (.iload_n 2, 1) := by decide +kernel
theorem dX2_measure_48 : decode cX2_measure 48 = .ok (.iaload, 1) := by decide +kernel
theorem dX2_measure_49 : decode cX2_measure 49 = .ok (.iastore, 1) := by decide +kernel
theorem dX2_measure_50 : decode cX2_measure 50 = .ok (.aload_n 0, 1) := by decide +kernel
theorem dX2_measure_51 : decode cX2_measure 51 = .ok (.getfield 23, 3) := by decide +kernel
theorem dX2_measure_54 : decode cX2_measure 54 = .ok (.iload_n 2, 1) := by decide +kernel
theorem dX2_measure_55 : decode cX2_measure 55 = .ok (.dup2, 1) := by decide +kernel
theorem dX2_measure_56 : decode cX2_measure 56 = .ok (.iaload, 1) := by decide +kernel
theorem dX2_measure_57 : decode cX2_measure 57 = .ok (.aload_n 0, 1) := by decide +kernel
theorem dX2_measure_58 : decode cX2_measure 58 = .ok (.getfield 9, 3) := by decide +kernel
theorem dX2_measure_61 : decode cX2_measure 61 = .ok (.iload_n 1, 1) := by decide +kernel
theorem dX2_measure_62 : decode cX2_measure 62 = .ok (.invokevirtual 106, 3) := by decide +kernel
theorem dX2_measure_65 : decode cX2_measure 65 = .ok (.iadd, 1) := by decide +kernel
theorem dX2_measure_66 : decode cX2_measure 66 = .ok (.iastore, 1) := by decide +kernel
theorem dX2_measure_67 : decode cX2_measure 67 = .ok (.aload_n 0, 1) := by decide +kernel
theorem dX2_measure_68 : decode cX2_measure 68 = .ok (.getfield 9, 3) := by decide +kernel
theorem dX2_measure_71 : decode cX2_measure 71 = .ok (.getfield 57, 3) := by decide +kernel
theorem dX2_measure_74 : decode cX2_measure 74 = .ok (.iload_n 1, 1) := by decide +kernel
theorem dX2_measure_75 : decode cX2_measure 75 = .ok (.iaload, 1) := by decide +kernel
theorem dX2_measure_76 : decode cX2_measure 76 = .ok (.iconst 1, 1) := by decide +kernel
theorem dX2_measure_77 : decode cX2_measure 77 = .ok (.if_icmp .ne 29, 3) := by decide +kernel
theorem dX2_measure_80 : decode cX2_measure 80 = .ok (.aload_n 0, 1) := by decide +kernel
theorem dX2_measure_81 : decode cX2_measure 81 = .ok (.getfield 15, 3) := by decide +kernel
theorem dX2_measure_84 : decode cX2_measure 84 = .ok (.getfield 110, 3) := by decide +kernel
theorem dX2_measure_87 : decode cX2_measure 87 = .ok (.aload_n 0, 1) := by decide +kernel
theorem dX2_measure_88 : decode cX2_measure 88 = .ok (.getfield 9, 3) := by decide +kernel
theorem dX2_measure_91 : decode cX2_measure 91 = .ok (.getfield 74, 3) := by decide +kernel
theorem dX2_measure_94 : decode cX2_measure 94 = .ok (.iload_n 1, 1) := by decide +kernel
theorem dX2_measure_95 : decode cX2_measure 95 = .ok (.iaload, 1) := by decide +kernel
theorem dX2_measure_96 : decode cX2_measure 96 = .ok (.aload_n 0, 1) := by decide +kernel
theorem dX2_measure_97 : decode cX2_measure 97 = .ok (.getfield 9, 3) := by decide +kernel
theorem dX2_measure_100 : decode cX2_measure 100 = .ok (.getfield 103, 3) := by decide +kernel
theorem dX2_measure_103 : decode cX2_measure 103 = .ok (.iload_n 1, 1) := by decide +kernel
theorem dX2_measure_104 : decode cX2_measure 104 = .ok (.iaload, 1) := by decide +kernel
theorem dX2_measure_105 : decode cX2_measure 105 = .ok (.iastore, 1) := by decide +kernel
theorem dX2_measure_106 : decode cX2_measure 106 = .ok (.iinc 1 1, 3) := by decide +kernel
theorem dX2_measure_109 : decode cX2_measure 109 = .ok (.goto (-99), 3) := by decide +kernel
theorem dX2_isExtern_0 : decode cX2_isExtern 0 = .ok (.aload_n 0, 1) := by decide +kernel
theorem dX2_isExtern_1 : decode cX2_isExtern 1 = .ok (.getfield 15, 3) := by decide +kernel
theorem dX2_isExtern_4 : decode cX2_isExtern 4 = .ok (.getfield 71, 3) := by decide +kernel
theorem dX2_isExtern_7 : decode cX2_isExtern 7 = .ok (.aload_n 0, 1) := by decide +kernel
theorem dX2_isExtern_8 : decode cX2_isExtern 8 = .ok (.getfield 9, 3) := by decide +kernel
theorem dX2_isExtern_11 : decode cX2_isExtern 11 = .ok (.getfield 74, 3) := by decide +kernel
theorem dX2_isExtern_14 : decode cX2_isExtern 14 = .ok (.iload_n 1, 1) := by decide +kernel
theorem dX2_isExtern_15 : decode cX2_isExtern 15 = .ok (.iaload, 1) := by decide +kernel
theorem dX2_isExtern_16 : decode cX2_isExtern 16 = .ok (.iaload, 1) := by decide +kernel
theorem dX2_isExtern_17 : decode cX2_isExtern 17 = .ok (.iconst 3, 1) := by decide +kernel
theorem dX2_isExtern_18 : decode cX2_isExtern 18 = .ok (.if_icmp .ne 7, 3) := by decide +kernel
theorem dX2_isExtern_25 : decode cX2_isExtern 25 = .ok (.iconst 0, 1) := by decide +kernel
theorem dX2_isExtern_21 : decode cX2_isExtern 21 = .ok (.iconst 1, 1) := by decide +kernel
theorem dX2_isExtern_22 : decode cX2_isExtern 22 = .ok (.goto 4, 3) := by decide +kernel
theorem dX2_isExtern_26 : decode cX2_isExtern 26 = .ok (.ireturn, 1) := by decide +kernel
theorem dX2_distance_0 : decode cX2_distance 0 = .ok (.aload_n 0, 1) := by decide +kernel
theorem dX2_distance_1 : decode cX2_distance 1 = .ok (.getfield 15, 3) := by decide +kernel
theorem dX2_distance_4 : decode cX2_distance 4 = .ok (.getfield 110, 3) := by decide +kernel
theorem dX2_distance_7 : decode cX2_distance 7 = .ok (.aload_n 0, 1) := by decide +kernel
theorem dX2_distance_8 : decode cX2_distance 8 = .ok (.getfield 9, 3) := by decide +kernel
theorem dX2_distance_11 : decode cX2_distance 11 = .ok (.getfield 74, 3) := by decide +kernel
theorem dX2_distance_14 : decode cX2_distance 14 = .ok (.iload_n 1, 1) := by decide +kernel
theorem dX2_distance_15 : decode cX2_distance 15 = .ok (.iaload, 1) := by decide +kernel
theorem dX2_distance_16 : decode cX2_distance 16 = .ok (.iaload, 1) := by decide +kernel
theorem dX2_distance_17 : decode cX2_distance 17 = .ok (.aload_n 0, 1) := by decide +kernel
theorem dX2_distance_18 : decode cX2_distance 18 = .ok (.getfield 9, 3) := by decide +kernel
theorem dX2_distance_21 : decode cX2_distance 21 = .ok (.getfield 103, 3) := by decide +kernel
theorem dX2_distance_24 : decode cX2_distance 24 = .ok (.iload_n 1, 1) := by decide +kernel
theorem dX2_distance_25 : decode cX2_distance 25 = .ok (.iaload, 1) := by decide +kernel
theorem dX2_distance_26 : decode cX2_distance 26 = .ok (.isub, 1) := by decide +kernel
theorem dX2_distance_27 : decode cX2_distance 27 = .ok (.aload_n 0, 1) := by decide +kernel
theorem dX2_distance_28 : decode cX2_distance 28 = .ok (.getfield 9, 3) := by decide +kernel
theorem dX2_distance_31 : decode cX2_distance 31 = .ok (.iload_n 1, 1) := by decide +kernel
theorem dX2_distance_32 : decode cX2_distance 32 = .ok (.invokevirtual 106, 3) := by decide +kernel
theorem dX2_distance_35 : decode cX2_distance 35 = .ok (.isub, 1) := by decide +kernel
theorem dX2_distance_36 : decode cX2_distance 36 = .ok (.ireturn, 1) := by decide +kernel
theorem dX2_growJumps_0 : decode cX2_growJumps 0 = .ok (.iconst 0, 1) := by decide +kernel
theorem dX2_growJumps_1 : decode cX2_growJumps 1 = .ok (.istore_n 1, 1) := by decide +kernel
theorem dX2_growJumps_2 : decode cX2_growJumps 2 = .ok (.iconst 0, 1) := by decide +kernel
theorem dX2_growJumps_3 : decode cX2_growJumps 3 = .ok (.istore_n 2, 1) := by decide +kernel
theorem dX2_growJumps_4 : decode cX2_growJumps 4 = .ok (.iload_n 2, 1) := by decide +kernel
theorem dX2_growJumps_5 : decode cX2_growJumps 5 = .ok (.aload_n 0, 1) := by decide +kernel
theorem dX2_growJumps_6 : decode cX2_growJumps 6 = .ok (.getfield 9, 3) := by decide +kernel
theorem dX2_growJumps_9 : decode cX2_growJumps 9 = .ok (.getfield 41, 3) := by decide +kernel
theorem dX2_growJumps_12 : decode cX2_growJumps 12 = .ok (.if_icmp .ge 67, 3) := by decide +kernel
theorem dX2_growJumps_79 : decode cX2_growJumps 79 = .ok (.iload_n 1, 1) := by decide +kernel
theorem dX2_growJumps_80 : decode cX2_growJumps 80 = .ok (.ireturn, 1) := by decide +kernel
theorem dX2_growJumps_15 : decode cX2_growJumps 15 = .ok (.aload_n 0, 1) := by decide +kernel
theorem dX2_growJumps_16 : decode cX2_growJumps 16 = .ok (.getfield 9, 3) := by decide +kernel
theorem dX2_growJumps_19 : decode cX2_growJumps 19 = .ok (.getfield 57, 3) := by decide +kernel
theorem dX2_growJumps_22 : decode cX2_growJumps 22 = .ok (.iload_n 2, 1) := by decide +kernel
theorem dX2_growJumps_23 : decode cX2_growJumps 23 = .ok (.iaload, 1) := by decide +kernel
theorem dX2_growJumps_24 : decode cX2_growJumps 24 = .ok (.bipush 9, 2) := by decide +kernel
theorem dX2_growJumps_26 : decode cX2_growJumps 26 = .ok (.if_icmp .ne 47, 3) := by decide +kernel
theorem dX2_growJumps_29 : decode cX2_growJumps 29 = .ok (.aload_n 0, 1) := by decide +kernel
theorem dX2_growJumps_30 : decode cX2_growJumps 30 = .ok (.getfield 9, 3) := by decide +kernel
theorem dX2_growJumps_33 : decode cX2_growJumps 33 = .ok (.getfield 83, 3) := by decide +kernel
theorem dX2_growJumps_36 : decode cX2_growJumps 36 = .ok (.iload_n 2, 1) := by decide +kernel
theorem dX2_growJumps_37 : decode cX2_growJumps 37 = .ok (.iaload, 1) := by decide +kernel
theorem dX2_growJumps_38 : decode cX2_growJumps 38 = .ok (.iconst 2, 1) := by decide +kernel
theorem dX2_growJumps_39 : decode cX2_growJumps 39 = .ok (.if_icmp .ne 34, 3) := by decide +kernel
theorem dX2_growJumps_42 : decode cX2_growJumps 42 = .ok (.aload_n 0, 1) := by decide +kernel
theorem dX2_growJumps_43 : decode cX2_growJumps 43 = .ok (.iload_n 2, 1) := by decide +kernel
theorem dX2_growJumps_44 : decode cX2_growJumps 44 = .ok (.invokevirtual 111, 3) := by decide +kernel
theorem dX2_growJumps_47 : decode cX2_growJumps 47 = .ok (.ifCond .ne 14, 3) := by decide +kernel
theorem dX2_growJumps_50 : decode cX2_growJumps 50 = .ok (.aload_n 0, 1) := by decide +kernel
theorem dX2_growJumps_51 : decode cX2_growJumps 51 = .ok (.iload_n 2, 1) := by decide +kernel
theorem dX2_growJumps_52 : decode cX2_growJumps 52 = .ok (.invokevirtual 114, 3) := by decide +kernel
theorem dX2_growJumps_55 : decode cX2_growJumps 55 = .ok (.invokestatic 117, 3) := by decide +kernel
theorem dX2_growJumps_58 : decode cX2_growJumps 58 = .ok (.ifCond .ne 15, 3) := by decide +kernel
theorem dX2_growJumps_73 : decode cX2_growJumps 73 = .ok (.iinc 2 1, 3) := by decide +kernel
theorem dX2_growJumps_76 : decode cX2_growJumps 76 = .ok (.goto (-72), 3) := by decide +kernel
theorem dX2_growJumps_61 : decode cX2_growJumps 61 = .ok (.aload_n 0, 1) := by decide +kernel
theorem dX2_growJumps_62 : decode cX2_growJumps 62 = .ok (.getfield 9, 3) := by decide +kernel
theorem dX2_growJumps_65 : decode cX2_growJumps 65 = .ok (.getfield 83, 3) := by decide +kernel
theorem dX2_growJumps_68 : decode cX2_growJumps 68 = .ok (.iload_n 2, 1) := by decide +kernel
theorem dX2_growJumps_69 : decode cX2_growJumps 69 = .ok (.iconst 3, 1) := by decide +kernel
theorem dX2_growJumps_70 : decode cX2_growJumps 70 = .ok (.iastore, 1) := by decide +kernel
theorem dX2_growJumps_71 : decode cX2_growJumps 71 = .ok (.iconst 1, 1) := by decide +kernel
theorem dX2_growJumps_72 : decode cX2_growJumps 72 = .ok (.istore_n 1, 1) := by decide +kernel
def wpX5_make (a1 a2 a3 : Int) (σ : ZS) (Q : ZS → Prop) : Prop := (0 ≤ a1 ∧ a1 < 240) ∧ Q (zsA (zsA σ 11 1 a1 a2) 11 2 a1 a3)
set_option maxHeartbeats 4000000 in
set_option maxRecDepth 100000 in
theorem kX5_make (l : Launch) (D : va_G) (dA : Nat → ClassId) (ad : Int → Nat → Nat) (a1 a2 a3 : Int) (σ : ZS) (Q : ZS → Prop) (sz : Nat) (hw : wpX5_make a1 a2 a3 σ Q) : Met l yX5_make (gws yX5_make cX5_make 4 none) (gR 1 0 0) (gPre D dA [.ref (ad 11 1000), .int (Int32.ofInt a1), .int (Int32.ofInt a2), .int (Int32.ofInt a3)] (zC dA ad σ) sz) (va_Qv Q (gAt D dA (va_A (zC dA ad σ) sz) (zC dA ad)) (va_A (zC dA ad σ) sz)) 0 0 (va_A (zC dA ad σ) sz) := by
  refine Met.ofW (cc := cX5_make) (maxL := 4) (ret := none) (by decide) rfl ?_
  intro p e s m args below meth c s₁ B hml hv
  obtain ⟨rfl, hsz, hP, hK, hD0⟩ := hv
  have hx := B.exec
  have hb := B.bytes
  have hr := B.returns
  have hts := atoms_spec (ws := gws yX5_make cX5_make 4 none) B.pre
  have hg : ∀ w ∈ gw, w.before _ s = true := fun w h => hts w (List.mem_cons_of_mem _ h)
  have hown : s.vm.findClass RX5 = some m.cls := findClass_of_methodNamed B.named
  have hlocks := B.notSynchronized
  subst hsz
  have hD := hD0.self (sz := s.heap.size)
  generalize hAe : va_A (zC dA ad σ) s.heap.size = A at hD ⊢
  have hA : ∀ q : Nat, s.heap.size ≤ q → A q := fun q h => by rw [← hAe]; exact Or.inr h
  have hS : va_S A s.heap s.heap [] := va_S.rf
  have hl := lv_entry ([.ref (ad 11 1000), .int (Int32.ofInt a1), .int (Int32.ofInt a2), .int (Int32.ofInt a3)]) (n := 4) (Nat.le_of_ble_eq_true rfl)
  rw [lg_entry_eq]
  generalize (lg_sl ([.ref (ad 11 1000), .int (Int32.ofInt a1), .int (Int32.ofInt a2), .int (Int32.ofInt a3)]) ++ List.replicate (4 - (lg_sl ([.ref (ad 11 1000), .int (Int32.ofInt a1), .int (Int32.ofInt a2), .int (Int32.ofInt a3)])).length) Slot.unset).toArray = ls at hl ⊢
  have hl : lv_has ls 4 [(0, .ref (ad 11 1000)), (1, .int (Int32.ofInt a1)), (2, .int (Int32.ofInt a2)), (3, .int (Int32.ofInt a3))] := hl
  have hret : ∀ (σ : ZS) (H : Heap) (locs : List Loc) (ls : Array Slot) (pc : Nat), Q σ → va_P D vwC (zC dA ad σ) H → va_D A (zC dA ad σ) → va_S A s.heap H locs → decode cX5_make pc = .ok (.return_, 1) → W p l e (gR 1 0 0) s m #[.ref (ad 11 1000), .int (Int32.ofInt a1), .int (Int32.ofInt a2), .int (Int32.ofInt a3)] below meth c H locs 0 0 (MQ below (va_Qv Q (gAt D dA A (zC dA ad)) A) #[.ref (ad 11 1000), .int (Int32.ofInt a1), .int (Int32.ofInt a2), .int (Int32.ofInt a3)] s 0 0 A) (F0 m pc ls []) := fun σ H locs ls pc hw hP hD hS hd => g_vret hx hb hr hlocks hK σ hP hD hS hw (Nat.le_of_ble_eq_true rfl) (Nat.le_of_ble_eq_true rfl) hd
  generalize MQ below (va_Qv Q (gAt D dA A (zC dA ad)) A) #[.ref (ad 11 1000), .int (Int32.ofInt a1), .int (Int32.ofInt a2), .int (Int32.ofInt a3)] s 0 0 A = QQ at hret ⊢
  unfold wpX5_make at hw
  refine lv_aload_n hx hb dX5_make_0 rfl (lv_at hl 0 rfl) ?_
  refine zgC11_1 hx hb hg hown hK hP q196 dX5_make_1 ?_
  refine lv_iload_n hx hb dX5_make_4 rfl (lv_at hl 1 rfl) ?_
  refine lv_iload_n hx hb dX5_make_5 rfl (lv_at hl 2 rfl) ?_
  obtain ⟨o1, hw⟩ := hw
  refine zsC11_1 (v := a2) hx hb o1 hK hP hD hS dX5_make_6 (fun H locs hP hD hS => ?_)
  refine lv_aload_n hx hb dX5_make_7 rfl (lv_at hl 0 rfl) ?_
  refine zgC11_2 hx hb hg hown hK hP q198 dX5_make_8 ?_
  refine lv_iload_n hx hb dX5_make_11 rfl (lv_at hl 1 rfl) ?_
  refine lv_iload_n hx hb dX5_make_12 rfl (lv_at hl 3 rfl) ?_
  refine zsC11_2 (v := a3) hx hb o1 hK hP hD hS dX5_make_13 (fun H locs hP hD hS => ?_)
  exact hret (zsA (zsA σ 11 1 a1 a2) 11 2 a1 a3) _ _ _ _ hw hP hD hS dX5_make_14
def wpX2_openSegment_75 (v2 : Int) (σ : ZS) (Q : Int → ZS → Prop) : Prop := Q v2 σ
def wpX2_openSegment_58 (v1 v2 v3 v4 : Int) (σ : ZS) (Q : Int → ZS → Prop) : Prop := wpX2_mayDeclare v1 σ (fun (x1 : Int) (σ2 : ZS) => (-2147483648 ≤ x1 ∧ x1 ≤ 2147483647) ∧ (x1 = 0 → wpX2_openSegment_75 v2 σ2 Q) ∧ (¬ x1 = 0 → (-2147483648 ≤ (zI σ2 15 4) ∧ (zI σ2 15 4) ≤ 2147483647) ∧ ((zI σ2 15 4) < 60 → wpX5_make v3 1 (zI σ2 15 4) σ2 (fun (σ8 : ZS) => (0 ≤ v3 ∧ v3 < 240) ∧ (0 ≤ (zI σ8 15 4) ∧ (zI σ8 15 4) < 60) ∧ Q (((zI σ8 15 4) + 1) - 1) (zsI (zsA (zsA σ8 11 3 v3 v4) 15 2 (zI σ8 15 4) v3) 15 4 ((zI σ8 15 4) + 1)))) ∧ (¬ (zI σ2 15 4) < 60 → wpX2_openSegment_75 v2 σ2 Q)))
def wpX2_openSegment (a1 a2 : Int) (σ : ZS) (Q : Int → ZS → Prop) : Prop := (0 ≤ a1 ∧ a1 < 248) ∧ (0 ≤ (zA σ 13 2 a1) ∧ (zA σ 13 2 a1) < 240) ∧ (-2147483648 ≤ (zA σ 11 1 (zA σ 13 2 a1)) ∧ (zA σ 11 1 (zA σ 13 2 a1)) ≤ 2147483647) ∧ (¬ (zA σ 11 1 (zA σ 13 2 a1)) = 1 → wpX2_openSegment_58 a1 a2 (zA σ 13 2 a1) (zA σ 13 1 a1) σ Q) ∧ ((zA σ 11 1 (zA σ 13 2 a1)) = 1 → (-2147483648 ≤ (zA σ 11 3 (zA σ 13 2 a1)) ∧ (zA σ 11 3 (zA σ 13 2 a1)) ≤ 2147483647) ∧ (-2147483648 ≤ (zA σ 13 1 a1) ∧ (zA σ 13 1 a1) ≤ 2147483647) ∧ (¬ (zA σ 11 3 (zA σ 13 2 a1)) = (zA σ 13 1 a1) → wpX2_openSegment_58 a1 a2 (zA σ 13 2 a1) (zA σ 13 1 a1) σ Q) ∧ ((zA σ 11 3 (zA σ 13 2 a1)) = (zA σ 13 1 a1) → Q (zA σ 11 2 (zA σ 13 2 a1)) σ))
set_option maxHeartbeats 4000000 in
set_option maxRecDepth 100000 in
theorem kX2_openSegment (l : Launch) (D : va_G) (dA : Nat → ClassId) (ad : Int → Nat → Nat) (a1 a2 : Int) (σ : ZS) (Q : Int → ZS → Prop) (sz : Nat) (hw : wpX2_openSegment a1 a2 σ Q) : Met l yX2_openSegment (gws yX2_openSegment cX2_openSegment 5 (some .int)) (gR 3 0 0) (gPre D dA [.ref (ad 15 1000), .int (Int32.ofInt a1), .int (Int32.ofInt a2)] (zC dA ad σ) sz) (va_Qi (zQi Q) (gAt D dA (va_A (zC dA ad σ) sz) (zC dA ad)) (va_A (zC dA ad σ) sz)) 0 0 (va_A (zC dA ad σ) sz) := by
  refine Met.ofW (cc := cX2_openSegment) (maxL := 5) (ret := (some .int)) (by decide) rfl ?_
  intro p e s m args below meth c s₁ B hml hv
  obtain ⟨rfl, hsz, hP, hK, hD0⟩ := hv
  have hx := B.exec
  have hb := B.bytes
  have hr := B.returns
  have hts := atoms_spec (ws := gws yX2_openSegment cX2_openSegment 5 (some .int)) B.pre
  have hg : ∀ w ∈ gw, w.before _ s = true := fun w h => hts w (List.mem_cons_of_mem _ h)
  have hown : s.vm.findClass RX2 = some m.cls := findClass_of_methodNamed B.named
  have hlocks := B.notSynchronized
  subst hsz
  have hD := hD0.self (sz := s.heap.size)
  generalize hAe : va_A (zC dA ad σ) s.heap.size = A at hD ⊢
  have hA : ∀ q : Nat, s.heap.size ≤ q → A q := fun q h => by rw [← hAe]; exact Or.inr h
  have hS : va_S A s.heap s.heap [] := va_S.rf
  have hl := lv_entry ([.ref (ad 15 1000), .int (Int32.ofInt a1), .int (Int32.ofInt a2)]) (n := 5) (Nat.le_of_ble_eq_true rfl)
  rw [lg_entry_eq]
  generalize (lg_sl ([.ref (ad 15 1000), .int (Int32.ofInt a1), .int (Int32.ofInt a2)]) ++ List.replicate (5 - (lg_sl ([.ref (ad 15 1000), .int (Int32.ofInt a1), .int (Int32.ofInt a2)])).length) Slot.unset).toArray = ls at hl ⊢
  have hl : lv_has ls 5 [(0, .ref (ad 15 1000)), (1, .int (Int32.ofInt a1)), (2, .int (Int32.ofInt a2))] := hl
  have hret : ∀ (v : Int) (σ : ZS) (H : Heap) (locs : List Loc) (ls : Array Slot) (pc : Nat), Q v σ → va_P D vwC (zC dA ad σ) H → va_D A (zC dA ad σ) → va_S A s.heap H locs → decode cX2_openSegment pc = .ok (.ireturn, 1) → W p l e (gR 3 0 0) s m #[.ref (ad 15 1000), .int (Int32.ofInt a1), .int (Int32.ofInt a2)] below meth c H locs 0 0 (MQ below (va_Qi (zQi Q) (gAt D dA A (zC dA ad)) A) #[.ref (ad 15 1000), .int (Int32.ofInt a1), .int (Int32.ofInt a2)] s 0 0 A) (F0 m pc ls [.int (Int32.ofInt v)]) := fun v σ H locs ls pc hw hP hD hS hd => g_iret hx hb hr rfl hlocks hK σ hP hD hS ⟨v, rfl, hw⟩ (Nat.le_of_ble_eq_true rfl) (Nat.le_of_ble_eq_true rfl) hd
  generalize MQ below (va_Qi (zQi Q) (gAt D dA A (zC dA ad)) A) #[.ref (ad 15 1000), .int (Int32.ofInt a1), .int (Int32.ofInt a2)] s 0 0 A = QQ at hret ⊢
  have j75 : ∀ (v2 : Int) (σ : ZS), ∀ (H : Heap) (locs : List Loc) (ls : Array Slot), va_P D vwC (zC dA ad σ) H → va_D A (zC dA ad σ) → va_S A s.heap H locs → lv_has ls 5 [(2, .int (Int32.ofInt v2))] → wpX2_openSegment_75 v2 σ Q → W p l e (gR 3 0 0) s m #[.ref (ad 15 1000), .int (Int32.ofInt a1), .int (Int32.ofInt a2)] below meth c H locs 0 0 QQ (F0 m 75 ls []) := by
    intro v2 σ H locs ls hP hD hS hl hw
    unfold wpX2_openSegment_75 at hw
    refine lv_iload_n hx hb dX2_openSegment_75 rfl (lv_at hl 0 rfl) ?_
    exact hret v2 σ _ _ _ _ hw hP hD hS dX2_openSegment_76
  have j58 : ∀ (v1 v2 v3 v4 : Int) (σ : ZS), ∀ (H : Heap) (locs : List Loc) (ls : Array Slot), va_P D vwC (zC dA ad σ) H → va_D A (zC dA ad σ) → va_S A s.heap H locs → lv_has ls 5 [(0, .ref (ad 15 1000)), (1, .int (Int32.ofInt v1)), (2, .int (Int32.ofInt v2)), (3, .int (Int32.ofInt v3)), (4, .int (Int32.ofInt v4))] → wpX2_openSegment_58 v1 v2 v3 v4 σ Q → W p l e (gR 3 0 0) s m #[.ref (ad 15 1000), .int (Int32.ofInt a1), .int (Int32.ofInt a2)] below meth c H locs 0 0 QQ (F0 m 58 ls []) := by
    intro v1 v2 v3 v4 σ H locs ls hP hD hS hl hw
    unfold wpX2_openSegment_58 at hw
    refine lv_aload_n hx hb dX2_openSegment_58 rfl (lv_at hl 0 rfl) ?_
    refine lv_iload_n hx hb dX2_openSegment_59 rfl (lv_at hl 1 rfl) ?_
    refine z_Vi (n := 1) (As := [.int (Int32.ofInt v1)]) (rest := []) hx hb hml hg hown hK hP hD hS hA (kX2_mayDeclare l D dA ad v1 σ _ _ hw) (zoC15) rfl q1121 q155 q1118 q1120 q30 (by decide +kernel) ⟨(Nat.le_of_ble_eq_true rfl), (Nat.le_of_ble_eq_true rfl)⟩ rfl hl.1 rfl (Nat.le_of_ble_eq_true rfl) dX2_openSegment_60 ⟨(Nat.le_of_ble_eq_true rfl), (Nat.le_of_ble_eq_true rfl)⟩ (fun x1 σ2 H locs hw hP hD hS => ?_)
    obtain ⟨o3, hw⟩ := hw
    refine z_if_eq (tgt := 75) hx hb o3 dX2_openSegment_63 (by decide) (fun k4 => ?_) (fun k4 => ?_)
    · replace hw := hw.1 k4
      exact j75 v2 σ2 _ _ _ hP hD hS (lv_sub hl [2] rfl) hw
    · replace hw := hw.2 k4
      refine lv_aload_n hx hb dX2_openSegment_66 rfl (lv_at hl 0 rfl) ?_
      refine zgC15_4 hx hb hg hown hK hP q375 dX2_openSegment_67 ?_
      refine lv_bipush (v := Int32.ofInt 60) hx hb dX2_openSegment_70 (by decide) ?_
      obtain ⟨o5, hw⟩ := hw
      refine z_icmp_lt (tgt := 77) hx hb o5 (by decide) dX2_openSegment_72 (by decide) (fun k6 => ?_) (fun k6 => ?_)
      · replace hw := hw.1 k6
        refine lv_aload_n hx hb dX2_openSegment_77 rfl (lv_at hl 0 rfl) ?_
        refine zgC15_1 hx hb hg hown hK hP q372 dX2_openSegment_78 ?_
        refine lv_iload_n hx hb dX2_openSegment_81 rfl (lv_at hl 3 rfl) ?_
        refine lv_iconst (v := Int32.ofInt 1) hx hb dX2_openSegment_82 (by decide) ?_
        refine lv_aload_n hx hb dX2_openSegment_83 rfl (lv_at hl 0 rfl) ?_
        refine zgC15_4 hx hb hg hown hK hP q375 dX2_openSegment_84 ?_
        refine z_Vv (n := 3) (As := [.int (Int32.ofInt v3), .int (Int32.ofInt 1), .int (Int32.ofInt (zI σ2 15 4))]) (rest := []) hx hb hml hg hown hK hP hD hS hA (kX5_make l D dA ad v3 1 (zI σ2 15 4) σ2 _ _ hw) (zoC11) rfl q1129 q150 q1126 q1127 q1128 (by decide +kernel) ⟨(Nat.le_of_ble_eq_true rfl), (Nat.le_of_ble_eq_true rfl)⟩ rfl hl.1 rfl (Nat.le_of_ble_eq_true rfl) dX2_openSegment_87 ⟨(Nat.le_of_ble_eq_true rfl), (Nat.le_of_ble_eq_true rfl)⟩ (fun σ8 H locs hw hP hD hS => ?_)
        refine lv_aload_n hx hb dX2_openSegment_90 rfl (lv_at hl 0 rfl) ?_
        refine zgC15_1 hx hb hg hown hK hP q372 dX2_openSegment_91 ?_
        refine zgC11_3 hx hb hg hown hK hP q201 dX2_openSegment_94 ?_
        refine lv_iload_n hx hb dX2_openSegment_97 rfl (lv_at hl 3 rfl) ?_
        refine lv_iload hx hb dX2_openSegment_98 (lv_at hl 4 rfl) ?_
        obtain ⟨o9, hw⟩ := hw
        refine zsC11_3 (v := v4) hx hb o9 hK hP hD hS dX2_openSegment_100 (fun H locs hP hD hS => ?_)
        refine lv_aload_n hx hb dX2_openSegment_101 rfl (lv_at hl 0 rfl) ?_
        refine zgC15_2 hx hb hg hown hK hP q373 dX2_openSegment_102 ?_
        refine lv_aload_n hx hb dX2_openSegment_105 rfl (lv_at hl 0 rfl) ?_
        refine zgC15_4 hx hb hg hown hK hP q375 dX2_openSegment_106 ?_
        refine g_nrm (y := Int32.ofInt (zI σ8 15 4)) rfl ?_
        refine lv_iload_n hx hb dX2_openSegment_109 rfl (lv_at hl 3 rfl) ?_
        obtain ⟨o10, hw⟩ := hw
        refine zsC15_2 (v := v3) hx hb o10 hK hP hD hS dX2_openSegment_110 (fun H locs hP hD hS => ?_)
        refine lv_aload_n hx hb dX2_openSegment_111 rfl (lv_at hl 0 rfl) ?_
        refine lv_dup hx hb dX2_openSegment_112 rfl ?_
        refine zgC15_4 hx hb hg hown hK hP q375 dX2_openSegment_113 ?_
        refine g_nrm (y := Int32.ofInt (zI σ8 15 4)) rfl ?_
        refine lv_iconst (v := Int32.ofInt 1) hx hb dX2_openSegment_116 (by decide) ?_
        refine z_iadd hx hb dX2_openSegment_117 ?_
        refine zpC15_4 (v := ((zI σ8 15 4) + 1)) hx hb hg hown hK hP hD hS q375 dX2_openSegment_118 (fun H locs hP hD hS => ?_)
        refine lv_aload_n hx hb dX2_openSegment_121 rfl (lv_at hl 0 rfl) ?_
        refine zgC15_4 hx hb hg hown hK hP q375 dX2_openSegment_122 ?_
        refine g_nrm (y := Int32.ofInt ((zI σ8 15 4) + 1)) rfl ?_
        refine lv_iconst (v := Int32.ofInt 1) hx hb dX2_openSegment_125 (by decide) ?_
        refine z_isub hx hb dX2_openSegment_126 ?_
        exact hret (((zI σ8 15 4) + 1) - 1) (zsI (zsA (zsA σ8 11 3 v3 v4) 15 2 (zI σ8 15 4) v3) 15 4 ((zI σ8 15 4) + 1)) _ _ _ _ hw hP hD hS dX2_openSegment_127
      · replace hw := hw.2 k6
        exact j75 v2 σ2 _ _ _ hP hD hS (lv_sub hl [2] rfl) hw
  unfold wpX2_openSegment at hw
  refine lv_aload_n hx hb dX2_openSegment_0 rfl (lv_at hl 0 rfl) ?_
  refine zgC15_0 hx hb hg hown hK hP q371 dX2_openSegment_1 ?_
  refine zgC13_2 hx hb hg hown hK hP q262 dX2_openSegment_4 ?_
  refine lv_iload_n hx hb dX2_openSegment_7 rfl (lv_at hl 1 rfl) ?_
  obtain ⟨o11, hw⟩ := hw
  refine zlC13_2 hx hb o11 hK hP dX2_openSegment_8 ?_
  refine lv_istore_n (lv' := [(3, .int (Int32.ofInt (zA σ 13 2 a1))), (0, .ref (ad 15 1000)), (1, .int (Int32.ofInt a1)), (2, .int (Int32.ofInt a2))]) hx hb dX2_openSegment_9 rfl hl (by decide) rfl (fun ls hl => ?_)
  refine lv_aload_n hx hb dX2_openSegment_10 rfl (lv_at hl 1 rfl) ?_
  refine zgC15_0 hx hb hg hown hK hP q371 dX2_openSegment_11 ?_
  refine zgC13_1 hx hb hg hown hK hP q260 dX2_openSegment_14 ?_
  refine lv_iload_n hx hb dX2_openSegment_17 rfl (lv_at hl 2 rfl) ?_
  refine zlC13_1 hx hb o11 hK hP dX2_openSegment_18 ?_
  refine lv_istore (lv' := [(4, .int (Int32.ofInt (zA σ 13 1 a1))), (3, .int (Int32.ofInt (zA σ 13 2 a1))), (0, .ref (ad 15 1000)), (1, .int (Int32.ofInt a1)), (2, .int (Int32.ofInt a2))]) hx hb dX2_openSegment_19 hl (by decide) rfl (fun ls hl => ?_)
  refine lv_aload_n hx hb dX2_openSegment_21 rfl (lv_at hl 2 rfl) ?_
  refine zgC15_1 hx hb hg hown hK hP q372 dX2_openSegment_22 ?_
  refine zgC11_1 hx hb hg hown hK hP q197 dX2_openSegment_25 ?_
  refine lv_iload_n hx hb dX2_openSegment_28 rfl (lv_at hl 1 rfl) ?_
  obtain ⟨o12, hw⟩ := hw
  refine zlC11_1 hx hb o12 hK hP dX2_openSegment_29 ?_
  refine lv_iconst (v := Int32.ofInt 1) hx hb dX2_openSegment_30 (by decide) ?_
  obtain ⟨o13, hw⟩ := hw
  refine z_icmp_ne (tgt := 58) hx hb o13 (by decide) dX2_openSegment_31 (by decide) (fun k14 => ?_) (fun k14 => ?_)
  · replace hw := hw.1 k14
    exact j58 a1 a2 (zA σ 13 2 a1) (zA σ 13 1 a1) σ _ _ _ hP hD hS (lv_sub hl [2, 3, 4, 1, 0] rfl) hw
  · replace hw := hw.2 k14
    refine lv_aload_n hx hb dX2_openSegment_34 rfl (lv_at hl 2 rfl) ?_
    refine zgC15_1 hx hb hg hown hK hP q372 dX2_openSegment_35 ?_
    refine zgC11_3 hx hb hg hown hK hP q201 dX2_openSegment_38 ?_
    refine lv_iload_n hx hb dX2_openSegment_41 rfl (lv_at hl 1 rfl) ?_
    refine zlC11_3 hx hb o12 hK hP dX2_openSegment_42 ?_
    refine lv_iload hx hb dX2_openSegment_43 (lv_at hl 0 rfl) ?_
    obtain ⟨o15, hw⟩ := hw
    obtain ⟨o16, hw⟩ := hw
    refine z_icmp_ne (tgt := 58) hx hb o15 o16 dX2_openSegment_45 (by decide) (fun k17 => ?_) (fun k17 => ?_)
    · replace hw := hw.1 k17
      exact j58 a1 a2 (zA σ 13 2 a1) (zA σ 13 1 a1) σ _ _ _ hP hD hS (lv_sub hl [2, 3, 4, 1, 0] rfl) hw
    · replace hw := hw.2 k17
      refine lv_aload_n hx hb dX2_openSegment_48 rfl (lv_at hl 2 rfl) ?_
      refine zgC15_1 hx hb hg hown hK hP q372 dX2_openSegment_49 ?_
      refine zgC11_2 hx hb hg hown hK hP q199 dX2_openSegment_52 ?_
      refine lv_iload_n hx hb dX2_openSegment_55 rfl (lv_at hl 1 rfl) ?_
      refine zlC11_2 hx hb o12 hK hP dX2_openSegment_56 ?_
      exact hret (zA σ 11 2 (zA σ 13 2 a1)) σ _ _ _ _ hw hP hD hS dX2_openSegment_57
def wpX2_declare_26 (σ : ZS) (Q : ZS → Prop) : Prop := Q σ
def wpX2_declare (a1 a2 a3 : Int) (σ : ZS) (Q : ZS → Prop) : Prop := wpX2_mayDeclare a1 σ (fun (x1 : Int) (σ2 : ZS) => (-2147483648 ≤ x1 ∧ x1 ≤ 2147483647) ∧ (x1 = 0 → wpX2_declare_26 σ2 Q) ∧ (¬ x1 = 0 → (0 ≤ a1 ∧ a1 < 248) ∧ wpX5_make (zA σ2 13 2 a1) a2 a3 σ2 (fun (σ7 : ZS) => wpX2_declare_26 σ7 Q)))
set_option maxHeartbeats 4000000 in
set_option maxRecDepth 100000 in
theorem kX2_declare (l : Launch) (D : va_G) (dA : Nat → ClassId) (ad : Int → Nat → Nat) (a1 a2 a3 : Int) (σ : ZS) (Q : ZS → Prop) (sz : Nat) (hw : wpX2_declare a1 a2 a3 σ Q) : Met l yX2_declare (gws yX2_declare cX2_declare 4 none) (gR 3 0 0) (gPre D dA [.ref (ad 15 1000), .int (Int32.ofInt a1), .int (Int32.ofInt a2), .int (Int32.ofInt a3)] (zC dA ad σ) sz) (va_Qv Q (gAt D dA (va_A (zC dA ad σ) sz) (zC dA ad)) (va_A (zC dA ad σ) sz)) 0 0 (va_A (zC dA ad σ) sz) := by
  refine Met.ofW (cc := cX2_declare) (maxL := 4) (ret := none) (by decide) rfl ?_
  intro p e s m args below meth c s₁ B hml hv
  obtain ⟨rfl, hsz, hP, hK, hD0⟩ := hv
  have hx := B.exec
  have hb := B.bytes
  have hr := B.returns
  have hts := atoms_spec (ws := gws yX2_declare cX2_declare 4 none) B.pre
  have hg : ∀ w ∈ gw, w.before _ s = true := fun w h => hts w (List.mem_cons_of_mem _ h)
  have hown : s.vm.findClass RX2 = some m.cls := findClass_of_methodNamed B.named
  have hlocks := B.notSynchronized
  subst hsz
  have hD := hD0.self (sz := s.heap.size)
  generalize hAe : va_A (zC dA ad σ) s.heap.size = A at hD ⊢
  have hA : ∀ q : Nat, s.heap.size ≤ q → A q := fun q h => by rw [← hAe]; exact Or.inr h
  have hS : va_S A s.heap s.heap [] := va_S.rf
  have hl := lv_entry ([.ref (ad 15 1000), .int (Int32.ofInt a1), .int (Int32.ofInt a2), .int (Int32.ofInt a3)]) (n := 4) (Nat.le_of_ble_eq_true rfl)
  rw [lg_entry_eq]
  generalize (lg_sl ([.ref (ad 15 1000), .int (Int32.ofInt a1), .int (Int32.ofInt a2), .int (Int32.ofInt a3)]) ++ List.replicate (4 - (lg_sl ([.ref (ad 15 1000), .int (Int32.ofInt a1), .int (Int32.ofInt a2), .int (Int32.ofInt a3)])).length) Slot.unset).toArray = ls at hl ⊢
  have hl : lv_has ls 4 [(0, .ref (ad 15 1000)), (1, .int (Int32.ofInt a1)), (2, .int (Int32.ofInt a2)), (3, .int (Int32.ofInt a3))] := hl
  have hret : ∀ (σ : ZS) (H : Heap) (locs : List Loc) (ls : Array Slot) (pc : Nat), Q σ → va_P D vwC (zC dA ad σ) H → va_D A (zC dA ad σ) → va_S A s.heap H locs → decode cX2_declare pc = .ok (.return_, 1) → W p l e (gR 3 0 0) s m #[.ref (ad 15 1000), .int (Int32.ofInt a1), .int (Int32.ofInt a2), .int (Int32.ofInt a3)] below meth c H locs 0 0 (MQ below (va_Qv Q (gAt D dA A (zC dA ad)) A) #[.ref (ad 15 1000), .int (Int32.ofInt a1), .int (Int32.ofInt a2), .int (Int32.ofInt a3)] s 0 0 A) (F0 m pc ls []) := fun σ H locs ls pc hw hP hD hS hd => g_vret hx hb hr hlocks hK σ hP hD hS hw (Nat.le_of_ble_eq_true rfl) (Nat.le_of_ble_eq_true rfl) hd
  generalize MQ below (va_Qv Q (gAt D dA A (zC dA ad)) A) #[.ref (ad 15 1000), .int (Int32.ofInt a1), .int (Int32.ofInt a2), .int (Int32.ofInt a3)] s 0 0 A = QQ at hret ⊢
  have j26 : ∀ (σ : ZS), ∀ (H : Heap) (locs : List Loc) (ls : Array Slot), va_P D vwC (zC dA ad σ) H → va_D A (zC dA ad σ) → va_S A s.heap H locs → lv_has ls 4 [] → wpX2_declare_26 σ Q → W p l e (gR 3 0 0) s m #[.ref (ad 15 1000), .int (Int32.ofInt a1), .int (Int32.ofInt a2), .int (Int32.ofInt a3)] below meth c H locs 0 0 QQ (F0 m 26 ls []) := by
    intro σ H locs ls hP hD hS hl hw
    unfold wpX2_declare_26 at hw
    exact hret σ _ _ _ _ hw hP hD hS dX2_declare_26
  unfold wpX2_declare at hw
  refine lv_aload_n hx hb dX2_declare_0 rfl (lv_at hl 0 rfl) ?_
  refine lv_iload_n hx hb dX2_declare_1 rfl (lv_at hl 1 rfl) ?_
  refine z_Vi (n := 1) (As := [.int (Int32.ofInt a1)]) (rest := []) hx hb hml hg hown hK hP hD hS hA (kX2_mayDeclare l D dA ad a1 σ _ _ hw) (zoC15) rfl q1121 q155 q1118 q1120 q30 (by decide +kernel) ⟨(Nat.le_of_ble_eq_true rfl), (Nat.le_of_ble_eq_true rfl)⟩ rfl hl.1 rfl (Nat.le_of_ble_eq_true rfl) dX2_declare_2 ⟨(Nat.le_of_ble_eq_true rfl), (Nat.le_of_ble_eq_true rfl)⟩ (fun x1 σ2 H locs hw hP hD hS => ?_)
  obtain ⟨o3, hw⟩ := hw
  refine z_if_eq (tgt := 26) hx hb o3 dX2_declare_5 (by decide) (fun k4 => ?_) (fun k4 => ?_)
  · replace hw := hw.1 k4
    exact j26 σ2 _ _ _ hP hD hS (lv_sub hl [] rfl) hw
  · replace hw := hw.2 k4
    refine lv_aload_n hx hb dX2_declare_8 rfl (lv_at hl 0 rfl) ?_
    refine zgC15_1 hx hb hg hown hK hP q372 dX2_declare_9 ?_
    refine lv_aload_n hx hb dX2_declare_12 rfl (lv_at hl 0 rfl) ?_
    refine zgC15_0 hx hb hg hown hK hP q371 dX2_declare_13 ?_
    refine zgC13_2 hx hb hg hown hK hP q262 dX2_declare_16 ?_
    refine lv_iload_n hx hb dX2_declare_19 rfl (lv_at hl 1 rfl) ?_
    obtain ⟨o5, hw⟩ := hw
    refine zlC13_2 hx hb o5 hK hP dX2_declare_20 ?_
    refine lv_iload_n hx hb dX2_declare_21 rfl (lv_at hl 2 rfl) ?_
    refine lv_iload_n hx hb dX2_declare_22 rfl (lv_at hl 3 rfl) ?_
    refine z_Vv (n := 3) (As := [.int (Int32.ofInt (zA σ2 13 2 a1)), .int (Int32.ofInt a2), .int (Int32.ofInt a3)]) (rest := []) hx hb hml hg hown hK hP hD hS hA (kX5_make l D dA ad (zA σ2 13 2 a1) a2 a3 σ2 _ _ hw) (zoC11) rfl q1129 q150 q1126 q1127 q1128 (by decide +kernel) ⟨(Nat.le_of_ble_eq_true rfl), (Nat.le_of_ble_eq_true rfl)⟩ rfl hl.1 rfl (Nat.le_of_ble_eq_true rfl) dX2_declare_23 ⟨(Nat.le_of_ble_eq_true rfl), (Nat.le_of_ble_eq_true rfl)⟩ (fun σ7 H locs hw hP hD hS => ?_)
    exact j26 σ7 _ _ _ hP hD hS (lv_sub hl [] rfl) hw
def wpX2_declareAll_90 (K9 : Int → Int → ZS → Prop) (v1 v2 : Int) (σ : ZS) (Q : ZS → Prop) : Prop := (0 ≤ v2 ∧ v2 < 248) ∧ K9 v1 (v2 + 1) (zsA σ 13 5 v2 v1)
def wpbX2_declareAll_9 (K9 : Int → Int → ZS → Prop) (v1 v2 : Int) (σ : ZS) (Q : ZS → Prop) : Prop := (-2147483648 ≤ v2 ∧ v2 ≤ 2147483647) ∧ (-2147483648 ≤ (zI σ 13 7) ∧ (zI σ 13 7) ≤ 2147483647) ∧ ((zI σ 13 7) ≤ v2 → Q σ) ∧ (¬ (zI σ 13 7) ≤ v2 → (0 ≤ v2 ∧ v2 < 248) ∧ (-2147483648 ≤ (zA σ 13 0 v2) ∧ (zA σ 13 0 v2) ≤ 2147483647) ∧ ((zA σ 13 0 v2) = 0 → wpX2_openSegment v2 v1 σ (fun (x9 : Int) (σ10 : ZS) => wpX2_declareAll_90 K9 x9 v2 σ10 Q)) ∧ (¬ (zA σ 13 0 v2) = 0 → ((zA σ 13 0 v2) = 1 → wpX2_declare v2 2 v1 σ (fun (σ13 : ZS) => wpX2_declareAll_90 K9 v1 v2 σ13 Q)) ∧ (¬ (zA σ 13 0 v2) = 1 → ((zA σ 13 0 v2) = 2 → wpX2_declareAll_90 K9 v1 v2 σ Q) ∧ (¬ (zA σ 13 0 v2) = 2 → ((zA σ 13 0 v2) = 3 → wpX2_declare v2 3 (-1) σ (fun (σ17 : ZS) => wpX2_declareAll_90 K9 v1 v2 σ17 Q)) ∧ (¬ (zA σ 13 0 v2) = 3 → wpX2_declareAll_90 K9 v1 v2 σ Q)))))
def wpX2_declareAll_9 (v1 v2 : Int) (σ : ZS) (Q : ZS → Prop) : Prop := lfp2 (fun K9 v1 v2 σ => wpbX2_declareAll_9 K9 v1 v2 σ Q) v1 v2 σ
def wpX2_declareAll (σ : ZS) (Q : ZS → Prop) : Prop := wpX2_declareAll_9 (-1) 0 (zsI σ 15 4 0) Q
set_option maxHeartbeats 4000000 in
set_option maxRecDepth 100000 in
theorem kX2_declareAll (l : Launch) (D : va_G) (dA : Nat → ClassId) (ad : Int → Nat → Nat) (σ : ZS) (Q : ZS → Prop) (sz : Nat) (hw : wpX2_declareAll σ Q) : Met l yX2_declareAll (gws yX2_declareAll cX2_declareAll 3 none) (gR 4 0 0) (gPre D dA [.ref (ad 15 1000)] (zC dA ad σ) sz) (va_Qv Q (gAt D dA (va_A (zC dA ad σ) sz) (zC dA ad)) (va_A (zC dA ad σ) sz)) 0 0 (va_A (zC dA ad σ) sz) := by
  refine Met.ofW (cc := cX2_declareAll) (maxL := 3) (ret := none) (by decide) rfl ?_
  intro p e s m args below meth c s₁ B hml hv
  obtain ⟨rfl, hsz, hP, hK, hD0⟩ := hv
  have hx := B.exec
  have hb := B.bytes
  have hr := B.returns
  have hts := atoms_spec (ws := gws yX2_declareAll cX2_declareAll 3 none) B.pre
  have hg : ∀ w ∈ gw, w.before _ s = true := fun w h => hts w (List.mem_cons_of_mem _ h)
  have hown : s.vm.findClass RX2 = some m.cls := findClass_of_methodNamed B.named
  have hlocks := B.notSynchronized
  subst hsz
  have hD := hD0.self (sz := s.heap.size)
  generalize hAe : va_A (zC dA ad σ) s.heap.size = A at hD ⊢
  have hA : ∀ q : Nat, s.heap.size ≤ q → A q := fun q h => by rw [← hAe]; exact Or.inr h
  have hS : va_S A s.heap s.heap [] := va_S.rf
  have hl := lv_entry ([.ref (ad 15 1000)]) (n := 3) (Nat.le_of_ble_eq_true rfl)
  rw [lg_entry_eq]
  generalize (lg_sl ([.ref (ad 15 1000)]) ++ List.replicate (3 - (lg_sl ([.ref (ad 15 1000)])).length) Slot.unset).toArray = ls at hl ⊢
  have hl : lv_has ls 3 [(0, .ref (ad 15 1000))] := hl
  have hret : ∀ (σ : ZS) (H : Heap) (locs : List Loc) (ls : Array Slot) (pc : Nat), Q σ → va_P D vwC (zC dA ad σ) H → va_D A (zC dA ad σ) → va_S A s.heap H locs → decode cX2_declareAll pc = .ok (.return_, 1) → W p l e (gR 4 0 0) s m #[.ref (ad 15 1000)] below meth c H locs 0 0 (MQ below (va_Qv Q (gAt D dA A (zC dA ad)) A) #[.ref (ad 15 1000)] s 0 0 A) (F0 m pc ls []) := fun σ H locs ls pc hw hP hD hS hd => g_vret hx hb hr hlocks hK σ hP hD hS hw (Nat.le_of_ble_eq_true rfl) (Nat.le_of_ble_eq_true rfl) hd
  generalize MQ below (va_Qv Q (gAt D dA A (zC dA ad)) A) #[.ref (ad 15 1000)] s 0 0 A = QQ at hret ⊢
  have b9 : ∀ (K9 : Int → Int → ZS → Prop), (∀ (v1 v2 : Int) (σ : ZS), K9 v1 v2 σ → ∀ (H : Heap) (locs : List Loc) (ls : Array Slot), va_P D vwC (zC dA ad σ) H → va_D A (zC dA ad σ) → va_S A s.heap H locs → lv_has ls 3 [(0, .ref (ad 15 1000)), (1, .int (Int32.ofInt v1)), (2, .int (Int32.ofInt v2))] → W p l e (gR 4 0 0) s m #[.ref (ad 15 1000)] below meth c H locs 0 0 QQ (F0 m 9 ls [])) → ∀ (v1 v2 : Int) (σ : ZS), wpbX2_declareAll_9 K9 v1 v2 σ Q → ∀ (H : Heap) (locs : List Loc) (ls : Array Slot), va_P D vwC (zC dA ad σ) H → va_D A (zC dA ad σ) → va_S A s.heap H locs → lv_has ls 3 [(0, .ref (ad 15 1000)), (1, .int (Int32.ofInt v1)), (2, .int (Int32.ofInt v2))] → W p l e (gR 4 0 0) s m #[.ref (ad 15 1000)] below meth c H locs 0 0 QQ (F0 m 9 ls []) := by
    intro K9 hK9
    have j90 : ∀ (v1 v2 : Int) (σ : ZS), ∀ (H : Heap) (locs : List Loc) (ls : Array Slot), va_P D vwC (zC dA ad σ) H → va_D A (zC dA ad σ) → va_S A s.heap H locs → lv_has ls 3 [(0, .ref (ad 15 1000)), (1, .int (Int32.ofInt v1)), (2, .int (Int32.ofInt v2))] → wpX2_declareAll_90 K9 v1 v2 σ Q → W p l e (gR 4 0 0) s m #[.ref (ad 15 1000)] below meth c H locs 0 0 QQ (F0 m 90 ls []) := by
      intro v1 v2 σ H locs ls hP hD hS hl hw
      unfold wpX2_declareAll_90 at hw
      refine lv_aload_n hx hb dX2_declareAll_90 rfl (lv_at hl 0 rfl) ?_
      refine zgC15_0 hx hb hg hown hK hP q371 dX2_declareAll_91 ?_
      refine zgC13_5 hx hb hg hown hK hP q268 dX2_declareAll_94 ?_
      refine lv_iload_n hx hb dX2_declareAll_97 rfl (lv_at hl 2 rfl) ?_
      refine lv_iload_n hx hb dX2_declareAll_98 rfl (lv_at hl 1 rfl) ?_
      obtain ⟨o1, hw⟩ := hw
      refine zsC13_5 (v := v1) hx hb o1 hK hP hD hS dX2_declareAll_99 (fun H locs hP hD hS => ?_)
      refine lv_iinc (v := Int32.ofInt (v2 + 1)) (lv' := [(2, .int (Int32.ofInt (v2 + 1))), (0, .ref (ad 15 1000)), (1, .int (Int32.ofInt v1))]) hx hb dX2_declareAll_100 hl (k := 2) rfl (Int32.ofInt_add _ _).symm (by decide) rfl (fun ls hl => ?_)
      refine lv_goto (tgt := 9) hx hb dX2_declareAll_103 (by decide) ?_
      exact hK9 v1 (v2 + 1) (zsA σ 13 5 v2 v1) hw _ _ _ hP hD hS (lv_sub hl [1, 2, 0] rfl)
    intro v1 v2 σ hw H locs ls hP hD hS hl
    unfold wpbX2_declareAll_9 at hw
    refine lv_iload_n hx hb dX2_declareAll_9 rfl (lv_at hl 2 rfl) ?_
    refine lv_aload_n hx hb dX2_declareAll_10 rfl (lv_at hl 0 rfl) ?_
    refine zgC15_0 hx hb hg hown hK hP q371 dX2_declareAll_11 ?_
    refine zgC13_7 hx hb hg hown hK hP q273 dX2_declareAll_14 ?_
    obtain ⟨o2, hw⟩ := hw
    obtain ⟨o3, hw⟩ := hw
    refine z_icmp_ge (tgt := 106) hx hb o2 o3 dX2_declareAll_17 (by decide) (fun k4 => ?_) (fun k4 => ?_)
    · replace hw := hw.1 k4
      exact hret σ _ _ _ _ hw hP hD hS dX2_declareAll_106
    · replace hw := hw.2 k4
      refine lv_aload_n hx hb dX2_declareAll_20 rfl (lv_at hl 0 rfl) ?_
      refine zgC15_0 hx hb hg hown hK hP q371 dX2_declareAll_21 ?_
      refine zgC13_0 hx hb hg hown hK hP q258 dX2_declareAll_24 ?_
      refine lv_iload_n hx hb dX2_declareAll_27 rfl (lv_at hl 2 rfl) ?_
      obtain ⟨o5, hw⟩ := hw
      refine zlC13_0 hx hb o5 hK hP dX2_declareAll_28 ?_
      obtain ⟨o6, hw⟩ := hw
      have t7 := z_ti o6
      by_cases s8 : (zA σ 13 0 v2) = 0
      · replace hw := hw.1 s8
        refine lv_tableIn (tgt := 60) hx hb dX2_declareAll_29 (by rw [t7, s8]; decide) (by rw [t7, s8]; decide) (by rw [t7, s8]; rfl) (by decide) ?_
        refine lv_aload_n hx hb dX2_declareAll_60 rfl (lv_at hl 0 rfl) ?_
        refine lv_iload_n hx hb dX2_declareAll_61 rfl (lv_at hl 2 rfl) ?_
        refine lv_iload_n hx hb dX2_declareAll_62 rfl (lv_at hl 1 rfl) ?_
        refine z_Vi (n := 2) (As := [.int (Int32.ofInt v2), .int (Int32.ofInt v1)]) (rest := []) hx hb hml hg hown hK hP hD hS hA (kX2_openSegment l D dA ad v2 v1 σ _ _ hw) (zoC15) rfl q1117 q155 q1114 q1116 q29 (by decide +kernel) ⟨(Nat.le_of_ble_eq_true rfl), (Nat.le_of_ble_eq_true rfl)⟩ rfl hl.1 rfl (Nat.le_of_ble_eq_true rfl) dX2_declareAll_63 ⟨(Nat.le_of_ble_eq_true rfl), (Nat.le_of_ble_eq_true rfl)⟩ (fun x9 σ10 H locs hw hP hD hS => ?_)
        refine lv_istore_n (lv' := [(1, .int (Int32.ofInt x9)), (0, .ref (ad 15 1000)), (2, .int (Int32.ofInt v2))]) hx hb dX2_declareAll_66 rfl hl (by decide) rfl (fun ls hl => ?_)
        refine lv_goto (tgt := 90) hx hb dX2_declareAll_67 (by decide) ?_
        exact j90 x9 v2 σ10 _ _ _ hP hD hS (lv_sub hl [1, 0, 2] rfl) hw
      replace hw := hw.2 s8
      by_cases s11 : (zA σ 13 0 v2) = 1
      · replace hw := hw.1 s11
        refine lv_tableIn (tgt := 70) hx hb dX2_declareAll_29 (by rw [t7, s11]; decide) (by rw [t7, s11]; decide) (by rw [t7, s11]; rfl) (by decide) ?_
        refine lv_aload_n hx hb dX2_declareAll_70 rfl (lv_at hl 0 rfl) ?_
        refine lv_iload_n hx hb dX2_declareAll_71 rfl (lv_at hl 2 rfl) ?_
        refine lv_iconst (v := Int32.ofInt 2) hx hb dX2_declareAll_72 (by decide) ?_
        refine lv_iload_n hx hb dX2_declareAll_73 rfl (lv_at hl 1 rfl) ?_
        refine z_Vv (n := 3) (As := [.int (Int32.ofInt v2), .int (Int32.ofInt 2), .int (Int32.ofInt v1)]) (rest := []) hx hb hml hg hown hK hP hD hS hA (kX2_declare l D dA ad v2 2 v1 σ _ _ hw) (zoC15) rfl q1133 q155 q1130 q1132 q32 (by decide +kernel) ⟨(Nat.le_of_ble_eq_true rfl), (Nat.le_of_ble_eq_true rfl)⟩ rfl hl.1 rfl (Nat.le_of_ble_eq_true rfl) dX2_declareAll_74 ⟨(Nat.le_of_ble_eq_true rfl), (Nat.le_of_ble_eq_true rfl)⟩ (fun σ13 H locs hw hP hD hS => ?_)
        refine lv_goto (tgt := 90) hx hb dX2_declareAll_77 (by decide) ?_
        exact j90 v1 v2 σ13 _ _ _ hP hD hS (lv_sub hl [0, 1, 2] rfl) hw
      replace hw := hw.2 s11
      by_cases s14 : (zA σ 13 0 v2) = 2
      · replace hw := hw.1 s14
        refine lv_tableIn (tgt := 90) hx hb dX2_declareAll_29 (by rw [t7, s14]; decide) (by rw [t7, s14]; decide) (by rw [t7, s14]; rfl) (by decide) ?_
        exact j90 v1 v2 σ _ _ _ hP hD hS (lv_sub hl [0, 1, 2] rfl) hw
      replace hw := hw.2 s14
      by_cases s15 : (zA σ 13 0 v2) = 3
      · replace hw := hw.1 s15
        refine lv_tableIn (tgt := 80) hx hb dX2_declareAll_29 (by rw [t7, s15]; decide) (by rw [t7, s15]; decide) (by rw [t7, s15]; rfl) (by decide) ?_
        refine lv_aload_n hx hb dX2_declareAll_80 rfl (lv_at hl 0 rfl) ?_
        refine lv_iload_n hx hb dX2_declareAll_81 rfl (lv_at hl 2 rfl) ?_
        refine lv_iconst (v := Int32.ofInt 3) hx hb dX2_declareAll_82 (by decide) ?_
        refine lv_iconst (v := Int32.ofInt (-1)) hx hb dX2_declareAll_83 (by decide) ?_
        refine z_Vv (n := 3) (As := [.int (Int32.ofInt v2), .int (Int32.ofInt 3), .int (Int32.ofInt (-1))]) (rest := []) hx hb hml hg hown hK hP hD hS hA (kX2_declare l D dA ad v2 3 (-1) σ _ _ hw) (zoC15) rfl q1133 q155 q1130 q1132 q32 (by decide +kernel) ⟨(Nat.le_of_ble_eq_true rfl), (Nat.le_of_ble_eq_true rfl)⟩ rfl hl.1 rfl (Nat.le_of_ble_eq_true rfl) dX2_declareAll_84 ⟨(Nat.le_of_ble_eq_true rfl), (Nat.le_of_ble_eq_true rfl)⟩ (fun σ17 H locs hw hP hD hS => ?_)
        refine lv_goto (tgt := 90) hx hb dX2_declareAll_87 (by decide) ?_
        exact j90 v1 v2 σ17 _ _ _ hP hD hS (lv_sub hl [0, 1, 2] rfl) hw
      replace hw := hw.2 s15
      refine lv_tableOut (tgt := 90) hx hb dX2_declareAll_29 (by rw [t7]; clear hw; omega) (by decide) ?_
      exact j90 v1 v2 σ _ _ _ hP hD hS (lv_sub hl [0, 1, 2] rfl) hw
  have j9 : ∀ (v1 v2 : Int) (σ : ZS), ∀ (H : Heap) (locs : List Loc) (ls : Array Slot), va_P D vwC (zC dA ad σ) H → va_D A (zC dA ad σ) → va_S A s.heap H locs → lv_has ls 3 [(0, .ref (ad 15 1000)), (1, .int (Int32.ofInt v1)), (2, .int (Int32.ofInt v2))] → wpX2_declareAll_9 v1 v2 σ Q → W p l e (gR 4 0 0) s m #[.ref (ad 15 1000)] below meth c H locs 0 0 QQ (F0 m 9 ls []) := by
    intro v1 v2 σ H locs ls hP hD hS hl hw
    exact hw (fun v1 v2 σ => ∀ (H : Heap) (locs : List Loc) (ls : Array Slot), va_P D vwC (zC dA ad σ) H → va_D A (zC dA ad σ) → va_S A s.heap H locs → lv_has ls 3 [(0, .ref (ad 15 1000)), (1, .int (Int32.ofInt v1)), (2, .int (Int32.ofInt v2))] → W p l e (gR 4 0 0) s m #[.ref (ad 15 1000)] below meth c H locs 0 0 QQ (F0 m 9 ls [])) (b9 (fun v1 v2 σ => ∀ (H : Heap) (locs : List Loc) (ls : Array Slot), va_P D vwC (zC dA ad σ) H → va_D A (zC dA ad σ) → va_S A s.heap H locs → lv_has ls 3 [(0, .ref (ad 15 1000)), (1, .int (Int32.ofInt v1)), (2, .int (Int32.ofInt v2))] → W p l e (gR 4 0 0) s m #[.ref (ad 15 1000)] below meth c H locs 0 0 QQ (F0 m 9 ls [])) (fun v1 v2 σ h => h)) _ _ _ hP hD hS hl
  unfold wpX2_declareAll at hw
  refine lv_aload_n hx hb dX2_declareAll_0 rfl (lv_at hl 0 rfl) ?_
  refine lv_iconst (v := Int32.ofInt 0) hx hb dX2_declareAll_1 (by decide) ?_
  refine zpC15_4 (v := 0) hx hb hg hown hK hP hD hS q375 dX2_declareAll_2 (fun H locs hP hD hS => ?_)
  refine lv_iconst (v := Int32.ofInt (-1)) hx hb dX2_declareAll_5 (by decide) ?_
  refine lv_istore_n (lv' := [(1, .int (Int32.ofInt (-1))), (0, .ref (ad 15 1000))]) hx hb dX2_declareAll_6 rfl hl (by decide) rfl (fun ls hl => ?_)
  refine lv_iconst (v := Int32.ofInt 0) hx hb dX2_declareAll_7 (by decide) ?_
  refine lv_istore_n (lv' := [(2, .int (Int32.ofInt 0)), (1, .int (Int32.ofInt (-1))), (0, .ref (ad 15 1000))]) hx hb dX2_declareAll_8 rfl hl (by decide) rfl (fun ls hl => ?_)
  exact j9 (-1) 0 (zsI σ 15 4 0) _ _ _ hP hD hS (lv_sub hl [2, 1, 0] rfl) hw
def wpX2_isUseRight_184 (σ : ZS) (Q : Int → ZS → Prop) : Prop := Q 1 σ
def wpX2_isUseRight_183 (s0 : Int) (σ : ZS) (Q : Int → ZS → Prop) : Prop := (0 ≤ s0 ∧ s0 ≤ 1) ∧ Q s0 σ
def wpX2_isUseRight_178 (σ : ZS) (Q : Int → ZS → Prop) : Prop := wpX2_isUseRight_183 1 σ Q
def wpX2_isUseRight_167 (s0 : Int) (σ : ZS) (Q : Int → ZS → Prop) : Prop := (0 ≤ s0 ∧ s0 ≤ 1) ∧ Q s0 σ
def wpX2_isUseRight_162 (σ : ZS) (Q : Int → ZS → Prop) : Prop := wpX2_isUseRight_167 1 σ Q
def wpX2_isUseRight_152 (v3 v4 : Int) (σ : ZS) (Q : Int → ZS → Prop) : Prop := (-2147483648 ≤ v4 ∧ v4 ≤ 2147483647) ∧ (¬ v4 = 0 → wpX2_isUseRight_162 σ Q) ∧ (v4 = 0 → (-2147483648 ≤ v3 ∧ v3 ≤ 2147483647) ∧ (¬ v3 = 3 → wpX2_isUseRight_167 0 σ Q) ∧ (v3 = 3 → wpX2_isUseRight_162 σ Q))
def wpX2_isUseRight_148 (s0 : Int) (σ : ZS) (Q : Int → ZS → Prop) : Prop := (0 ≤ s0 ∧ s0 ≤ 1) ∧ Q s0 σ
def wpX2_isUseRight_139 (v3 : Int) (σ : ZS) (Q : Int → ZS → Prop) : Prop := (-2147483648 ≤ v3 ∧ v3 ≤ 2147483647) ∧ (v3 = 0 → wpX2_isUseRight_148 0 σ Q) ∧ (¬ v3 = 0 → wpX2_isUseRight_148 1 σ Q)
def wpX2_isUseRight_138 (s0 : Int) (σ : ZS) (Q : Int → ZS → Prop) : Prop := (0 ≤ s0 ∧ s0 ≤ 1) ∧ Q s0 σ
def wpX2_isUseRight_57 (v1 v3 s0 : Int) (σ : ZS) (Q : Int → ZS → Prop) : Prop := (0 ≤ v1 ∧ v1 < 248) ∧ (-2147483648 ≤ (zA σ 13 0 v1) ∧ (zA σ 13 0 v1) ≤ 2147483647) ∧ ((zA σ 13 0 v1) = 2 → (-2147483648 ≤ v3 ∧ v3 ≤ 2147483647) ∧ (¬ v3 = 2 → wpX2_isUseRight_138 0 σ Q) ∧ (v3 = 2 → wpX2_isUseRight_138 1 σ Q)) ∧ (¬ (zA σ 13 0 v1) = 2 → ((zA σ 13 0 v1) = 3 → wpX2_isUseRight_184 σ Q) ∧ (¬ (zA σ 13 0 v1) = 3 → ((zA σ 13 0 v1) = 4 → wpX2_isUseRight_184 σ Q) ∧ (¬ (zA σ 13 0 v1) = 4 → ((zA σ 13 0 v1) = 5 → wpX2_isUseRight_184 σ Q) ∧ (¬ (zA σ 13 0 v1) = 5 → ((zA σ 13 0 v1) = 6 → wpX2_isUseRight_184 σ Q) ∧ (¬ (zA σ 13 0 v1) = 6 → ((zA σ 13 0 v1) = 7 → wpX2_isUseRight_139 v3 σ Q) ∧ (¬ (zA σ 13 0 v1) = 7 → ((zA σ 13 0 v1) = 8 → wpX2_isUseRight_139 v3 σ Q) ∧ (¬ (zA σ 13 0 v1) = 8 → ((zA σ 13 0 v1) = 9 → wpX2_isUseRight_152 v3 s0 σ Q) ∧ (¬ (zA σ 13 0 v1) = 9 → ((zA σ 13 0 v1) = 10 → (0 ≤ s0 ∧ s0 ≤ 1) ∧ Q s0 σ) ∧ (¬ (zA σ 13 0 v1) = 10 → ((zA σ 13 0 v1) = 11 → wpX2_isUseRight_152 v3 s0 σ Q) ∧ (¬ (zA σ 13 0 v1) = 11 → ((zA σ 13 0 v1) = 12 → (-2147483648 ≤ v3 ∧ v3 ≤ 2147483647) ∧ (v3 = 2 → wpX2_isUseRight_178 σ Q) ∧ (¬ v3 = 2 → (¬ v3 = 3 → wpX2_isUseRight_183 0 σ Q) ∧ (v3 = 3 → wpX2_isUseRight_178 σ Q))) ∧ (¬ (zA σ 13 0 v1) = 12 → wpX2_isUseRight_184 σ Q)))))))))))
def wpX2_isUseRight_56 (v1 v3 : Int) (σ : ZS) (Q : Int → ZS → Prop) : Prop := wpX2_isUseRight_57 v1 v3 0 σ Q
def wpX2_isUseRight (a1 : Int) (σ : ZS) (Q : Int → ZS → Prop) : Prop := (0 ≤ a1 ∧ a1 < 248) ∧ (-2147483648 ≤ (zA σ 13 2 a1) ∧ (zA σ 13 2 a1) ≤ 2147483647) ∧ (0 ≤ (zA σ 13 2 a1) → (0 ≤ (zA σ 13 2 a1) ∧ (zA σ 13 2 a1) < 240) ∧ (-2147483648 ≤ (zA σ 11 1 (zA σ 13 2 a1)) ∧ (zA σ 11 1 (zA σ 13 2 a1)) ≤ 2147483647) ∧ (¬ (zA σ 11 1 (zA σ 13 2 a1)) = 2 → wpX2_isUseRight_56 a1 (zA σ 11 1 (zA σ 13 2 a1)) σ Q) ∧ ((zA σ 11 1 (zA σ 13 2 a1)) = 2 → (-2147483648 ≤ (zA σ 11 2 (zA σ 13 2 a1)) ∧ (zA σ 11 2 (zA σ 13 2 a1)) ≤ 2147483647) ∧ (-2147483648 ≤ (zA σ 13 5 a1) ∧ (zA σ 13 5 a1) ≤ 2147483647) ∧ (¬ (zA σ 11 2 (zA σ 13 2 a1)) = (zA σ 13 5 a1) → wpX2_isUseRight_56 a1 (zA σ 11 1 (zA σ 13 2 a1)) σ Q) ∧ ((zA σ 11 2 (zA σ 13 2 a1)) = (zA σ 13 5 a1) → wpX2_isUseRight_57 a1 (zA σ 11 1 (zA σ 13 2 a1)) 1 σ Q))) ∧ (¬ 0 ≤ (zA σ 13 2 a1) → Q 1 σ)
set_option maxHeartbeats 4000000 in
set_option maxRecDepth 100000 in
theorem kX2_isUseRight (l : Launch) (D : va_G) (dA : Nat → ClassId) (ad : Int → Nat → Nat) (a1 : Int) (σ : ZS) (Q : Int → ZS → Prop) (sz : Nat) (hw : wpX2_isUseRight a1 σ Q) : Met l yX2_isUseRight (gws yX2_isUseRight cX2_isUseRight 5 (some .boolean)) (gR 1 0 0) (gPre D dA [.ref (ad 15 1000), .int (Int32.ofInt a1)] (zC dA ad σ) sz) (va_Qi (zQi Q) (gAt D dA (va_A (zC dA ad σ) sz) (zC dA ad)) (va_A (zC dA ad σ) sz)) 0 0 (va_A (zC dA ad σ) sz) := by
  refine Met.ofW (cc := cX2_isUseRight) (maxL := 5) (ret := (some .boolean)) (by decide) rfl ?_
  intro p e s m args below meth c s₁ B hml hv
  obtain ⟨rfl, hsz, hP, hK, hD0⟩ := hv
  have hx := B.exec
  have hb := B.bytes
  have hr := B.returns
  have hts := atoms_spec (ws := gws yX2_isUseRight cX2_isUseRight 5 (some .boolean)) B.pre
  have hg : ∀ w ∈ gw, w.before _ s = true := fun w h => hts w (List.mem_cons_of_mem _ h)
  have hown : s.vm.findClass RX2 = some m.cls := findClass_of_methodNamed B.named
  have hlocks := B.notSynchronized
  subst hsz
  have hD := hD0.self (sz := s.heap.size)
  generalize hAe : va_A (zC dA ad σ) s.heap.size = A at hD ⊢
  have hA : ∀ q : Nat, s.heap.size ≤ q → A q := fun q h => by rw [← hAe]; exact Or.inr h
  have hS : va_S A s.heap s.heap [] := va_S.rf
  have hl := lv_entry ([.ref (ad 15 1000), .int (Int32.ofInt a1)]) (n := 5) (Nat.le_of_ble_eq_true rfl)
  rw [lg_entry_eq]
  generalize (lg_sl ([.ref (ad 15 1000), .int (Int32.ofInt a1)]) ++ List.replicate (5 - (lg_sl ([.ref (ad 15 1000), .int (Int32.ofInt a1)])).length) Slot.unset).toArray = ls at hl ⊢
  have hl : lv_has ls 5 [(0, .ref (ad 15 1000)), (1, .int (Int32.ofInt a1))] := hl
  have hret : ∀ (v : Int) (σ : ZS) (H : Heap) (locs : List Loc) (ls : Array Slot) (pc : Nat), (0 ≤ v ∧ v ≤ 1) → Q v σ → va_P D vwC (zC dA ad σ) H → va_D A (zC dA ad σ) → va_S A s.heap H locs → decode cX2_isUseRight pc = .ok (.ireturn, 1) → W p l e (gR 1 0 0) s m #[.ref (ad 15 1000), .int (Int32.ofInt a1)] below meth c H locs 0 0 (MQ below (va_Qi (zQi Q) (gAt D dA A (zC dA ad)) A) #[.ref (ad 15 1000), .int (Int32.ofInt a1)] s 0 0 A) (F0 m pc ls [.int (Int32.ofInt v)]) := fun v σ H locs ls pc hv hw hP hD hS hd => g_iret hx hb hr (z_nb hv) hlocks hK σ hP hD hS ⟨v, rfl, hw⟩ (Nat.le_of_ble_eq_true rfl) (Nat.le_of_ble_eq_true rfl) hd
  generalize MQ below (va_Qi (zQi Q) (gAt D dA A (zC dA ad)) A) #[.ref (ad 15 1000), .int (Int32.ofInt a1)] s 0 0 A = QQ at hret ⊢
  have j184 : ∀ (σ : ZS), ∀ (H : Heap) (locs : List Loc) (ls : Array Slot), va_P D vwC (zC dA ad σ) H → va_D A (zC dA ad σ) → va_S A s.heap H locs → lv_has ls 5 [] → wpX2_isUseRight_184 σ Q → W p l e (gR 1 0 0) s m #[.ref (ad 15 1000), .int (Int32.ofInt a1)] below meth c H locs 0 0 QQ (F0 m 184 ls []) := by
    intro σ H locs ls hP hD hS hl hw
    unfold wpX2_isUseRight_184 at hw
    refine lv_iconst (v := Int32.ofInt 1) hx hb dX2_isUseRight_184 (by decide) ?_
    exact hret 1 σ _ _ _ _ (by decide) hw hP hD hS dX2_isUseRight_185
  have j183 : ∀ (s0 : Int) (σ : ZS), ∀ (H : Heap) (locs : List Loc) (ls : Array Slot), va_P D vwC (zC dA ad σ) H → va_D A (zC dA ad σ) → va_S A s.heap H locs → lv_has ls 5 [] → wpX2_isUseRight_183 s0 σ Q → W p l e (gR 1 0 0) s m #[.ref (ad 15 1000), .int (Int32.ofInt a1)] below meth c H locs 0 0 QQ (F0 m 183 ls [.int (Int32.ofInt s0)]) := by
    intro s0 σ H locs ls hP hD hS hl hw
    unfold wpX2_isUseRight_183 at hw
    obtain ⟨o1, hw⟩ := hw
    exact hret s0 σ _ _ _ _ o1 hw hP hD hS dX2_isUseRight_183
  have j178 : ∀ (σ : ZS), ∀ (H : Heap) (locs : List Loc) (ls : Array Slot), va_P D vwC (zC dA ad σ) H → va_D A (zC dA ad σ) → va_S A s.heap H locs → lv_has ls 5 [] → wpX2_isUseRight_178 σ Q → W p l e (gR 1 0 0) s m #[.ref (ad 15 1000), .int (Int32.ofInt a1)] below meth c H locs 0 0 QQ (F0 m 178 ls []) := by
    intro σ H locs ls hP hD hS hl hw
    unfold wpX2_isUseRight_178 at hw
    refine lv_iconst (v := Int32.ofInt 1) hx hb dX2_isUseRight_178 (by decide) ?_
    refine lv_goto (tgt := 183) hx hb dX2_isUseRight_179 (by decide) ?_
    exact j183 1 σ _ _ _ hP hD hS (lv_sub hl [] rfl) hw
  have j167 : ∀ (s0 : Int) (σ : ZS), ∀ (H : Heap) (locs : List Loc) (ls : Array Slot), va_P D vwC (zC dA ad σ) H → va_D A (zC dA ad σ) → va_S A s.heap H locs → lv_has ls 5 [] → wpX2_isUseRight_167 s0 σ Q → W p l e (gR 1 0 0) s m #[.ref (ad 15 1000), .int (Int32.ofInt a1)] below meth c H locs 0 0 QQ (F0 m 167 ls [.int (Int32.ofInt s0)]) := by
    intro s0 σ H locs ls hP hD hS hl hw
    unfold wpX2_isUseRight_167 at hw
    obtain ⟨o2, hw⟩ := hw
    exact hret s0 σ _ _ _ _ o2 hw hP hD hS dX2_isUseRight_167
  have j162 : ∀ (σ : ZS), ∀ (H : Heap) (locs : List Loc) (ls : Array Slot), va_P D vwC (zC dA ad σ) H → va_D A (zC dA ad σ) → va_S A s.heap H locs → lv_has ls 5 [] → wpX2_isUseRight_162 σ Q → W p l e (gR 1 0 0) s m #[.ref (ad 15 1000), .int (Int32.ofInt a1)] below meth c H locs 0 0 QQ (F0 m 162 ls []) := by
    intro σ H locs ls hP hD hS hl hw
    unfold wpX2_isUseRight_162 at hw
    refine lv_iconst (v := Int32.ofInt 1) hx hb dX2_isUseRight_162 (by decide) ?_
    refine lv_goto (tgt := 167) hx hb dX2_isUseRight_163 (by decide) ?_
    exact j167 1 σ _ _ _ hP hD hS (lv_sub hl [] rfl) hw
  have j152 : ∀ (v3 v4 : Int) (σ : ZS), ∀ (H : Heap) (locs : List Loc) (ls : Array Slot), va_P D vwC (zC dA ad σ) H → va_D A (zC dA ad σ) → va_S A s.heap H locs → lv_has ls 5 [(3, .int (Int32.ofInt v3)), (4, .int (Int32.ofInt v4))] → wpX2_isUseRight_152 v3 v4 σ Q → W p l e (gR 1 0 0) s m #[.ref (ad 15 1000), .int (Int32.ofInt a1)] below meth c H locs 0 0 QQ (F0 m 152 ls []) := by
    intro v3 v4 σ H locs ls hP hD hS hl hw
    unfold wpX2_isUseRight_152 at hw
    refine lv_iload hx hb dX2_isUseRight_152 (lv_at hl 1 rfl) ?_
    obtain ⟨o3, hw⟩ := hw
    refine z_if_ne (tgt := 162) hx hb o3 dX2_isUseRight_154 (by decide) (fun k4 => ?_) (fun k4 => ?_)
    · replace hw := hw.1 k4
      exact j162 σ _ _ _ hP hD hS (lv_sub hl [] rfl) hw
    · replace hw := hw.2 k4
      refine lv_iload_n hx hb dX2_isUseRight_157 rfl (lv_at hl 0 rfl) ?_
      refine lv_iconst (v := Int32.ofInt 3) hx hb dX2_isUseRight_158 (by decide) ?_
      obtain ⟨o5, hw⟩ := hw
      refine z_icmp_ne (tgt := 166) hx hb o5 (by decide) dX2_isUseRight_159 (by decide) (fun k6 => ?_) (fun k6 => ?_)
      · replace hw := hw.1 k6
        refine lv_iconst (v := Int32.ofInt 0) hx hb dX2_isUseRight_166 (by decide) ?_
        exact j167 0 σ _ _ _ hP hD hS (lv_sub hl [] rfl) hw
      · replace hw := hw.2 k6
        exact j162 σ _ _ _ hP hD hS (lv_sub hl [] rfl) hw
  have j148 : ∀ (s0 : Int) (σ : ZS), ∀ (H : Heap) (locs : List Loc) (ls : Array Slot), va_P D vwC (zC dA ad σ) H → va_D A (zC dA ad σ) → va_S A s.heap H locs → lv_has ls 5 [] → wpX2_isUseRight_148 s0 σ Q → W p l e (gR 1 0 0) s m #[.ref (ad 15 1000), .int (Int32.ofInt a1)] below meth c H locs 0 0 QQ (F0 m 148 ls [.int (Int32.ofInt s0)]) := by
    intro s0 σ H locs ls hP hD hS hl hw
    unfold wpX2_isUseRight_148 at hw
    obtain ⟨o7, hw⟩ := hw
    exact hret s0 σ _ _ _ _ o7 hw hP hD hS dX2_isUseRight_148
  have j139 : ∀ (v3 : Int) (σ : ZS), ∀ (H : Heap) (locs : List Loc) (ls : Array Slot), va_P D vwC (zC dA ad σ) H → va_D A (zC dA ad σ) → va_S A s.heap H locs → lv_has ls 5 [(3, .int (Int32.ofInt v3))] → wpX2_isUseRight_139 v3 σ Q → W p l e (gR 1 0 0) s m #[.ref (ad 15 1000), .int (Int32.ofInt a1)] below meth c H locs 0 0 QQ (F0 m 139 ls []) := by
    intro v3 σ H locs ls hP hD hS hl hw
    unfold wpX2_isUseRight_139 at hw
    refine lv_iload_n hx hb dX2_isUseRight_139 rfl (lv_at hl 0 rfl) ?_
    obtain ⟨o8, hw⟩ := hw
    refine z_if_eq (tgt := 147) hx hb o8 dX2_isUseRight_140 (by decide) (fun k9 => ?_) (fun k9 => ?_)
    · replace hw := hw.1 k9
      refine lv_iconst (v := Int32.ofInt 0) hx hb dX2_isUseRight_147 (by decide) ?_
      exact j148 0 σ _ _ _ hP hD hS (lv_sub hl [] rfl) hw
    · replace hw := hw.2 k9
      refine lv_iconst (v := Int32.ofInt 1) hx hb dX2_isUseRight_143 (by decide) ?_
      refine lv_goto (tgt := 148) hx hb dX2_isUseRight_144 (by decide) ?_
      exact j148 1 σ _ _ _ hP hD hS (lv_sub hl [] rfl) hw
  have j138 : ∀ (s0 : Int) (σ : ZS), ∀ (H : Heap) (locs : List Loc) (ls : Array Slot), va_P D vwC (zC dA ad σ) H → va_D A (zC dA ad σ) → va_S A s.heap H locs → lv_has ls 5 [] → wpX2_isUseRight_138 s0 σ Q → W p l e (gR 1 0 0) s m #[.ref (ad 15 1000), .int (Int32.ofInt a1)] below meth c H locs 0 0 QQ (F0 m 138 ls [.int (Int32.ofInt s0)]) := by
    intro s0 σ H locs ls hP hD hS hl hw
    unfold wpX2_isUseRight_138 at hw
    obtain ⟨o10, hw⟩ := hw
    exact hret s0 σ _ _ _ _ o10 hw hP hD hS dX2_isUseRight_138
  have j57 : ∀ (v1 v3 s0 : Int) (σ : ZS), ∀ (H : Heap) (locs : List Loc) (ls : Array Slot), va_P D vwC (zC dA ad σ) H → va_D A (zC dA ad σ) → va_S A s.heap H locs → lv_has ls 5 [(0, .ref (ad 15 1000)), (1, .int (Int32.ofInt v1)), (3, .int (Int32.ofInt v3))] → wpX2_isUseRight_57 v1 v3 s0 σ Q → W p l e (gR 1 0 0) s m #[.ref (ad 15 1000), .int (Int32.ofInt a1)] below meth c H locs 0 0 QQ (F0 m 57 ls [.int (Int32.ofInt s0)]) := by
    intro v1 v3 s0 σ H locs ls hP hD hS hl hw
    unfold wpX2_isUseRight_57 at hw
    refine lv_istore (lv' := [(4, .int (Int32.ofInt s0)), (0, .ref (ad 15 1000)), (1, .int (Int32.ofInt v1)), (3, .int (Int32.ofInt v3))]) hx hb dX2_isUseRight_57 hl (by decide) rfl (fun ls hl => ?_)
    refine lv_aload_n hx hb dX2_isUseRight_59 rfl (lv_at hl 1 rfl) ?_
    refine zgC15_0 hx hb hg hown hK hP q371 dX2_isUseRight_60 ?_
    refine zgC13_0 hx hb hg hown hK hP q258 dX2_isUseRight_63 ?_
    refine lv_iload_n hx hb dX2_isUseRight_66 rfl (lv_at hl 2 rfl) ?_
    obtain ⟨o11, hw⟩ := hw
    refine zlC13_0 hx hb o11 hK hP dX2_isUseRight_67 ?_
    obtain ⟨o12, hw⟩ := hw
    have t13 := z_ti o12
    by_cases s14 : (zA σ 13 0 v1) = 2
    · replace hw := hw.1 s14
      refine lv_tableIn (tgt := 128) hx hb dX2_isUseRight_68 (by rw [t13, s14]; decide) (by rw [t13, s14]; decide) (by rw [t13, s14]; rfl) (by decide) ?_
      refine lv_iload_n hx hb dX2_isUseRight_128 rfl (lv_at hl 3 rfl) ?_
      refine lv_iconst (v := Int32.ofInt 2) hx hb dX2_isUseRight_129 (by decide) ?_
      obtain ⟨o15, hw⟩ := hw
      refine z_icmp_ne (tgt := 137) hx hb o15 (by decide) dX2_isUseRight_130 (by decide) (fun k16 => ?_) (fun k16 => ?_)
      · replace hw := hw.1 k16
        refine lv_iconst (v := Int32.ofInt 0) hx hb dX2_isUseRight_137 (by decide) ?_
        exact j138 0 σ _ _ _ hP hD hS (lv_sub hl [] rfl) hw
      · replace hw := hw.2 k16
        refine lv_iconst (v := Int32.ofInt 1) hx hb dX2_isUseRight_133 (by decide) ?_
        refine lv_goto (tgt := 138) hx hb dX2_isUseRight_134 (by decide) ?_
        exact j138 1 σ _ _ _ hP hD hS (lv_sub hl [] rfl) hw
    replace hw := hw.2 s14
    by_cases s17 : (zA σ 13 0 v1) = 3
    · replace hw := hw.1 s17
      refine lv_tableIn (tgt := 184) hx hb dX2_isUseRight_68 (by rw [t13, s17]; decide) (by rw [t13, s17]; decide) (by rw [t13, s17]; rfl) (by decide) ?_
      exact j184 σ _ _ _ hP hD hS (lv_sub hl [] rfl) hw
    replace hw := hw.2 s17
    by_cases s18 : (zA σ 13 0 v1) = 4
    · replace hw := hw.1 s18
      refine lv_tableIn (tgt := 184) hx hb dX2_isUseRight_68 (by rw [t13, s18]; decide) (by rw [t13, s18]; decide) (by rw [t13, s18]; rfl) (by decide) ?_
      exact j184 σ _ _ _ hP hD hS (lv_sub hl [] rfl) hw
    replace hw := hw.2 s18
    by_cases s19 : (zA σ 13 0 v1) = 5
    · replace hw := hw.1 s19
      refine lv_tableIn (tgt := 184) hx hb dX2_isUseRight_68 (by rw [t13, s19]; decide) (by rw [t13, s19]; decide) (by rw [t13, s19]; rfl) (by decide) ?_
      exact j184 σ _ _ _ hP hD hS (lv_sub hl [] rfl) hw
    replace hw := hw.2 s19
    by_cases s20 : (zA σ 13 0 v1) = 6
    · replace hw := hw.1 s20
      refine lv_tableIn (tgt := 184) hx hb dX2_isUseRight_68 (by rw [t13, s20]; decide) (by rw [t13, s20]; decide) (by rw [t13, s20]; rfl) (by decide) ?_
      exact j184 σ _ _ _ hP hD hS (lv_sub hl [] rfl) hw
    replace hw := hw.2 s20
    by_cases s21 : (zA σ 13 0 v1) = 7
    · replace hw := hw.1 s21
      refine lv_tableIn (tgt := 139) hx hb dX2_isUseRight_68 (by rw [t13, s21]; decide) (by rw [t13, s21]; decide) (by rw [t13, s21]; rfl) (by decide) ?_
      exact j139 v3 σ _ _ _ hP hD hS (lv_sub hl [3] rfl) hw
    replace hw := hw.2 s21
    by_cases s22 : (zA σ 13 0 v1) = 8
    · replace hw := hw.1 s22
      refine lv_tableIn (tgt := 139) hx hb dX2_isUseRight_68 (by rw [t13, s22]; decide) (by rw [t13, s22]; decide) (by rw [t13, s22]; rfl) (by decide) ?_
      exact j139 v3 σ _ _ _ hP hD hS (lv_sub hl [3] rfl) hw
    replace hw := hw.2 s22
    by_cases s23 : (zA σ 13 0 v1) = 9
    · replace hw := hw.1 s23
      refine lv_tableIn (tgt := 152) hx hb dX2_isUseRight_68 (by rw [t13, s23]; decide) (by rw [t13, s23]; decide) (by rw [t13, s23]; rfl) (by decide) ?_
      exact j152 v3 s0 σ _ _ _ hP hD hS (lv_sub hl [3, 0] rfl) hw
    replace hw := hw.2 s23
    by_cases s24 : (zA σ 13 0 v1) = 10
    · replace hw := hw.1 s24
      refine lv_tableIn (tgt := 149) hx hb dX2_isUseRight_68 (by rw [t13, s24]; decide) (by rw [t13, s24]; decide) (by rw [t13, s24]; rfl) (by decide) ?_
      refine lv_iload hx hb dX2_isUseRight_149 (lv_at hl 0 rfl) ?_
      obtain ⟨o25, hw⟩ := hw
      exact hret s0 σ _ _ _ _ o25 hw hP hD hS dX2_isUseRight_151
    replace hw := hw.2 s24
    by_cases s26 : (zA σ 13 0 v1) = 11
    · replace hw := hw.1 s26
      refine lv_tableIn (tgt := 152) hx hb dX2_isUseRight_68 (by rw [t13, s26]; decide) (by rw [t13, s26]; decide) (by rw [t13, s26]; rfl) (by decide) ?_
      exact j152 v3 s0 σ _ _ _ hP hD hS (lv_sub hl [3, 0] rfl) hw
    replace hw := hw.2 s26
    by_cases s27 : (zA σ 13 0 v1) = 12
    · replace hw := hw.1 s27
      refine lv_tableIn (tgt := 168) hx hb dX2_isUseRight_68 (by rw [t13, s27]; decide) (by rw [t13, s27]; decide) (by rw [t13, s27]; rfl) (by decide) ?_
      refine lv_iload_n hx hb dX2_isUseRight_168 rfl (lv_at hl 3 rfl) ?_
      refine lv_iconst (v := Int32.ofInt 2) hx hb dX2_isUseRight_169 (by decide) ?_
      obtain ⟨o28, hw⟩ := hw
      refine z_icmp_eq (tgt := 178) hx hb o28 (by decide) dX2_isUseRight_170 (by decide) (fun k29 => ?_) (fun k29 => ?_)
      · replace hw := hw.1 k29
        exact j178 σ _ _ _ hP hD hS (lv_sub hl [] rfl) hw
      · replace hw := hw.2 k29
        refine lv_iload_n hx hb dX2_isUseRight_173 rfl (lv_at hl 3 rfl) ?_
        refine lv_iconst (v := Int32.ofInt 3) hx hb dX2_isUseRight_174 (by decide) ?_
        refine z_icmp_ne (tgt := 182) hx hb o28 (by decide) dX2_isUseRight_175 (by decide) (fun k30 => ?_) (fun k30 => ?_)
        · replace hw := hw.1 k30
          refine lv_iconst (v := Int32.ofInt 0) hx hb dX2_isUseRight_182 (by decide) ?_
          exact j183 0 σ _ _ _ hP hD hS (lv_sub hl [] rfl) hw
        · replace hw := hw.2 k30
          exact j178 σ _ _ _ hP hD hS (lv_sub hl [] rfl) hw
    replace hw := hw.2 s27
    refine lv_tableOut (tgt := 184) hx hb dX2_isUseRight_68 (by rw [t13]; clear hw; omega) (by decide) ?_
    exact j184 σ _ _ _ hP hD hS (lv_sub hl [] rfl) hw
  have j56 : ∀ (v1 v3 : Int) (σ : ZS), ∀ (H : Heap) (locs : List Loc) (ls : Array Slot), va_P D vwC (zC dA ad σ) H → va_D A (zC dA ad σ) → va_S A s.heap H locs → lv_has ls 5 [(0, .ref (ad 15 1000)), (1, .int (Int32.ofInt v1)), (3, .int (Int32.ofInt v3))] → wpX2_isUseRight_56 v1 v3 σ Q → W p l e (gR 1 0 0) s m #[.ref (ad 15 1000), .int (Int32.ofInt a1)] below meth c H locs 0 0 QQ (F0 m 56 ls []) := by
    intro v1 v3 σ H locs ls hP hD hS hl hw
    unfold wpX2_isUseRight_56 at hw
    refine lv_iconst (v := Int32.ofInt 0) hx hb dX2_isUseRight_56 (by decide) ?_
    exact j57 v1 v3 0 σ _ _ _ hP hD hS (lv_sub hl [0, 1, 2] rfl) hw
  unfold wpX2_isUseRight at hw
  refine lv_aload_n hx hb dX2_isUseRight_0 rfl (lv_at hl 0 rfl) ?_
  refine zgC15_0 hx hb hg hown hK hP q371 dX2_isUseRight_1 ?_
  refine zgC13_2 hx hb hg hown hK hP q262 dX2_isUseRight_4 ?_
  refine lv_iload_n hx hb dX2_isUseRight_7 rfl (lv_at hl 1 rfl) ?_
  obtain ⟨o31, hw⟩ := hw
  refine zlC13_2 hx hb o31 hK hP dX2_isUseRight_8 ?_
  refine lv_istore_n (lv' := [(2, .int (Int32.ofInt (zA σ 13 2 a1))), (0, .ref (ad 15 1000)), (1, .int (Int32.ofInt a1))]) hx hb dX2_isUseRight_9 rfl hl (by decide) rfl (fun ls hl => ?_)
  refine lv_iload_n hx hb dX2_isUseRight_10 rfl (lv_at hl 0 rfl) ?_
  obtain ⟨o32, hw⟩ := hw
  refine z_if_ge (tgt := 16) hx hb o32 dX2_isUseRight_11 (by decide) (fun k33 => ?_) (fun k33 => ?_)
  · replace hw := hw.1 k33
    refine lv_aload_n hx hb dX2_isUseRight_16 rfl (lv_at hl 1 rfl) ?_
    refine zgC15_1 hx hb hg hown hK hP q372 dX2_isUseRight_17 ?_
    refine zgC11_1 hx hb hg hown hK hP q197 dX2_isUseRight_20 ?_
    refine lv_iload_n hx hb dX2_isUseRight_23 rfl (lv_at hl 0 rfl) ?_
    obtain ⟨o34, hw⟩ := hw
    refine zlC11_1 hx hb o34 hK hP dX2_isUseRight_24 ?_
    refine lv_istore_n (lv' := [(3, .int (Int32.ofInt (zA σ 11 1 (zA σ 13 2 a1)))), (2, .int (Int32.ofInt (zA σ 13 2 a1))), (0, .ref (ad 15 1000)), (1, .int (Int32.ofInt a1))]) hx hb dX2_isUseRight_25 rfl hl (by decide) rfl (fun ls hl => ?_)
    refine lv_iload_n hx hb dX2_isUseRight_26 rfl (lv_at hl 0 rfl) ?_
    refine lv_iconst (v := Int32.ofInt 2) hx hb dX2_isUseRight_27 (by decide) ?_
    obtain ⟨o35, hw⟩ := hw
    refine z_icmp_ne (tgt := 56) hx hb o35 (by decide) dX2_isUseRight_28 (by decide) (fun k36 => ?_) (fun k36 => ?_)
    · replace hw := hw.1 k36
      exact j56 a1 (zA σ 11 1 (zA σ 13 2 a1)) σ _ _ _ hP hD hS (lv_sub hl [2, 3, 0] rfl) hw
    · replace hw := hw.2 k36
      refine lv_aload_n hx hb dX2_isUseRight_31 rfl (lv_at hl 2 rfl) ?_
      refine zgC15_1 hx hb hg hown hK hP q372 dX2_isUseRight_32 ?_
      refine zgC11_2 hx hb hg hown hK hP q199 dX2_isUseRight_35 ?_
      refine lv_iload_n hx hb dX2_isUseRight_38 rfl (lv_at hl 1 rfl) ?_
      refine zlC11_2 hx hb o34 hK hP dX2_isUseRight_39 ?_
      refine lv_aload_n hx hb dX2_isUseRight_40 rfl (lv_at hl 2 rfl) ?_
      refine zgC15_0 hx hb hg hown hK hP q371 dX2_isUseRight_41 ?_
      refine zgC13_5 hx hb hg hown hK hP q268 dX2_isUseRight_44 ?_
      refine lv_iload_n hx hb dX2_isUseRight_47 rfl (lv_at hl 3 rfl) ?_
      refine zlC13_5 hx hb o31 hK hP dX2_isUseRight_48 ?_
      obtain ⟨o37, hw⟩ := hw
      obtain ⟨o38, hw⟩ := hw
      refine z_icmp_ne (tgt := 56) hx hb o37 o38 dX2_isUseRight_49 (by decide) (fun k39 => ?_) (fun k39 => ?_)
      · replace hw := hw.1 k39
        exact j56 a1 (zA σ 11 1 (zA σ 13 2 a1)) σ _ _ _ hP hD hS (lv_sub hl [2, 3, 0] rfl) hw
      · replace hw := hw.2 k39
        refine lv_iconst (v := Int32.ofInt 1) hx hb dX2_isUseRight_52 (by decide) ?_
        refine lv_goto (tgt := 57) hx hb dX2_isUseRight_53 (by decide) ?_
        exact j57 a1 (zA σ 11 1 (zA σ 13 2 a1)) 1 σ _ _ _ hP hD hS (lv_sub hl [2, 3, 0] rfl) hw
  · replace hw := hw.2 k33
    refine lv_iconst (v := Int32.ofInt 1) hx hb dX2_isUseRight_14 (by decide) ?_
    exact hret 1 σ _ _ _ _ (by decide) hw hP hD hS dX2_isUseRight_15
def wpX2_firstWrong_49 (K17 : Int → ZS → Prop) (v1 : Int) (σ : ZS) (Q : Int → ZS → Prop) : Prop := K17 (v1 + 1) σ
def wpbX2_firstWrong_17 (K17 : Int → ZS → Prop) (v1 : Int) (σ : ZS) (Q : Int → ZS → Prop) : Prop := (-2147483648 ≤ v1 ∧ v1 ≤ 2147483647) ∧ (-2147483648 ≤ (zI σ 13 7) ∧ (zI σ 13 7) ≤ 2147483647) ∧ ((zI σ 13 7) ≤ v1 → Q (zI σ 15 5) σ) ∧ (¬ (zI σ 13 7) ≤ v1 → wpX2_isUseRight v1 σ (fun (x4 : Int) (σ5 : ZS) => (-2147483648 ≤ x4 ∧ x4 ≤ 2147483647) ∧ (¬ x4 = 0 → wpX2_firstWrong_49 K17 v1 σ5 Q) ∧ (x4 = 0 → (0 ≤ v1 ∧ v1 < 248) ∧ wpX2_blame (zA σ5 13 3 v1) σ5 (fun (σ10 : ZS) => wpX2_firstWrong_49 K17 v1 σ10 Q))))
def wpX2_firstWrong_17 (v1 : Int) (σ : ZS) (Q : Int → ZS → Prop) : Prop := lfp1 (fun K17 v1 σ => wpbX2_firstWrong_17 K17 v1 σ Q) v1 σ
def wpX2_firstWrong (σ : ZS) (Q : Int → ZS → Prop) : Prop := wpX2_declareAll (zsI σ 15 5 (zI σ 11 6)) (fun (σ12 : ZS) => wpX2_firstWrong_17 0 σ12 Q)
set_option maxHeartbeats 4000000 in
set_option maxRecDepth 100000 in
theorem kX2_firstWrong (l : Launch) (D : va_G) (dA : Nat → ClassId) (ad : Int → Nat → Nat) (σ : ZS) (Q : Int → ZS → Prop) (sz : Nat) (hw : wpX2_firstWrong σ Q) : Met l yX2_firstWrong (gws yX2_firstWrong cX2_firstWrong 2 (some .int)) (gR 5 0 0) (gPre D dA [.ref (ad 15 1000)] (zC dA ad σ) sz) (va_Qi (zQi Q) (gAt D dA (va_A (zC dA ad σ) sz) (zC dA ad)) (va_A (zC dA ad σ) sz)) 0 0 (va_A (zC dA ad σ) sz) := by
  refine Met.ofW (cc := cX2_firstWrong) (maxL := 2) (ret := (some .int)) (by decide) rfl ?_
  intro p e s m args below meth c s₁ B hml hv
  obtain ⟨rfl, hsz, hP, hK, hD0⟩ := hv
  have hx := B.exec
  have hb := B.bytes
  have hr := B.returns
  have hts := atoms_spec (ws := gws yX2_firstWrong cX2_firstWrong 2 (some .int)) B.pre
  have hg : ∀ w ∈ gw, w.before _ s = true := fun w h => hts w (List.mem_cons_of_mem _ h)
  have hown : s.vm.findClass RX2 = some m.cls := findClass_of_methodNamed B.named
  have hlocks := B.notSynchronized
  subst hsz
  have hD := hD0.self (sz := s.heap.size)
  generalize hAe : va_A (zC dA ad σ) s.heap.size = A at hD ⊢
  have hA : ∀ q : Nat, s.heap.size ≤ q → A q := fun q h => by rw [← hAe]; exact Or.inr h
  have hS : va_S A s.heap s.heap [] := va_S.rf
  have hl := lv_entry ([.ref (ad 15 1000)]) (n := 2) (Nat.le_of_ble_eq_true rfl)
  rw [lg_entry_eq]
  generalize (lg_sl ([.ref (ad 15 1000)]) ++ List.replicate (2 - (lg_sl ([.ref (ad 15 1000)])).length) Slot.unset).toArray = ls at hl ⊢
  have hl : lv_has ls 2 [(0, .ref (ad 15 1000))] := hl
  have hret : ∀ (v : Int) (σ : ZS) (H : Heap) (locs : List Loc) (ls : Array Slot) (pc : Nat), Q v σ → va_P D vwC (zC dA ad σ) H → va_D A (zC dA ad σ) → va_S A s.heap H locs → decode cX2_firstWrong pc = .ok (.ireturn, 1) → W p l e (gR 5 0 0) s m #[.ref (ad 15 1000)] below meth c H locs 0 0 (MQ below (va_Qi (zQi Q) (gAt D dA A (zC dA ad)) A) #[.ref (ad 15 1000)] s 0 0 A) (F0 m pc ls [.int (Int32.ofInt v)]) := fun v σ H locs ls pc hw hP hD hS hd => g_iret hx hb hr rfl hlocks hK σ hP hD hS ⟨v, rfl, hw⟩ (Nat.le_of_ble_eq_true rfl) (Nat.le_of_ble_eq_true rfl) hd
  generalize MQ below (va_Qi (zQi Q) (gAt D dA A (zC dA ad)) A) #[.ref (ad 15 1000)] s 0 0 A = QQ at hret ⊢
  have b17 : ∀ (K17 : Int → ZS → Prop), (∀ (v1 : Int) (σ : ZS), K17 v1 σ → ∀ (H : Heap) (locs : List Loc) (ls : Array Slot), va_P D vwC (zC dA ad σ) H → va_D A (zC dA ad σ) → va_S A s.heap H locs → lv_has ls 2 [(0, .ref (ad 15 1000)), (1, .int (Int32.ofInt v1))] → W p l e (gR 5 0 0) s m #[.ref (ad 15 1000)] below meth c H locs 0 0 QQ (F0 m 17 ls [])) → ∀ (v1 : Int) (σ : ZS), wpbX2_firstWrong_17 K17 v1 σ Q → ∀ (H : Heap) (locs : List Loc) (ls : Array Slot), va_P D vwC (zC dA ad σ) H → va_D A (zC dA ad σ) → va_S A s.heap H locs → lv_has ls 2 [(0, .ref (ad 15 1000)), (1, .int (Int32.ofInt v1))] → W p l e (gR 5 0 0) s m #[.ref (ad 15 1000)] below meth c H locs 0 0 QQ (F0 m 17 ls []) := by
    intro K17 hK17
    have j49 : ∀ (v1 : Int) (σ : ZS), ∀ (H : Heap) (locs : List Loc) (ls : Array Slot), va_P D vwC (zC dA ad σ) H → va_D A (zC dA ad σ) → va_S A s.heap H locs → lv_has ls 2 [(0, .ref (ad 15 1000)), (1, .int (Int32.ofInt v1))] → wpX2_firstWrong_49 K17 v1 σ Q → W p l e (gR 5 0 0) s m #[.ref (ad 15 1000)] below meth c H locs 0 0 QQ (F0 m 49 ls []) := by
      intro v1 σ H locs ls hP hD hS hl hw
      unfold wpX2_firstWrong_49 at hw
      refine lv_iinc (v := Int32.ofInt (v1 + 1)) (lv' := [(1, .int (Int32.ofInt (v1 + 1))), (0, .ref (ad 15 1000))]) hx hb dX2_firstWrong_49 hl (k := 1) rfl (Int32.ofInt_add _ _).symm (by decide) rfl (fun ls hl => ?_)
      refine lv_goto (tgt := 17) hx hb dX2_firstWrong_52 (by decide) ?_
      exact hK17 (v1 + 1) σ hw _ _ _ hP hD hS (lv_sub hl [1, 0] rfl)
    intro v1 σ hw H locs ls hP hD hS hl
    unfold wpbX2_firstWrong_17 at hw
    refine lv_iload_n hx hb dX2_firstWrong_17 rfl (lv_at hl 1 rfl) ?_
    refine lv_aload_n hx hb dX2_firstWrong_18 rfl (lv_at hl 0 rfl) ?_
    refine zgC15_0 hx hb hg hown hK hP q371 dX2_firstWrong_19 ?_
    refine zgC13_7 hx hb hg hown hK hP q273 dX2_firstWrong_22 ?_
    obtain ⟨o1, hw⟩ := hw
    obtain ⟨o2, hw⟩ := hw
    refine z_icmp_ge (tgt := 55) hx hb o1 o2 dX2_firstWrong_25 (by decide) (fun k3 => ?_) (fun k3 => ?_)
    · replace hw := hw.1 k3
      refine lv_aload_n hx hb dX2_firstWrong_55 rfl (lv_at hl 0 rfl) ?_
      refine zgC15_5 hx hb hg hown hK hP q376 dX2_firstWrong_56 ?_
      exact hret (zI σ 15 5) σ _ _ _ _ hw hP hD hS dX2_firstWrong_59
    · replace hw := hw.2 k3
      refine lv_aload_n hx hb dX2_firstWrong_28 rfl (lv_at hl 0 rfl) ?_
      refine lv_iload_n hx hb dX2_firstWrong_29 rfl (lv_at hl 1 rfl) ?_
      refine z_Vi (n := 1) (As := [.int (Int32.ofInt v1)]) (rest := []) hx hb hml hg hown hK hP hD hS hA (kX2_isUseRight l D dA ad v1 σ _ _ hw) (zoC15) rfl q1137 q155 q1134 q1136 q33 (by decide +kernel) ⟨(Nat.le_of_ble_eq_true rfl), (Nat.le_of_ble_eq_true rfl)⟩ rfl hl.1 rfl (Nat.le_of_ble_eq_true rfl) dX2_firstWrong_30 ⟨(Nat.le_of_ble_eq_true rfl), (Nat.le_of_ble_eq_true rfl)⟩ (fun x4 σ5 H locs hw hP hD hS => ?_)
      obtain ⟨o6, hw⟩ := hw
      refine z_if_ne (tgt := 49) hx hb o6 dX2_firstWrong_33 (by decide) (fun k7 => ?_) (fun k7 => ?_)
      · replace hw := hw.1 k7
        exact j49 v1 σ5 _ _ _ hP hD hS (lv_sub hl [0, 1] rfl) hw
      · replace hw := hw.2 k7
        refine lv_aload_n hx hb dX2_firstWrong_36 rfl (lv_at hl 0 rfl) ?_
        refine lv_aload_n hx hb dX2_firstWrong_37 rfl (lv_at hl 0 rfl) ?_
        refine zgC15_0 hx hb hg hown hK hP q371 dX2_firstWrong_38 ?_
        refine zgC13_3 hx hb hg hown hK hP q264 dX2_firstWrong_41 ?_
        refine lv_iload_n hx hb dX2_firstWrong_44 rfl (lv_at hl 1 rfl) ?_
        obtain ⟨o8, hw⟩ := hw
        refine zlC13_3 hx hb o8 hK hP dX2_firstWrong_45 ?_
        refine z_Vv (n := 1) (As := [.int (Int32.ofInt (zA σ5 13 3 v1))]) (rest := []) hx hb hml hg hown hK hP hD hS hA (kX2_blame l D dA ad (zA σ5 13 3 v1) σ5 _ _ hw) (zoC15) rfl q1125 q155 q1122 q1124 q31 (by decide +kernel) ⟨(Nat.le_of_ble_eq_true rfl), (Nat.le_of_ble_eq_true rfl)⟩ rfl hl.1 rfl (Nat.le_of_ble_eq_true rfl) dX2_firstWrong_46 ⟨(Nat.le_of_ble_eq_true rfl), (Nat.le_of_ble_eq_true rfl)⟩ (fun σ10 H locs hw hP hD hS => ?_)
        exact j49 v1 σ10 _ _ _ hP hD hS (lv_sub hl [0, 1] rfl) hw
  have j17 : ∀ (v1 : Int) (σ : ZS), ∀ (H : Heap) (locs : List Loc) (ls : Array Slot), va_P D vwC (zC dA ad σ) H → va_D A (zC dA ad σ) → va_S A s.heap H locs → lv_has ls 2 [(0, .ref (ad 15 1000)), (1, .int (Int32.ofInt v1))] → wpX2_firstWrong_17 v1 σ Q → W p l e (gR 5 0 0) s m #[.ref (ad 15 1000)] below meth c H locs 0 0 QQ (F0 m 17 ls []) := by
    intro v1 σ H locs ls hP hD hS hl hw
    exact hw (fun v1 σ => ∀ (H : Heap) (locs : List Loc) (ls : Array Slot), va_P D vwC (zC dA ad σ) H → va_D A (zC dA ad σ) → va_S A s.heap H locs → lv_has ls 2 [(0, .ref (ad 15 1000)), (1, .int (Int32.ofInt v1))] → W p l e (gR 5 0 0) s m #[.ref (ad 15 1000)] below meth c H locs 0 0 QQ (F0 m 17 ls [])) (b17 (fun v1 σ => ∀ (H : Heap) (locs : List Loc) (ls : Array Slot), va_P D vwC (zC dA ad σ) H → va_D A (zC dA ad σ) → va_S A s.heap H locs → lv_has ls 2 [(0, .ref (ad 15 1000)), (1, .int (Int32.ofInt v1))] → W p l e (gR 5 0 0) s m #[.ref (ad 15 1000)] below meth c H locs 0 0 QQ (F0 m 17 ls [])) (fun v1 σ h => h)) _ _ _ hP hD hS hl
  unfold wpX2_firstWrong at hw
  refine lv_aload_n hx hb dX2_firstWrong_0 rfl (lv_at hl 0 rfl) ?_
  refine lv_aload_n hx hb dX2_firstWrong_1 rfl (lv_at hl 0 rfl) ?_
  refine zgC15_1 hx hb hg hown hK hP q372 dX2_firstWrong_2 ?_
  refine zgC11_6 hx hb hg hown hK hP q206 dX2_firstWrong_5 ?_
  refine zpC15_5 (v := (zI σ 11 6)) hx hb hg hown hK hP hD hS q376 dX2_firstWrong_8 (fun H locs hP hD hS => ?_)
  refine lv_aload_n hx hb dX2_firstWrong_11 rfl (lv_at hl 0 rfl) ?_
  refine z_Vv (n := 0) (As := []) (rest := []) hx hb hml hg hown hK hP hD hS hA (kX2_declareAll l D dA ad (zsI σ 15 5 (zI σ 11 6)) _ _ hw) (zoC15) rfl q1113 q155 q1110 q1112 q28 (by decide +kernel) ⟨(Nat.le_of_ble_eq_true rfl), (Nat.le_of_ble_eq_true rfl)⟩ rfl hl.1 rfl (Nat.le_of_ble_eq_true rfl) dX2_firstWrong_12 ⟨(Nat.le_of_ble_eq_true rfl), (Nat.le_of_ble_eq_true rfl)⟩ (fun σ12 H locs hw hP hD hS => ?_)
  refine lv_iconst (v := Int32.ofInt 0) hx hb dX2_firstWrong_15 (by decide) ?_
  refine lv_istore_n (lv' := [(1, .int (Int32.ofInt 0)), (0, .ref (ad 15 1000))]) hx hb dX2_firstWrong_16 rfl hl (by decide) rfl (fun ls hl => ?_)
  exact j17 0 σ12 _ _ _ hP hD hS (lv_sub hl [1, 0] rfl) hw
def wpX0_bytesOf_65 (σ : ZS) (Q : Int → ZS → Prop) : Prop := Q 2 σ
def wpX0_bytesOf_58 (v1 : Int) (σ : ZS) (Q : Int → ZS → Prop) : Prop := (0 ≤ v1 ∧ v1 < 248) ∧ Q (zA σ 13 1 v1) σ
def wpX0_bytesOf (a1 : Int) (σ : ZS) (Q : Int → ZS → Prop) : Prop := (0 ≤ a1 ∧ a1 < 248) ∧ (-2147483648 ≤ (zA σ 13 0 a1) ∧ (zA σ 13 0 a1) ≤ 2147483647) ∧ ((zA σ 13 0 a1) = 4 → Q 1 σ) ∧ (¬ (zA σ 13 0 a1) = 4 → ((zA σ 13 0 a1) = 5 → wpX0_bytesOf_58 a1 σ Q) ∧ (¬ (zA σ 13 0 a1) = 5 → ((zA σ 13 0 a1) = 6 → wpX0_bytesOf_65 σ Q) ∧ (¬ (zA σ 13 0 a1) = 6 → ((zA σ 13 0 a1) = 7 → wpX0_bytesOf_65 σ Q) ∧ (¬ (zA σ 13 0 a1) = 7 → ((zA σ 13 0 a1) = 8 → wpX0_bytesOf_65 σ Q) ∧ (¬ (zA σ 13 0 a1) = 8 → ((zA σ 13 0 a1) = 9 → wpX0_bytesOf_58 a1 σ Q) ∧ (¬ (zA σ 13 0 a1) = 9 → ((zA σ 13 0 a1) = 10 → wpX0_bytesOf_65 σ Q) ∧ (¬ (zA σ 13 0 a1) = 10 → ((zA σ 13 0 a1) = 11 → Q 3 σ) ∧ (¬ (zA σ 13 0 a1) = 11 → ((zA σ 13 0 a1) = 12 → Q 5 σ) ∧ (¬ (zA σ 13 0 a1) = 12 → Q 0 σ)))))))))
set_option maxHeartbeats 4000000 in
set_option maxRecDepth 100000 in
theorem kX0_bytesOf (l : Launch) (D : va_G) (dA : Nat → ClassId) (ad : Int → Nat → Nat) (a1 : Int) (σ : ZS) (Q : Int → ZS → Prop) (sz : Nat) (hw : wpX0_bytesOf a1 σ Q) : Met l yX0_bytesOf (gws yX0_bytesOf cX0_bytesOf 2 (some .int)) (gR 1 0 0) (gPre D dA [.ref (ad 13 1000), .int (Int32.ofInt a1)] (zC dA ad σ) sz) (va_Qi (zQi Q) (gAt D dA (va_A (zC dA ad σ) sz) (zC dA ad)) (va_A (zC dA ad σ) sz)) 0 0 (va_A (zC dA ad σ) sz) := by
  refine Met.ofW (cc := cX0_bytesOf) (maxL := 2) (ret := (some .int)) (by decide) rfl ?_
  intro p e s m args below meth c s₁ B hml hv
  obtain ⟨rfl, hsz, hP, hK, hD0⟩ := hv
  have hx := B.exec
  have hb := B.bytes
  have hr := B.returns
  have hts := atoms_spec (ws := gws yX0_bytesOf cX0_bytesOf 2 (some .int)) B.pre
  have hg : ∀ w ∈ gw, w.before _ s = true := fun w h => hts w (List.mem_cons_of_mem _ h)
  have hown : s.vm.findClass RX0 = some m.cls := findClass_of_methodNamed B.named
  have hlocks := B.notSynchronized
  subst hsz
  have hD := hD0.self (sz := s.heap.size)
  generalize hAe : va_A (zC dA ad σ) s.heap.size = A at hD ⊢
  have hA : ∀ q : Nat, s.heap.size ≤ q → A q := fun q h => by rw [← hAe]; exact Or.inr h
  have hS : va_S A s.heap s.heap [] := va_S.rf
  have hl := lv_entry ([.ref (ad 13 1000), .int (Int32.ofInt a1)]) (n := 2) (Nat.le_of_ble_eq_true rfl)
  rw [lg_entry_eq]
  generalize (lg_sl ([.ref (ad 13 1000), .int (Int32.ofInt a1)]) ++ List.replicate (2 - (lg_sl ([.ref (ad 13 1000), .int (Int32.ofInt a1)])).length) Slot.unset).toArray = ls at hl ⊢
  have hl : lv_has ls 2 [(0, .ref (ad 13 1000)), (1, .int (Int32.ofInt a1))] := hl
  have hret : ∀ (v : Int) (σ : ZS) (H : Heap) (locs : List Loc) (ls : Array Slot) (pc : Nat), Q v σ → va_P D vwC (zC dA ad σ) H → va_D A (zC dA ad σ) → va_S A s.heap H locs → decode cX0_bytesOf pc = .ok (.ireturn, 1) → W p l e (gR 1 0 0) s m #[.ref (ad 13 1000), .int (Int32.ofInt a1)] below meth c H locs 0 0 (MQ below (va_Qi (zQi Q) (gAt D dA A (zC dA ad)) A) #[.ref (ad 13 1000), .int (Int32.ofInt a1)] s 0 0 A) (F0 m pc ls [.int (Int32.ofInt v)]) := fun v σ H locs ls pc hw hP hD hS hd => g_iret hx hb hr rfl hlocks hK σ hP hD hS ⟨v, rfl, hw⟩ (Nat.le_of_ble_eq_true rfl) (Nat.le_of_ble_eq_true rfl) hd
  generalize MQ below (va_Qi (zQi Q) (gAt D dA A (zC dA ad)) A) #[.ref (ad 13 1000), .int (Int32.ofInt a1)] s 0 0 A = QQ at hret ⊢
  have j65 : ∀ (σ : ZS), ∀ (H : Heap) (locs : List Loc) (ls : Array Slot), va_P D vwC (zC dA ad σ) H → va_D A (zC dA ad σ) → va_S A s.heap H locs → lv_has ls 2 [] → wpX0_bytesOf_65 σ Q → W p l e (gR 1 0 0) s m #[.ref (ad 13 1000), .int (Int32.ofInt a1)] below meth c H locs 0 0 QQ (F0 m 65 ls []) := by
    intro σ H locs ls hP hD hS hl hw
    unfold wpX0_bytesOf_65 at hw
    refine lv_iconst (v := Int32.ofInt 2) hx hb dX0_bytesOf_65 (by decide) ?_
    exact hret 2 σ _ _ _ _ hw hP hD hS dX0_bytesOf_66
  have j58 : ∀ (v1 : Int) (σ : ZS), ∀ (H : Heap) (locs : List Loc) (ls : Array Slot), va_P D vwC (zC dA ad σ) H → va_D A (zC dA ad σ) → va_S A s.heap H locs → lv_has ls 2 [(0, .ref (ad 13 1000)), (1, .int (Int32.ofInt v1))] → wpX0_bytesOf_58 v1 σ Q → W p l e (gR 1 0 0) s m #[.ref (ad 13 1000), .int (Int32.ofInt a1)] below meth c H locs 0 0 QQ (F0 m 58 ls []) := by
    intro v1 σ H locs ls hP hD hS hl hw
    unfold wpX0_bytesOf_58 at hw
    refine lv_aload_n hx hb dX0_bytesOf_58 rfl (lv_at hl 0 rfl) ?_
    refine zgC13_1 hx hb hg hown hK hP q259 dX0_bytesOf_59 ?_
    refine lv_iload_n hx hb dX0_bytesOf_62 rfl (lv_at hl 1 rfl) ?_
    obtain ⟨o1, hw⟩ := hw
    refine zlC13_1 hx hb o1 hK hP dX0_bytesOf_63 ?_
    exact hret (zA σ 13 1 v1) σ _ _ _ _ hw hP hD hS dX0_bytesOf_64
  unfold wpX0_bytesOf at hw
  refine lv_aload_n hx hb dX0_bytesOf_0 rfl (lv_at hl 0 rfl) ?_
  refine zgC13_0 hx hb hg hown hK hP q257 dX0_bytesOf_1 ?_
  refine lv_iload_n hx hb dX0_bytesOf_4 rfl (lv_at hl 1 rfl) ?_
  obtain ⟨o2, hw⟩ := hw
  refine zlC13_0 hx hb o2 hK hP dX0_bytesOf_5 ?_
  obtain ⟨o3, hw⟩ := hw
  have t4 := z_ti o3
  by_cases s5 : (zA σ 13 0 a1) = 4
  · replace hw := hw.1 s5
    refine lv_tableIn (tgt := 56) hx hb dX0_bytesOf_6 (by rw [t4, s5]; decide) (by rw [t4, s5]; decide) (by rw [t4, s5]; rfl) (by decide) ?_
    refine lv_iconst (v := Int32.ofInt 1) hx hb dX0_bytesOf_56 (by decide) ?_
    exact hret 1 σ _ _ _ _ hw hP hD hS dX0_bytesOf_57
  replace hw := hw.2 s5
  by_cases s6 : (zA σ 13 0 a1) = 5
  · replace hw := hw.1 s6
    refine lv_tableIn (tgt := 58) hx hb dX0_bytesOf_6 (by rw [t4, s6]; decide) (by rw [t4, s6]; decide) (by rw [t4, s6]; rfl) (by decide) ?_
    exact j58 a1 σ _ _ _ hP hD hS (lv_sub hl [0, 1] rfl) hw
  replace hw := hw.2 s6
  by_cases s7 : (zA σ 13 0 a1) = 6
  · replace hw := hw.1 s7
    refine lv_tableIn (tgt := 65) hx hb dX0_bytesOf_6 (by rw [t4, s7]; decide) (by rw [t4, s7]; decide) (by rw [t4, s7]; rfl) (by decide) ?_
    exact j65 σ _ _ _ hP hD hS (lv_sub hl [] rfl) hw
  replace hw := hw.2 s7
  by_cases s8 : (zA σ 13 0 a1) = 7
  · replace hw := hw.1 s8
    refine lv_tableIn (tgt := 65) hx hb dX0_bytesOf_6 (by rw [t4, s8]; decide) (by rw [t4, s8]; decide) (by rw [t4, s8]; rfl) (by decide) ?_
    exact j65 σ _ _ _ hP hD hS (lv_sub hl [] rfl) hw
  replace hw := hw.2 s8
  by_cases s9 : (zA σ 13 0 a1) = 8
  · replace hw := hw.1 s9
    refine lv_tableIn (tgt := 65) hx hb dX0_bytesOf_6 (by rw [t4, s9]; decide) (by rw [t4, s9]; decide) (by rw [t4, s9]; rfl) (by decide) ?_
    exact j65 σ _ _ _ hP hD hS (lv_sub hl [] rfl) hw
  replace hw := hw.2 s9
  by_cases s10 : (zA σ 13 0 a1) = 9
  · replace hw := hw.1 s10
    refine lv_tableIn (tgt := 58) hx hb dX0_bytesOf_6 (by rw [t4, s10]; decide) (by rw [t4, s10]; decide) (by rw [t4, s10]; rfl) (by decide) ?_
    exact j58 a1 σ _ _ _ hP hD hS (lv_sub hl [0, 1] rfl) hw
  replace hw := hw.2 s10
  by_cases s11 : (zA σ 13 0 a1) = 10
  · replace hw := hw.1 s11
    refine lv_tableIn (tgt := 65) hx hb dX0_bytesOf_6 (by rw [t4, s11]; decide) (by rw [t4, s11]; decide) (by rw [t4, s11]; rfl) (by decide) ?_
    exact j65 σ _ _ _ hP hD hS (lv_sub hl [] rfl) hw
  replace hw := hw.2 s11
  by_cases s12 : (zA σ 13 0 a1) = 11
  · replace hw := hw.1 s12
    refine lv_tableIn (tgt := 67) hx hb dX0_bytesOf_6 (by rw [t4, s12]; decide) (by rw [t4, s12]; decide) (by rw [t4, s12]; rfl) (by decide) ?_
    refine lv_iconst (v := Int32.ofInt 3) hx hb dX0_bytesOf_67 (by decide) ?_
    exact hret 3 σ _ _ _ _ hw hP hD hS dX0_bytesOf_68
  replace hw := hw.2 s12
  by_cases s13 : (zA σ 13 0 a1) = 12
  · replace hw := hw.1 s13
    refine lv_tableIn (tgt := 69) hx hb dX0_bytesOf_6 (by rw [t4, s13]; decide) (by rw [t4, s13]; decide) (by rw [t4, s13]; rfl) (by decide) ?_
    refine lv_iconst (v := Int32.ofInt 5) hx hb dX0_bytesOf_69 (by decide) ?_
    exact hret 5 σ _ _ _ _ hw hP hD hS dX0_bytesOf_70
  replace hw := hw.2 s13
  refine lv_tableOut (tgt := 71) hx hb dX0_bytesOf_6 (by rw [t4]; clear hw; omega) (by decide) ?_
  refine lv_iconst (v := Int32.ofInt 0) hx hb dX0_bytesOf_71 (by decide) ?_
  exact hret 0 σ _ _ _ _ hw hP hD hS dX0_bytesOf_72
def wpX2_measure_106 (K10 : Int → ZS → Prop) (v1 : Int) (σ : ZS) (Q : ZS → Prop) : Prop := K10 (v1 + 1) σ
def wpbX2_measure_10 (K10 : Int → ZS → Prop) (v1 : Int) (σ : ZS) (Q : ZS → Prop) : Prop := (-2147483648 ≤ v1 ∧ v1 ≤ 2147483647) ∧ (-2147483648 ≤ (zI σ 13 7) ∧ (zI σ 13 7) ≤ 2147483647) ∧ ((zI σ 13 7) ≤ v1 → Q σ) ∧ (¬ (zI σ 13 7) ≤ v1 → (0 ≤ v1 ∧ v1 < 248) ∧ (-2147483648 ≤ (zA σ 13 5 v1) ∧ (zA σ 13 5 v1) ≤ 2147483647) ∧ ((zA σ 13 5 v1) < 0 → wpX2_measure_106 K10 v1 σ Q) ∧ (¬ (zA σ 13 5 v1) < 0 → (0 ≤ (zA σ 13 5 v1) ∧ (zA σ 13 5 v1) < 60) ∧ wpX0_bytesOf v1 (zsA σ 13 6 v1 (zA σ 15 3 (zA σ 13 5 v1))) (fun (x8 : Int) (σ9 : ZS) => (-2147483648 ≤ (zA σ9 13 0 v1) ∧ (zA σ9 13 0 v1) ≤ 2147483647) ∧ (¬ (zA σ9 13 0 v1) = 1 → wpX2_measure_106 K10 v1 (zsA σ9 15 3 (zA σ 13 5 v1) ((zA σ 15 3 (zA σ 13 5 v1)) + x8)) Q) ∧ ((zA σ9 13 0 v1) = 1 → (0 ≤ (zA σ9 13 2 v1) ∧ (zA σ9 13 2 v1) < 240) ∧ wpX2_measure_106 K10 v1 (zsA (zsA σ9 15 3 (zA σ 13 5 v1) ((zA σ 15 3 (zA σ 13 5 v1)) + x8)) 11 4 (zA σ9 13 2 v1) (zA σ9 13 6 v1)) Q))))
def wpX2_measure_10 (v1 : Int) (σ : ZS) (Q : ZS → Prop) : Prop := lfp1 (fun K10 v1 σ => wpbX2_measure_10 K10 v1 σ Q) v1 σ
def wpX2_measure (σ : ZS) (Q : ZS → Prop) : Prop := wpJ7_fill_53178_15_3 0 σ (fun (σ14 : ZS) => wpX2_measure_10 0 σ14 Q)
set_option maxHeartbeats 4000000 in
set_option maxRecDepth 100000 in
theorem kX2_measure (l : Launch) (D : va_G) (dA : Nat → ClassId) (ad : Int → Nat → Nat) (σ : ZS) (Q : ZS → Prop) (sz : Nat) (hw : wpX2_measure σ Q) : Met l yX2_measure (gws yX2_measure cX2_measure 3 none) (gR 2 0 0) (gPre D dA [.ref (ad 15 1000)] (zC dA ad σ) sz) (va_Qv Q (gAt D dA (va_A (zC dA ad σ) sz) (zC dA ad)) (va_A (zC dA ad σ) sz)) 0 0 (va_A (zC dA ad σ) sz) := by
  refine Met.ofW (cc := cX2_measure) (maxL := 3) (ret := none) (by decide) rfl ?_
  intro p e s m args below meth c s₁ B hml hv
  obtain ⟨rfl, hsz, hP, hK, hD0⟩ := hv
  have hx := B.exec
  have hb := B.bytes
  have hr := B.returns
  have hts := atoms_spec (ws := gws yX2_measure cX2_measure 3 none) B.pre
  have hg : ∀ w ∈ gw, w.before _ s = true := fun w h => hts w (List.mem_cons_of_mem _ h)
  have hown : s.vm.findClass RX2 = some m.cls := findClass_of_methodNamed B.named
  have hlocks := B.notSynchronized
  subst hsz
  have hD := hD0.self (sz := s.heap.size)
  generalize hAe : va_A (zC dA ad σ) s.heap.size = A at hD ⊢
  have hA : ∀ q : Nat, s.heap.size ≤ q → A q := fun q h => by rw [← hAe]; exact Or.inr h
  have hS : va_S A s.heap s.heap [] := va_S.rf
  have hl := lv_entry ([.ref (ad 15 1000)]) (n := 3) (Nat.le_of_ble_eq_true rfl)
  rw [lg_entry_eq]
  generalize (lg_sl ([.ref (ad 15 1000)]) ++ List.replicate (3 - (lg_sl ([.ref (ad 15 1000)])).length) Slot.unset).toArray = ls at hl ⊢
  have hl : lv_has ls 3 [(0, .ref (ad 15 1000))] := hl
  have hret : ∀ (σ : ZS) (H : Heap) (locs : List Loc) (ls : Array Slot) (pc : Nat), Q σ → va_P D vwC (zC dA ad σ) H → va_D A (zC dA ad σ) → va_S A s.heap H locs → decode cX2_measure pc = .ok (.return_, 1) → W p l e (gR 2 0 0) s m #[.ref (ad 15 1000)] below meth c H locs 0 0 (MQ below (va_Qv Q (gAt D dA A (zC dA ad)) A) #[.ref (ad 15 1000)] s 0 0 A) (F0 m pc ls []) := fun σ H locs ls pc hw hP hD hS hd => g_vret hx hb hr hlocks hK σ hP hD hS hw (Nat.le_of_ble_eq_true rfl) (Nat.le_of_ble_eq_true rfl) hd
  generalize MQ below (va_Qv Q (gAt D dA A (zC dA ad)) A) #[.ref (ad 15 1000)] s 0 0 A = QQ at hret ⊢
  have b10 : ∀ (K10 : Int → ZS → Prop), (∀ (v1 : Int) (σ : ZS), K10 v1 σ → ∀ (H : Heap) (locs : List Loc) (ls : Array Slot), va_P D vwC (zC dA ad σ) H → va_D A (zC dA ad σ) → va_S A s.heap H locs → lv_has ls 3 [(0, .ref (ad 15 1000)), (1, .int (Int32.ofInt v1))] → W p l e (gR 2 0 0) s m #[.ref (ad 15 1000)] below meth c H locs 0 0 QQ (F0 m 10 ls [])) → ∀ (v1 : Int) (σ : ZS), wpbX2_measure_10 K10 v1 σ Q → ∀ (H : Heap) (locs : List Loc) (ls : Array Slot), va_P D vwC (zC dA ad σ) H → va_D A (zC dA ad σ) → va_S A s.heap H locs → lv_has ls 3 [(0, .ref (ad 15 1000)), (1, .int (Int32.ofInt v1))] → W p l e (gR 2 0 0) s m #[.ref (ad 15 1000)] below meth c H locs 0 0 QQ (F0 m 10 ls []) := by
    intro K10 hK10
    have j106 : ∀ (v1 : Int) (σ : ZS), ∀ (H : Heap) (locs : List Loc) (ls : Array Slot), va_P D vwC (zC dA ad σ) H → va_D A (zC dA ad σ) → va_S A s.heap H locs → lv_has ls 3 [(0, .ref (ad 15 1000)), (1, .int (Int32.ofInt v1))] → wpX2_measure_106 K10 v1 σ Q → W p l e (gR 2 0 0) s m #[.ref (ad 15 1000)] below meth c H locs 0 0 QQ (F0 m 106 ls []) := by
      intro v1 σ H locs ls hP hD hS hl hw
      unfold wpX2_measure_106 at hw
      refine lv_iinc (v := Int32.ofInt (v1 + 1)) (lv' := [(1, .int (Int32.ofInt (v1 + 1))), (0, .ref (ad 15 1000))]) hx hb dX2_measure_106 hl (k := 1) rfl (Int32.ofInt_add _ _).symm (by decide) rfl (fun ls hl => ?_)
      refine lv_goto (tgt := 10) hx hb dX2_measure_109 (by decide) ?_
      exact hK10 (v1 + 1) σ hw _ _ _ hP hD hS (lv_sub hl [1, 0] rfl)
    intro v1 σ hw H locs ls hP hD hS hl
    unfold wpbX2_measure_10 at hw
    refine lv_iload_n hx hb dX2_measure_10 rfl (lv_at hl 1 rfl) ?_
    refine lv_aload_n hx hb dX2_measure_11 rfl (lv_at hl 0 rfl) ?_
    refine zgC15_0 hx hb hg hown hK hP q371 dX2_measure_12 ?_
    refine zgC13_7 hx hb hg hown hK hP q273 dX2_measure_15 ?_
    obtain ⟨o1, hw⟩ := hw
    obtain ⟨o2, hw⟩ := hw
    refine z_icmp_ge (tgt := 112) hx hb o1 o2 dX2_measure_18 (by decide) (fun k3 => ?_) (fun k3 => ?_)
    · replace hw := hw.1 k3
      exact hret σ _ _ _ _ hw hP hD hS dX2_measure_112
    · replace hw := hw.2 k3
      refine lv_aload_n hx hb dX2_measure_21 rfl (lv_at hl 0 rfl) ?_
      refine zgC15_0 hx hb hg hown hK hP q371 dX2_measure_22 ?_
      refine zgC13_5 hx hb hg hown hK hP q268 dX2_measure_25 ?_
      refine lv_iload_n hx hb dX2_measure_28 rfl (lv_at hl 1 rfl) ?_
      obtain ⟨o4, hw⟩ := hw
      refine zlC13_5 hx hb o4 hK hP dX2_measure_29 ?_
      refine lv_istore_n (lv' := [(2, .int (Int32.ofInt (zA σ 13 5 v1))), (0, .ref (ad 15 1000)), (1, .int (Int32.ofInt v1))]) hx hb dX2_measure_30 rfl hl (by decide) rfl (fun ls hl => ?_)
      refine lv_iload_n hx hb dX2_measure_31 rfl (lv_at hl 0 rfl) ?_
      obtain ⟨o5, hw⟩ := hw
      refine z_if_lt (tgt := 106) hx hb o5 dX2_measure_32 (by decide) (fun k6 => ?_) (fun k6 => ?_)
      · replace hw := hw.1 k6
        exact j106 v1 σ _ _ _ hP hD hS (lv_sub hl [1, 2] rfl) hw
      · replace hw := hw.2 k6
        refine lv_aload_n hx hb dX2_measure_35 rfl (lv_at hl 1 rfl) ?_
        refine zgC15_0 hx hb hg hown hK hP q371 dX2_measure_36 ?_
        refine zgC13_6 hx hb hg hown hK hP q270 dX2_measure_39 ?_
        refine lv_iload_n hx hb dX2_measure_42 rfl (lv_at hl 2 rfl) ?_
        refine lv_aload_n hx hb dX2_measure_43 rfl (lv_at hl 1 rfl) ?_
        refine zgC15_3 hx hb hg hown hK hP q374 dX2_measure_44 ?_
        refine lv_iload_n hx hb dX2_measure_47 rfl (lv_at hl 0 rfl) ?_
        obtain ⟨o7, hw⟩ := hw
        refine zlC15_3 hx hb o7 hK hP dX2_measure_48 ?_
        refine zsC13_6 (v := (zA σ 15 3 (zA σ 13 5 v1))) hx hb o4 hK hP hD hS dX2_measure_49 (fun H locs hP hD hS => ?_)
        refine lv_aload_n hx hb dX2_measure_50 rfl (lv_at hl 1 rfl) ?_
        refine zgC15_3 hx hb hg hown hK hP q374 dX2_measure_51 ?_
        refine lv_iload_n hx hb dX2_measure_54 rfl (lv_at hl 0 rfl) ?_
        refine lv_dup2_11 hx hb dX2_measure_55 rfl rfl ?_
        refine zlC15_3 hx hb o7 hK hP dX2_measure_56 ?_
        refine g_nrm (y := Int32.ofInt (zA σ 15 3 (zA σ 13 5 v1))) rfl ?_
        refine lv_aload_n hx hb dX2_measure_57 rfl (lv_at hl 1 rfl) ?_
        refine zgC15_0 hx hb hg hown hK hP q371 dX2_measure_58 ?_
        refine lv_iload_n hx hb dX2_measure_61 rfl (lv_at hl 2 rfl) ?_
        refine z_Vi (n := 1) (As := [.int (Int32.ofInt v1)]) (rest := [.int (Int32.ofInt (zA σ 15 3 (zA σ 13 5 v1))), .int (Int32.ofInt (zA σ 13 5 v1)), .ref (ad 15 3)]) hx hb hml hg hown hK hP hD hS hA (kX0_bytesOf l D dA ad v1 (zsA σ 13 6 v1 (zA σ 15 3 (zA σ 13 5 v1))) _ _ hw) (zoC13) rfl q1168 q152 q1165 q1166 q1167 (by decide +kernel) ⟨(Nat.le_of_ble_eq_true rfl), (Nat.le_of_ble_eq_true rfl)⟩ rfl hl.1 rfl (Nat.le_of_ble_eq_true rfl) dX2_measure_62 ⟨(Nat.le_of_ble_eq_true rfl), (Nat.le_of_ble_eq_true rfl)⟩ (fun x8 σ9 H locs hw hP hD hS => ?_)
        refine z_iadd hx hb dX2_measure_65 ?_
        refine zsC15_3 (v := ((zA σ 15 3 (zA σ 13 5 v1)) + x8)) hx hb o7 hK hP hD hS dX2_measure_66 (fun H locs hP hD hS => ?_)
        refine lv_aload_n hx hb dX2_measure_67 rfl (lv_at hl 1 rfl) ?_
        refine zgC15_0 hx hb hg hown hK hP q371 dX2_measure_68 ?_
        refine zgC13_0 hx hb hg hown hK hP q258 dX2_measure_71 ?_
        refine lv_iload_n hx hb dX2_measure_74 rfl (lv_at hl 2 rfl) ?_
        refine zlC13_0 hx hb o4 hK hP dX2_measure_75 ?_
        refine g_nrm (y := Int32.ofInt (zA σ9 13 0 v1)) rfl ?_
        refine lv_iconst (v := Int32.ofInt 1) hx hb dX2_measure_76 (by decide) ?_
        obtain ⟨o10, hw⟩ := hw
        refine z_icmp_ne (tgt := 106) hx hb o10 (by decide) dX2_measure_77 (by decide) (fun k11 => ?_) (fun k11 => ?_)
        · replace hw := hw.1 k11
          exact j106 v1 (zsA σ9 15 3 (zA σ 13 5 v1) ((zA σ 15 3 (zA σ 13 5 v1)) + x8)) _ _ _ hP hD hS (lv_sub hl [1, 2] rfl) hw
        · replace hw := hw.2 k11
          refine lv_aload_n hx hb dX2_measure_80 rfl (lv_at hl 1 rfl) ?_
          refine zgC15_1 hx hb hg hown hK hP q372 dX2_measure_81 ?_
          refine zgC11_4 hx hb hg hown hK hP q203 dX2_measure_84 ?_
          refine lv_aload_n hx hb dX2_measure_87 rfl (lv_at hl 1 rfl) ?_
          refine zgC15_0 hx hb hg hown hK hP q371 dX2_measure_88 ?_
          refine zgC13_2 hx hb hg hown hK hP q262 dX2_measure_91 ?_
          refine lv_iload_n hx hb dX2_measure_94 rfl (lv_at hl 2 rfl) ?_
          refine zlC13_2 hx hb o4 hK hP dX2_measure_95 ?_
          refine g_nrm (y := Int32.ofInt (zA σ9 13 2 v1)) rfl ?_
          refine lv_aload_n hx hb dX2_measure_96 rfl (lv_at hl 1 rfl) ?_
          refine zgC15_0 hx hb hg hown hK hP q371 dX2_measure_97 ?_
          refine zgC13_6 hx hb hg hown hK hP q270 dX2_measure_100 ?_
          refine lv_iload_n hx hb dX2_measure_103 rfl (lv_at hl 2 rfl) ?_
          refine zlC13_6 hx hb o4 hK hP dX2_measure_104 ?_
          refine g_nrm (y := Int32.ofInt (zA σ9 13 6 v1)) rfl ?_
          obtain ⟨o12, hw⟩ := hw
          refine zsC11_4 (v := (zA σ9 13 6 v1)) hx hb o12 hK hP hD hS dX2_measure_105 (fun H locs hP hD hS => ?_)
          exact j106 v1 (zsA (zsA σ9 15 3 (zA σ 13 5 v1) ((zA σ 15 3 (zA σ 13 5 v1)) + x8)) 11 4 (zA σ9 13 2 v1) (zA σ9 13 6 v1)) _ _ _ hP hD hS (lv_sub hl [1, 2] rfl) hw
  have j10 : ∀ (v1 : Int) (σ : ZS), ∀ (H : Heap) (locs : List Loc) (ls : Array Slot), va_P D vwC (zC dA ad σ) H → va_D A (zC dA ad σ) → va_S A s.heap H locs → lv_has ls 3 [(0, .ref (ad 15 1000)), (1, .int (Int32.ofInt v1))] → wpX2_measure_10 v1 σ Q → W p l e (gR 2 0 0) s m #[.ref (ad 15 1000)] below meth c H locs 0 0 QQ (F0 m 10 ls []) := by
    intro v1 σ H locs ls hP hD hS hl hw
    exact hw (fun v1 σ => ∀ (H : Heap) (locs : List Loc) (ls : Array Slot), va_P D vwC (zC dA ad σ) H → va_D A (zC dA ad σ) → va_S A s.heap H locs → lv_has ls 3 [(0, .ref (ad 15 1000)), (1, .int (Int32.ofInt v1))] → W p l e (gR 2 0 0) s m #[.ref (ad 15 1000)] below meth c H locs 0 0 QQ (F0 m 10 ls [])) (b10 (fun v1 σ => ∀ (H : Heap) (locs : List Loc) (ls : Array Slot), va_P D vwC (zC dA ad σ) H → va_D A (zC dA ad σ) → va_S A s.heap H locs → lv_has ls 3 [(0, .ref (ad 15 1000)), (1, .int (Int32.ofInt v1))] → W p l e (gR 2 0 0) s m #[.ref (ad 15 1000)] below meth c H locs 0 0 QQ (F0 m 10 ls [])) (fun v1 σ h => h)) _ _ _ hP hD hS hl
  unfold wpX2_measure at hw
  refine lv_aload_n hx hb dX2_measure_0 rfl (lv_at hl 0 rfl) ?_
  refine zgC15_3 hx hb hg hown hK hP q374 dX2_measure_1 ?_
  refine lv_iconst (v := Int32.ofInt 0) hx hb dX2_measure_4 (by decide) ?_
  refine z_Sv (n := 2) (As := [.ref (ad 15 3), .int (Int32.ofInt 0)]) (rest := []) hx hb hml hg hown hK hP hD hS hA (kJ7_fill_53178_15_3 l D dA ad 0 σ _ _ hw) q1164 q177 q1162 q1163 (by decide +kernel) ⟨(Nat.le_of_ble_eq_true rfl), (Nat.le_of_ble_eq_true rfl)⟩ rfl hl.1 rfl (Nat.le_of_ble_eq_true rfl) dX2_measure_5 ⟨(Nat.le_of_ble_eq_true rfl), (Nat.le_of_ble_eq_true rfl)⟩ (fun σ14 H locs hw hP hD hS => ?_)
  refine lv_iconst (v := Int32.ofInt 0) hx hb dX2_measure_8 (by decide) ?_
  refine lv_istore_n (lv' := [(1, .int (Int32.ofInt 0)), (0, .ref (ad 15 1000))]) hx hb dX2_measure_9 rfl hl (by decide) rfl (fun ls hl => ?_)
  exact j10 0 σ14 _ _ _ hP hD hS (lv_sub hl [1, 0] rfl) hw
def wpX2_isExtern_26 (s0 : Int) (σ : ZS) (Q : Int → ZS → Prop) : Prop := (0 ≤ s0 ∧ s0 ≤ 1) ∧ Q s0 σ
def wpX2_isExtern (a1 : Int) (σ : ZS) (Q : Int → ZS → Prop) : Prop := (0 ≤ a1 ∧ a1 < 248) ∧ (0 ≤ (zA σ 13 2 a1) ∧ (zA σ 13 2 a1) < 240) ∧ (-2147483648 ≤ (zA σ 11 1 (zA σ 13 2 a1)) ∧ (zA σ 11 1 (zA σ 13 2 a1)) ≤ 2147483647) ∧ (¬ (zA σ 11 1 (zA σ 13 2 a1)) = 3 → wpX2_isExtern_26 0 σ Q) ∧ ((zA σ 11 1 (zA σ 13 2 a1)) = 3 → wpX2_isExtern_26 1 σ Q)
set_option maxHeartbeats 4000000 in
set_option maxRecDepth 100000 in
theorem kX2_isExtern (l : Launch) (D : va_G) (dA : Nat → ClassId) (ad : Int → Nat → Nat) (a1 : Int) (σ : ZS) (Q : Int → ZS → Prop) (sz : Nat) (hw : wpX2_isExtern a1 σ Q) : Met l yX2_isExtern (gws yX2_isExtern cX2_isExtern 2 (some .boolean)) (gR 1 0 0) (gPre D dA [.ref (ad 15 1000), .int (Int32.ofInt a1)] (zC dA ad σ) sz) (va_Qi (zQi Q) (gAt D dA (va_A (zC dA ad σ) sz) (zC dA ad)) (va_A (zC dA ad σ) sz)) 0 0 (va_A (zC dA ad σ) sz) := by
  refine Met.ofW (cc := cX2_isExtern) (maxL := 2) (ret := (some .boolean)) (by decide) rfl ?_
  intro p e s m args below meth c s₁ B hml hv
  obtain ⟨rfl, hsz, hP, hK, hD0⟩ := hv
  have hx := B.exec
  have hb := B.bytes
  have hr := B.returns
  have hts := atoms_spec (ws := gws yX2_isExtern cX2_isExtern 2 (some .boolean)) B.pre
  have hg : ∀ w ∈ gw, w.before _ s = true := fun w h => hts w (List.mem_cons_of_mem _ h)
  have hown : s.vm.findClass RX2 = some m.cls := findClass_of_methodNamed B.named
  have hlocks := B.notSynchronized
  subst hsz
  have hD := hD0.self (sz := s.heap.size)
  generalize hAe : va_A (zC dA ad σ) s.heap.size = A at hD ⊢
  have hA : ∀ q : Nat, s.heap.size ≤ q → A q := fun q h => by rw [← hAe]; exact Or.inr h
  have hS : va_S A s.heap s.heap [] := va_S.rf
  have hl := lv_entry ([.ref (ad 15 1000), .int (Int32.ofInt a1)]) (n := 2) (Nat.le_of_ble_eq_true rfl)
  rw [lg_entry_eq]
  generalize (lg_sl ([.ref (ad 15 1000), .int (Int32.ofInt a1)]) ++ List.replicate (2 - (lg_sl ([.ref (ad 15 1000), .int (Int32.ofInt a1)])).length) Slot.unset).toArray = ls at hl ⊢
  have hl : lv_has ls 2 [(0, .ref (ad 15 1000)), (1, .int (Int32.ofInt a1))] := hl
  have hret : ∀ (v : Int) (σ : ZS) (H : Heap) (locs : List Loc) (ls : Array Slot) (pc : Nat), (0 ≤ v ∧ v ≤ 1) → Q v σ → va_P D vwC (zC dA ad σ) H → va_D A (zC dA ad σ) → va_S A s.heap H locs → decode cX2_isExtern pc = .ok (.ireturn, 1) → W p l e (gR 1 0 0) s m #[.ref (ad 15 1000), .int (Int32.ofInt a1)] below meth c H locs 0 0 (MQ below (va_Qi (zQi Q) (gAt D dA A (zC dA ad)) A) #[.ref (ad 15 1000), .int (Int32.ofInt a1)] s 0 0 A) (F0 m pc ls [.int (Int32.ofInt v)]) := fun v σ H locs ls pc hv hw hP hD hS hd => g_iret hx hb hr (z_nb hv) hlocks hK σ hP hD hS ⟨v, rfl, hw⟩ (Nat.le_of_ble_eq_true rfl) (Nat.le_of_ble_eq_true rfl) hd
  generalize MQ below (va_Qi (zQi Q) (gAt D dA A (zC dA ad)) A) #[.ref (ad 15 1000), .int (Int32.ofInt a1)] s 0 0 A = QQ at hret ⊢
  have j26 : ∀ (s0 : Int) (σ : ZS), ∀ (H : Heap) (locs : List Loc) (ls : Array Slot), va_P D vwC (zC dA ad σ) H → va_D A (zC dA ad σ) → va_S A s.heap H locs → lv_has ls 2 [] → wpX2_isExtern_26 s0 σ Q → W p l e (gR 1 0 0) s m #[.ref (ad 15 1000), .int (Int32.ofInt a1)] below meth c H locs 0 0 QQ (F0 m 26 ls [.int (Int32.ofInt s0)]) := by
    intro s0 σ H locs ls hP hD hS hl hw
    unfold wpX2_isExtern_26 at hw
    obtain ⟨o1, hw⟩ := hw
    exact hret s0 σ _ _ _ _ o1 hw hP hD hS dX2_isExtern_26
  unfold wpX2_isExtern at hw
  refine lv_aload_n hx hb dX2_isExtern_0 rfl (lv_at hl 0 rfl) ?_
  refine zgC15_1 hx hb hg hown hK hP q372 dX2_isExtern_1 ?_
  refine zgC11_1 hx hb hg hown hK hP q197 dX2_isExtern_4 ?_
  refine lv_aload_n hx hb dX2_isExtern_7 rfl (lv_at hl 0 rfl) ?_
  refine zgC15_0 hx hb hg hown hK hP q371 dX2_isExtern_8 ?_
  refine zgC13_2 hx hb hg hown hK hP q262 dX2_isExtern_11 ?_
  refine lv_iload_n hx hb dX2_isExtern_14 rfl (lv_at hl 1 rfl) ?_
  obtain ⟨o2, hw⟩ := hw
  refine zlC13_2 hx hb o2 hK hP dX2_isExtern_15 ?_
  obtain ⟨o3, hw⟩ := hw
  refine zlC11_1 hx hb o3 hK hP dX2_isExtern_16 ?_
  refine lv_iconst (v := Int32.ofInt 3) hx hb dX2_isExtern_17 (by decide) ?_
  obtain ⟨o4, hw⟩ := hw
  refine z_icmp_ne (tgt := 25) hx hb o4 (by decide) dX2_isExtern_18 (by decide) (fun k5 => ?_) (fun k5 => ?_)
  · replace hw := hw.1 k5
    refine lv_iconst (v := Int32.ofInt 0) hx hb dX2_isExtern_25 (by decide) ?_
    exact j26 0 σ _ _ _ hP hD hS (lv_sub hl [] rfl) hw
  · replace hw := hw.2 k5
    refine lv_iconst (v := Int32.ofInt 1) hx hb dX2_isExtern_21 (by decide) ?_
    refine lv_goto (tgt := 26) hx hb dX2_isExtern_22 (by decide) ?_
    exact j26 1 σ _ _ _ hP hD hS (lv_sub hl [] rfl) hw
def wpX2_distance (a1 : Int) (σ : ZS) (Q : Int → ZS → Prop) : Prop := (0 ≤ a1 ∧ a1 < 248) ∧ (0 ≤ (zA σ 13 2 a1) ∧ (zA σ 13 2 a1) < 240) ∧ wpX0_bytesOf a1 σ (fun (x3 : Int) (σ4 : ZS) => Q (((zA σ 11 4 (zA σ 13 2 a1)) - (zA σ 13 6 a1)) - x3) σ4)
set_option maxHeartbeats 4000000 in
set_option maxRecDepth 100000 in
theorem kX2_distance (l : Launch) (D : va_G) (dA : Nat → ClassId) (ad : Int → Nat → Nat) (a1 : Int) (σ : ZS) (Q : Int → ZS → Prop) (sz : Nat) (hw : wpX2_distance a1 σ Q) : Met l yX2_distance (gws yX2_distance cX2_distance 2 (some .int)) (gR 2 0 0) (gPre D dA [.ref (ad 15 1000), .int (Int32.ofInt a1)] (zC dA ad σ) sz) (va_Qi (zQi Q) (gAt D dA (va_A (zC dA ad σ) sz) (zC dA ad)) (va_A (zC dA ad σ) sz)) 0 0 (va_A (zC dA ad σ) sz) := by
  refine Met.ofW (cc := cX2_distance) (maxL := 2) (ret := (some .int)) (by decide) rfl ?_
  intro p e s m args below meth c s₁ B hml hv
  obtain ⟨rfl, hsz, hP, hK, hD0⟩ := hv
  have hx := B.exec
  have hb := B.bytes
  have hr := B.returns
  have hts := atoms_spec (ws := gws yX2_distance cX2_distance 2 (some .int)) B.pre
  have hg : ∀ w ∈ gw, w.before _ s = true := fun w h => hts w (List.mem_cons_of_mem _ h)
  have hown : s.vm.findClass RX2 = some m.cls := findClass_of_methodNamed B.named
  have hlocks := B.notSynchronized
  subst hsz
  have hD := hD0.self (sz := s.heap.size)
  generalize hAe : va_A (zC dA ad σ) s.heap.size = A at hD ⊢
  have hA : ∀ q : Nat, s.heap.size ≤ q → A q := fun q h => by rw [← hAe]; exact Or.inr h
  have hS : va_S A s.heap s.heap [] := va_S.rf
  have hl := lv_entry ([.ref (ad 15 1000), .int (Int32.ofInt a1)]) (n := 2) (Nat.le_of_ble_eq_true rfl)
  rw [lg_entry_eq]
  generalize (lg_sl ([.ref (ad 15 1000), .int (Int32.ofInt a1)]) ++ List.replicate (2 - (lg_sl ([.ref (ad 15 1000), .int (Int32.ofInt a1)])).length) Slot.unset).toArray = ls at hl ⊢
  have hl : lv_has ls 2 [(0, .ref (ad 15 1000)), (1, .int (Int32.ofInt a1))] := hl
  have hret : ∀ (v : Int) (σ : ZS) (H : Heap) (locs : List Loc) (ls : Array Slot) (pc : Nat), Q v σ → va_P D vwC (zC dA ad σ) H → va_D A (zC dA ad σ) → va_S A s.heap H locs → decode cX2_distance pc = .ok (.ireturn, 1) → W p l e (gR 2 0 0) s m #[.ref (ad 15 1000), .int (Int32.ofInt a1)] below meth c H locs 0 0 (MQ below (va_Qi (zQi Q) (gAt D dA A (zC dA ad)) A) #[.ref (ad 15 1000), .int (Int32.ofInt a1)] s 0 0 A) (F0 m pc ls [.int (Int32.ofInt v)]) := fun v σ H locs ls pc hw hP hD hS hd => g_iret hx hb hr rfl hlocks hK σ hP hD hS ⟨v, rfl, hw⟩ (Nat.le_of_ble_eq_true rfl) (Nat.le_of_ble_eq_true rfl) hd
  generalize MQ below (va_Qi (zQi Q) (gAt D dA A (zC dA ad)) A) #[.ref (ad 15 1000), .int (Int32.ofInt a1)] s 0 0 A = QQ at hret ⊢
  unfold wpX2_distance at hw
  refine lv_aload_n hx hb dX2_distance_0 rfl (lv_at hl 0 rfl) ?_
  refine zgC15_1 hx hb hg hown hK hP q372 dX2_distance_1 ?_
  refine zgC11_4 hx hb hg hown hK hP q203 dX2_distance_4 ?_
  refine lv_aload_n hx hb dX2_distance_7 rfl (lv_at hl 0 rfl) ?_
  refine zgC15_0 hx hb hg hown hK hP q371 dX2_distance_8 ?_
  refine zgC13_2 hx hb hg hown hK hP q262 dX2_distance_11 ?_
  refine lv_iload_n hx hb dX2_distance_14 rfl (lv_at hl 1 rfl) ?_
  obtain ⟨o1, hw⟩ := hw
  refine zlC13_2 hx hb o1 hK hP dX2_distance_15 ?_
  obtain ⟨o2, hw⟩ := hw
  refine zlC11_4 hx hb o2 hK hP dX2_distance_16 ?_
  refine lv_aload_n hx hb dX2_distance_17 rfl (lv_at hl 0 rfl) ?_
  refine zgC15_0 hx hb hg hown hK hP q371 dX2_distance_18 ?_
  refine zgC13_6 hx hb hg hown hK hP q270 dX2_distance_21 ?_
  refine lv_iload_n hx hb dX2_distance_24 rfl (lv_at hl 1 rfl) ?_
  refine zlC13_6 hx hb o1 hK hP dX2_distance_25 ?_
  refine z_isub hx hb dX2_distance_26 ?_
  refine lv_aload_n hx hb dX2_distance_27 rfl (lv_at hl 0 rfl) ?_
  refine zgC15_0 hx hb hg hown hK hP q371 dX2_distance_28 ?_
  refine lv_iload_n hx hb dX2_distance_31 rfl (lv_at hl 1 rfl) ?_
  refine z_Vi (n := 1) (As := [.int (Int32.ofInt a1)]) (rest := [.int (Int32.ofInt ((zA σ 11 4 (zA σ 13 2 a1)) - (zA σ 13 6 a1)))]) hx hb hml hg hown hK hP hD hS hA (kX0_bytesOf l D dA ad a1 σ _ _ hw) (zoC13) rfl q1168 q152 q1165 q1166 q1167 (by decide +kernel) ⟨(Nat.le_of_ble_eq_true rfl), (Nat.le_of_ble_eq_true rfl)⟩ rfl hl.1 rfl (Nat.le_of_ble_eq_true rfl) dX2_distance_32 ⟨(Nat.le_of_ble_eq_true rfl), (Nat.le_of_ble_eq_true rfl)⟩ (fun x3 σ4 H locs hw hP hD hS => ?_)
  refine z_isub hx hb dX2_distance_35 ?_
  exact hret (((zA σ 11 4 (zA σ 13 2 a1)) - (zA σ 13 6 a1)) - x3) σ4 _ _ _ _ hw hP hD hS dX2_distance_36
def wpX2_growJumps_73 (K4 : Int → Int → ZS → Prop) (v1 v2 : Int) (σ : ZS) (Q : Int → ZS → Prop) : Prop := K4 v1 (v2 + 1) σ
def wpX2_growJumps_61 (K4 : Int → Int → ZS → Prop) (v2 : Int) (σ : ZS) (Q : Int → ZS → Prop) : Prop := (0 ≤ v2 ∧ v2 < 248) ∧ wpX2_growJumps_73 K4 1 v2 (zsA σ 13 1 v2 3) Q
def wpbX2_growJumps_4 (K4 : Int → Int → ZS → Prop) (v1 v2 : Int) (σ : ZS) (Q : Int → ZS → Prop) : Prop := (-2147483648 ≤ v2 ∧ v2 ≤ 2147483647) ∧ (-2147483648 ≤ (zI σ 13 7) ∧ (zI σ 13 7) ≤ 2147483647) ∧ ((zI σ 13 7) ≤ v2 → (0 ≤ v1 ∧ v1 ≤ 1) ∧ Q v1 σ) ∧ (¬ (zI σ 13 7) ≤ v2 → (0 ≤ v2 ∧ v2 < 248) ∧ (-2147483648 ≤ (zA σ 13 0 v2) ∧ (zA σ 13 0 v2) ≤ 2147483647) ∧ (¬ (zA σ 13 0 v2) = 9 → wpX2_growJumps_73 K4 v1 v2 σ Q) ∧ ((zA σ 13 0 v2) = 9 → (-2147483648 ≤ (zA σ 13 1 v2) ∧ (zA σ 13 1 v2) ≤ 2147483647) ∧ (¬ (zA σ 13 1 v2) = 2 → wpX2_growJumps_73 K4 v1 v2 σ Q) ∧ ((zA σ 13 1 v2) = 2 → wpX2_isExtern v2 σ (fun (x11 : Int) (σ12 : ZS) => (-2147483648 ≤ x11 ∧ x11 ≤ 2147483647) ∧ (¬ x11 = 0 → wpX2_growJumps_61 K4 v2 σ12 Q) ∧ (x11 = 0 → wpX2_distance v2 σ12 (fun (x15 : Int) (σ16 : ZS) => wpX2_isShort x15 σ16 (fun (x17 : Int) (σ18 : ZS) => (-2147483648 ≤ x17 ∧ x17 ≤ 2147483647) ∧ (¬ x17 = 0 → wpX2_growJumps_73 K4 v1 v2 σ18 Q) ∧ (x17 = 0 → wpX2_growJumps_61 K4 v2 σ18 Q))))))))
def wpX2_growJumps_4 (v1 v2 : Int) (σ : ZS) (Q : Int → ZS → Prop) : Prop := lfp2 (fun K4 v1 v2 σ => wpbX2_growJumps_4 K4 v1 v2 σ Q) v1 v2 σ
def wpX2_growJumps (σ : ZS) (Q : Int → ZS → Prop) : Prop := wpX2_growJumps_4 0 0 σ Q
set_option maxHeartbeats 4000000 in
set_option maxRecDepth 100000 in
theorem kX2_growJumps (l : Launch) (D : va_G) (dA : Nat → ClassId) (ad : Int → Nat → Nat) (σ : ZS) (Q : Int → ZS → Prop) (sz : Nat) (hw : wpX2_growJumps σ Q) : Met l yX2_growJumps (gws yX2_growJumps cX2_growJumps 3 (some .boolean)) (gR 3 0 0) (gPre D dA [.ref (ad 15 1000)] (zC dA ad σ) sz) (va_Qi (zQi Q) (gAt D dA (va_A (zC dA ad σ) sz) (zC dA ad)) (va_A (zC dA ad σ) sz)) 0 0 (va_A (zC dA ad σ) sz) := by
  refine Met.ofW (cc := cX2_growJumps) (maxL := 3) (ret := (some .boolean)) (by decide) rfl ?_
  intro p e s m args below meth c s₁ B hml hv
  obtain ⟨rfl, hsz, hP, hK, hD0⟩ := hv
  have hx := B.exec
  have hb := B.bytes
  have hr := B.returns
  have hts := atoms_spec (ws := gws yX2_growJumps cX2_growJumps 3 (some .boolean)) B.pre
  have hg : ∀ w ∈ gw, w.before _ s = true := fun w h => hts w (List.mem_cons_of_mem _ h)
  have hown : s.vm.findClass RX2 = some m.cls := findClass_of_methodNamed B.named
  have hlocks := B.notSynchronized
  subst hsz
  have hD := hD0.self (sz := s.heap.size)
  generalize hAe : va_A (zC dA ad σ) s.heap.size = A at hD ⊢
  have hA : ∀ q : Nat, s.heap.size ≤ q → A q := fun q h => by rw [← hAe]; exact Or.inr h
  have hS : va_S A s.heap s.heap [] := va_S.rf
  have hl := lv_entry ([.ref (ad 15 1000)]) (n := 3) (Nat.le_of_ble_eq_true rfl)
  rw [lg_entry_eq]
  generalize (lg_sl ([.ref (ad 15 1000)]) ++ List.replicate (3 - (lg_sl ([.ref (ad 15 1000)])).length) Slot.unset).toArray = ls at hl ⊢
  have hl : lv_has ls 3 [(0, .ref (ad 15 1000))] := hl
  have hret : ∀ (v : Int) (σ : ZS) (H : Heap) (locs : List Loc) (ls : Array Slot) (pc : Nat), (0 ≤ v ∧ v ≤ 1) → Q v σ → va_P D vwC (zC dA ad σ) H → va_D A (zC dA ad σ) → va_S A s.heap H locs → decode cX2_growJumps pc = .ok (.ireturn, 1) → W p l e (gR 3 0 0) s m #[.ref (ad 15 1000)] below meth c H locs 0 0 (MQ below (va_Qi (zQi Q) (gAt D dA A (zC dA ad)) A) #[.ref (ad 15 1000)] s 0 0 A) (F0 m pc ls [.int (Int32.ofInt v)]) := fun v σ H locs ls pc hv hw hP hD hS hd => g_iret hx hb hr (z_nb hv) hlocks hK σ hP hD hS ⟨v, rfl, hw⟩ (Nat.le_of_ble_eq_true rfl) (Nat.le_of_ble_eq_true rfl) hd
  generalize MQ below (va_Qi (zQi Q) (gAt D dA A (zC dA ad)) A) #[.ref (ad 15 1000)] s 0 0 A = QQ at hret ⊢
  have b4 : ∀ (K4 : Int → Int → ZS → Prop), (∀ (v1 v2 : Int) (σ : ZS), K4 v1 v2 σ → ∀ (H : Heap) (locs : List Loc) (ls : Array Slot), va_P D vwC (zC dA ad σ) H → va_D A (zC dA ad σ) → va_S A s.heap H locs → lv_has ls 3 [(0, .ref (ad 15 1000)), (1, .int (Int32.ofInt v1)), (2, .int (Int32.ofInt v2))] → W p l e (gR 3 0 0) s m #[.ref (ad 15 1000)] below meth c H locs 0 0 QQ (F0 m 4 ls [])) → ∀ (v1 v2 : Int) (σ : ZS), wpbX2_growJumps_4 K4 v1 v2 σ Q → ∀ (H : Heap) (locs : List Loc) (ls : Array Slot), va_P D vwC (zC dA ad σ) H → va_D A (zC dA ad σ) → va_S A s.heap H locs → lv_has ls 3 [(0, .ref (ad 15 1000)), (1, .int (Int32.ofInt v1)), (2, .int (Int32.ofInt v2))] → W p l e (gR 3 0 0) s m #[.ref (ad 15 1000)] below meth c H locs 0 0 QQ (F0 m 4 ls []) := by
    intro K4 hK4
    have j73 : ∀ (v1 v2 : Int) (σ : ZS), ∀ (H : Heap) (locs : List Loc) (ls : Array Slot), va_P D vwC (zC dA ad σ) H → va_D A (zC dA ad σ) → va_S A s.heap H locs → lv_has ls 3 [(0, .ref (ad 15 1000)), (1, .int (Int32.ofInt v1)), (2, .int (Int32.ofInt v2))] → wpX2_growJumps_73 K4 v1 v2 σ Q → W p l e (gR 3 0 0) s m #[.ref (ad 15 1000)] below meth c H locs 0 0 QQ (F0 m 73 ls []) := by
      intro v1 v2 σ H locs ls hP hD hS hl hw
      unfold wpX2_growJumps_73 at hw
      refine lv_iinc (v := Int32.ofInt (v2 + 1)) (lv' := [(2, .int (Int32.ofInt (v2 + 1))), (0, .ref (ad 15 1000)), (1, .int (Int32.ofInt v1))]) hx hb dX2_growJumps_73 hl (k := 2) rfl (Int32.ofInt_add _ _).symm (by decide) rfl (fun ls hl => ?_)
      refine lv_goto (tgt := 4) hx hb dX2_growJumps_76 (by decide) ?_
      exact hK4 v1 (v2 + 1) σ hw _ _ _ hP hD hS (lv_sub hl [1, 2, 0] rfl)
    have j61 : ∀ (v2 : Int) (σ : ZS), ∀ (H : Heap) (locs : List Loc) (ls : Array Slot), va_P D vwC (zC dA ad σ) H → va_D A (zC dA ad σ) → va_S A s.heap H locs → lv_has ls 3 [(0, .ref (ad 15 1000)), (2, .int (Int32.ofInt v2))] → wpX2_growJumps_61 K4 v2 σ Q → W p l e (gR 3 0 0) s m #[.ref (ad 15 1000)] below meth c H locs 0 0 QQ (F0 m 61 ls []) := by
      intro v2 σ H locs ls hP hD hS hl hw
      unfold wpX2_growJumps_61 at hw
      refine lv_aload_n hx hb dX2_growJumps_61 rfl (lv_at hl 0 rfl) ?_
      refine zgC15_0 hx hb hg hown hK hP q371 dX2_growJumps_62 ?_
      refine zgC13_1 hx hb hg hown hK hP q260 dX2_growJumps_65 ?_
      refine lv_iload_n hx hb dX2_growJumps_68 rfl (lv_at hl 1 rfl) ?_
      refine lv_iconst (v := Int32.ofInt 3) hx hb dX2_growJumps_69 (by decide) ?_
      obtain ⟨o1, hw⟩ := hw
      refine zsC13_1 (v := 3) hx hb o1 hK hP hD hS dX2_growJumps_70 (fun H locs hP hD hS => ?_)
      refine lv_iconst (v := Int32.ofInt 1) hx hb dX2_growJumps_71 (by decide) ?_
      refine lv_istore_n (lv' := [(1, .int (Int32.ofInt 1)), (0, .ref (ad 15 1000)), (2, .int (Int32.ofInt v2))]) hx hb dX2_growJumps_72 rfl hl (by decide) rfl (fun ls hl => ?_)
      exact j73 1 v2 (zsA σ 13 1 v2 3) _ _ _ hP hD hS (lv_sub hl [1, 0, 2] rfl) hw
    intro v1 v2 σ hw H locs ls hP hD hS hl
    unfold wpbX2_growJumps_4 at hw
    refine lv_iload_n hx hb dX2_growJumps_4 rfl (lv_at hl 2 rfl) ?_
    refine lv_aload_n hx hb dX2_growJumps_5 rfl (lv_at hl 0 rfl) ?_
    refine zgC15_0 hx hb hg hown hK hP q371 dX2_growJumps_6 ?_
    refine zgC13_7 hx hb hg hown hK hP q273 dX2_growJumps_9 ?_
    obtain ⟨o2, hw⟩ := hw
    obtain ⟨o3, hw⟩ := hw
    refine z_icmp_ge (tgt := 79) hx hb o2 o3 dX2_growJumps_12 (by decide) (fun k4 => ?_) (fun k4 => ?_)
    · replace hw := hw.1 k4
      refine lv_iload_n hx hb dX2_growJumps_79 rfl (lv_at hl 1 rfl) ?_
      obtain ⟨o5, hw⟩ := hw
      exact hret v1 σ _ _ _ _ o5 hw hP hD hS dX2_growJumps_80
    · replace hw := hw.2 k4
      refine lv_aload_n hx hb dX2_growJumps_15 rfl (lv_at hl 0 rfl) ?_
      refine zgC15_0 hx hb hg hown hK hP q371 dX2_growJumps_16 ?_
      refine zgC13_0 hx hb hg hown hK hP q258 dX2_growJumps_19 ?_
      refine lv_iload_n hx hb dX2_growJumps_22 rfl (lv_at hl 2 rfl) ?_
      obtain ⟨o6, hw⟩ := hw
      refine zlC13_0 hx hb o6 hK hP dX2_growJumps_23 ?_
      refine lv_bipush (v := Int32.ofInt 9) hx hb dX2_growJumps_24 (by decide) ?_
      obtain ⟨o7, hw⟩ := hw
      refine z_icmp_ne (tgt := 73) hx hb o7 (by decide) dX2_growJumps_26 (by decide) (fun k8 => ?_) (fun k8 => ?_)
      · replace hw := hw.1 k8
        exact j73 v1 v2 σ _ _ _ hP hD hS (lv_sub hl [0, 1, 2] rfl) hw
      · replace hw := hw.2 k8
        refine lv_aload_n hx hb dX2_growJumps_29 rfl (lv_at hl 0 rfl) ?_
        refine zgC15_0 hx hb hg hown hK hP q371 dX2_growJumps_30 ?_
        refine zgC13_1 hx hb hg hown hK hP q260 dX2_growJumps_33 ?_
        refine lv_iload_n hx hb dX2_growJumps_36 rfl (lv_at hl 2 rfl) ?_
        refine zlC13_1 hx hb o6 hK hP dX2_growJumps_37 ?_
        refine lv_iconst (v := Int32.ofInt 2) hx hb dX2_growJumps_38 (by decide) ?_
        obtain ⟨o9, hw⟩ := hw
        refine z_icmp_ne (tgt := 73) hx hb o9 (by decide) dX2_growJumps_39 (by decide) (fun k10 => ?_) (fun k10 => ?_)
        · replace hw := hw.1 k10
          exact j73 v1 v2 σ _ _ _ hP hD hS (lv_sub hl [0, 1, 2] rfl) hw
        · replace hw := hw.2 k10
          refine lv_aload_n hx hb dX2_growJumps_42 rfl (lv_at hl 0 rfl) ?_
          refine lv_iload_n hx hb dX2_growJumps_43 rfl (lv_at hl 2 rfl) ?_
          refine z_Vi (n := 1) (As := [.int (Int32.ofInt v2)]) (rest := []) hx hb hml hg hown hK hP hD hS hA (kX2_isExtern l D dA ad v2 σ _ _ hw) (zoC15) rfl q1176 q155 q1173 q1175 q36 (by decide +kernel) ⟨(Nat.le_of_ble_eq_true rfl), (Nat.le_of_ble_eq_true rfl)⟩ rfl hl.1 rfl (Nat.le_of_ble_eq_true rfl) dX2_growJumps_44 ⟨(Nat.le_of_ble_eq_true rfl), (Nat.le_of_ble_eq_true rfl)⟩ (fun x11 σ12 H locs hw hP hD hS => ?_)
          obtain ⟨o13, hw⟩ := hw
          refine z_if_ne (tgt := 61) hx hb o13 dX2_growJumps_47 (by decide) (fun k14 => ?_) (fun k14 => ?_)
          · replace hw := hw.1 k14
            exact j61 v2 σ12 _ _ _ hP hD hS (lv_sub hl [0, 2] rfl) hw
          · replace hw := hw.2 k14
            refine lv_aload_n hx hb dX2_growJumps_50 rfl (lv_at hl 0 rfl) ?_
            refine lv_iload_n hx hb dX2_growJumps_51 rfl (lv_at hl 2 rfl) ?_
            refine z_Vi (n := 1) (As := [.int (Int32.ofInt v2)]) (rest := []) hx hb hml hg hown hK hP hD hS hA (kX2_distance l D dA ad v2 σ12 _ _ hw) (zoC15) rfl q1180 q155 q1177 q1179 q37 (by decide +kernel) ⟨(Nat.le_of_ble_eq_true rfl), (Nat.le_of_ble_eq_true rfl)⟩ rfl hl.1 rfl (Nat.le_of_ble_eq_true rfl) dX2_growJumps_52 ⟨(Nat.le_of_ble_eq_true rfl), (Nat.le_of_ble_eq_true rfl)⟩ (fun x15 σ16 H locs hw hP hD hS => ?_)
            refine z_Si (n := 1) (As := [.int (Int32.ofInt x15)]) (rest := []) hx hb hml hg hown hK hP hD hS hA (kX2_isShort l D dA ad x15 σ16 _ _ hw) q1069 q155 q1181 q1068 (by decide +kernel) ⟨(Nat.le_of_ble_eq_true rfl), (Nat.le_of_ble_eq_true rfl)⟩ rfl hl.1 rfl (Nat.le_of_ble_eq_true rfl) dX2_growJumps_55 ⟨(Nat.le_of_ble_eq_true rfl), (Nat.le_of_ble_eq_true rfl)⟩ (fun x17 σ18 H locs hw hP hD hS => ?_)
            obtain ⟨o19, hw⟩ := hw
            refine z_if_ne (tgt := 73) hx hb o19 dX2_growJumps_58 (by decide) (fun k20 => ?_) (fun k20 => ?_)
            · replace hw := hw.1 k20
              exact j73 v1 v2 σ18 _ _ _ hP hD hS (lv_sub hl [0, 1, 2] rfl) hw
            · replace hw := hw.2 k20
              exact j61 v2 σ18 _ _ _ hP hD hS (lv_sub hl [0, 2] rfl) hw
  have j4 : ∀ (v1 v2 : Int) (σ : ZS), ∀ (H : Heap) (locs : List Loc) (ls : Array Slot), va_P D vwC (zC dA ad σ) H → va_D A (zC dA ad σ) → va_S A s.heap H locs → lv_has ls 3 [(0, .ref (ad 15 1000)), (1, .int (Int32.ofInt v1)), (2, .int (Int32.ofInt v2))] → wpX2_growJumps_4 v1 v2 σ Q → W p l e (gR 3 0 0) s m #[.ref (ad 15 1000)] below meth c H locs 0 0 QQ (F0 m 4 ls []) := by
    intro v1 v2 σ H locs ls hP hD hS hl hw
    exact hw (fun v1 v2 σ => ∀ (H : Heap) (locs : List Loc) (ls : Array Slot), va_P D vwC (zC dA ad σ) H → va_D A (zC dA ad σ) → va_S A s.heap H locs → lv_has ls 3 [(0, .ref (ad 15 1000)), (1, .int (Int32.ofInt v1)), (2, .int (Int32.ofInt v2))] → W p l e (gR 3 0 0) s m #[.ref (ad 15 1000)] below meth c H locs 0 0 QQ (F0 m 4 ls [])) (b4 (fun v1 v2 σ => ∀ (H : Heap) (locs : List Loc) (ls : Array Slot), va_P D vwC (zC dA ad σ) H → va_D A (zC dA ad σ) → va_S A s.heap H locs → lv_has ls 3 [(0, .ref (ad 15 1000)), (1, .int (Int32.ofInt v1)), (2, .int (Int32.ofInt v2))] → W p l e (gR 3 0 0) s m #[.ref (ad 15 1000)] below meth c H locs 0 0 QQ (F0 m 4 ls [])) (fun v1 v2 σ h => h)) _ _ _ hP hD hS hl
  unfold wpX2_growJumps at hw
  refine lv_iconst (v := Int32.ofInt 0) hx hb dX2_growJumps_0 (by decide) ?_
  refine lv_istore_n (lv' := [(1, .int (Int32.ofInt 0)), (0, .ref (ad 15 1000))]) hx hb dX2_growJumps_1 rfl hl (by decide) rfl (fun ls hl => ?_)
  refine lv_iconst (v := Int32.ofInt 0) hx hb dX2_growJumps_2 (by decide) ?_
  refine lv_istore_n (lv' := [(2, .int (Int32.ofInt 0)), (1, .int (Int32.ofInt 0)), (0, .ref (ad 15 1000))]) hx hb dX2_growJumps_3 rfl hl (by decide) rfl (fun ls hl => ?_)
  exact j4 0 0 σ _ _ _ hP hD hS (lv_sub hl [2, 1, 0] rfl) hw
