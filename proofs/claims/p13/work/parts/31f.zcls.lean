theorem q34 : Cond.selects RX2 yX2_measure yX2_measure ∈ gw := gw_in (i := 34) (by decide +kernel) rfl
theorem q35 : Cond.selects RX2 yX2_growJumps yX2_growJumps ∈ gw := gw_in (i := 35) (by decide +kernel) rfl
theorem q39 : Cond.selects RX2 yX2_writeOffset yX2_writeOffset ∈ gw := gw_in (i := 39) (by decide +kernel) rfl
theorem q40 : Cond.selects RX2 yX2_writeFixup yX2_writeFixup ∈ gw := gw_in (i := 40) (by decide +kernel) rfl
theorem q41 : Cond.selects RX2 yX2_writeJump yX2_writeJump ∈ gw := gw_in (i := 41) (by decide +kernel) rfl
theorem q42 : Cond.selects RX2 yX2_writeNear yX2_writeNear ∈ gw := gw_in (i := 42) (by decide +kernel) rfl
theorem q156 : Cond.initialized RX6 ∈ gw := gw_in (i := 156) (by decide +kernel) rfl
theorem q195 : Cond.fieldLink RX2 132 "SegmentBench$Names" "word" "[J" ∈ gw := gw_in (i := 195) (by decide +kernel) rfl
theorem q266 : Cond.fieldLink RX2 120 "SegmentBench$Draft" "word" "[I" ∈ gw := gw_in (i := 266) (by decide +kernel) rfl
theorem q397 : Cond.fieldLink RX6 9 "SegmentBench$ObjectModule" "there" "Z" ∈ gw := gw_in (i := 397) (by decide +kernel) rfl
theorem q401 : Cond.fieldLink RX6 15 "SegmentBench$ObjectModule" "segments" "I" ∈ gw := gw_in (i := 401) (by decide +kernel) rfl
theorem q404 : Cond.fieldLink RX6 19 "SegmentBench$ObjectModule" "segmentName" "[J" ∈ gw := gw_in (i := 404) (by decide +kernel) rfl
theorem q406 : Cond.fieldLink RX6 23 "SegmentBench$ObjectModule" "segmentAlign" "[I" ∈ gw := gw_in (i := 406) (by decide +kernel) rfl
theorem q408 : Cond.fieldLink RX6 27 "SegmentBench$ObjectModule" "segmentSize" "[I" ∈ gw := gw_in (i := 408) (by decide +kernel) rfl
theorem q411 : Cond.fieldLink RX6 30 "SegmentBench$ObjectModule" "segmentStart" "[I" ∈ gw := gw_in (i := 411) (by decide +kernel) rfl
theorem q414 : Cond.fieldLink RX6 33 "SegmentBench$ObjectModule" "bytes" "[I" ∈ gw := gw_in (i := 414) (by decide +kernel) rfl
theorem q417 : Cond.fieldLink RX6 36 "SegmentBench$ObjectModule" "fixups" "I" ∈ gw := gw_in (i := 417) (by decide +kernel) rfl
theorem q420 : Cond.fieldLink RX6 39 "SegmentBench$ObjectModule" "fixupKind" "[I" ∈ gw := gw_in (i := 420) (by decide +kernel) rfl
theorem q423 : Cond.fieldLink RX6 42 "SegmentBench$ObjectModule" "fixupSegment" "[I" ∈ gw := gw_in (i := 423) (by decide +kernel) rfl
theorem q426 : Cond.fieldLink RX6 45 "SegmentBench$ObjectModule" "fixupPlace" "[I" ∈ gw := gw_in (i := 426) (by decide +kernel) rfl
theorem q429 : Cond.fieldLink RX6 48 "SegmentBench$ObjectModule" "fixupAbout" "[I" ∈ gw := gw_in (i := 429) (by decide +kernel) rfl
theorem q432 : Cond.fieldLink RX6 51 "SegmentBench$ObjectModule" "fixupName" "[J" ∈ gw := gw_in (i := 432) (by decide +kernel) rfl
theorem q434 : Cond.fieldLink RX6 54 "SegmentBench$ObjectModule" "publics" "I" ∈ gw := gw_in (i := 434) (by decide +kernel) rfl
theorem q436 : Cond.fieldLink RX6 57 "SegmentBench$ObjectModule" "publicName" "[J" ∈ gw := gw_in (i := 436) (by decide +kernel) rfl
theorem q438 : Cond.fieldLink RX6 60 "SegmentBench$ObjectModule" "publicSegment" "[I" ∈ gw := gw_in (i := 438) (by decide +kernel) rfl
theorem q440 : Cond.fieldLink RX6 63 "SegmentBench$ObjectModule" "publicOffset" "[I" ∈ gw := gw_in (i := 440) (by decide +kernel) rfl
theorem q1158 : Cond.methodLink RX2 90 yX2_measure ∈ gw := gw_in (i := 1158) (by decide +kernel) rfl
theorem q1160 : Cond.instanceMethod yX2_measure ∈ gw := gw_in (i := 1160) (by decide +kernel) rfl
theorem q1161 : Cond.code yX2_measure cX2_measure 3 none ∈ gw := gw_in (i := 1161) (by decide +kernel) rfl
theorem q1169 : Cond.methodLink RX2 93 yX2_growJumps ∈ gw := gw_in (i := 1169) (by decide +kernel) rfl
theorem q1171 : Cond.instanceMethod yX2_growJumps ∈ gw := gw_in (i := 1171) (by decide +kernel) rfl
theorem q1172 : Cond.code yX2_growJumps cX2_growJumps 3 (some .boolean) ∈ gw := gw_in (i := 1172) (by decide +kernel) rfl
theorem q1198 : Cond.methodLink RX6 66 yJ7_fill_53178 ∈ gw := gw_in (i := 1198) (by decide +kernel) rfl
theorem q1207 : Cond.methodLink RX6 72 yX6_publicNumber ∈ gw := gw_in (i := 1207) (by decide +kernel) rfl
theorem q1208 : Cond.instanceMethod yX6_publicNumber ∈ gw := gw_in (i := 1208) (by decide +kernel) rfl
theorem q1209 : Cond.selects RX6 yX6_publicNumber yX6_publicNumber ∈ gw := gw_in (i := 1209) (by decide +kernel) rfl
theorem q1210 : Cond.code yX6_publicNumber cX6_publicNumber 4 (some .int) ∈ gw := gw_in (i := 1210) (by decide +kernel) rfl
theorem q1215 : Cond.methodLink RX2 146 yX6_putByte ∈ gw := gw_in (i := 1215) (by decide +kernel) rfl
theorem q1216 : Cond.instanceMethod yX6_putByte ∈ gw := gw_in (i := 1216) (by decide +kernel) rfl
theorem q1217 : Cond.selects RX6 yX6_putByte yX6_putByte ∈ gw := gw_in (i := 1217) (by decide +kernel) rfl
theorem q1218 : Cond.code yX6_putByte cX6_putByte 4 none ∈ gw := gw_in (i := 1218) (by decide +kernel) rfl
theorem q1219 : Cond.methodLink RX2 149 yX6_putWord ∈ gw := gw_in (i := 1219) (by decide +kernel) rfl
theorem q1220 : Cond.instanceMethod yX6_putWord ∈ gw := gw_in (i := 1220) (by decide +kernel) rfl
theorem q1221 : Cond.selects RX6 yX6_putWord yX6_putWord ∈ gw := gw_in (i := 1221) (by decide +kernel) rfl
theorem q1222 : Cond.code yX6_putWord cX6_putWord 4 none ∈ gw := gw_in (i := 1222) (by decide +kernel) rfl
theorem q1223 : Cond.methodLink RX6 76 yX6_putByte ∈ gw := gw_in (i := 1223) (by decide +kernel) rfl
theorem q1224 : Cond.methodLink RX2 152 yX2_writeOffset ∈ gw := gw_in (i := 1224) (by decide +kernel) rfl
theorem q1226 : Cond.instanceMethod yX2_writeOffset ∈ gw := gw_in (i := 1226) (by decide +kernel) rfl
theorem q1227 : Cond.code yX2_writeOffset cX2_writeOffset 6 none ∈ gw := gw_in (i := 1227) (by decide +kernel) rfl
theorem q1228 : Cond.methodLink RX2 156 yX2_writeFixup ∈ gw := gw_in (i := 1228) (by decide +kernel) rfl
theorem q1230 : Cond.instanceMethod yX2_writeFixup ∈ gw := gw_in (i := 1230) (by decide +kernel) rfl
theorem q1231 : Cond.code yX2_writeFixup cX2_writeFixup 6 none ∈ gw := gw_in (i := 1231) (by decide +kernel) rfl
theorem q1232 : Cond.methodLink RX2 166 yX6_addFixup ∈ gw := gw_in (i := 1232) (by decide +kernel) rfl
theorem q1233 : Cond.instanceMethod yX6_addFixup ∈ gw := gw_in (i := 1233) (by decide +kernel) rfl
theorem q1234 : Cond.selects RX6 yX6_addFixup yX6_addFixup ∈ gw := gw_in (i := 1234) (by decide +kernel) rfl
theorem q1235 : Cond.code yX6_addFixup cX6_addFixup 7 none ∈ gw := gw_in (i := 1235) (by decide +kernel) rfl
theorem q1236 : Cond.methodLink RX2 160 yX2_writeJump ∈ gw := gw_in (i := 1236) (by decide +kernel) rfl
theorem q1238 : Cond.instanceMethod yX2_writeJump ∈ gw := gw_in (i := 1238) (by decide +kernel) rfl
theorem q1239 : Cond.code yX2_writeJump cX2_writeJump 5 none ∈ gw := gw_in (i := 1239) (by decide +kernel) rfl
theorem q1240 : Cond.methodLink RX2 163 yX2_writeNear ∈ gw := gw_in (i := 1240) (by decide +kernel) rfl
theorem q1242 : Cond.instanceMethod yX2_writeNear ∈ gw := gw_in (i := 1242) (by decide +kernel) rfl
theorem q1243 : Cond.code yX2_writeNear cX2_writeNear 4 none ∈ gw := gw_in (i := 1243) (by decide +kernel) rfl
theorem dX2_sizeJumps_0 : decode cX2_sizeJumps 0 = .ok (.iconst 0, 1) := by decide +kernel
theorem dX2_sizeJumps_1 : decode cX2_sizeJumps 1 = .ok (.istore_n 1, 1) := by decide +kernel
theorem dX2_sizeJumps_2 : decode cX2_sizeJumps 2 = .ok (.iload_n 1, 1) := by decide +kernel
theorem dX2_sizeJumps_3 : decode cX2_sizeJumps 3 = .ok (.aload_n 0, 1) := by decide +kernel
theorem dX2_sizeJumps_4 : decode cX2_sizeJumps 4 = .ok (.getfield 9, 3) := by decide +kernel
theorem dX2_sizeJumps_7 : decode cX2_sizeJumps 7 = .ok (.getfield 41, 3) := by decide +kernel
theorem dX2_sizeJumps_10 : decode cX2_sizeJumps 10 = .ok (.if_icmp .gt 23, 3) := by decide +kernel
theorem dX2_sizeJumps_13 : decode cX2_sizeJumps 13 = .ok (.aload_n 0, 1) := by decide +kernel
theorem dX2_sizeJumps_14 : decode cX2_sizeJumps 14 = .ok (.invokevirtual 90, 3) := by decide +kernel
theorem dX2_sizeJumps_17 : decode cX2_sizeJumps 17 = .ok (.aload_n 0, 1) := by decide +kernel
theorem dX2_sizeJumps_18 : decode cX2_sizeJumps 18 = .ok (.invokevirtual 93, 3) := by decide +kernel
theorem dX2_sizeJumps_21 : decode cX2_sizeJumps 21 = .ok (.ifCond .ne 6, 3) := by decide +kernel
theorem dX2_sizeJumps_27 : decode cX2_sizeJumps 27 = .ok (.iinc 1 1, 3) := by decide +kernel
theorem dX2_sizeJumps_30 : decode cX2_sizeJumps 30 = .ok (.goto (-28), 3) := by decide +kernel
theorem dX2_sizeJumps_24 : decode cX2_sizeJumps 24 = .ok (.goto 9, 3) := by decide +kernel
theorem dX2_sizeJumps_33 : decode cX2_sizeJumps 33 = .ok (.iconst 0, 1) := by decide +kernel
theorem dX2_sizeJumps_34 : decode cX2_sizeJumps 34 = .ok (.istore_n 1, 1) := by decide +kernel
theorem dX2_sizeJumps_35 : decode cX2_sizeJumps 35 = .ok (.iconst 0, 1) := by decide +kernel
theorem dX2_sizeJumps_36 : decode cX2_sizeJumps 36 = .ok (.istore_n 2, 1) := by decide +kernel
theorem dX2_sizeJumps_37 : decode cX2_sizeJumps 37 = .ok (.iload_n 2, 1) := by decide +kernel
theorem dX2_sizeJumps_38 : decode cX2_sizeJumps 38 = .ok (.aload_n 0, 1) := by decide +kernel
theorem dX2_sizeJumps_39 : decode cX2_sizeJumps 39 = .ok (.getfield 26, 3) := by decide +kernel
theorem dX2_sizeJumps_42 : decode cX2_sizeJumps 42 = .ok (.if_icmp .ge 18, 3) := by decide +kernel
theorem dX2_sizeJumps_60 : decode cX2_sizeJumps 60 = .ok (.iload_n 1, 1) := by decide +kernel
theorem dX2_sizeJumps_61 : decode cX2_sizeJumps 61 = .ok (.ireturn, 1) := by decide +kernel
theorem dX2_sizeJumps_45 : decode cX2_sizeJumps 45 = .ok (.iload_n 1, 1) := by decide +kernel
theorem dX2_sizeJumps_46 : decode cX2_sizeJumps 46 = .ok (.aload_n 0, 1) := by decide +kernel
theorem dX2_sizeJumps_47 : decode cX2_sizeJumps 47 = .ok (.getfield 23, 3) := by decide +kernel
theorem dX2_sizeJumps_50 : decode cX2_sizeJumps 50 = .ok (.iload_n 2, 1) := by decide +kernel
theorem dX2_sizeJumps_51 : decode cX2_sizeJumps 51 = .ok (.iaload, 1) := by decide +kernel
theorem dX2_sizeJumps_52 : decode cX2_sizeJumps 52 = .ok (.iadd, 1) := by decide +kernel
theorem dX2_sizeJumps_53 : decode cX2_sizeJumps 53 = .ok (.istore_n 1, 1) := by decide +kernel
theorem dX2_sizeJumps_54 : decode cX2_sizeJumps 54 = .ok (.iinc 2 1, 3) := by decide +kernel
theorem dX2_sizeJumps_57 : decode cX2_sizeJumps 57 = .ok (.goto (-20), 3) := by decide +kernel
theorem dX2_firstTooFar_0 : decode cX2_firstTooFar 0 = .ok (.iconst 0, 1) := by decide +kernel
theorem dX2_firstTooFar_1 : decode cX2_firstTooFar 1 = .ok (.istore_n 1, 1) := by decide +kernel
theorem dX2_firstTooFar_2 : decode cX2_firstTooFar 2 = .ok (.iload_n 1, 1) := by decide +kernel
theorem dX2_firstTooFar_3 : decode cX2_firstTooFar 3 = .ok (.aload_n 0, 1) := by decide +kernel
theorem dX2_firstTooFar_4 : decode cX2_firstTooFar 4 = .ok (.getfield 9, 3) := by decide +kernel
theorem dX2_firstTooFar_7 : decode cX2_firstTooFar 7 = .ok (.getfield 41, 3) := by decide +kernel
theorem dX2_firstTooFar_10 : decode cX2_firstTooFar 10 = .ok (.if_icmp .ge 44, 3) := by decide +kernel
theorem dX2_firstTooFar_54 : decode cX2_firstTooFar 54 = .ok (.iconst (-1), 1) := by decide +kernel
theorem dX2_firstTooFar_55 : decode cX2_firstTooFar 55 = .ok (.ireturn, 1) := by decide +kernel
theorem dX2_firstTooFar_13 : decode cX2_firstTooFar 13 = .ok (.aload_n 0, 1) := by decide +kernel
theorem dX2_firstTooFar_14 : decode cX2_firstTooFar 14 = .ok (.getfield 9, 3) := by decide +kernel
theorem dX2_firstTooFar_17 : decode cX2_firstTooFar 17 = .ok (.getfield 57, 3) := by decide +kernel
theorem dX2_firstTooFar_20 : decode cX2_firstTooFar 20 = .ok (.iload_n 1, 1) := by decide +kernel
theorem dX2_firstTooFar_21 : decode cX2_firstTooFar 21 = .ok (.iaload, 1) := by decide +kernel
theorem dX2_firstTooFar_22 : decode cX2_firstTooFar 22 = .ok (.bipush 10, 2) := by decide +kernel
theorem dX2_firstTooFar_24 : decode cX2_firstTooFar 24 = .ok (.if_icmp .ne 24, 3) := by decide +kernel
theorem dX2_firstTooFar_27 : decode cX2_firstTooFar 27 = .ok (.aload_n 0, 1) := by decide +kernel
theorem dX2_firstTooFar_28 : decode cX2_firstTooFar 28 = .ok (.iload_n 1, 1) := by decide +kernel
theorem dX2_firstTooFar_29 : decode cX2_firstTooFar 29 = .ok (.invokevirtual 114, 3) := by decide +kernel
theorem dX2_firstTooFar_32 : decode cX2_firstTooFar 32 = .ok (.invokestatic 117, 3) := by decide +kernel
theorem dX2_firstTooFar_35 : decode cX2_firstTooFar 35 = .ok (.ifCond .ne 13, 3) := by decide +kernel
theorem dX2_firstTooFar_38 : decode cX2_firstTooFar 38 = .ok (.aload_n 0, 1) := by decide +kernel
theorem dX2_firstTooFar_39 : decode cX2_firstTooFar 39 = .ok (.getfield 9, 3) := by decide +kernel
theorem dX2_firstTooFar_42 : decode cX2_firstTooFar 42 = .ok (.getfield 120, 3) := by decide +kernel
theorem dX2_firstTooFar_45 : decode cX2_firstTooFar 45 = .ok (.iload_n 1, 1) := by decide +kernel
theorem dX2_firstTooFar_46 : decode cX2_firstTooFar 46 = .ok (.iaload, 1) := by decide +kernel
theorem dX2_firstTooFar_47 : decode cX2_firstTooFar 47 = .ok (.ireturn, 1) := by decide +kernel
theorem dX2_firstTooFar_48 : decode cX2_firstTooFar 48 = .ok (.iinc 1 1, 3) := by decide +kernel
theorem dX2_firstTooFar_51 : decode cX2_firstTooFar 51 = .ok (.goto (-49), 3) := by decide +kernel
theorem dX6_clear_0 : decode cX6_clear 0 = .ok (.aload_n 0, 1) := by decide +kernel
theorem dX6_clear_1 : decode cX6_clear 1 = .ok (.iconst 0, 1) := by decide +kernel
theorem dX6_clear_2 : decode cX6_clear 2 = .ok (.putfield 9, 3) := by decide +kernel
theorem dX6_clear_5 : decode cX6_clear 5 = .ok (.aload_n 0, 1) := by decide +kernel
theorem dX6_clear_6 : decode cX6_clear 6 = .ok (.iconst 0, 1) := by decide +kernel
theorem dX6_clear_7 : decode cX6_clear 7 = .ok (.putfield 15, 3) := by decide +kernel
theorem dX6_clear_10 : decode cX6_clear 10 = .ok (.aload_n 0, 1) := by decide +kernel
theorem dX6_clear_11 : decode cX6_clear 11 = .ok (.iconst 0, 1) := by decide +kernel
theorem dX6_clear_12 : decode cX6_clear 12 = .ok (.putfield 36, 3) := by decide +kernel
theorem dX6_clear_15 : decode cX6_clear 15 = .ok (.aload_n 0, 1) := by decide +kernel
theorem dX6_clear_16 : decode cX6_clear 16 = .ok (.iconst 0, 1) := by decide +kernel
theorem dX6_clear_17 : decode cX6_clear 17 = .ok (.putfield 54, 3) := by decide +kernel
theorem dX6_clear_20 : decode cX6_clear 20 = .ok (.aload_n 0, 1) := by decide +kernel
theorem dX6_clear_21 : decode cX6_clear 21 = .ok (.getfield 33, 3) := by decide +kernel
theorem dX6_clear_24 : decode cX6_clear 24 = .ok (.iconst 0, 1) := by decide +kernel
theorem dX6_clear_25 : decode cX6_clear 25 = .ok (.invokestatic 66, 3) := by decide +kernel
theorem dX6_clear_28 : decode cX6_clear 28 = .ok (.return_, 1) := by decide +kernel
theorem dX6_addSegment_0 : decode cX6_addSegment 0 = .ok (.aload_n 0, 1) := by decide +kernel
theorem dX6_addSegment_1 : decode cX6_addSegment 1 = .ok (.getfield 15, 3) := by decide +kernel
theorem dX6_addSegment_4 : decode cX6_addSegment 4 = .ok (.bipush 24, 2) := by decide +kernel
theorem dX6_addSegment_6 : decode cX6_addSegment 6 = .ok (.if_icmp .ge 90, 3) := by decide +kernel
theorem dX6_addSegment_9 : decode cX6_addSegment 9 = .ok (.iconst 0, 1) := by decide +kernel
theorem dX6_addSegment_10 : decode cX6_addSegment 10 = .ok (.istore 5, 2) := by decide +kernel
theorem dX6_addSegment_12 : decode cX6_addSegment 12 = .ok (.aload_n 0, 1) := by decide +kernel
theorem dX6_addSegment_13 : decode cX6_addSegment 13 = .ok (.getfield 15, 3) := by decide +kernel
theorem dX6_addSegment_16 : decode cX6_addSegment 16 = .ok (.ifCond .le 28, 3) := by decide +kernel
theorem dX6_addSegment_19 : decode cX6_addSegment 19 = .ok (.aload_n 0, 1) := by decide +kernel
theorem dX6_addSegment_20 : decode cX6_addSegment 20 = .ok (.getfield 30, 3) := by decide +kernel
theorem dX6_addSegment_23 : decode cX6_addSegment 23 = .ok (.aload_n 0, 1) := by decide +kernel
theorem dX6_addSegment_24 : decode cX6_addSegment 24 = .ok (.getfield 15, 3) := by decide +kernel
theorem dX6_addSegment_27 : decode cX6_addSegment 27 = .ok (.iconst 1, 1) := by decide +kernel
theorem dX6_addSegment_28 : decode cX6_addSegment 28 = .ok (.isub, 1) := by decide +kernel
theorem dX6_addSegment_29 : decode cX6_addSegment 29 = .ok (.iaload, 1) := by decide +kernel
theorem dX6_addSegment_30 : decode cX6_addSegment 30 = .ok (.aload_n 0, 1) := by decide +kernel
theorem dX6_addSegment_31 : decode cX6_addSegment 31 = .ok (.getfield 27, 3) := by decide +kernel
theorem dX6_addSegment_34 : decode cX6_addSegment 34 = .ok (.aload_n 0, 1) := by decide +kernel
theorem dX6_addSegment_35 : decode cX6_addSegment 35 = .ok (.getfield 15, 3) := by decide +kernel
theorem dX6_addSegment_38 : decode cX6_addSegment 38 = .ok (.iconst 1, 1) := by decide +kernel
theorem dX6_addSegment_39 : decode cX6_addSegment 39 = .ok (.isub, 1) := by decide +kernel
theorem dX6_addSegment_40 : decode cX6_addSegment 40 = .ok (.iaload, 1) := by decide +kernel
theorem dX6_addSegment_41 : decode cX6_addSegment 41 = .ok (.iadd, 1) := by decide +kernel
theorem dX6_addSegment_42 : decode cX6_addSegment 42 = .ok (.istore 5, 2) := by decide +kernel
theorem dX6_addSegment_96 : decode cX6_addSegment 96 = .ok (.return_, 1) := by decide +kernel
theorem dX6_addSegment_44 : decode cX6_addSegment 44 = .ok (.aload_n 0, 1) := by decide +kernel
theorem dX6_addSegment_45 : decode cX6_addSegment 45 = .ok (.getfield 19, 3) := by decide +kernel
theorem dX6_addSegment_48 : decode cX6_addSegment 48 = .ok (.aload_n 0, 1) := by decide +kernel
theorem dX6_addSegment_49 : decode cX6_addSegment 49 = .ok (.getfield 15, 3) := by decide +kernel
theorem dX6_addSegment_52 : decode cX6_addSegment 52 = .ok (.lload_n 1, 1) := by decide +kernel
theorem dX6_addSegment_53 : decode cX6_addSegment 53 = .ok (.lastore, 1) := by decide +kernel
theorem dX6_addSegment_54 : decode cX6_addSegment 54 = .ok (.aload_n 0, 1) := by decide +kernel
theorem dX6_addSegment_55 : decode cX6_addSegment 55 = .ok (.getfield 23, 3) := by decide +kernel
theorem dX6_addSegment_58 : decode cX6_addSegment 58 = .ok (.aload_n 0, 1) := by decide +kernel
theorem dX6_addSegment_59 : decode cX6_addSegment 59 = .ok (.getfield 15, 3) := by decide +kernel
theorem dX6_addSegment_62 : decode cX6_addSegment 62 = .ok (.iload_n 3, 1) := by decide +kernel
theorem dX6_addSegment_63 : decode cX6_addSegment 63 = .ok (.iastore, 1) := by decide +kernel
theorem dX6_addSegment_64 : decode cX6_addSegment 64 = .ok (.aload_n 0, 1) := by decide +kernel
theorem dX6_addSegment_65 : decode cX6_addSegment 65 = .ok (.getfield 27, 3) := by decide +kernel
theorem dX6_addSegment_68 : decode cX6_addSegment 68 = .ok (.aload_n 0, 1) := by decide +kernel
theorem dX6_addSegment_69 : decode cX6_addSegment 69 = .ok (.getfield 15, 3) := by decide +kernel
theorem dX6_addSegment_72 : decode cX6_addSegment 72 = .ok (.iload 4, 2) := by decide +kernel
theorem dX6_addSegment_74 : decode cX6_addSegment 74 = .ok (.iastore, 1) := by decide +kernel
theorem dX6_addSegment_75 : decode cX6_addSegment 75 = .ok (.aload_n 0, 1) := by decide +kernel
theorem dX6_addSegment_76 : decode cX6_addSegment 76 = .ok (.getfield 30, 3) := by decide +kernel
theorem dX6_addSegment_79 : decode cX6_addSegment 79 = .ok (.aload_n 0, 1) := by decide +kernel
theorem dX6_addSegment_80 : decode cX6_addSegment 80 = .ok (.getfield 15, 3) := by decide +kernel
theorem dX6_addSegment_83 : decode cX6_addSegment 83 = .ok (.iload 5, 2) := by decide +kernel
theorem dX6_addSegment_85 : decode cX6_addSegment 85 = .ok (.iastore, 1) := by decide +kernel
theorem dX6_addSegment_86 : decode cX6_addSegment 86 = .ok (.aload_n 0, 1) := by decide +kernel
theorem dX6_addSegment_87 : decode cX6_addSegment 87 = .ok (.dup, 1) := by decide +kernel
theorem dX6_addSegment_88 : decode cX6_addSegment 88 = .ok (.getfield 15, 3) := by decide +kernel
theorem dX6_addSegment_91 : decode cX6_addSegment 91 = .ok (.iconst 1, 1) := by decide +kernel
theorem dX6_addSegment_92 : decode cX6_addSegment 92 = .ok (.iadd, 1) := by decide +kernel
theorem dX6_addSegment_93 : decode cX6_addSegment 93 = .ok (.putfield 15, 3) := by decide +kernel
theorem dX6_publicNumber_0 : decode cX6_publicNumber 0 = .ok (.iconst 0, 1) := by decide +kernel
theorem dX6_publicNumber_1 : decode cX6_publicNumber 1 = .ok (.istore_n 3, 1) := by decide +kernel
theorem dX6_publicNumber_2 : decode cX6_publicNumber 2 = .ok (.iload_n 3, 1) := by decide +kernel
theorem dX6_publicNumber_3 : decode cX6_publicNumber 3 = .ok (.aload_n 0, 1) := by decide +kernel
theorem dX6_publicNumber_4 : decode cX6_publicNumber 4 = .ok (.getfield 54, 3) := by decide +kernel
theorem dX6_publicNumber_7 : decode cX6_publicNumber 7 = .ok (.if_icmp .ge 22, 3) := by decide +kernel
theorem dX6_publicNumber_29 : decode cX6_publicNumber 29 = .ok (.iconst (-1), 1) := by decide +kernel
theorem dX6_publicNumber_30 : decode cX6_publicNumber 30 = .ok (.ireturn, 1) := by decide +kernel
theorem dX6_publicNumber_10 : decode cX6_publicNumber 10 = .ok (.aload_n 0, 1) := by decide +kernel
theorem dX6_publicNumber_11 : decode cX6_publicNumber 11 = .ok (.getfield 57, 3) := by decide +kernel
theorem dX6_publicNumber_14 : decode cX6_publicNumber 14 = .ok (.iload_n 3, 1) := by decide +kernel
theorem dX6_publicNumber_15 : decode cX6_publicNumber 15 = .ok (.laload, 1) := by decide +kernel
theorem dX6_publicNumber_16 : decode cX6_publicNumber 16 = .ok (.lload_n 1, 1) := by decide +kernel
theorem dX6_publicNumber_17 : decode cX6_publicNumber 17 = .ok (.lcmp, 1) := by decide +kernel
theorem dX6_publicNumber_18 : decode cX6_publicNumber 18 = .ok (.ifCond .ne 5, 3) := by decide +kernel
theorem dX6_publicNumber_23 : decode cX6_publicNumber 23 = .ok (.iinc 3 1, 3) := by decide +kernel
theorem dX6_publicNumber_26 : decode cX6_publicNumber 26 = .ok (.goto (-24), 3) := by decide +kernel
theorem dX6_publicNumber_21 : decode cX6_publicNumber 21 = .ok (.iload_n 3, 1) := by decide +kernel
theorem dX6_publicNumber_22 : decode cX6_publicNumber 22 = .ok (.ireturn, 1) := by decide +kernel
theorem dX6_addPublic_0 : decode cX6_addPublic 0 = .ok (.aload_n 0, 1) := by decide +kernel
theorem dX6_addPublic_1 : decode cX6_addPublic 1 = .ok (.lload_n 1, 1) := by decide +kernel
theorem dX6_addPublic_2 : decode cX6_addPublic 2 = .ok (.invokevirtual 72, 3) := by decide +kernel
theorem dX6_addPublic_5 : decode cX6_addPublic 5 = .ok (.ifCond .ge 53, 3) := by decide +kernel
theorem dX6_addPublic_8 : decode cX6_addPublic 8 = .ok (.aload_n 0, 1) := by decide +kernel
theorem dX6_addPublic_9 : decode cX6_addPublic 9 = .ok (.getfield 54, 3) := by decide +kernel
theorem dX6_addPublic_12 : decode cX6_addPublic 12 = .ok (.bipush 24, 2) := by decide +kernel
theorem dX6_addPublic_14 : decode cX6_addPublic 14 = .ok (.if_icmp .ge 44, 3) := by decide +kernel
theorem dX6_addPublic_17 : decode cX6_addPublic 17 = .ok (.aload_n 0, 1) := by decide +kernel
theorem dX6_addPublic_18 : decode cX6_addPublic 18 = .ok (.getfield 57, 3) := by decide +kernel
theorem dX6_addPublic_21 : decode cX6_addPublic 21 = .ok (.aload_n 0, 1) := by decide +kernel
theorem dX6_addPublic_22 : decode cX6_addPublic 22 = .ok (.getfield 54, 3) := by decide +kernel
theorem dX6_addPublic_25 : decode cX6_addPublic 25 = .ok (.lload_n 1, 1) := by decide +kernel
theorem dX6_addPublic_26 : decode cX6_addPublic 26 = .ok (.lastore, 1) := by decide +kernel
theorem dX6_addPublic_27 : decode cX6_addPublic 27 = .ok (.aload_n 0, 1) := by decide +kernel
theorem dX6_addPublic_28 : decode cX6_addPublic 28 = .ok (.getfield 60, 3) := by decide +kernel
theorem dX6_addPublic_31 : decode cX6_addPublic 31 = .ok (.aload_n 0, 1) := by decide +kernel
theorem dX6_addPublic_32 : decode cX6_addPublic 32 = .ok (.getfield 54, 3) := by decide +kernel
theorem dX6_addPublic_35 : decode cX6_addPublic 35 = .ok (.iload_n 3, 1) := by decide +kernel
theorem dX6_addPublic_36 : decode cX6_addPublic 36 = .ok (.iastore, 1) := by decide +kernel
theorem dX6_addPublic_37 : decode cX6_addPublic 37 = .ok (.aload_n 0, 1) := by decide +kernel
theorem dX6_addPublic_38 : decode cX6_addPublic 38 = .ok (.getfield 63, 3) := by decide +kernel
theorem dX6_addPublic_41 : decode cX6_addPublic 41 = .ok (.aload_n 0, 1) := by decide +kernel
theorem dX6_addPublic_42 : decode cX6_addPublic 42 = .ok (.getfield 54, 3) := by decide +kernel
theorem dX6_addPublic_45 : decode cX6_addPublic 45 = .ok (.iload 4, 2) := by decide +kernel
theorem dX6_addPublic_47 : decode cX6_addPublic 47 = .ok (.iastore, 1) := by decide +kernel
theorem dX6_addPublic_48 : decode cX6_addPublic 48 = .ok (.aload_n 0, 1) := by decide +kernel
theorem dX6_addPublic_49 : decode cX6_addPublic 49 = .ok (.dup, 1) := by decide +kernel
theorem dX6_addPublic_50 : decode cX6_addPublic 50 = .ok (.getfield 54, 3) := by decide +kernel
theorem dX6_addPublic_53 : decode cX6_addPublic 53 = .ok (.iconst 1, 1) := by decide +kernel
theorem dX6_addPublic_54 : decode cX6_addPublic 54 = .ok (.iadd, 1) := by decide +kernel
theorem dX6_addPublic_55 : decode cX6_addPublic 55 = .ok (.putfield 54, 3) := by decide +kernel
theorem dX6_addPublic_58 : decode cX6_addPublic 58 = .ok (.return_, 1) := by decide +kernel
theorem dX6_putByte_0 : decode cX6_putByte 0 = .ok (.iload_n 1, 1) := by decide +kernel
theorem dX6_putByte_1 : decode cX6_putByte 1 = .ok (.aload_n 0, 1) := by decide +kernel
theorem dX6_putByte_2 : decode cX6_putByte 2 = .ok (.getfield 15, 3) := by decide +kernel
theorem dX6_putByte_5 : decode cX6_putByte 5 = .ok (.if_icmp .ge 35, 3) := by decide +kernel
theorem dX6_putByte_8 : decode cX6_putByte 8 = .ok (.aload_n 0, 1) := by decide +kernel
theorem dX6_putByte_9 : decode cX6_putByte 9 = .ok (.getfield 30, 3) := by decide +kernel
theorem dX6_putByte_12 : decode cX6_putByte 12 = .ok (.iload_n 1, 1) := by decide +kernel
theorem dX6_putByte_13 : decode cX6_putByte 13 = .ok (.iaload, 1) := by decide +kernel
theorem dX6_putByte_14 : decode cX6_putByte 14 = .ok (.iload_n 2, 1) := by decide +kernel
theorem dX6_putByte_15 : decode cX6_putByte 15 = .ok (.iadd, 1) := by decide +kernel
theorem dX6_putByte_16 : decode cX6_putByte 16 = .ok (.sipush 400, 3) := by decide +kernel
theorem dX6_putByte_19 : decode cX6_putByte 19 = .ok (.if_icmp .ge 21, 3) := by decide +kernel
theorem dX6_putByte_22 : decode cX6_putByte 22 = .ok (.aload_n 0, 1) := by decide +kernel
theorem dX6_putByte_23 : decode cX6_putByte 23 = .ok (.getfield 33, 3) := by decide +kernel
theorem dX6_putByte_26 : decode cX6_putByte 26 = .ok (.aload_n 0, 1) := by decide +kernel
theorem dX6_putByte_27 : decode cX6_putByte 27 = .ok (.getfield 30, 3) := by decide +kernel
theorem dX6_putByte_30 : decode cX6_putByte 30 = .ok (.iload_n 1, 1) := by decide +kernel
theorem dX6_putByte_31 : decode cX6_putByte 31 = .ok (.iaload, 1) := by decide +kernel
theorem dX6_putByte_32 : decode cX6_putByte 32 = .ok (.iload_n 2, 1) := by decide +kernel
theorem dX6_putByte_33 : decode cX6_putByte 33 = .ok (.iadd, 1) := by decide +kernel
theorem dX6_putByte_34 : decode cX6_putByte 34 = .ok (.iload_n 3, 1) := by decide +kernel
theorem dX6_putByte_35 : decode cX6_putByte 35 = .ok (.sipush 255, 3) := by decide +kernel
theorem dX6_putByte_38 : decode cX6_putByte 38 = .ok (.iand, 1) := by decide +kernel
theorem dX6_putByte_39 : decode cX6_putByte 39 = .ok (.iastore, 1) := by decide +kernel
theorem dX6_putByte_40 : decode cX6_putByte 40 = .ok (.return_, 1) := by decide +kernel
theorem dX6_putWord_0 : decode cX6_putWord 0 = .ok (.aload_n 0, 1) := by decide +kernel
theorem dX6_putWord_1 : decode cX6_putWord 1 = .ok (.iload_n 1, 1) := by decide +kernel
theorem dX6_putWord_2 : decode cX6_putWord 2 = .ok (.iload_n 2, 1) := by decide +kernel
theorem dX6_putWord_3 : decode cX6_putWord 3 = .ok (.iload_n 3, 1) := by decide +kernel
theorem dX6_putWord_4 : decode cX6_putWord 4 = .ok (.invokevirtual 76, 3) := by decide +kernel
theorem dX6_putWord_7 : decode cX6_putWord 7 = .ok (.aload_n 0, 1) := by decide +kernel
theorem dX6_putWord_8 : decode cX6_putWord 8 = .ok (.iload_n 1, 1) := by decide +kernel
theorem dX6_putWord_9 : decode cX6_putWord 9 = .ok (.iload_n 2, 1) := by decide +kernel
theorem dX6_putWord_10 : decode cX6_putWord 10 = .ok (.iconst 1, 1) := by decide +kernel
theorem dX6_putWord_11 : decode cX6_putWord 11 = .ok (.iadd, 1) := by decide +kernel
theorem dX6_putWord_12 : decode cX6_putWord 12 = .ok (.iload_n 3, 1) := by decide +kernel
theorem dX6_putWord_13 : decode cX6_putWord 13 = .ok (.bipush 8, 2) := by decide +kernel
theorem dX6_putWord_15 : decode cX6_putWord 15 = .ok (.ishr, 1) := by decide +kernel
theorem dX6_putWord_16 : decode cX6_putWord 16 = .ok (.invokevirtual 76, 3) := by decide +kernel
theorem dX6_putWord_19 : decode cX6_putWord 19 = .ok (.return_, 1) := by decide +kernel
theorem dX6_addFixup_0 : decode cX6_addFixup 0 = .ok (.aload_n 0, 1) := by decide +kernel
theorem dX6_addFixup_1 : decode cX6_addFixup 1 = .ok (.getfield 36, 3) := by decide +kernel
theorem dX6_addFixup_4 : decode cX6_addFixup 4 = .ok (.sipush 200, 3) := by decide +kernel
theorem dX6_addFixup_7 : decode cX6_addFixup 7 = .ok (.if_icmp .ge 65, 3) := by decide +kernel
theorem dX6_addFixup_10 : decode cX6_addFixup 10 = .ok (.aload_n 0, 1) := by decide +kernel
theorem dX6_addFixup_11 : decode cX6_addFixup 11 = .ok (.getfield 39, 3) := by decide +kernel
theorem dX6_addFixup_14 : decode cX6_addFixup 14 = .ok (.aload_n 0, 1) := by decide +kernel
theorem dX6_addFixup_15 : decode cX6_addFixup 15 = .ok (.getfield 36, 3) := by decide +kernel
theorem dX6_addFixup_18 : decode cX6_addFixup 18 = .ok (.iload_n 1, 1) := by decide +kernel
theorem dX6_addFixup_19 : decode cX6_addFixup 19 = .ok (.iastore, 1) := by decide +kernel
theorem dX6_addFixup_20 : decode cX6_addFixup 20 = .ok (.aload_n 0, 1) := by decide +kernel
theorem dX6_addFixup_21 : decode cX6_addFixup 21 = .ok (.getfield 42, 3) := by decide +kernel
theorem dX6_addFixup_24 : decode cX6_addFixup 24 = .ok (.aload_n 0, 1) := by decide +kernel
theorem dX6_addFixup_25 : decode cX6_addFixup 25 = .ok (.getfield 36, 3) := by decide +kernel
theorem dX6_addFixup_28 : decode cX6_addFixup 28 = .ok (.iload_n 2, 1) := by decide +kernel
theorem dX6_addFixup_29 : decode cX6_addFixup 29 = .ok (.iastore, 1) := by decide +kernel
theorem dX6_addFixup_30 : decode cX6_addFixup 30 = .ok (.aload_n 0, 1) := by decide +kernel
theorem dX6_addFixup_31 : decode cX6_addFixup 31 = .ok (.getfield 45, 3) := by decide +kernel
theorem dX6_addFixup_34 : decode cX6_addFixup 34 = .ok (.aload_n 0, 1) := by decide +kernel
theorem dX6_addFixup_35 : decode cX6_addFixup 35 = .ok (.getfield 36, 3) := by decide +kernel
theorem dX6_addFixup_38 : decode cX6_addFixup 38 = .ok (.iload_n 3, 1) := by decide +kernel
theorem dX6_addFixup_39 : decode cX6_addFixup 39 = .ok (.iastore, 1) := by decide +kernel
theorem dX6_addFixup_40 : decode cX6_addFixup 40 = .ok (.aload_n 0, 1) := by decide +kernel
theorem dX6_addFixup_41 : decode cX6_addFixup 41 = .ok (.getfield 48, 3) := by decide +kernel
theorem dX6_addFixup_44 : decode cX6_addFixup 44 = .ok (.aload_n 0, 1) := by decide +kernel
theorem dX6_addFixup_45 : decode cX6_addFixup 45 = .ok (.getfield 36, 3) := by decide +kernel
theorem dX6_addFixup_48 : decode cX6_addFixup 48 = .ok (.iload 4, 2) := by decide +kernel
theorem dX6_addFixup_50 : decode cX6_addFixup 50 = .ok (.iastore, 1) := by decide +kernel
theorem dX6_addFixup_51 : decode cX6_addFixup 51 = .ok (.aload_n 0, 1) := by decide +kernel
theorem dX6_addFixup_52 : decode cX6_addFixup 52 = .ok (.getfield 51, 3) := by decide +kernel
theorem dX6_addFixup_55 : decode cX6_addFixup 55 = .ok (.aload_n 0, 1) := by decide +kernel
theorem dX6_addFixup_56 : decode cX6_addFixup 56 = .ok (.getfield 36, 3) := by decide +kernel
theorem dX6_addFixup_59 : decode cX6_addFixup 59 = .ok (.lload 5, 2) := by decide +kernel
theorem dX6_addFixup_61 : decode cX6_addFixup 61 = .ok (.lastore, 1) := by decide +kernel
theorem dX6_addFixup_62 : decode cX6_addFixup 62 = .ok (.aload_n 0, 1) := by decide +kernel
theorem dX6_addFixup_63 : decode cX6_addFixup 63 = .ok (.dup, 1) := by decide +kernel
theorem dX6_addFixup_64 : decode cX6_addFixup 64 = .ok (.getfield 36, 3) := by decide +kernel
theorem dX6_addFixup_67 : decode cX6_addFixup 67 = .ok (.iconst 1, 1) := by decide +kernel
theorem dX6_addFixup_68 : decode cX6_addFixup 68 = .ok (.iadd, 1) := by decide +kernel
theorem dX6_addFixup_69 : decode cX6_addFixup 69 = .ok (.putfield 36, 3) := by decide +kernel
theorem dX6_addFixup_72 : decode cX6_addFixup 72 = .ok (.return_, 1) := by decide +kernel
theorem dX2_writeFixup_0 : decode cX2_writeFixup 0 = .ok (.aload_n 0, 1) := by decide +kernel
theorem dX2_writeFixup_1 : decode cX2_writeFixup 1 = .ok (.getfield 9, 3) := by decide +kernel
theorem dX2_writeFixup_4 : decode cX2_writeFixup 4 = .ok (.getfield 74, 3) := by decide +kernel
theorem dX2_writeFixup_7 : decode cX2_writeFixup 7 = .ok (.iload_n 2, 1) := by decide +kernel
theorem dX2_writeFixup_8 : decode cX2_writeFixup 8 = .ok (.iaload, 1) := by decide +kernel
theorem dX2_writeFixup_9 : decode cX2_writeFixup 9 = .ok (.istore 5, 2) := by decide +kernel
theorem dX2_writeFixup_11 : decode cX2_writeFixup 11 = .ok (.aload_n 1, 1) := by decide +kernel
theorem dX2_writeFixup_12 : decode cX2_writeFixup 12 = .ok (.iload 4, 2) := by decide +kernel
theorem dX2_writeFixup_14 : decode cX2_writeFixup 14 = .ok (.aload_n 0, 1) := by decide +kernel
theorem dX2_writeFixup_15 : decode cX2_writeFixup 15 = .ok (.getfield 9, 3) := by decide +kernel
theorem dX2_writeFixup_18 : decode cX2_writeFixup 18 = .ok (.getfield 68, 3) := by decide +kernel
theorem dX2_writeFixup_21 : decode cX2_writeFixup 21 = .ok (.iload_n 2, 1) := by decide +kernel
theorem dX2_writeFixup_22 : decode cX2_writeFixup 22 = .ok (.iaload, 1) := by decide +kernel
theorem dX2_writeFixup_23 : decode cX2_writeFixup 23 = .ok (.iload_n 3, 1) := by decide +kernel
theorem dX2_writeFixup_24 : decode cX2_writeFixup 24 = .ok (.aload_n 0, 1) := by decide +kernel
theorem dX2_writeFixup_25 : decode cX2_writeFixup 25 = .ok (.getfield 15, 3) := by decide +kernel
theorem dX2_writeFixup_28 : decode cX2_writeFixup 28 = .ok (.getfield 89, 3) := by decide +kernel
theorem dX2_writeFixup_31 : decode cX2_writeFixup 31 = .ok (.iload 5, 2) := by decide +kernel
theorem dX2_writeFixup_33 : decode cX2_writeFixup 33 = .ok (.iaload, 1) := by decide +kernel
theorem dX2_writeFixup_34 : decode cX2_writeFixup 34 = .ok (.aload_n 0, 1) := by decide +kernel
theorem dX2_writeFixup_35 : decode cX2_writeFixup 35 = .ok (.getfield 15, 3) := by decide +kernel
theorem dX2_writeFixup_38 : decode cX2_writeFixup 38 = .ok (.getfield 132, 3) := by decide +kernel
theorem dX2_writeFixup_41 : decode cX2_writeFixup 41 = .ok (.iload 5, 2) := by decide +kernel
theorem dX2_writeFixup_43 : decode cX2_writeFixup 43 = .ok (.laload, 1) := by decide +kernel
theorem dX2_writeFixup_44 : decode cX2_writeFixup 44 = .ok (.invokevirtual 166, 3) := by decide +kernel
theorem dX2_writeFixup_47 : decode cX2_writeFixup 47 = .ok (.return_, 1) := by decide +kernel
theorem dX2_writeOffset_0 : decode cX2_writeOffset 0 = .ok (.aload_n 0, 1) := by decide +kernel
theorem dX2_writeOffset_1 : decode cX2_writeOffset 1 = .ok (.getfield 9, 3) := by decide +kernel
theorem dX2_writeOffset_4 : decode cX2_writeOffset 4 = .ok (.getfield 74, 3) := by decide +kernel
theorem dX2_writeOffset_7 : decode cX2_writeOffset 7 = .ok (.iload_n 2, 1) := by decide +kernel
theorem dX2_writeOffset_8 : decode cX2_writeOffset 8 = .ok (.iaload, 1) := by decide +kernel
theorem dX2_writeOffset_9 : decode cX2_writeOffset 9 = .ok (.istore 4, 2) := by decide +kernel
theorem dX2_writeOffset_11 : decode cX2_writeOffset 11 = .ok (.aload_n 0, 1) := by decide +kernel
theorem dX2_writeOffset_12 : decode cX2_writeOffset 12 = .ok (.getfield 15, 3) := by decide +kernel
theorem dX2_writeOffset_15 : decode cX2_writeOffset 15 = .ok (.getfield 71, 3) := by decide +kernel
theorem dX2_writeOffset_18 : decode cX2_writeOffset 18 = .ok (.iload 4, 2) := by decide +kernel
theorem dX2_writeOffset_20 : decode cX2_writeOffset 20 = .ok (.iaload, 1) := by decide +kernel
theorem dX2_writeOffset_21 : decode cX2_writeOffset 21 = .ok (.iconst 2, 1) := by decide +kernel
theorem dX2_writeOffset_22 : decode cX2_writeOffset 22 = .ok (.if_icmp .ne 16, 3) := by decide +kernel
theorem dX2_writeOffset_38 : decode cX2_writeOffset 38 = .ok (.iconst 0, 1) := by decide +kernel
theorem dX2_writeOffset_25 : decode cX2_writeOffset 25 = .ok (.aload_n 0, 1) := by decide +kernel
theorem dX2_writeOffset_26 : decode cX2_writeOffset 26 = .ok (.getfield 15, 3) := by decide +kernel
theorem dX2_writeOffset_29 : decode cX2_writeOffset 29 = .ok (.getfield 110, 3) := by decide +kernel
theorem dX2_writeOffset_32 : decode cX2_writeOffset 32 = .ok (.iload 4, 2) := by decide +kernel
theorem dX2_writeOffset_34 : decode cX2_writeOffset 34 = .ok (.iaload, 1) := by decide +kernel
theorem dX2_writeOffset_35 : decode cX2_writeOffset 35 = .ok (.goto 4, 3) := by decide +kernel
theorem dX2_writeOffset_39 : decode cX2_writeOffset 39 = .ok (.istore 5, 2) := by decide +kernel
theorem dX2_writeOffset_41 : decode cX2_writeOffset 41 = .ok (.aload_n 1, 1) := by decide +kernel
theorem dX2_writeOffset_42 : decode cX2_writeOffset 42 = .ok (.aload_n 0, 1) := by decide +kernel
theorem dX2_writeOffset_43 : decode cX2_writeOffset 43 = .ok (.getfield 9, 3) := by decide +kernel
theorem dX2_writeOffset_46 : decode cX2_writeOffset 46 = .ok (.getfield 68, 3) := by decide +kernel
theorem dX2_writeOffset_49 : decode cX2_writeOffset 49 = .ok (.iload_n 2, 1) := by decide +kernel
theorem dX2_writeOffset_50 : decode cX2_writeOffset 50 = .ok (.iaload, 1) := by decide +kernel
theorem dX2_writeOffset_51 : decode cX2_writeOffset 51 = .ok (.iload_n 3, 1) := by decide +kernel
theorem dX2_writeOffset_52 : decode cX2_writeOffset 52 = .ok (.aload_n 0, 1) := by decide +kernel
theorem dX2_writeOffset_53 : decode cX2_writeOffset 53 = .ok (.getfield 9, 3) := by decide +kernel
theorem dX2_writeOffset_56 : decode cX2_writeOffset 56 = .ok (.getfield 83, 3) := by decide +kernel
theorem dX2_writeOffset_59 : decode cX2_writeOffset 59 = .ok (.iload_n 2, 1) := by decide +kernel
theorem dX2_writeOffset_60 : decode cX2_writeOffset 60 = .ok (.iaload, 1) := by decide +kernel
theorem dX2_writeOffset_61 : decode cX2_writeOffset 61 = .ok (.iload 5, 2) := by decide +kernel
theorem dX2_writeOffset_63 : decode cX2_writeOffset 63 = .ok (.iadd, 1) := by decide +kernel
theorem dX2_writeOffset_64 : decode cX2_writeOffset 64 = .ok (.invokevirtual 149, 3) := by decide +kernel
theorem dX2_writeOffset_67 : decode cX2_writeOffset 67 = .ok (.aload_n 0, 1) := by decide +kernel
theorem dX2_writeOffset_68 : decode cX2_writeOffset 68 = .ok (.aload_n 1, 1) := by decide +kernel
theorem dX2_writeOffset_69 : decode cX2_writeOffset 69 = .ok (.iload_n 2, 1) := by decide +kernel
theorem dX2_writeOffset_70 : decode cX2_writeOffset 70 = .ok (.iload_n 3, 1) := by decide +kernel
theorem dX2_writeOffset_71 : decode cX2_writeOffset 71 = .ok (.iconst 0, 1) := by decide +kernel
theorem dX2_writeOffset_72 : decode cX2_writeOffset 72 = .ok (.invokevirtual 156, 3) := by decide +kernel
theorem dX2_writeOffset_75 : decode cX2_writeOffset 75 = .ok (.return_, 1) := by decide +kernel
theorem dX2_writeNear_0 : decode cX2_writeNear 0 = .ok (.aload_n 0, 1) := by decide +kernel
theorem dX2_writeNear_1 : decode cX2_writeNear 1 = .ok (.getfield 9, 3) := by decide +kernel
theorem dX2_writeNear_4 : decode cX2_writeNear 4 = .ok (.getfield 103, 3) := by decide +kernel
theorem dX2_writeNear_7 : decode cX2_writeNear 7 = .ok (.iload_n 2, 1) := by decide +kernel
theorem dX2_writeNear_8 : decode cX2_writeNear 8 = .ok (.iaload, 1) := by decide +kernel
theorem dX2_writeNear_9 : decode cX2_writeNear 9 = .ok (.iconst 1, 1) := by decide +kernel
theorem dX2_writeNear_10 : decode cX2_writeNear 10 = .ok (.iadd, 1) := by decide +kernel
theorem dX2_writeNear_11 : decode cX2_writeNear 11 = .ok (.istore_n 3, 1) := by decide +kernel
theorem dX2_writeNear_12 : decode cX2_writeNear 12 = .ok (.aload_n 0, 1) := by decide +kernel
theorem dX2_writeNear_13 : decode cX2_writeNear 13 = .ok (.iload_n 2, 1) := by decide +kernel
theorem dX2_writeNear_14 : decode cX2_writeNear 14 = .ok (.invokevirtual 111, 3) := by decide +kernel
theorem dX2_writeNear_17 : decode cX2_writeNear 17 = .ok (.ifCond .eq 14, 3) := by decide +kernel
theorem dX2_writeNear_31 : decode cX2_writeNear 31 = .ok (.aload_n 1, 1) := by decide +kernel
theorem dX2_writeNear_32 : decode cX2_writeNear 32 = .ok (.aload_n 0, 1) := by decide +kernel
theorem dX2_writeNear_33 : decode cX2_writeNear 33 = .ok (.getfield 9, 3) := by decide +kernel
theorem dX2_writeNear_36 : decode cX2_writeNear 36 = .ok (.getfield 68, 3) := by decide +kernel
theorem dX2_writeNear_39 : decode cX2_writeNear 39 = .ok (.iload_n 2, 1) := by decide +kernel
theorem dX2_writeNear_40 : decode cX2_writeNear 40 = .ok (.iaload, 1) := by decide +kernel
theorem dX2_writeNear_41 : decode cX2_writeNear 41 = .ok (.iload_n 3, 1) := by decide +kernel
theorem dX2_writeNear_42 : decode cX2_writeNear 42 = .ok (.aload_n 0, 1) := by decide +kernel
theorem dX2_writeNear_43 : decode cX2_writeNear 43 = .ok (.iload_n 2, 1) := by decide +kernel
theorem dX2_writeNear_44 : decode cX2_writeNear 44 = .ok (.invokevirtual 114, 3) := by decide +kernel
theorem dX2_writeNear_47 : decode cX2_writeNear 47 = .ok (.invokevirtual 149, 3) := by decide +kernel
theorem dX2_writeNear_20 : decode cX2_writeNear 20 = .ok (.aload_n 0, 1) := by decide +kernel
theorem dX2_writeNear_21 : decode cX2_writeNear 21 = .ok (.aload_n 1, 1) := by decide +kernel
theorem dX2_writeNear_22 : decode cX2_writeNear 22 = .ok (.iload_n 2, 1) := by decide +kernel
theorem dX2_writeNear_23 : decode cX2_writeNear 23 = .ok (.iload_n 3, 1) := by decide +kernel
theorem dX2_writeNear_24 : decode cX2_writeNear 24 = .ok (.iconst 2, 1) := by decide +kernel
theorem dX2_writeNear_25 : decode cX2_writeNear 25 = .ok (.invokevirtual 156, 3) := by decide +kernel
theorem dX2_writeNear_28 : decode cX2_writeNear 28 = .ok (.goto 22, 3) := by decide +kernel
theorem dX2_writeNear_50 : decode cX2_writeNear 50 = .ok (.return_, 1) := by decide +kernel
theorem dX2_writeJump_0 : decode cX2_writeJump 0 = .ok (.aload_n 0, 1) := by decide +kernel
theorem dX2_writeJump_1 : decode cX2_writeJump 1 = .ok (.getfield 9, 3) := by decide +kernel
theorem dX2_writeJump_4 : decode cX2_writeJump 4 = .ok (.getfield 68, 3) := by decide +kernel
theorem dX2_writeJump_7 : decode cX2_writeJump 7 = .ok (.iload_n 2, 1) := by decide +kernel
theorem dX2_writeJump_8 : decode cX2_writeJump 8 = .ok (.iaload, 1) := by decide +kernel
theorem dX2_writeJump_9 : decode cX2_writeJump 9 = .ok (.istore_n 3, 1) := by decide +kernel
theorem dX2_writeJump_10 : decode cX2_writeJump 10 = .ok (.aload_n 0, 1) := by decide +kernel
theorem dX2_writeJump_11 : decode cX2_writeJump 11 = .ok (.getfield 9, 3) := by decide +kernel
theorem dX2_writeJump_14 : decode cX2_writeJump 14 = .ok (.getfield 103, 3) := by decide +kernel
theorem dX2_writeJump_17 : decode cX2_writeJump 17 = .ok (.iload_n 2, 1) := by decide +kernel
theorem dX2_writeJump_18 : decode cX2_writeJump 18 = .ok (.iaload, 1) := by decide +kernel
theorem dX2_writeJump_19 : decode cX2_writeJump 19 = .ok (.istore 4, 2) := by decide +kernel
theorem dX2_writeJump_21 : decode cX2_writeJump 21 = .ok (.aload_n 0, 1) := by decide +kernel
theorem dX2_writeJump_22 : decode cX2_writeJump 22 = .ok (.getfield 9, 3) := by decide +kernel
theorem dX2_writeJump_25 : decode cX2_writeJump 25 = .ok (.getfield 83, 3) := by decide +kernel
theorem dX2_writeJump_28 : decode cX2_writeJump 28 = .ok (.iload_n 2, 1) := by decide +kernel
theorem dX2_writeJump_29 : decode cX2_writeJump 29 = .ok (.iaload, 1) := by decide +kernel
theorem dX2_writeJump_30 : decode cX2_writeJump 30 = .ok (.iconst 3, 1) := by decide +kernel
theorem dX2_writeJump_31 : decode cX2_writeJump 31 = .ok (.if_icmp .ne 22, 3) := by decide +kernel
theorem dX2_writeJump_53 : decode cX2_writeJump 53 = .ok (.aload_n 1, 1) := by decide +kernel
theorem dX2_writeJump_54 : decode cX2_writeJump 54 = .ok (.iload_n 3, 1) := by decide +kernel
theorem dX2_writeJump_55 : decode cX2_writeJump 55 = .ok (.iload 4, 2) := by decide +kernel
theorem dX2_writeJump_57 : decode cX2_writeJump 57 = .ok (.sipush 235, 3) := by decide +kernel
theorem dX2_writeJump_60 : decode cX2_writeJump 60 = .ok (.invokevirtual 146, 3) := by decide +kernel
theorem dX2_writeJump_63 : decode cX2_writeJump 63 = .ok (.aload_n 1, 1) := by decide +kernel
theorem dX2_writeJump_64 : decode cX2_writeJump 64 = .ok (.iload_n 3, 1) := by decide +kernel
theorem dX2_writeJump_65 : decode cX2_writeJump 65 = .ok (.iload 4, 2) := by decide +kernel
theorem dX2_writeJump_67 : decode cX2_writeJump 67 = .ok (.iconst 1, 1) := by decide +kernel
theorem dX2_writeJump_68 : decode cX2_writeJump 68 = .ok (.iadd, 1) := by decide +kernel
theorem dX2_writeJump_69 : decode cX2_writeJump 69 = .ok (.aload_n 0, 1) := by decide +kernel
theorem dX2_writeJump_70 : decode cX2_writeJump 70 = .ok (.iload_n 2, 1) := by decide +kernel
theorem dX2_writeJump_71 : decode cX2_writeJump 71 = .ok (.invokevirtual 114, 3) := by decide +kernel
theorem dX2_writeJump_74 : decode cX2_writeJump 74 = .ok (.invokevirtual 146, 3) := by decide +kernel
theorem dX2_writeJump_34 : decode cX2_writeJump 34 = .ok (.aload_n 1, 1) := by decide +kernel
theorem dX2_writeJump_35 : decode cX2_writeJump 35 = .ok (.iload_n 3, 1) := by decide +kernel
theorem dX2_writeJump_36 : decode cX2_writeJump 36 = .ok (.iload 4, 2) := by decide +kernel
theorem dX2_writeJump_38 : decode cX2_writeJump 38 = .ok (.sipush 233, 3) := by decide +kernel
theorem dX2_writeJump_41 : decode cX2_writeJump 41 = .ok (.invokevirtual 146, 3) := by decide +kernel
theorem dX2_writeJump_44 : decode cX2_writeJump 44 = .ok (.aload_n 0, 1) := by decide +kernel
theorem dX2_writeJump_45 : decode cX2_writeJump 45 = .ok (.aload_n 1, 1) := by decide +kernel
theorem dX2_writeJump_46 : decode cX2_writeJump 46 = .ok (.iload_n 2, 1) := by decide +kernel
theorem dX2_writeJump_47 : decode cX2_writeJump 47 = .ok (.invokevirtual 163, 3) := by decide +kernel
theorem dX2_writeJump_50 : decode cX2_writeJump 50 = .ok (.goto 27, 3) := by decide +kernel
theorem dX2_writeJump_77 : decode cX2_writeJump 77 = .ok (.return_, 1) := by decide +kernel
theorem dX2_writeItem_0 : decode cX2_writeItem 0 = .ok (.aload_n 0, 1) := by decide +kernel
theorem dX2_writeItem_1 : decode cX2_writeItem 1 = .ok (.getfield 9, 3) := by decide +kernel
theorem dX2_writeItem_4 : decode cX2_writeItem 4 = .ok (.getfield 68, 3) := by decide +kernel
theorem dX2_writeItem_7 : decode cX2_writeItem 7 = .ok (.iload_n 2, 1) := by decide +kernel
theorem dX2_writeItem_8 : decode cX2_writeItem 8 = .ok (.iaload, 1) := by decide +kernel
theorem dX2_writeItem_9 : decode cX2_writeItem 9 = .ok (.istore_n 3, 1) := by decide +kernel
theorem dX2_writeItem_10 : decode cX2_writeItem 10 = .ok (.aload_n 0, 1) := by decide +kernel
theorem dX2_writeItem_11 : decode cX2_writeItem 11 = .ok (.getfield 9, 3) := by decide +kernel
theorem dX2_writeItem_14 : decode cX2_writeItem 14 = .ok (.getfield 103, 3) := by decide +kernel
theorem dX2_writeItem_17 : decode cX2_writeItem 17 = .ok (.iload_n 2, 1) := by decide +kernel
theorem dX2_writeItem_18 : decode cX2_writeItem 18 = .ok (.iaload, 1) := by decide +kernel
theorem dX2_writeItem_19 : decode cX2_writeItem 19 = .ok (.istore 4, 2) := by decide +kernel
theorem dX2_writeItem_21 : decode cX2_writeItem 21 = .ok (.aload_n 0, 1) := by decide +kernel
theorem dX2_writeItem_22 : decode cX2_writeItem 22 = .ok (.getfield 9, 3) := by decide +kernel
theorem dX2_writeItem_25 : decode cX2_writeItem 25 = .ok (.getfield 83, 3) := by decide +kernel
theorem dX2_writeItem_28 : decode cX2_writeItem 28 = .ok (.iload_n 2, 1) := by decide +kernel
theorem dX2_writeItem_29 : decode cX2_writeItem 29 = .ok (.iaload, 1) := by decide +kernel
theorem dX2_writeItem_30 : decode cX2_writeItem 30 = .ok (.istore 5, 2) := by decide +kernel
theorem dX2_writeItem_32 : decode cX2_writeItem 32 = .ok (.aload_n 0, 1) := by decide +kernel
theorem dX2_writeItem_33 : decode cX2_writeItem 33 = .ok (.getfield 9, 3) := by decide +kernel
theorem dX2_writeItem_36 : decode cX2_writeItem 36 = .ok (.getfield 57, 3) := by decide +kernel
theorem dX2_writeItem_39 : decode cX2_writeItem 39 = .ok (.iload_n 2, 1) := by decide +kernel
theorem dX2_writeItem_40 : decode cX2_writeItem 40 = .ok (.iaload, 1) := by decide +kernel
theorem dX2_writeItem_41 : decode cX2_writeItem 41 = .ok (.tableswitch 186 4 12 #[51, 186, 63, 75, 86, 124, 98, 133, 152], 51) := by decide +kernel
theorem dX2_writeItem_92 : decode cX2_writeItem 92 = .ok (.aload_n 1, 1) := by decide +kernel
theorem dX2_writeItem_93 : decode cX2_writeItem 93 = .ok (.iload_n 3, 1) := by decide +kernel
theorem dX2_writeItem_94 : decode cX2_writeItem 94 = .ok (.iload 4, 2) := by decide +kernel
theorem dX2_writeItem_96 : decode cX2_writeItem 96 = .ok (.iload 5, 2) := by decide +kernel
theorem dX2_writeItem_98 : decode cX2_writeItem 98 = .ok (.invokevirtual 146, 3) := by decide +kernel
theorem dX2_writeItem_101 : decode cX2_writeItem 101 = .ok (.goto 126, 3) := by decide +kernel
theorem dX2_writeItem_104 : decode cX2_writeItem 104 = .ok (.aload_n 1, 1) := by decide +kernel
theorem dX2_writeItem_105 : decode cX2_writeItem 105 = .ok (.iload_n 3, 1) := by decide +kernel
theorem dX2_writeItem_106 : decode cX2_writeItem 106 = .ok (.iload 4, 2) := by decide +kernel
theorem dX2_writeItem_108 : decode cX2_writeItem 108 = .ok (.iload 5, 2) := by decide +kernel
theorem dX2_writeItem_110 : decode cX2_writeItem 110 = .ok (.invokevirtual 149, 3) := by decide +kernel
theorem dX2_writeItem_113 : decode cX2_writeItem 113 = .ok (.goto 114, 3) := by decide +kernel
theorem dX2_writeItem_116 : decode cX2_writeItem 116 = .ok (.aload_n 0, 1) := by decide +kernel
theorem dX2_writeItem_117 : decode cX2_writeItem 117 = .ok (.aload_n 1, 1) := by decide +kernel
theorem dX2_writeItem_118 : decode cX2_writeItem 118 = .ok (.iload_n 2, 1) := by decide +kernel
theorem dX2_writeItem_119 : decode cX2_writeItem 119 = .ok (.iload 4, 2) := by decide +kernel
theorem dX2_writeItem_121 : decode cX2_writeItem 121 = .ok (.invokevirtual 152, 3) := by decide +kernel
theorem dX2_writeItem_124 : decode cX2_writeItem 124 = .ok (.goto 103, 3) := by decide +kernel
theorem dX2_writeItem_127 : decode cX2_writeItem 127 = .ok (.aload_n 0, 1) := by decide +kernel
theorem dX2_writeItem_128 : decode cX2_writeItem 128 = .ok (.aload_n 1, 1) := by decide +kernel
theorem dX2_writeItem_129 : decode cX2_writeItem 129 = .ok (.iload_n 2, 1) := by decide +kernel
theorem dX2_writeItem_130 : decode cX2_writeItem 130 = .ok (.iload 4, 2) := by decide +kernel
theorem dX2_writeItem_132 : decode cX2_writeItem 132 = .ok (.iconst 1, 1) := by decide +kernel
theorem dX2_writeItem_133 : decode cX2_writeItem 133 = .ok (.invokevirtual 156, 3) := by decide +kernel
theorem dX2_writeItem_136 : decode cX2_writeItem 136 = .ok (.goto 91, 3) := by decide +kernel
theorem dX2_writeItem_165 : decode cX2_writeItem 165 = .ok (.aload_n 0, 1) := by decide +kernel
theorem dX2_writeItem_166 : decode cX2_writeItem 166 = .ok (.aload_n 1, 1) := by decide +kernel
theorem dX2_writeItem_167 : decode cX2_writeItem 167 = .ok (.iload_n 2, 1) := by decide +kernel
theorem dX2_writeItem_168 : decode cX2_writeItem 168 = .ok (.invokevirtual 160, 3) := by decide +kernel
theorem dX2_writeItem_171 : decode cX2_writeItem 171 = .ok (.goto 56, 3) := by decide +kernel
theorem dX2_writeItem_139 : decode cX2_writeItem 139 = .ok (.aload_n 1, 1) := by decide +kernel
theorem dX2_writeItem_140 : decode cX2_writeItem 140 = .ok (.iload_n 3, 1) := by decide +kernel
theorem dX2_writeItem_141 : decode cX2_writeItem 141 = .ok (.iload 4, 2) := by decide +kernel
theorem dX2_writeItem_143 : decode cX2_writeItem 143 = .ok (.iload 5, 2) := by decide +kernel
theorem dX2_writeItem_145 : decode cX2_writeItem 145 = .ok (.invokevirtual 146, 3) := by decide +kernel
theorem dX2_writeItem_148 : decode cX2_writeItem 148 = .ok (.aload_n 1, 1) := by decide +kernel
theorem dX2_writeItem_149 : decode cX2_writeItem 149 = .ok (.iload_n 3, 1) := by decide +kernel
theorem dX2_writeItem_150 : decode cX2_writeItem 150 = .ok (.iload 4, 2) := by decide +kernel
theorem dX2_writeItem_152 : decode cX2_writeItem 152 = .ok (.iconst 1, 1) := by decide +kernel
theorem dX2_writeItem_153 : decode cX2_writeItem 153 = .ok (.iadd, 1) := by decide +kernel
theorem dX2_writeItem_154 : decode cX2_writeItem 154 = .ok (.aload_n 0, 1) := by decide +kernel
theorem dX2_writeItem_155 : decode cX2_writeItem 155 = .ok (.iload_n 2, 1) := by decide +kernel
theorem dX2_writeItem_156 : decode cX2_writeItem 156 = .ok (.invokevirtual 114, 3) := by decide +kernel
theorem dX2_writeItem_159 : decode cX2_writeItem 159 = .ok (.invokevirtual 146, 3) := by decide +kernel
theorem dX2_writeItem_162 : decode cX2_writeItem 162 = .ok (.goto 65, 3) := by decide +kernel
theorem dX2_writeItem_174 : decode cX2_writeItem 174 = .ok (.aload_n 1, 1) := by decide +kernel
theorem dX2_writeItem_175 : decode cX2_writeItem 175 = .ok (.iload_n 3, 1) := by decide +kernel
theorem dX2_writeItem_176 : decode cX2_writeItem 176 = .ok (.iload 4, 2) := by decide +kernel
theorem dX2_writeItem_178 : decode cX2_writeItem 178 = .ok (.sipush 232, 3) := by decide +kernel
theorem dX2_writeItem_181 : decode cX2_writeItem 181 = .ok (.invokevirtual 146, 3) := by decide +kernel
theorem dX2_writeItem_184 : decode cX2_writeItem 184 = .ok (.aload_n 0, 1) := by decide +kernel
theorem dX2_writeItem_185 : decode cX2_writeItem 185 = .ok (.aload_n 1, 1) := by decide +kernel
theorem dX2_writeItem_186 : decode cX2_writeItem 186 = .ok (.iload_n 2, 1) := by decide +kernel
theorem dX2_writeItem_187 : decode cX2_writeItem 187 = .ok (.invokevirtual 163, 3) := by decide +kernel
theorem dX2_writeItem_190 : decode cX2_writeItem 190 = .ok (.goto 37, 3) := by decide +kernel
theorem dX2_writeItem_193 : decode cX2_writeItem 193 = .ok (.aload_n 1, 1) := by decide +kernel
theorem dX2_writeItem_194 : decode cX2_writeItem 194 = .ok (.iload_n 3, 1) := by decide +kernel
theorem dX2_writeItem_195 : decode cX2_writeItem 195 = .ok (.iload 4, 2) := by decide +kernel
theorem dX2_writeItem_197 : decode cX2_writeItem 197 = .ok (.sipush 154, 3) := by decide +kernel
theorem dX2_writeItem_200 : decode cX2_writeItem 200 = .ok (.invokevirtual 146, 3) := by decide +kernel
theorem dX2_writeItem_203 : decode cX2_writeItem 203 = .ok (.aload_n 0, 1) := by decide +kernel
theorem dX2_writeItem_204 : decode cX2_writeItem 204 = .ok (.aload_n 1, 1) := by decide +kernel
theorem dX2_writeItem_205 : decode cX2_writeItem 205 = .ok (.iload_n 2, 1) := by decide +kernel
theorem dX2_writeItem_206 : decode cX2_writeItem 206 = .ok (.iload 4, 2) := by decide +kernel
theorem dX2_writeItem_208 : decode cX2_writeItem 208 = .ok (.iconst 1, 1) := by decide +kernel
theorem dX2_writeItem_209 : decode cX2_writeItem 209 = .ok (.iadd, 1) := by decide +kernel
theorem dX2_writeItem_210 : decode cX2_writeItem 210 = .ok (.invokevirtual 152, 3) := by decide +kernel
theorem dX2_writeItem_213 : decode cX2_writeItem 213 = .ok (.aload_n 0, 1) := by decide +kernel
theorem dX2_writeItem_214 : decode cX2_writeItem 214 = .ok (.aload_n 1, 1) := by decide +kernel
theorem dX2_writeItem_215 : decode cX2_writeItem 215 = .ok (.iload_n 2, 1) := by decide +kernel
theorem dX2_writeItem_216 : decode cX2_writeItem 216 = .ok (.iload 4, 2) := by decide +kernel
theorem dX2_writeItem_218 : decode cX2_writeItem 218 = .ok (.iconst 3, 1) := by decide +kernel
theorem dX2_writeItem_219 : decode cX2_writeItem 219 = .ok (.iadd, 1) := by decide +kernel
theorem dX2_writeItem_220 : decode cX2_writeItem 220 = .ok (.iconst 1, 1) := by decide +kernel
theorem dX2_writeItem_221 : decode cX2_writeItem 221 = .ok (.invokevirtual 156, 3) := by decide +kernel
theorem dX2_writeItem_224 : decode cX2_writeItem 224 = .ok (.goto 3, 3) := by decide +kernel
theorem dX2_writeItem_227 : decode cX2_writeItem 227 = .ok (.return_, 1) := by decide +kernel
def wpbX2_sizeJumps_37 (K37 : Int → Int → ZS → Prop) (v1 v2 : Int) (σ : ZS) (Q : Int → ZS → Prop) : Prop := (-2147483648 ≤ v2 ∧ v2 ≤ 2147483647) ∧ (-2147483648 ≤ (zI σ 15 4) ∧ (zI σ 15 4) ≤ 2147483647) ∧ ((zI σ 15 4) ≤ v2 → Q v1 σ) ∧ (¬ (zI σ 15 4) ≤ v2 → (0 ≤ v2 ∧ v2 < 60) ∧ K37 (v1 + (zA σ 15 3 v2)) (v2 + 1) σ)
def wpX2_sizeJumps_37 (v1 v2 : Int) (σ : ZS) (Q : Int → ZS → Prop) : Prop := lfp2 (fun K37 v1 v2 σ => wpbX2_sizeJumps_37 K37 v1 v2 σ Q) v1 v2 σ
def wpX2_sizeJumps_33 (σ : ZS) (Q : Int → ZS → Prop) : Prop := wpX2_sizeJumps_37 0 0 σ Q
def wpbX2_sizeJumps_2 (K2 : Int → ZS → Prop) (v1 : Int) (σ : ZS) (Q : Int → ZS → Prop) : Prop := (-2147483648 ≤ v1 ∧ v1 ≤ 2147483647) ∧ (-2147483648 ≤ (zI σ 13 7) ∧ (zI σ 13 7) ≤ 2147483647) ∧ ((zI σ 13 7) < v1 → wpX2_sizeJumps_33 σ Q) ∧ (¬ (zI σ 13 7) < v1 → wpX2_measure σ (fun (σ9 : ZS) => wpX2_growJumps σ9 (fun (x10 : Int) (σ11 : ZS) => (-2147483648 ≤ x10 ∧ x10 ≤ 2147483647) ∧ (¬ x10 = 0 → K2 (v1 + 1) σ11) ∧ (x10 = 0 → wpX2_sizeJumps_33 σ11 Q))))
def wpX2_sizeJumps_2 (v1 : Int) (σ : ZS) (Q : Int → ZS → Prop) : Prop := lfp1 (fun K2 v1 σ => wpbX2_sizeJumps_2 K2 v1 σ Q) v1 σ
def wpX2_sizeJumps (σ : ZS) (Q : Int → ZS → Prop) : Prop := wpX2_sizeJumps_2 0 σ Q
set_option maxHeartbeats 4000000 in
set_option maxRecDepth 100000 in
theorem kX2_sizeJumps (l : Launch) (D : va_G) (dA : Nat → ClassId) (ad : Int → Nat → Nat) (σ : ZS) (Q : Int → ZS → Prop) (sz : Nat) (hw : wpX2_sizeJumps σ Q) : Met l yX2_sizeJumps (gws yX2_sizeJumps cX2_sizeJumps 3 (some .int)) (gR 4 0 0) (gPre D dA [.ref (ad 15 1000)] (zC dA ad σ) sz) (va_Qi (zQi Q) (gAt D dA (va_A (zC dA ad σ) sz) (zC dA ad)) (va_A (zC dA ad σ) sz)) 0 0 (va_A (zC dA ad σ) sz) := by
  refine Met.ofW (cc := cX2_sizeJumps) (maxL := 3) (ret := (some .int)) (by decide) rfl ?_
  intro p e s m args below meth c s₁ B hml hv
  obtain ⟨rfl, hsz, hP, hK, hD0⟩ := hv
  have hx := B.exec
  have hb := B.bytes
  have hr := B.returns
  have hts := atoms_spec (ws := gws yX2_sizeJumps cX2_sizeJumps 3 (some .int)) B.pre
  have hg : ∀ w ∈ gw, w.before _ s = true := fun w h => hts w (List.mem_cons_of_mem _ h)
  have hown : s.vm.findClass RX2 = some m.cls := findClass_of_methodNamed B.named
  have hlocks := B.notSynchronized
  subst hsz
  have hD := hD0.self (sz := s.heap.size)
  generalize hAe : va_A (zC dA ad σ) s.heap.size = A at hD ⊢
  have hA : ∀ q : Nat, s.heap.size ≤ q → A q := fun q h => by rw [← hAe]; exact Or.inr h
  have hS : va_S A s.heap s.heap [] := va_S.rf
  have hl := lv_entry ([.ref (ad 15 1000)]) (n := 3) (Nat.le_of_ble_eq_true rfl)
  rw [lg_entry_eq]
  generalize (lg_sl ([.ref (ad 15 1000)]) ++ List.replicate (3 - (lg_sl ([.ref (ad 15 1000)])).length) Slot.unset).toArray = ls at hl ⊢
  have hl : lv_has ls 3 [(0, .ref (ad 15 1000))] := hl
  have hret : ∀ (v : Int) (σ : ZS) (H : Heap) (locs : List Loc) (ls : Array Slot) (pc : Nat), Q v σ → va_P D vwC (zC dA ad σ) H → va_D A (zC dA ad σ) → va_S A s.heap H locs → decode cX2_sizeJumps pc = .ok (.ireturn, 1) → W p l e (gR 4 0 0) s m #[.ref (ad 15 1000)] below meth c H locs 0 0 (MQ below (va_Qi (zQi Q) (gAt D dA A (zC dA ad)) A) #[.ref (ad 15 1000)] s 0 0 A) (F0 m pc ls [.int (Int32.ofInt v)]) := fun v σ H locs ls pc hw hP hD hS hd => g_iret hx hb hr rfl hlocks hK σ hP hD hS ⟨v, rfl, hw⟩ (Nat.le_of_ble_eq_true rfl) (Nat.le_of_ble_eq_true rfl) hd
  generalize MQ below (va_Qi (zQi Q) (gAt D dA A (zC dA ad)) A) #[.ref (ad 15 1000)] s 0 0 A = QQ at hret ⊢
  have b37 : ∀ (K37 : Int → Int → ZS → Prop), (∀ (v1 v2 : Int) (σ : ZS), K37 v1 v2 σ → ∀ (H : Heap) (locs : List Loc) (ls : Array Slot), va_P D vwC (zC dA ad σ) H → va_D A (zC dA ad σ) → va_S A s.heap H locs → lv_has ls 3 [(0, .ref (ad 15 1000)), (1, .int (Int32.ofInt v1)), (2, .int (Int32.ofInt v2))] → W p l e (gR 4 0 0) s m #[.ref (ad 15 1000)] below meth c H locs 0 0 QQ (F0 m 37 ls [])) → ∀ (v1 v2 : Int) (σ : ZS), wpbX2_sizeJumps_37 K37 v1 v2 σ Q → ∀ (H : Heap) (locs : List Loc) (ls : Array Slot), va_P D vwC (zC dA ad σ) H → va_D A (zC dA ad σ) → va_S A s.heap H locs → lv_has ls 3 [(0, .ref (ad 15 1000)), (1, .int (Int32.ofInt v1)), (2, .int (Int32.ofInt v2))] → W p l e (gR 4 0 0) s m #[.ref (ad 15 1000)] below meth c H locs 0 0 QQ (F0 m 37 ls []) := by
    intro K37 hK37
    intro v1 v2 σ hw H locs ls hP hD hS hl
    unfold wpbX2_sizeJumps_37 at hw
    refine lv_iload_n hx hb dX2_sizeJumps_37 rfl (lv_at hl 2 rfl) ?_
    refine lv_aload_n hx hb dX2_sizeJumps_38 rfl (lv_at hl 0 rfl) ?_
    refine zgC15_4 hx hb hg hown hK hP q375 dX2_sizeJumps_39 ?_
    obtain ⟨o1, hw⟩ := hw
    obtain ⟨o2, hw⟩ := hw
    refine z_icmp_ge (tgt := 60) hx hb o1 o2 dX2_sizeJumps_42 (by decide) (fun k3 => ?_) (fun k3 => ?_)
    · replace hw := hw.1 k3
      refine lv_iload_n hx hb dX2_sizeJumps_60 rfl (lv_at hl 1 rfl) ?_
      exact hret v1 σ _ _ _ _ hw hP hD hS dX2_sizeJumps_61
    · replace hw := hw.2 k3
      refine lv_iload_n hx hb dX2_sizeJumps_45 rfl (lv_at hl 1 rfl) ?_
      refine lv_aload_n hx hb dX2_sizeJumps_46 rfl (lv_at hl 0 rfl) ?_
      refine zgC15_3 hx hb hg hown hK hP q374 dX2_sizeJumps_47 ?_
      refine lv_iload_n hx hb dX2_sizeJumps_50 rfl (lv_at hl 2 rfl) ?_
      obtain ⟨o4, hw⟩ := hw
      refine zlC15_3 hx hb o4 hK hP dX2_sizeJumps_51 ?_
      refine z_iadd hx hb dX2_sizeJumps_52 ?_
      refine lv_istore_n (lv' := [(1, .int (Int32.ofInt (v1 + (zA σ 15 3 v2)))), (0, .ref (ad 15 1000)), (2, .int (Int32.ofInt v2))]) hx hb dX2_sizeJumps_53 rfl hl (by decide) rfl (fun ls hl => ?_)
      refine lv_iinc (v := Int32.ofInt (v2 + 1)) (lv' := [(2, .int (Int32.ofInt (v2 + 1))), (1, .int (Int32.ofInt (v1 + (zA σ 15 3 v2)))), (0, .ref (ad 15 1000))]) hx hb dX2_sizeJumps_54 hl (k := 2) rfl (Int32.ofInt_add _ _).symm (by decide) rfl (fun ls hl => ?_)
      refine lv_goto (tgt := 37) hx hb dX2_sizeJumps_57 (by decide) ?_
      exact hK37 (v1 + (zA σ 15 3 v2)) (v2 + 1) σ hw _ _ _ hP hD hS (lv_sub hl [2, 1, 0] rfl)
  have j37 : ∀ (v1 v2 : Int) (σ : ZS), ∀ (H : Heap) (locs : List Loc) (ls : Array Slot), va_P D vwC (zC dA ad σ) H → va_D A (zC dA ad σ) → va_S A s.heap H locs → lv_has ls 3 [(0, .ref (ad 15 1000)), (1, .int (Int32.ofInt v1)), (2, .int (Int32.ofInt v2))] → wpX2_sizeJumps_37 v1 v2 σ Q → W p l e (gR 4 0 0) s m #[.ref (ad 15 1000)] below meth c H locs 0 0 QQ (F0 m 37 ls []) := by
    intro v1 v2 σ H locs ls hP hD hS hl hw
    exact hw (fun v1 v2 σ => ∀ (H : Heap) (locs : List Loc) (ls : Array Slot), va_P D vwC (zC dA ad σ) H → va_D A (zC dA ad σ) → va_S A s.heap H locs → lv_has ls 3 [(0, .ref (ad 15 1000)), (1, .int (Int32.ofInt v1)), (2, .int (Int32.ofInt v2))] → W p l e (gR 4 0 0) s m #[.ref (ad 15 1000)] below meth c H locs 0 0 QQ (F0 m 37 ls [])) (b37 (fun v1 v2 σ => ∀ (H : Heap) (locs : List Loc) (ls : Array Slot), va_P D vwC (zC dA ad σ) H → va_D A (zC dA ad σ) → va_S A s.heap H locs → lv_has ls 3 [(0, .ref (ad 15 1000)), (1, .int (Int32.ofInt v1)), (2, .int (Int32.ofInt v2))] → W p l e (gR 4 0 0) s m #[.ref (ad 15 1000)] below meth c H locs 0 0 QQ (F0 m 37 ls [])) (fun v1 v2 σ h => h)) _ _ _ hP hD hS hl
  have j33 : ∀ (σ : ZS), ∀ (H : Heap) (locs : List Loc) (ls : Array Slot), va_P D vwC (zC dA ad σ) H → va_D A (zC dA ad σ) → va_S A s.heap H locs → lv_has ls 3 [(0, .ref (ad 15 1000))] → wpX2_sizeJumps_33 σ Q → W p l e (gR 4 0 0) s m #[.ref (ad 15 1000)] below meth c H locs 0 0 QQ (F0 m 33 ls []) := by
    intro σ H locs ls hP hD hS hl hw
    unfold wpX2_sizeJumps_33 at hw
    refine lv_iconst (v := Int32.ofInt 0) hx hb dX2_sizeJumps_33 (by decide) ?_
    refine lv_istore_n (lv' := [(1, .int (Int32.ofInt 0)), (0, .ref (ad 15 1000))]) hx hb dX2_sizeJumps_34 rfl hl (by decide) rfl (fun ls hl => ?_)
    refine lv_iconst (v := Int32.ofInt 0) hx hb dX2_sizeJumps_35 (by decide) ?_
    refine lv_istore_n (lv' := [(2, .int (Int32.ofInt 0)), (1, .int (Int32.ofInt 0)), (0, .ref (ad 15 1000))]) hx hb dX2_sizeJumps_36 rfl hl (by decide) rfl (fun ls hl => ?_)
    exact j37 0 0 σ _ _ _ hP hD hS (lv_sub hl [2, 1, 0] rfl) hw
  have b2 : ∀ (K2 : Int → ZS → Prop), (∀ (v1 : Int) (σ : ZS), K2 v1 σ → ∀ (H : Heap) (locs : List Loc) (ls : Array Slot), va_P D vwC (zC dA ad σ) H → va_D A (zC dA ad σ) → va_S A s.heap H locs → lv_has ls 3 [(0, .ref (ad 15 1000)), (1, .int (Int32.ofInt v1))] → W p l e (gR 4 0 0) s m #[.ref (ad 15 1000)] below meth c H locs 0 0 QQ (F0 m 2 ls [])) → ∀ (v1 : Int) (σ : ZS), wpbX2_sizeJumps_2 K2 v1 σ Q → ∀ (H : Heap) (locs : List Loc) (ls : Array Slot), va_P D vwC (zC dA ad σ) H → va_D A (zC dA ad σ) → va_S A s.heap H locs → lv_has ls 3 [(0, .ref (ad 15 1000)), (1, .int (Int32.ofInt v1))] → W p l e (gR 4 0 0) s m #[.ref (ad 15 1000)] below meth c H locs 0 0 QQ (F0 m 2 ls []) := by
    intro K2 hK2
    intro v1 σ hw H locs ls hP hD hS hl
    unfold wpbX2_sizeJumps_2 at hw
    refine lv_iload_n hx hb dX2_sizeJumps_2 rfl (lv_at hl 1 rfl) ?_
    refine lv_aload_n hx hb dX2_sizeJumps_3 rfl (lv_at hl 0 rfl) ?_
    refine zgC15_0 hx hb hg hown hK hP q371 dX2_sizeJumps_4 ?_
    refine zgC13_7 hx hb hg hown hK hP q273 dX2_sizeJumps_7 ?_
    obtain ⟨o5, hw⟩ := hw
    obtain ⟨o6, hw⟩ := hw
    refine z_icmp_gt (tgt := 33) hx hb o5 o6 dX2_sizeJumps_10 (by decide) (fun k7 => ?_) (fun k7 => ?_)
    · replace hw := hw.1 k7
      exact j33 σ _ _ _ hP hD hS (lv_sub hl [0] rfl) hw
    · replace hw := hw.2 k7
      refine lv_aload_n hx hb dX2_sizeJumps_13 rfl (lv_at hl 0 rfl) ?_
      refine z_Vv (n := 0) (As := []) (rest := []) hx hb hml hg hown hK hP hD hS hA (kX2_measure l D dA ad σ _ _ hw) (zoC15) rfl q1161 q155 q1158 q1160 q34 (by decide +kernel) ⟨(Nat.le_of_ble_eq_true rfl), (Nat.le_of_ble_eq_true rfl)⟩ rfl hl.1 rfl (Nat.le_of_ble_eq_true rfl) dX2_sizeJumps_14 ⟨(Nat.le_of_ble_eq_true rfl), (Nat.le_of_ble_eq_true rfl)⟩ (fun σ9 H locs hw hP hD hS => ?_)
      refine lv_aload_n hx hb dX2_sizeJumps_17 rfl (lv_at hl 0 rfl) ?_
      refine z_Vi (n := 0) (As := []) (rest := []) hx hb hml hg hown hK hP hD hS hA (kX2_growJumps l D dA ad σ9 _ _ hw) (zoC15) rfl q1172 q155 q1169 q1171 q35 (by decide +kernel) ⟨(Nat.le_of_ble_eq_true rfl), (Nat.le_of_ble_eq_true rfl)⟩ rfl hl.1 rfl (Nat.le_of_ble_eq_true rfl) dX2_sizeJumps_18 ⟨(Nat.le_of_ble_eq_true rfl), (Nat.le_of_ble_eq_true rfl)⟩ (fun x10 σ11 H locs hw hP hD hS => ?_)
      obtain ⟨o12, hw⟩ := hw
      refine z_if_ne (tgt := 27) hx hb o12 dX2_sizeJumps_21 (by decide) (fun k13 => ?_) (fun k13 => ?_)
      · replace hw := hw.1 k13
        refine lv_iinc (v := Int32.ofInt (v1 + 1)) (lv' := [(1, .int (Int32.ofInt (v1 + 1))), (0, .ref (ad 15 1000))]) hx hb dX2_sizeJumps_27 hl (k := 1) rfl (Int32.ofInt_add _ _).symm (by decide) rfl (fun ls hl => ?_)
        refine lv_goto (tgt := 2) hx hb dX2_sizeJumps_30 (by decide) ?_
        exact hK2 (v1 + 1) σ11 hw _ _ _ hP hD hS (lv_sub hl [1, 0] rfl)
      · replace hw := hw.2 k13
        refine lv_goto (tgt := 33) hx hb dX2_sizeJumps_24 (by decide) ?_
        exact j33 σ11 _ _ _ hP hD hS (lv_sub hl [0] rfl) hw
  have j2 : ∀ (v1 : Int) (σ : ZS), ∀ (H : Heap) (locs : List Loc) (ls : Array Slot), va_P D vwC (zC dA ad σ) H → va_D A (zC dA ad σ) → va_S A s.heap H locs → lv_has ls 3 [(0, .ref (ad 15 1000)), (1, .int (Int32.ofInt v1))] → wpX2_sizeJumps_2 v1 σ Q → W p l e (gR 4 0 0) s m #[.ref (ad 15 1000)] below meth c H locs 0 0 QQ (F0 m 2 ls []) := by
    intro v1 σ H locs ls hP hD hS hl hw
    exact hw (fun v1 σ => ∀ (H : Heap) (locs : List Loc) (ls : Array Slot), va_P D vwC (zC dA ad σ) H → va_D A (zC dA ad σ) → va_S A s.heap H locs → lv_has ls 3 [(0, .ref (ad 15 1000)), (1, .int (Int32.ofInt v1))] → W p l e (gR 4 0 0) s m #[.ref (ad 15 1000)] below meth c H locs 0 0 QQ (F0 m 2 ls [])) (b2 (fun v1 σ => ∀ (H : Heap) (locs : List Loc) (ls : Array Slot), va_P D vwC (zC dA ad σ) H → va_D A (zC dA ad σ) → va_S A s.heap H locs → lv_has ls 3 [(0, .ref (ad 15 1000)), (1, .int (Int32.ofInt v1))] → W p l e (gR 4 0 0) s m #[.ref (ad 15 1000)] below meth c H locs 0 0 QQ (F0 m 2 ls [])) (fun v1 σ h => h)) _ _ _ hP hD hS hl
  unfold wpX2_sizeJumps at hw
  refine lv_iconst (v := Int32.ofInt 0) hx hb dX2_sizeJumps_0 (by decide) ?_
  refine lv_istore_n (lv' := [(1, .int (Int32.ofInt 0)), (0, .ref (ad 15 1000))]) hx hb dX2_sizeJumps_1 rfl hl (by decide) rfl (fun ls hl => ?_)
  exact j2 0 σ _ _ _ hP hD hS (lv_sub hl [1, 0] rfl) hw
def wpX2_firstTooFar_48 (K2 : Int → ZS → Prop) (v1 : Int) (σ : ZS) (Q : Int → ZS → Prop) : Prop := K2 (v1 + 1) σ
def wpbX2_firstTooFar_2 (K2 : Int → ZS → Prop) (v1 : Int) (σ : ZS) (Q : Int → ZS → Prop) : Prop := (-2147483648 ≤ v1 ∧ v1 ≤ 2147483647) ∧ (-2147483648 ≤ (zI σ 13 7) ∧ (zI σ 13 7) ≤ 2147483647) ∧ ((zI σ 13 7) ≤ v1 → Q (-1) σ) ∧ (¬ (zI σ 13 7) ≤ v1 → (0 ≤ v1 ∧ v1 < 248) ∧ (-2147483648 ≤ (zA σ 13 0 v1) ∧ (zA σ 13 0 v1) ≤ 2147483647) ∧ (¬ (zA σ 13 0 v1) = 10 → wpX2_firstTooFar_48 K2 v1 σ Q) ∧ ((zA σ 13 0 v1) = 10 → wpX2_distance v1 σ (fun (x7 : Int) (σ8 : ZS) => wpX2_isShort x7 σ8 (fun (x9 : Int) (σ10 : ZS) => (-2147483648 ≤ x9 ∧ x9 ≤ 2147483647) ∧ (¬ x9 = 0 → wpX2_firstTooFar_48 K2 v1 σ10 Q) ∧ (x9 = 0 → Q (zA σ10 13 4 v1) σ10)))))
def wpX2_firstTooFar_2 (v1 : Int) (σ : ZS) (Q : Int → ZS → Prop) : Prop := lfp1 (fun K2 v1 σ => wpbX2_firstTooFar_2 K2 v1 σ Q) v1 σ
def wpX2_firstTooFar (σ : ZS) (Q : Int → ZS → Prop) : Prop := wpX2_firstTooFar_2 0 σ Q
set_option maxHeartbeats 4000000 in
set_option maxRecDepth 100000 in
theorem kX2_firstTooFar (l : Launch) (D : va_G) (dA : Nat → ClassId) (ad : Int → Nat → Nat) (σ : ZS) (Q : Int → ZS → Prop) (sz : Nat) (hw : wpX2_firstTooFar σ Q) : Met l yX2_firstTooFar (gws yX2_firstTooFar cX2_firstTooFar 2 (some .int)) (gR 3 0 0) (gPre D dA [.ref (ad 15 1000)] (zC dA ad σ) sz) (va_Qi (zQi Q) (gAt D dA (va_A (zC dA ad σ) sz) (zC dA ad)) (va_A (zC dA ad σ) sz)) 0 0 (va_A (zC dA ad σ) sz) := by
  refine Met.ofW (cc := cX2_firstTooFar) (maxL := 2) (ret := (some .int)) (by decide) rfl ?_
  intro p e s m args below meth c s₁ B hml hv
  obtain ⟨rfl, hsz, hP, hK, hD0⟩ := hv
  have hx := B.exec
  have hb := B.bytes
  have hr := B.returns
  have hts := atoms_spec (ws := gws yX2_firstTooFar cX2_firstTooFar 2 (some .int)) B.pre
  have hg : ∀ w ∈ gw, w.before _ s = true := fun w h => hts w (List.mem_cons_of_mem _ h)
  have hown : s.vm.findClass RX2 = some m.cls := findClass_of_methodNamed B.named
  have hlocks := B.notSynchronized
  subst hsz
  have hD := hD0.self (sz := s.heap.size)
  generalize hAe : va_A (zC dA ad σ) s.heap.size = A at hD ⊢
  have hA : ∀ q : Nat, s.heap.size ≤ q → A q := fun q h => by rw [← hAe]; exact Or.inr h
  have hS : va_S A s.heap s.heap [] := va_S.rf
  have hl := lv_entry ([.ref (ad 15 1000)]) (n := 2) (Nat.le_of_ble_eq_true rfl)
  rw [lg_entry_eq]
  generalize (lg_sl ([.ref (ad 15 1000)]) ++ List.replicate (2 - (lg_sl ([.ref (ad 15 1000)])).length) Slot.unset).toArray = ls at hl ⊢
  have hl : lv_has ls 2 [(0, .ref (ad 15 1000))] := hl
  have hret : ∀ (v : Int) (σ : ZS) (H : Heap) (locs : List Loc) (ls : Array Slot) (pc : Nat), Q v σ → va_P D vwC (zC dA ad σ) H → va_D A (zC dA ad σ) → va_S A s.heap H locs → decode cX2_firstTooFar pc = .ok (.ireturn, 1) → W p l e (gR 3 0 0) s m #[.ref (ad 15 1000)] below meth c H locs 0 0 (MQ below (va_Qi (zQi Q) (gAt D dA A (zC dA ad)) A) #[.ref (ad 15 1000)] s 0 0 A) (F0 m pc ls [.int (Int32.ofInt v)]) := fun v σ H locs ls pc hw hP hD hS hd => g_iret hx hb hr rfl hlocks hK σ hP hD hS ⟨v, rfl, hw⟩ (Nat.le_of_ble_eq_true rfl) (Nat.le_of_ble_eq_true rfl) hd
  generalize MQ below (va_Qi (zQi Q) (gAt D dA A (zC dA ad)) A) #[.ref (ad 15 1000)] s 0 0 A = QQ at hret ⊢
  have b2 : ∀ (K2 : Int → ZS → Prop), (∀ (v1 : Int) (σ : ZS), K2 v1 σ → ∀ (H : Heap) (locs : List Loc) (ls : Array Slot), va_P D vwC (zC dA ad σ) H → va_D A (zC dA ad σ) → va_S A s.heap H locs → lv_has ls 2 [(0, .ref (ad 15 1000)), (1, .int (Int32.ofInt v1))] → W p l e (gR 3 0 0) s m #[.ref (ad 15 1000)] below meth c H locs 0 0 QQ (F0 m 2 ls [])) → ∀ (v1 : Int) (σ : ZS), wpbX2_firstTooFar_2 K2 v1 σ Q → ∀ (H : Heap) (locs : List Loc) (ls : Array Slot), va_P D vwC (zC dA ad σ) H → va_D A (zC dA ad σ) → va_S A s.heap H locs → lv_has ls 2 [(0, .ref (ad 15 1000)), (1, .int (Int32.ofInt v1))] → W p l e (gR 3 0 0) s m #[.ref (ad 15 1000)] below meth c H locs 0 0 QQ (F0 m 2 ls []) := by
    intro K2 hK2
    have j48 : ∀ (v1 : Int) (σ : ZS), ∀ (H : Heap) (locs : List Loc) (ls : Array Slot), va_P D vwC (zC dA ad σ) H → va_D A (zC dA ad σ) → va_S A s.heap H locs → lv_has ls 2 [(0, .ref (ad 15 1000)), (1, .int (Int32.ofInt v1))] → wpX2_firstTooFar_48 K2 v1 σ Q → W p l e (gR 3 0 0) s m #[.ref (ad 15 1000)] below meth c H locs 0 0 QQ (F0 m 48 ls []) := by
      intro v1 σ H locs ls hP hD hS hl hw
      unfold wpX2_firstTooFar_48 at hw
      refine lv_iinc (v := Int32.ofInt (v1 + 1)) (lv' := [(1, .int (Int32.ofInt (v1 + 1))), (0, .ref (ad 15 1000))]) hx hb dX2_firstTooFar_48 hl (k := 1) rfl (Int32.ofInt_add _ _).symm (by decide) rfl (fun ls hl => ?_)
      refine lv_goto (tgt := 2) hx hb dX2_firstTooFar_51 (by decide) ?_
      exact hK2 (v1 + 1) σ hw _ _ _ hP hD hS (lv_sub hl [1, 0] rfl)
    intro v1 σ hw H locs ls hP hD hS hl
    unfold wpbX2_firstTooFar_2 at hw
    refine lv_iload_n hx hb dX2_firstTooFar_2 rfl (lv_at hl 1 rfl) ?_
    refine lv_aload_n hx hb dX2_firstTooFar_3 rfl (lv_at hl 0 rfl) ?_
    refine zgC15_0 hx hb hg hown hK hP q371 dX2_firstTooFar_4 ?_
    refine zgC13_7 hx hb hg hown hK hP q273 dX2_firstTooFar_7 ?_
    obtain ⟨o1, hw⟩ := hw
    obtain ⟨o2, hw⟩ := hw
    refine z_icmp_ge (tgt := 54) hx hb o1 o2 dX2_firstTooFar_10 (by decide) (fun k3 => ?_) (fun k3 => ?_)
    · replace hw := hw.1 k3
      refine lv_iconst (v := Int32.ofInt (-1)) hx hb dX2_firstTooFar_54 (by decide) ?_
      exact hret (-1) σ _ _ _ _ hw hP hD hS dX2_firstTooFar_55
    · replace hw := hw.2 k3
      refine lv_aload_n hx hb dX2_firstTooFar_13 rfl (lv_at hl 0 rfl) ?_
      refine zgC15_0 hx hb hg hown hK hP q371 dX2_firstTooFar_14 ?_
      refine zgC13_0 hx hb hg hown hK hP q258 dX2_firstTooFar_17 ?_
      refine lv_iload_n hx hb dX2_firstTooFar_20 rfl (lv_at hl 1 rfl) ?_
      obtain ⟨o4, hw⟩ := hw
      refine zlC13_0 hx hb o4 hK hP dX2_firstTooFar_21 ?_
      refine lv_bipush (v := Int32.ofInt 10) hx hb dX2_firstTooFar_22 (by decide) ?_
      obtain ⟨o5, hw⟩ := hw
      refine z_icmp_ne (tgt := 48) hx hb o5 (by decide) dX2_firstTooFar_24 (by decide) (fun k6 => ?_) (fun k6 => ?_)
      · replace hw := hw.1 k6
        exact j48 v1 σ _ _ _ hP hD hS (lv_sub hl [0, 1] rfl) hw
      · replace hw := hw.2 k6
        refine lv_aload_n hx hb dX2_firstTooFar_27 rfl (lv_at hl 0 rfl) ?_
        refine lv_iload_n hx hb dX2_firstTooFar_28 rfl (lv_at hl 1 rfl) ?_
        refine z_Vi (n := 1) (As := [.int (Int32.ofInt v1)]) (rest := []) hx hb hml hg hown hK hP hD hS hA (kX2_distance l D dA ad v1 σ _ _ hw) (zoC15) rfl q1180 q155 q1177 q1179 q37 (by decide +kernel) ⟨(Nat.le_of_ble_eq_true rfl), (Nat.le_of_ble_eq_true rfl)⟩ rfl hl.1 rfl (Nat.le_of_ble_eq_true rfl) dX2_firstTooFar_29 ⟨(Nat.le_of_ble_eq_true rfl), (Nat.le_of_ble_eq_true rfl)⟩ (fun x7 σ8 H locs hw hP hD hS => ?_)
        refine z_Si (n := 1) (As := [.int (Int32.ofInt x7)]) (rest := []) hx hb hml hg hown hK hP hD hS hA (kX2_isShort l D dA ad x7 σ8 _ _ hw) q1069 q155 q1181 q1068 (by decide +kernel) ⟨(Nat.le_of_ble_eq_true rfl), (Nat.le_of_ble_eq_true rfl)⟩ rfl hl.1 rfl (Nat.le_of_ble_eq_true rfl) dX2_firstTooFar_32 ⟨(Nat.le_of_ble_eq_true rfl), (Nat.le_of_ble_eq_true rfl)⟩ (fun x9 σ10 H locs hw hP hD hS => ?_)
        obtain ⟨o11, hw⟩ := hw
        refine z_if_ne (tgt := 48) hx hb o11 dX2_firstTooFar_35 (by decide) (fun k12 => ?_) (fun k12 => ?_)
        · replace hw := hw.1 k12
          exact j48 v1 σ10 _ _ _ hP hD hS (lv_sub hl [0, 1] rfl) hw
        · replace hw := hw.2 k12
          refine lv_aload_n hx hb dX2_firstTooFar_38 rfl (lv_at hl 0 rfl) ?_
          refine zgC15_0 hx hb hg hown hK hP q371 dX2_firstTooFar_39 ?_
          refine zgC13_4 hx hb hg hown hK hP q266 dX2_firstTooFar_42 ?_
          refine lv_iload_n hx hb dX2_firstTooFar_45 rfl (lv_at hl 1 rfl) ?_
          refine zlC13_4 hx hb o4 hK hP dX2_firstTooFar_46 ?_
          exact hret (zA σ10 13 4 v1) σ10 _ _ _ _ hw hP hD hS dX2_firstTooFar_47
  have j2 : ∀ (v1 : Int) (σ : ZS), ∀ (H : Heap) (locs : List Loc) (ls : Array Slot), va_P D vwC (zC dA ad σ) H → va_D A (zC dA ad σ) → va_S A s.heap H locs → lv_has ls 2 [(0, .ref (ad 15 1000)), (1, .int (Int32.ofInt v1))] → wpX2_firstTooFar_2 v1 σ Q → W p l e (gR 3 0 0) s m #[.ref (ad 15 1000)] below meth c H locs 0 0 QQ (F0 m 2 ls []) := by
    intro v1 σ H locs ls hP hD hS hl hw
    exact hw (fun v1 σ => ∀ (H : Heap) (locs : List Loc) (ls : Array Slot), va_P D vwC (zC dA ad σ) H → va_D A (zC dA ad σ) → va_S A s.heap H locs → lv_has ls 2 [(0, .ref (ad 15 1000)), (1, .int (Int32.ofInt v1))] → W p l e (gR 3 0 0) s m #[.ref (ad 15 1000)] below meth c H locs 0 0 QQ (F0 m 2 ls [])) (b2 (fun v1 σ => ∀ (H : Heap) (locs : List Loc) (ls : Array Slot), va_P D vwC (zC dA ad σ) H → va_D A (zC dA ad σ) → va_S A s.heap H locs → lv_has ls 2 [(0, .ref (ad 15 1000)), (1, .int (Int32.ofInt v1))] → W p l e (gR 3 0 0) s m #[.ref (ad 15 1000)] below meth c H locs 0 0 QQ (F0 m 2 ls [])) (fun v1 σ h => h)) _ _ _ hP hD hS hl
  unfold wpX2_firstTooFar at hw
  refine lv_iconst (v := Int32.ofInt 0) hx hb dX2_firstTooFar_0 (by decide) ?_
  refine lv_istore_n (lv' := [(1, .int (Int32.ofInt 0)), (0, .ref (ad 15 1000))]) hx hb dX2_firstTooFar_1 rfl hl (by decide) rfl (fun ls hl => ?_)
  exact j2 0 σ _ _ _ hP hD hS (lv_sub hl [1, 0] rfl) hw
def wpX6_clear (g0 : Int) (σ : ZS) (Q : ZS → Prop) : Prop := (0 ≤ g0 ∧ g0 ≤ 2) ∧ wpJ7_fill_53178_M_6 g0 0 (zsI (zsI (zsI (zsI σ g0 0 0) g0 1 0) g0 7 0) g0 13 0) (fun (σ3 : ZS) => Q σ3)
set_option maxHeartbeats 4000000 in
set_option maxRecDepth 100000 in
theorem kX6_clear (l : Launch) (D : va_G) (dA : Nat → ClassId) (ad : Int → Nat → Nat) (g0 : Int) (σ : ZS) (Q : ZS → Prop) (sz : Nat) (hw : wpX6_clear g0 σ Q) : Met l yX6_clear (gws yX6_clear cX6_clear 1 none) (gR 2 0 0) (gPre D dA [.ref (ad g0 1000)] (zC dA ad σ) sz) (va_Qv Q (gAt D dA (va_A (zC dA ad σ) sz) (zC dA ad)) (va_A (zC dA ad σ) sz)) 0 0 (va_A (zC dA ad σ) sz) := by
  refine Met.ofW (cc := cX6_clear) (maxL := 1) (ret := none) (by decide) rfl ?_
  intro p e s m args below meth c s₁ B hml hv
  obtain ⟨rfl, hsz, hP, hK, hD0⟩ := hv
  have hx := B.exec
  have hb := B.bytes
  have hr := B.returns
  have hts := atoms_spec (ws := gws yX6_clear cX6_clear 1 none) B.pre
  have hg : ∀ w ∈ gw, w.before _ s = true := fun w h => hts w (List.mem_cons_of_mem _ h)
  have hown : s.vm.findClass RX6 = some m.cls := findClass_of_methodNamed B.named
  have hlocks := B.notSynchronized
  subst hsz
  have hD := hD0.self (sz := s.heap.size)
  generalize hAe : va_A (zC dA ad σ) s.heap.size = A at hD ⊢
  have hA : ∀ q : Nat, s.heap.size ≤ q → A q := fun q h => by rw [← hAe]; exact Or.inr h
  have hS : va_S A s.heap s.heap [] := va_S.rf
  have hl := lv_entry ([.ref (ad g0 1000)]) (n := 1) (Nat.le_of_ble_eq_true rfl)
  rw [lg_entry_eq]
  generalize (lg_sl ([.ref (ad g0 1000)]) ++ List.replicate (1 - (lg_sl ([.ref (ad g0 1000)])).length) Slot.unset).toArray = ls at hl ⊢
  have hl : lv_has ls 1 [(0, .ref (ad g0 1000))] := hl
  have hret : ∀ (σ : ZS) (H : Heap) (locs : List Loc) (ls : Array Slot) (pc : Nat), Q σ → va_P D vwC (zC dA ad σ) H → va_D A (zC dA ad σ) → va_S A s.heap H locs → decode cX6_clear pc = .ok (.return_, 1) → W p l e (gR 2 0 0) s m #[.ref (ad g0 1000)] below meth c H locs 0 0 (MQ below (va_Qv Q (gAt D dA A (zC dA ad)) A) #[.ref (ad g0 1000)] s 0 0 A) (F0 m pc ls []) := fun σ H locs ls pc hw hP hD hS hd => g_vret hx hb hr hlocks hK σ hP hD hS hw (Nat.le_of_ble_eq_true rfl) (Nat.le_of_ble_eq_true rfl) hd
  generalize MQ below (va_Qv Q (gAt D dA A (zC dA ad)) A) #[.ref (ad g0 1000)] s 0 0 A = QQ at hret ⊢
  unfold wpX6_clear at hw
  refine lv_aload_n hx hb dX6_clear_0 rfl (lv_at hl 0 rfl) ?_
  refine lv_iconst (v := Int32.ofInt 0) hx hb dX6_clear_1 (by decide) ?_
  obtain ⟨o1, hw⟩ := hw
  refine zpCM_0 (v := 0) hx hb hg hown o1 (by decide) hK hP hD hS q397 dX6_clear_2 (fun H locs hP hD hS => ?_)
  refine lv_aload_n hx hb dX6_clear_5 rfl (lv_at hl 0 rfl) ?_
  refine lv_iconst (v := Int32.ofInt 0) hx hb dX6_clear_6 (by decide) ?_
  refine zpCM_1 (v := 0) hx hb hg hown o1 hK hP hD hS q401 dX6_clear_7 (fun H locs hP hD hS => ?_)
  refine lv_aload_n hx hb dX6_clear_10 rfl (lv_at hl 0 rfl) ?_
  refine lv_iconst (v := Int32.ofInt 0) hx hb dX6_clear_11 (by decide) ?_
  refine zpCM_7 (v := 0) hx hb hg hown o1 hK hP hD hS q417 dX6_clear_12 (fun H locs hP hD hS => ?_)
  refine lv_aload_n hx hb dX6_clear_15 rfl (lv_at hl 0 rfl) ?_
  refine lv_iconst (v := Int32.ofInt 0) hx hb dX6_clear_16 (by decide) ?_
  refine zpCM_13 (v := 0) hx hb hg hown o1 hK hP hD hS q434 dX6_clear_17 (fun H locs hP hD hS => ?_)
  refine lv_aload_n hx hb dX6_clear_20 rfl (lv_at hl 0 rfl) ?_
  refine zgCM_6 hx hb hg hown o1 hK hP q414 dX6_clear_21 ?_
  refine lv_iconst (v := Int32.ofInt 0) hx hb dX6_clear_24 (by decide) ?_
  refine z_Sv (n := 2) (As := [.ref (ad g0 6), .int (Int32.ofInt 0)]) (rest := []) hx hb hml hg hown hK hP hD hS hA (kJ7_fill_53178_M_6 l D dA ad g0 0 (zsI (zsI (zsI (zsI σ g0 0 0) g0 1 0) g0 7 0) g0 13 0) _ _ hw) q1164 q177 q1198 q1163 (by decide +kernel) ⟨(Nat.le_of_ble_eq_true rfl), (Nat.le_of_ble_eq_true rfl)⟩ rfl hl.1 rfl (Nat.le_of_ble_eq_true rfl) dX6_clear_25 ⟨(Nat.le_of_ble_eq_true rfl), (Nat.le_of_ble_eq_true rfl)⟩ (fun σ3 H locs hw hP hD hS => ?_)
  exact hret σ3 _ _ _ _ hw hP hD hS dX6_clear_28
def wpX6_addSegment_96 (σ : ZS) (Q : ZS → Prop) : Prop := Q σ
def wpX6_addSegment_44 (v0 v1 v3 v4 v5 : Int) (σ : ZS) (Q : ZS → Prop) : Prop := (0 ≤ v0 ∧ v0 ≤ 2) ∧ (0 ≤ (zI σ v0 1) ∧ (zI σ v0 1) < 24) ∧ wpX6_addSegment_96 (zsI (zsA (zsA (zsA (zsA σ v0 2 (zI σ v0 1) v1) v0 3 (zI σ v0 1) v3) v0 4 (zI σ v0 1) v4) v0 5 (zI σ v0 1) v5) v0 1 ((zI σ v0 1) + 1)) Q
def wpX6_addSegment (g0 a1 a2 a3 : Int) (σ : ZS) (Q : ZS → Prop) : Prop := (0 ≤ g0 ∧ g0 ≤ 2) ∧ (-2147483648 ≤ (zI σ g0 1) ∧ (zI σ g0 1) ≤ 2147483647) ∧ (24 ≤ (zI σ g0 1) → wpX6_addSegment_96 σ Q) ∧ (¬ 24 ≤ (zI σ g0 1) → ((zI σ g0 1) ≤ 0 → wpX6_addSegment_44 g0 a1 a2 a3 0 σ Q) ∧ (¬ (zI σ g0 1) ≤ 0 → (0 ≤ ((zI σ g0 1) - 1) ∧ ((zI σ g0 1) - 1) < 24) ∧ wpX6_addSegment_44 g0 a1 a2 a3 ((zA σ g0 5 ((zI σ g0 1) - 1)) + (zA σ g0 4 ((zI σ g0 1) - 1))) σ Q))
set_option maxHeartbeats 4000000 in
set_option maxRecDepth 100000 in
theorem kX6_addSegment (l : Launch) (D : va_G) (dA : Nat → ClassId) (ad : Int → Nat → Nat) (g0 a1 a2 a3 : Int) (σ : ZS) (Q : ZS → Prop) (sz : Nat) (hw : wpX6_addSegment g0 a1 a2 a3 σ Q) : Met l yX6_addSegment (gws yX6_addSegment cX6_addSegment 6 none) (gR 1 0 0) (gPre D dA [.ref (ad g0 1000), .long (Int64.ofInt a1), .int (Int32.ofInt a2), .int (Int32.ofInt a3)] (zC dA ad σ) sz) (va_Qv Q (gAt D dA (va_A (zC dA ad σ) sz) (zC dA ad)) (va_A (zC dA ad σ) sz)) 0 0 (va_A (zC dA ad σ) sz) := by
  refine Met.ofW (cc := cX6_addSegment) (maxL := 6) (ret := none) (by decide) rfl ?_
  intro p e s m args below meth c s₁ B hml hv
  obtain ⟨rfl, hsz, hP, hK, hD0⟩ := hv
  have hx := B.exec
  have hb := B.bytes
  have hr := B.returns
  have hts := atoms_spec (ws := gws yX6_addSegment cX6_addSegment 6 none) B.pre
  have hg : ∀ w ∈ gw, w.before _ s = true := fun w h => hts w (List.mem_cons_of_mem _ h)
  have hown : s.vm.findClass RX6 = some m.cls := findClass_of_methodNamed B.named
  have hlocks := B.notSynchronized
  subst hsz
  have hD := hD0.self (sz := s.heap.size)
  generalize hAe : va_A (zC dA ad σ) s.heap.size = A at hD ⊢
  have hA : ∀ q : Nat, s.heap.size ≤ q → A q := fun q h => by rw [← hAe]; exact Or.inr h
  have hS : va_S A s.heap s.heap [] := va_S.rf
  have hl := lv_entry ([.ref (ad g0 1000), .long (Int64.ofInt a1), .int (Int32.ofInt a2), .int (Int32.ofInt a3)]) (n := 6) (Nat.le_of_ble_eq_true rfl)
  rw [lg_entry_eq]
  generalize (lg_sl ([.ref (ad g0 1000), .long (Int64.ofInt a1), .int (Int32.ofInt a2), .int (Int32.ofInt a3)]) ++ List.replicate (6 - (lg_sl ([.ref (ad g0 1000), .long (Int64.ofInt a1), .int (Int32.ofInt a2), .int (Int32.ofInt a3)])).length) Slot.unset).toArray = ls at hl ⊢
  have hl : lv_has ls 6 [(0, .ref (ad g0 1000)), (1, .long (Int64.ofInt a1)), (3, .int (Int32.ofInt a2)), (4, .int (Int32.ofInt a3))] := hl
  have hret : ∀ (σ : ZS) (H : Heap) (locs : List Loc) (ls : Array Slot) (pc : Nat), Q σ → va_P D vwC (zC dA ad σ) H → va_D A (zC dA ad σ) → va_S A s.heap H locs → decode cX6_addSegment pc = .ok (.return_, 1) → W p l e (gR 1 0 0) s m #[.ref (ad g0 1000), .long (Int64.ofInt a1), .int (Int32.ofInt a2), .int (Int32.ofInt a3)] below meth c H locs 0 0 (MQ below (va_Qv Q (gAt D dA A (zC dA ad)) A) #[.ref (ad g0 1000), .long (Int64.ofInt a1), .int (Int32.ofInt a2), .int (Int32.ofInt a3)] s 0 0 A) (F0 m pc ls []) := fun σ H locs ls pc hw hP hD hS hd => g_vret hx hb hr hlocks hK σ hP hD hS hw (Nat.le_of_ble_eq_true rfl) (Nat.le_of_ble_eq_true rfl) hd
  generalize MQ below (va_Qv Q (gAt D dA A (zC dA ad)) A) #[.ref (ad g0 1000), .long (Int64.ofInt a1), .int (Int32.ofInt a2), .int (Int32.ofInt a3)] s 0 0 A = QQ at hret ⊢
  have j96 : ∀ (σ : ZS), ∀ (H : Heap) (locs : List Loc) (ls : Array Slot), va_P D vwC (zC dA ad σ) H → va_D A (zC dA ad σ) → va_S A s.heap H locs → lv_has ls 6 [] → wpX6_addSegment_96 σ Q → W p l e (gR 1 0 0) s m #[.ref (ad g0 1000), .long (Int64.ofInt a1), .int (Int32.ofInt a2), .int (Int32.ofInt a3)] below meth c H locs 0 0 QQ (F0 m 96 ls []) := by
    intro σ H locs ls hP hD hS hl hw
    unfold wpX6_addSegment_96 at hw
    exact hret σ _ _ _ _ hw hP hD hS dX6_addSegment_96
  have j44 : ∀ (v0 v1 v3 v4 v5 : Int) (σ : ZS), ∀ (H : Heap) (locs : List Loc) (ls : Array Slot), va_P D vwC (zC dA ad σ) H → va_D A (zC dA ad σ) → va_S A s.heap H locs → lv_has ls 6 [(0, .ref (ad v0 1000)), (1, .long (Int64.ofInt v1)), (3, .int (Int32.ofInt v3)), (4, .int (Int32.ofInt v4)), (5, .int (Int32.ofInt v5))] → wpX6_addSegment_44 v0 v1 v3 v4 v5 σ Q → W p l e (gR 1 0 0) s m #[.ref (ad g0 1000), .long (Int64.ofInt a1), .int (Int32.ofInt a2), .int (Int32.ofInt a3)] below meth c H locs 0 0 QQ (F0 m 44 ls []) := by
    intro v0 v1 v3 v4 v5 σ H locs ls hP hD hS hl hw
    unfold wpX6_addSegment_44 at hw
    refine lv_aload_n hx hb dX6_addSegment_44 rfl (lv_at hl 0 rfl) ?_
    obtain ⟨o1, hw⟩ := hw
    refine zgCM_2 hx hb hg hown o1 hK hP q404 dX6_addSegment_45 ?_
    refine lv_aload_n hx hb dX6_addSegment_48 rfl (lv_at hl 0 rfl) ?_
    refine zgCM_1 hx hb hg hown o1 hK hP q401 dX6_addSegment_49 ?_
    refine lv_lload_n hx hb dX6_addSegment_52 rfl (lv_at hl 1 rfl) ?_
    obtain ⟨o2, hw⟩ := hw
    refine zsCM_2 (v := v1) hx hb o1 o2 hK hP hD hS dX6_addSegment_53 (fun H locs hP hD hS => ?_)
    refine lv_aload_n hx hb dX6_addSegment_54 rfl (lv_at hl 0 rfl) ?_
    refine zgCM_3 hx hb hg hown o1 hK hP q406 dX6_addSegment_55 ?_
    refine lv_aload_n hx hb dX6_addSegment_58 rfl (lv_at hl 0 rfl) ?_
    refine zgCM_1 hx hb hg hown o1 hK hP q401 dX6_addSegment_59 ?_
    refine g_nrm (y := Int32.ofInt (zI σ v0 1)) (congrArg Int32.ofInt (zI_F)) ?_
    refine lv_iload_n hx hb dX6_addSegment_62 rfl (lv_at hl 2 rfl) ?_
    refine zsCM_3 (v := v3) hx hb o1 o2 hK hP hD hS dX6_addSegment_63 (fun H locs hP hD hS => ?_)
    refine lv_aload_n hx hb dX6_addSegment_64 rfl (lv_at hl 0 rfl) ?_
    refine zgCM_4 hx hb hg hown o1 hK hP q408 dX6_addSegment_65 ?_
    refine lv_aload_n hx hb dX6_addSegment_68 rfl (lv_at hl 0 rfl) ?_
    refine zgCM_1 hx hb hg hown o1 hK hP q401 dX6_addSegment_69 ?_
    refine g_nrm (y := Int32.ofInt (zI σ v0 1)) (congrArg Int32.ofInt ((zI_F).trans (zI_F))) ?_
    refine lv_iload hx hb dX6_addSegment_72 (lv_at hl 3 rfl) ?_
    refine zsCM_4 (v := v4) hx hb o1 o2 hK hP hD hS dX6_addSegment_74 (fun H locs hP hD hS => ?_)
    refine lv_aload_n hx hb dX6_addSegment_75 rfl (lv_at hl 0 rfl) ?_
    refine zgCM_5 hx hb hg hown o1 hK hP q411 dX6_addSegment_76 ?_
    refine lv_aload_n hx hb dX6_addSegment_79 rfl (lv_at hl 0 rfl) ?_
    refine zgCM_1 hx hb hg hown o1 hK hP q401 dX6_addSegment_80 ?_
    refine g_nrm (y := Int32.ofInt (zI σ v0 1)) (congrArg Int32.ofInt ((zI_F).trans ((zI_F).trans (zI_F)))) ?_
    refine lv_iload hx hb dX6_addSegment_83 (lv_at hl 4 rfl) ?_
    refine zsCM_5 (v := v5) hx hb o1 o2 hK hP hD hS dX6_addSegment_85 (fun H locs hP hD hS => ?_)
    refine lv_aload_n hx hb dX6_addSegment_86 rfl (lv_at hl 0 rfl) ?_
    refine lv_dup hx hb dX6_addSegment_87 rfl ?_
    refine zgCM_1 hx hb hg hown o1 hK hP q401 dX6_addSegment_88 ?_
    refine g_nrm (y := Int32.ofInt (zI σ v0 1)) (congrArg Int32.ofInt ((zI_F).trans ((zI_F).trans ((zI_F).trans (zI_F))))) ?_
    refine lv_iconst (v := Int32.ofInt 1) hx hb dX6_addSegment_91 (by decide) ?_
    refine z_iadd hx hb dX6_addSegment_92 ?_
    refine zpCM_1 (v := ((zI σ v0 1) + 1)) hx hb hg hown o1 hK hP hD hS q401 dX6_addSegment_93 (fun H locs hP hD hS => ?_)
    exact j96 (zsI (zsA (zsA (zsA (zsA σ v0 2 (zI σ v0 1) v1) v0 3 (zI σ v0 1) v3) v0 4 (zI σ v0 1) v4) v0 5 (zI σ v0 1) v5) v0 1 ((zI σ v0 1) + 1)) _ _ _ hP hD hS (lv_sub hl [] rfl) hw
  unfold wpX6_addSegment at hw
  refine lv_aload_n hx hb dX6_addSegment_0 rfl (lv_at hl 0 rfl) ?_
  obtain ⟨o3, hw⟩ := hw
  refine zgCM_1 hx hb hg hown o3 hK hP q401 dX6_addSegment_1 ?_
  refine lv_bipush (v := Int32.ofInt 24) hx hb dX6_addSegment_4 (by decide) ?_
  obtain ⟨o4, hw⟩ := hw
  refine z_icmp_ge (tgt := 96) hx hb o4 (by decide) dX6_addSegment_6 (by decide) (fun k5 => ?_) (fun k5 => ?_)
  · replace hw := hw.1 k5
    exact j96 σ _ _ _ hP hD hS (lv_sub hl [] rfl) hw
  · replace hw := hw.2 k5
    refine lv_iconst (v := Int32.ofInt 0) hx hb dX6_addSegment_9 (by decide) ?_
    refine lv_istore (lv' := [(5, .int (Int32.ofInt 0)), (0, .ref (ad g0 1000)), (1, .long (Int64.ofInt a1)), (3, .int (Int32.ofInt a2)), (4, .int (Int32.ofInt a3))]) hx hb dX6_addSegment_10 hl (by decide) rfl (fun ls hl => ?_)
    refine lv_aload_n hx hb dX6_addSegment_12 rfl (lv_at hl 1 rfl) ?_
    refine zgCM_1 hx hb hg hown o3 hK hP q401 dX6_addSegment_13 ?_
    refine z_if_le (tgt := 44) hx hb o4 dX6_addSegment_16 (by decide) (fun k6 => ?_) (fun k6 => ?_)
    · replace hw := hw.1 k6
      exact j44 g0 a1 a2 a3 0 σ _ _ _ hP hD hS (lv_sub hl [1, 2, 3, 4, 0] rfl) hw
    · replace hw := hw.2 k6
      refine lv_aload_n hx hb dX6_addSegment_19 rfl (lv_at hl 1 rfl) ?_
      refine zgCM_5 hx hb hg hown o3 hK hP q411 dX6_addSegment_20 ?_
      refine lv_aload_n hx hb dX6_addSegment_23 rfl (lv_at hl 1 rfl) ?_
      refine zgCM_1 hx hb hg hown o3 hK hP q401 dX6_addSegment_24 ?_
      refine lv_iconst (v := Int32.ofInt 1) hx hb dX6_addSegment_27 (by decide) ?_
      refine z_isub hx hb dX6_addSegment_28 ?_
      obtain ⟨o7, hw⟩ := hw
      refine zlCM_5 hx hb o3 o7 hK hP dX6_addSegment_29 ?_
      refine lv_aload_n hx hb dX6_addSegment_30 rfl (lv_at hl 1 rfl) ?_
      refine zgCM_4 hx hb hg hown o3 hK hP q408 dX6_addSegment_31 ?_
      refine lv_aload_n hx hb dX6_addSegment_34 rfl (lv_at hl 1 rfl) ?_
      refine zgCM_1 hx hb hg hown o3 hK hP q401 dX6_addSegment_35 ?_
      refine lv_iconst (v := Int32.ofInt 1) hx hb dX6_addSegment_38 (by decide) ?_
      refine z_isub hx hb dX6_addSegment_39 ?_
      refine zlCM_4 hx hb o3 o7 hK hP dX6_addSegment_40 ?_
      refine z_iadd hx hb dX6_addSegment_41 ?_
      refine lv_istore (lv' := [(5, .int (Int32.ofInt ((zA σ g0 5 ((zI σ g0 1) - 1)) + (zA σ g0 4 ((zI σ g0 1) - 1))))), (0, .ref (ad g0 1000)), (1, .long (Int64.ofInt a1)), (3, .int (Int32.ofInt a2)), (4, .int (Int32.ofInt a3))]) hx hb dX6_addSegment_42 hl (by decide) rfl (fun ls hl => ?_)
      exact j44 g0 a1 a2 a3 ((zA σ g0 5 ((zI σ g0 1) - 1)) + (zA σ g0 4 ((zI σ g0 1) - 1))) σ _ _ _ hP hD hS (lv_sub hl [1, 2, 3, 4, 0] rfl) hw
def wpbX6_publicNumber_2 (K2 : Int → ZS → Prop) (v0 v1 v3 : Int) (σ : ZS) (Q : Int → ZS → Prop) : Prop := (0 ≤ v0 ∧ v0 ≤ 2) ∧ (-2147483648 ≤ v3 ∧ v3 ≤ 2147483647) ∧ (-2147483648 ≤ (zI σ v0 13) ∧ (zI σ v0 13) ≤ 2147483647) ∧ ((zI σ v0 13) ≤ v3 → Q (-1) σ) ∧ (¬ (zI σ v0 13) ≤ v3 → (0 ≤ v3 ∧ v3 < 24) ∧ (-9223372036854775808 ≤ (zA σ v0 14 v3) ∧ (zA σ v0 14 v3) ≤ 9223372036854775807) ∧ (-9223372036854775808 ≤ v1 ∧ v1 ≤ 9223372036854775807) ∧ (¬ (zA σ v0 14 v3) = v1 → K2 (v3 + 1) σ) ∧ ((zA σ v0 14 v3) = v1 → Q v3 σ))
def wpX6_publicNumber_2 (v0 v1 v3 : Int) (σ : ZS) (Q : Int → ZS → Prop) : Prop := lfp1 (fun K2 v3 σ => wpbX6_publicNumber_2 K2 v0 v1 v3 σ Q) v3 σ
def wpX6_publicNumber (g0 a1 : Int) (σ : ZS) (Q : Int → ZS → Prop) : Prop := wpX6_publicNumber_2 g0 a1 0 σ Q
set_option maxHeartbeats 4000000 in
set_option maxRecDepth 100000 in
theorem kX6_publicNumber (l : Launch) (D : va_G) (dA : Nat → ClassId) (ad : Int → Nat → Nat) (g0 a1 : Int) (σ : ZS) (Q : Int → ZS → Prop) (sz : Nat) (hw : wpX6_publicNumber g0 a1 σ Q) : Met l yX6_publicNumber (gws yX6_publicNumber cX6_publicNumber 4 (some .int)) (gR 1 0 0) (gPre D dA [.ref (ad g0 1000), .long (Int64.ofInt a1)] (zC dA ad σ) sz) (va_Qi (zQi Q) (gAt D dA (va_A (zC dA ad σ) sz) (zC dA ad)) (va_A (zC dA ad σ) sz)) 0 0 (va_A (zC dA ad σ) sz) := by
  refine Met.ofW (cc := cX6_publicNumber) (maxL := 4) (ret := (some .int)) (by decide) rfl ?_
  intro p e s m args below meth c s₁ B hml hv
  obtain ⟨rfl, hsz, hP, hK, hD0⟩ := hv
  have hx := B.exec
  have hb := B.bytes
  have hr := B.returns
  have hts := atoms_spec (ws := gws yX6_publicNumber cX6_publicNumber 4 (some .int)) B.pre
  have hg : ∀ w ∈ gw, w.before _ s = true := fun w h => hts w (List.mem_cons_of_mem _ h)
  have hown : s.vm.findClass RX6 = some m.cls := findClass_of_methodNamed B.named
  have hlocks := B.notSynchronized
  subst hsz
  have hD := hD0.self (sz := s.heap.size)
  generalize hAe : va_A (zC dA ad σ) s.heap.size = A at hD ⊢
  have hA : ∀ q : Nat, s.heap.size ≤ q → A q := fun q h => by rw [← hAe]; exact Or.inr h
  have hS : va_S A s.heap s.heap [] := va_S.rf
  have hl := lv_entry ([.ref (ad g0 1000), .long (Int64.ofInt a1)]) (n := 4) (Nat.le_of_ble_eq_true rfl)
  rw [lg_entry_eq]
  generalize (lg_sl ([.ref (ad g0 1000), .long (Int64.ofInt a1)]) ++ List.replicate (4 - (lg_sl ([.ref (ad g0 1000), .long (Int64.ofInt a1)])).length) Slot.unset).toArray = ls at hl ⊢
  have hl : lv_has ls 4 [(0, .ref (ad g0 1000)), (1, .long (Int64.ofInt a1))] := hl
  have hret : ∀ (v : Int) (σ : ZS) (H : Heap) (locs : List Loc) (ls : Array Slot) (pc : Nat), Q v σ → va_P D vwC (zC dA ad σ) H → va_D A (zC dA ad σ) → va_S A s.heap H locs → decode cX6_publicNumber pc = .ok (.ireturn, 1) → W p l e (gR 1 0 0) s m #[.ref (ad g0 1000), .long (Int64.ofInt a1)] below meth c H locs 0 0 (MQ below (va_Qi (zQi Q) (gAt D dA A (zC dA ad)) A) #[.ref (ad g0 1000), .long (Int64.ofInt a1)] s 0 0 A) (F0 m pc ls [.int (Int32.ofInt v)]) := fun v σ H locs ls pc hw hP hD hS hd => g_iret hx hb hr rfl hlocks hK σ hP hD hS ⟨v, rfl, hw⟩ (Nat.le_of_ble_eq_true rfl) (Nat.le_of_ble_eq_true rfl) hd
  generalize MQ below (va_Qi (zQi Q) (gAt D dA A (zC dA ad)) A) #[.ref (ad g0 1000), .long (Int64.ofInt a1)] s 0 0 A = QQ at hret ⊢
  have b2 : ∀ (v0 v1 : Int) (K2 : Int → ZS → Prop), (∀ (v3 : Int) (σ : ZS), K2 v3 σ → ∀ (H : Heap) (locs : List Loc) (ls : Array Slot), va_P D vwC (zC dA ad σ) H → va_D A (zC dA ad σ) → va_S A s.heap H locs → lv_has ls 4 [(0, .ref (ad v0 1000)), (1, .long (Int64.ofInt v1)), (3, .int (Int32.ofInt v3))] → W p l e (gR 1 0 0) s m #[.ref (ad g0 1000), .long (Int64.ofInt a1)] below meth c H locs 0 0 QQ (F0 m 2 ls [])) → ∀ (v3 : Int) (σ : ZS), wpbX6_publicNumber_2 K2 v0 v1 v3 σ Q → ∀ (H : Heap) (locs : List Loc) (ls : Array Slot), va_P D vwC (zC dA ad σ) H → va_D A (zC dA ad σ) → va_S A s.heap H locs → lv_has ls 4 [(0, .ref (ad v0 1000)), (1, .long (Int64.ofInt v1)), (3, .int (Int32.ofInt v3))] → W p l e (gR 1 0 0) s m #[.ref (ad g0 1000), .long (Int64.ofInt a1)] below meth c H locs 0 0 QQ (F0 m 2 ls []) := by
    intro v0 v1 K2 hK2
    intro v3 σ hw H locs ls hP hD hS hl
    unfold wpbX6_publicNumber_2 at hw
    refine lv_iload_n hx hb dX6_publicNumber_2 rfl (lv_at hl 2 rfl) ?_
    refine lv_aload_n hx hb dX6_publicNumber_3 rfl (lv_at hl 0 rfl) ?_
    obtain ⟨o1, hw⟩ := hw
    refine zgCM_13 hx hb hg hown o1 hK hP q434 dX6_publicNumber_4 ?_
    obtain ⟨o2, hw⟩ := hw
    obtain ⟨o3, hw⟩ := hw
    refine z_icmp_ge (tgt := 29) hx hb o2 o3 dX6_publicNumber_7 (by decide) (fun k4 => ?_) (fun k4 => ?_)
    · replace hw := hw.1 k4
      refine lv_iconst (v := Int32.ofInt (-1)) hx hb dX6_publicNumber_29 (by decide) ?_
      exact hret (-1) σ _ _ _ _ hw hP hD hS dX6_publicNumber_30
    · replace hw := hw.2 k4
      refine lv_aload_n hx hb dX6_publicNumber_10 rfl (lv_at hl 0 rfl) ?_
      refine zgCM_14 hx hb hg hown o1 hK hP q436 dX6_publicNumber_11 ?_
      refine lv_iload_n hx hb dX6_publicNumber_14 rfl (lv_at hl 2 rfl) ?_
      obtain ⟨o5, hw⟩ := hw
      refine zlCM_14 hx hb o1 o5 hK hP dX6_publicNumber_15 ?_
      refine lv_lload_n hx hb dX6_publicNumber_16 rfl (lv_at hl 1 rfl) ?_
      obtain ⟨o6, hw⟩ := hw
      obtain ⟨o7, hw⟩ := hw
      refine z_lc_ne (tgt := 23) hx hb o6 o7 dX6_publicNumber_17 dX6_publicNumber_18 (by decide) (fun k8 => ?_) (fun k8 => ?_)
      · replace hw := hw.1 k8
        refine lv_iinc (v := Int32.ofInt (v3 + 1)) (lv' := [(3, .int (Int32.ofInt (v3 + 1))), (0, .ref (ad v0 1000)), (1, .long (Int64.ofInt v1))]) hx hb dX6_publicNumber_23 hl (k := 2) rfl (Int32.ofInt_add _ _).symm (by decide) rfl (fun ls hl => ?_)
        refine lv_goto (tgt := 2) hx hb dX6_publicNumber_26 (by decide) ?_
        exact hK2 (v3 + 1) σ hw _ _ _ hP hD hS (lv_sub hl [1, 2, 0] rfl)
      · replace hw := hw.2 k8
        refine lv_iload_n hx hb dX6_publicNumber_21 rfl (lv_at hl 2 rfl) ?_
        exact hret v3 σ _ _ _ _ hw hP hD hS dX6_publicNumber_22
  have j2 : ∀ (v0 v1 v3 : Int) (σ : ZS), ∀ (H : Heap) (locs : List Loc) (ls : Array Slot), va_P D vwC (zC dA ad σ) H → va_D A (zC dA ad σ) → va_S A s.heap H locs → lv_has ls 4 [(0, .ref (ad v0 1000)), (1, .long (Int64.ofInt v1)), (3, .int (Int32.ofInt v3))] → wpX6_publicNumber_2 v0 v1 v3 σ Q → W p l e (gR 1 0 0) s m #[.ref (ad g0 1000), .long (Int64.ofInt a1)] below meth c H locs 0 0 QQ (F0 m 2 ls []) := by
    intro v0 v1 v3 σ H locs ls hP hD hS hl hw
    exact hw (fun v3 σ => ∀ (H : Heap) (locs : List Loc) (ls : Array Slot), va_P D vwC (zC dA ad σ) H → va_D A (zC dA ad σ) → va_S A s.heap H locs → lv_has ls 4 [(0, .ref (ad v0 1000)), (1, .long (Int64.ofInt v1)), (3, .int (Int32.ofInt v3))] → W p l e (gR 1 0 0) s m #[.ref (ad g0 1000), .long (Int64.ofInt a1)] below meth c H locs 0 0 QQ (F0 m 2 ls [])) (b2 v0 v1 (fun v3 σ => ∀ (H : Heap) (locs : List Loc) (ls : Array Slot), va_P D vwC (zC dA ad σ) H → va_D A (zC dA ad σ) → va_S A s.heap H locs → lv_has ls 4 [(0, .ref (ad v0 1000)), (1, .long (Int64.ofInt v1)), (3, .int (Int32.ofInt v3))] → W p l e (gR 1 0 0) s m #[.ref (ad g0 1000), .long (Int64.ofInt a1)] below meth c H locs 0 0 QQ (F0 m 2 ls [])) (fun v3 σ h => h)) _ _ _ hP hD hS hl
  unfold wpX6_publicNumber at hw
  refine lv_iconst (v := Int32.ofInt 0) hx hb dX6_publicNumber_0 (by decide) ?_
  refine lv_istore_n (lv' := [(3, .int (Int32.ofInt 0)), (0, .ref (ad g0 1000)), (1, .long (Int64.ofInt a1))]) hx hb dX6_publicNumber_1 rfl hl (by decide) rfl (fun ls hl => ?_)
  exact j2 g0 a1 0 σ _ _ _ hP hD hS (lv_sub hl [1, 2, 0] rfl) hw
def wpX6_addPublic_58 (σ : ZS) (Q : ZS → Prop) : Prop := Q σ
def wpX6_addPublic (g0 a1 a2 a3 : Int) (σ : ZS) (Q : ZS → Prop) : Prop := (0 ≤ g0 ∧ g0 ≤ 2) ∧ wpX6_publicNumber g0 a1 σ (fun (x2 : Int) (σ3 : ZS) => (-2147483648 ≤ x2 ∧ x2 ≤ 2147483647) ∧ (0 ≤ x2 → wpX6_addPublic_58 σ3 Q) ∧ (¬ 0 ≤ x2 → (-2147483648 ≤ (zI σ3 g0 13) ∧ (zI σ3 g0 13) ≤ 2147483647) ∧ (24 ≤ (zI σ3 g0 13) → wpX6_addPublic_58 σ3 Q) ∧ (¬ 24 ≤ (zI σ3 g0 13) → (0 ≤ (zI σ3 g0 13) ∧ (zI σ3 g0 13) < 24) ∧ wpX6_addPublic_58 (zsI (zsA (zsA (zsA σ3 g0 14 (zI σ3 g0 13) a1) g0 15 (zI σ3 g0 13) a2) g0 16 (zI σ3 g0 13) a3) g0 13 ((zI σ3 g0 13) + 1)) Q)))
set_option maxHeartbeats 4000000 in
set_option maxRecDepth 100000 in
theorem kX6_addPublic (l : Launch) (D : va_G) (dA : Nat → ClassId) (ad : Int → Nat → Nat) (g0 a1 a2 a3 : Int) (σ : ZS) (Q : ZS → Prop) (sz : Nat) (hw : wpX6_addPublic g0 a1 a2 a3 σ Q) : Met l yX6_addPublic (gws yX6_addPublic cX6_addPublic 5 none) (gR 2 0 0) (gPre D dA [.ref (ad g0 1000), .long (Int64.ofInt a1), .int (Int32.ofInt a2), .int (Int32.ofInt a3)] (zC dA ad σ) sz) (va_Qv Q (gAt D dA (va_A (zC dA ad σ) sz) (zC dA ad)) (va_A (zC dA ad σ) sz)) 0 0 (va_A (zC dA ad σ) sz) := by
  refine Met.ofW (cc := cX6_addPublic) (maxL := 5) (ret := none) (by decide) rfl ?_
  intro p e s m args below meth c s₁ B hml hv
  obtain ⟨rfl, hsz, hP, hK, hD0⟩ := hv
  have hx := B.exec
  have hb := B.bytes
  have hr := B.returns
  have hts := atoms_spec (ws := gws yX6_addPublic cX6_addPublic 5 none) B.pre
  have hg : ∀ w ∈ gw, w.before _ s = true := fun w h => hts w (List.mem_cons_of_mem _ h)
  have hown : s.vm.findClass RX6 = some m.cls := findClass_of_methodNamed B.named
  have hlocks := B.notSynchronized
  subst hsz
  have hD := hD0.self (sz := s.heap.size)
  generalize hAe : va_A (zC dA ad σ) s.heap.size = A at hD ⊢
  have hA : ∀ q : Nat, s.heap.size ≤ q → A q := fun q h => by rw [← hAe]; exact Or.inr h
  have hS : va_S A s.heap s.heap [] := va_S.rf
  have hl := lv_entry ([.ref (ad g0 1000), .long (Int64.ofInt a1), .int (Int32.ofInt a2), .int (Int32.ofInt a3)]) (n := 5) (Nat.le_of_ble_eq_true rfl)
  rw [lg_entry_eq]
  generalize (lg_sl ([.ref (ad g0 1000), .long (Int64.ofInt a1), .int (Int32.ofInt a2), .int (Int32.ofInt a3)]) ++ List.replicate (5 - (lg_sl ([.ref (ad g0 1000), .long (Int64.ofInt a1), .int (Int32.ofInt a2), .int (Int32.ofInt a3)])).length) Slot.unset).toArray = ls at hl ⊢
  have hl : lv_has ls 5 [(0, .ref (ad g0 1000)), (1, .long (Int64.ofInt a1)), (3, .int (Int32.ofInt a2)), (4, .int (Int32.ofInt a3))] := hl
  have hret : ∀ (σ : ZS) (H : Heap) (locs : List Loc) (ls : Array Slot) (pc : Nat), Q σ → va_P D vwC (zC dA ad σ) H → va_D A (zC dA ad σ) → va_S A s.heap H locs → decode cX6_addPublic pc = .ok (.return_, 1) → W p l e (gR 2 0 0) s m #[.ref (ad g0 1000), .long (Int64.ofInt a1), .int (Int32.ofInt a2), .int (Int32.ofInt a3)] below meth c H locs 0 0 (MQ below (va_Qv Q (gAt D dA A (zC dA ad)) A) #[.ref (ad g0 1000), .long (Int64.ofInt a1), .int (Int32.ofInt a2), .int (Int32.ofInt a3)] s 0 0 A) (F0 m pc ls []) := fun σ H locs ls pc hw hP hD hS hd => g_vret hx hb hr hlocks hK σ hP hD hS hw (Nat.le_of_ble_eq_true rfl) (Nat.le_of_ble_eq_true rfl) hd
  generalize MQ below (va_Qv Q (gAt D dA A (zC dA ad)) A) #[.ref (ad g0 1000), .long (Int64.ofInt a1), .int (Int32.ofInt a2), .int (Int32.ofInt a3)] s 0 0 A = QQ at hret ⊢
  have j58 : ∀ (σ : ZS), ∀ (H : Heap) (locs : List Loc) (ls : Array Slot), va_P D vwC (zC dA ad σ) H → va_D A (zC dA ad σ) → va_S A s.heap H locs → lv_has ls 5 [] → wpX6_addPublic_58 σ Q → W p l e (gR 2 0 0) s m #[.ref (ad g0 1000), .long (Int64.ofInt a1), .int (Int32.ofInt a2), .int (Int32.ofInt a3)] below meth c H locs 0 0 QQ (F0 m 58 ls []) := by
    intro σ H locs ls hP hD hS hl hw
    unfold wpX6_addPublic_58 at hw
    exact hret σ _ _ _ _ hw hP hD hS dX6_addPublic_58
  unfold wpX6_addPublic at hw
  refine lv_aload_n hx hb dX6_addPublic_0 rfl (lv_at hl 0 rfl) ?_
  refine lv_lload_n hx hb dX6_addPublic_1 rfl (lv_at hl 1 rfl) ?_
  obtain ⟨o1, hw⟩ := hw
  refine z_Vi (n := 1) (As := [.long (Int64.ofInt a1)]) (rest := []) hx hb hml hg hown hK hP hD hS hA (kX6_publicNumber l D dA ad g0 a1 σ _ _ hw) (zoCM o1) rfl q1210 q156 q1207 q1208 q1209 (by decide +kernel) ⟨(Nat.le_of_ble_eq_true rfl), (Nat.le_of_ble_eq_true rfl)⟩ rfl hl.1 rfl (Nat.le_of_ble_eq_true rfl) dX6_addPublic_2 ⟨(Nat.le_of_ble_eq_true rfl), (Nat.le_of_ble_eq_true rfl)⟩ (fun x2 σ3 H locs hw hP hD hS => ?_)
  obtain ⟨o4, hw⟩ := hw
  refine z_if_ge (tgt := 58) hx hb o4 dX6_addPublic_5 (by decide) (fun k5 => ?_) (fun k5 => ?_)
  · replace hw := hw.1 k5
    exact j58 σ3 _ _ _ hP hD hS (lv_sub hl [] rfl) hw
  · replace hw := hw.2 k5
    refine lv_aload_n hx hb dX6_addPublic_8 rfl (lv_at hl 0 rfl) ?_
    refine zgCM_13 hx hb hg hown o1 hK hP q434 dX6_addPublic_9 ?_
    refine lv_bipush (v := Int32.ofInt 24) hx hb dX6_addPublic_12 (by decide) ?_
    obtain ⟨o6, hw⟩ := hw
    refine z_icmp_ge (tgt := 58) hx hb o6 (by decide) dX6_addPublic_14 (by decide) (fun k7 => ?_) (fun k7 => ?_)
    · replace hw := hw.1 k7
      exact j58 σ3 _ _ _ hP hD hS (lv_sub hl [] rfl) hw
    · replace hw := hw.2 k7
      refine lv_aload_n hx hb dX6_addPublic_17 rfl (lv_at hl 0 rfl) ?_
      refine zgCM_14 hx hb hg hown o1 hK hP q436 dX6_addPublic_18 ?_
      refine lv_aload_n hx hb dX6_addPublic_21 rfl (lv_at hl 0 rfl) ?_
      refine zgCM_13 hx hb hg hown o1 hK hP q434 dX6_addPublic_22 ?_
      refine lv_lload_n hx hb dX6_addPublic_25 rfl (lv_at hl 1 rfl) ?_
      obtain ⟨o8, hw⟩ := hw
      refine zsCM_14 (v := a1) hx hb o1 o8 hK hP hD hS dX6_addPublic_26 (fun H locs hP hD hS => ?_)
      refine lv_aload_n hx hb dX6_addPublic_27 rfl (lv_at hl 0 rfl) ?_
      refine zgCM_15 hx hb hg hown o1 hK hP q438 dX6_addPublic_28 ?_
      refine lv_aload_n hx hb dX6_addPublic_31 rfl (lv_at hl 0 rfl) ?_
      refine zgCM_13 hx hb hg hown o1 hK hP q434 dX6_addPublic_32 ?_
      refine g_nrm (y := Int32.ofInt (zI σ3 g0 13)) (congrArg Int32.ofInt (zI_F)) ?_
      refine lv_iload_n hx hb dX6_addPublic_35 rfl (lv_at hl 2 rfl) ?_
      refine zsCM_15 (v := a2) hx hb o1 o8 hK hP hD hS dX6_addPublic_36 (fun H locs hP hD hS => ?_)
      refine lv_aload_n hx hb dX6_addPublic_37 rfl (lv_at hl 0 rfl) ?_
      refine zgCM_16 hx hb hg hown o1 hK hP q440 dX6_addPublic_38 ?_
      refine lv_aload_n hx hb dX6_addPublic_41 rfl (lv_at hl 0 rfl) ?_
      refine zgCM_13 hx hb hg hown o1 hK hP q434 dX6_addPublic_42 ?_
      refine g_nrm (y := Int32.ofInt (zI σ3 g0 13)) (congrArg Int32.ofInt ((zI_F).trans (zI_F))) ?_
      refine lv_iload hx hb dX6_addPublic_45 (lv_at hl 3 rfl) ?_
      refine zsCM_16 (v := a3) hx hb o1 o8 hK hP hD hS dX6_addPublic_47 (fun H locs hP hD hS => ?_)
      refine lv_aload_n hx hb dX6_addPublic_48 rfl (lv_at hl 0 rfl) ?_
      refine lv_dup hx hb dX6_addPublic_49 rfl ?_
      refine zgCM_13 hx hb hg hown o1 hK hP q434 dX6_addPublic_50 ?_
      refine g_nrm (y := Int32.ofInt (zI σ3 g0 13)) (congrArg Int32.ofInt ((zI_F).trans ((zI_F).trans (zI_F)))) ?_
      refine lv_iconst (v := Int32.ofInt 1) hx hb dX6_addPublic_53 (by decide) ?_
      refine z_iadd hx hb dX6_addPublic_54 ?_
      refine zpCM_13 (v := ((zI σ3 g0 13) + 1)) hx hb hg hown o1 hK hP hD hS q434 dX6_addPublic_55 (fun H locs hP hD hS => ?_)
      exact j58 (zsI (zsA (zsA (zsA σ3 g0 14 (zI σ3 g0 13) a1) g0 15 (zI σ3 g0 13) a2) g0 16 (zI σ3 g0 13) a3) g0 13 ((zI σ3 g0 13) + 1)) _ _ _ hP hD hS (lv_sub hl [] rfl) hw
def wpX6_putByte_40 (σ : ZS) (Q : ZS → Prop) : Prop := Q σ
def wpX6_putByte (g0 a1 a2 a3 : Int) (σ : ZS) (Q : ZS → Prop) : Prop := (0 ≤ g0 ∧ g0 ≤ 2) ∧ (-2147483648 ≤ a1 ∧ a1 ≤ 2147483647) ∧ (-2147483648 ≤ (zI σ g0 1) ∧ (zI σ g0 1) ≤ 2147483647) ∧ ((zI σ g0 1) ≤ a1 → wpX6_putByte_40 σ Q) ∧ (¬ (zI σ g0 1) ≤ a1 → (0 ≤ a1 ∧ a1 < 24) ∧ (-2147483648 ≤ ((zA σ g0 5 a1) + a2) ∧ ((zA σ g0 5 a1) + a2) ≤ 2147483647) ∧ (400 ≤ ((zA σ g0 5 a1) + a2) → wpX6_putByte_40 σ Q) ∧ (¬ 400 ≤ ((zA σ g0 5 a1) + a2) → (0 ≤ ((zA σ g0 5 a1) + a2) ∧ ((zA σ g0 5 a1) + a2) < 400) ∧ wpX6_putByte_40 (zsA σ g0 6 ((zA σ g0 5 a1) + a2) (a3 % 256)) Q))
set_option maxHeartbeats 4000000 in
set_option maxRecDepth 100000 in
theorem kX6_putByte (l : Launch) (D : va_G) (dA : Nat → ClassId) (ad : Int → Nat → Nat) (g0 a1 a2 a3 : Int) (σ : ZS) (Q : ZS → Prop) (sz : Nat) (hw : wpX6_putByte g0 a1 a2 a3 σ Q) : Met l yX6_putByte (gws yX6_putByte cX6_putByte 4 none) (gR 1 0 0) (gPre D dA [.ref (ad g0 1000), .int (Int32.ofInt a1), .int (Int32.ofInt a2), .int (Int32.ofInt a3)] (zC dA ad σ) sz) (va_Qv Q (gAt D dA (va_A (zC dA ad σ) sz) (zC dA ad)) (va_A (zC dA ad σ) sz)) 0 0 (va_A (zC dA ad σ) sz) := by
  refine Met.ofW (cc := cX6_putByte) (maxL := 4) (ret := none) (by decide) rfl ?_
  intro p e s m args below meth c s₁ B hml hv
  obtain ⟨rfl, hsz, hP, hK, hD0⟩ := hv
  have hx := B.exec
  have hb := B.bytes
  have hr := B.returns
  have hts := atoms_spec (ws := gws yX6_putByte cX6_putByte 4 none) B.pre
  have hg : ∀ w ∈ gw, w.before _ s = true := fun w h => hts w (List.mem_cons_of_mem _ h)
  have hown : s.vm.findClass RX6 = some m.cls := findClass_of_methodNamed B.named
  have hlocks := B.notSynchronized
  subst hsz
  have hD := hD0.self (sz := s.heap.size)
  generalize hAe : va_A (zC dA ad σ) s.heap.size = A at hD ⊢
  have hA : ∀ q : Nat, s.heap.size ≤ q → A q := fun q h => by rw [← hAe]; exact Or.inr h
  have hS : va_S A s.heap s.heap [] := va_S.rf
  have hl := lv_entry ([.ref (ad g0 1000), .int (Int32.ofInt a1), .int (Int32.ofInt a2), .int (Int32.ofInt a3)]) (n := 4) (Nat.le_of_ble_eq_true rfl)
  rw [lg_entry_eq]
  generalize (lg_sl ([.ref (ad g0 1000), .int (Int32.ofInt a1), .int (Int32.ofInt a2), .int (Int32.ofInt a3)]) ++ List.replicate (4 - (lg_sl ([.ref (ad g0 1000), .int (Int32.ofInt a1), .int (Int32.ofInt a2), .int (Int32.ofInt a3)])).length) Slot.unset).toArray = ls at hl ⊢
  have hl : lv_has ls 4 [(0, .ref (ad g0 1000)), (1, .int (Int32.ofInt a1)), (2, .int (Int32.ofInt a2)), (3, .int (Int32.ofInt a3))] := hl
  have hret : ∀ (σ : ZS) (H : Heap) (locs : List Loc) (ls : Array Slot) (pc : Nat), Q σ → va_P D vwC (zC dA ad σ) H → va_D A (zC dA ad σ) → va_S A s.heap H locs → decode cX6_putByte pc = .ok (.return_, 1) → W p l e (gR 1 0 0) s m #[.ref (ad g0 1000), .int (Int32.ofInt a1), .int (Int32.ofInt a2), .int (Int32.ofInt a3)] below meth c H locs 0 0 (MQ below (va_Qv Q (gAt D dA A (zC dA ad)) A) #[.ref (ad g0 1000), .int (Int32.ofInt a1), .int (Int32.ofInt a2), .int (Int32.ofInt a3)] s 0 0 A) (F0 m pc ls []) := fun σ H locs ls pc hw hP hD hS hd => g_vret hx hb hr hlocks hK σ hP hD hS hw (Nat.le_of_ble_eq_true rfl) (Nat.le_of_ble_eq_true rfl) hd
  generalize MQ below (va_Qv Q (gAt D dA A (zC dA ad)) A) #[.ref (ad g0 1000), .int (Int32.ofInt a1), .int (Int32.ofInt a2), .int (Int32.ofInt a3)] s 0 0 A = QQ at hret ⊢
  have j40 : ∀ (σ : ZS), ∀ (H : Heap) (locs : List Loc) (ls : Array Slot), va_P D vwC (zC dA ad σ) H → va_D A (zC dA ad σ) → va_S A s.heap H locs → lv_has ls 4 [] → wpX6_putByte_40 σ Q → W p l e (gR 1 0 0) s m #[.ref (ad g0 1000), .int (Int32.ofInt a1), .int (Int32.ofInt a2), .int (Int32.ofInt a3)] below meth c H locs 0 0 QQ (F0 m 40 ls []) := by
    intro σ H locs ls hP hD hS hl hw
    unfold wpX6_putByte_40 at hw
    exact hret σ _ _ _ _ hw hP hD hS dX6_putByte_40
  unfold wpX6_putByte at hw
  refine lv_iload_n hx hb dX6_putByte_0 rfl (lv_at hl 1 rfl) ?_
  refine lv_aload_n hx hb dX6_putByte_1 rfl (lv_at hl 0 rfl) ?_
  obtain ⟨o1, hw⟩ := hw
  refine zgCM_1 hx hb hg hown o1 hK hP q401 dX6_putByte_2 ?_
  obtain ⟨o2, hw⟩ := hw
  obtain ⟨o3, hw⟩ := hw
  refine z_icmp_ge (tgt := 40) hx hb o2 o3 dX6_putByte_5 (by decide) (fun k4 => ?_) (fun k4 => ?_)
  · replace hw := hw.1 k4
    exact j40 σ _ _ _ hP hD hS (lv_sub hl [] rfl) hw
  · replace hw := hw.2 k4
    refine lv_aload_n hx hb dX6_putByte_8 rfl (lv_at hl 0 rfl) ?_
    refine zgCM_5 hx hb hg hown o1 hK hP q411 dX6_putByte_9 ?_
    refine lv_iload_n hx hb dX6_putByte_12 rfl (lv_at hl 1 rfl) ?_
    obtain ⟨o5, hw⟩ := hw
    refine zlCM_5 hx hb o1 o5 hK hP dX6_putByte_13 ?_
    refine lv_iload_n hx hb dX6_putByte_14 rfl (lv_at hl 2 rfl) ?_
    refine z_iadd hx hb dX6_putByte_15 ?_
    refine lv_sipush (v := Int32.ofInt 400) hx hb dX6_putByte_16 (by decide) ?_
    obtain ⟨o6, hw⟩ := hw
    refine z_icmp_ge (tgt := 40) hx hb o6 (by decide) dX6_putByte_19 (by decide) (fun k7 => ?_) (fun k7 => ?_)
    · replace hw := hw.1 k7
      exact j40 σ _ _ _ hP hD hS (lv_sub hl [] rfl) hw
    · replace hw := hw.2 k7
      refine lv_aload_n hx hb dX6_putByte_22 rfl (lv_at hl 0 rfl) ?_
      refine zgCM_6 hx hb hg hown o1 hK hP q414 dX6_putByte_23 ?_
      refine lv_aload_n hx hb dX6_putByte_26 rfl (lv_at hl 0 rfl) ?_
      refine zgCM_5 hx hb hg hown o1 hK hP q411 dX6_putByte_27 ?_
      refine lv_iload_n hx hb dX6_putByte_30 rfl (lv_at hl 1 rfl) ?_
      refine zlCM_5 hx hb o1 o5 hK hP dX6_putByte_31 ?_
      refine lv_iload_n hx hb dX6_putByte_32 rfl (lv_at hl 2 rfl) ?_
      refine z_iadd hx hb dX6_putByte_33 ?_
      refine lv_iload_n hx hb dX6_putByte_34 rfl (lv_at hl 3 rfl) ?_
      refine lv_sipush (v := Int32.ofInt 255) hx hb dX6_putByte_35 (by decide) ?_
      refine z_iandK (M := 256) hx hb 8 (by decide) (by decide) (by decide) dX6_putByte_38 ?_
      obtain ⟨o8, hw⟩ := hw
      refine zsCM_6 (v := (a3 % 256)) hx hb o1 o8 hK hP hD hS dX6_putByte_39 (fun H locs hP hD hS => ?_)
      exact j40 (zsA σ g0 6 ((zA σ g0 5 a1) + a2) (a3 % 256)) _ _ _ hP hD hS (lv_sub hl [] rfl) hw
def wpX6_putWord (g0 a1 a2 a3 : Int) (σ : ZS) (Q : ZS → Prop) : Prop := (0 ≤ g0 ∧ g0 ≤ 2) ∧ wpX6_putByte g0 a1 a2 a3 σ (fun (σ3 : ZS) => (-2147483648 ≤ a3 ∧ a3 ≤ 2147483647) ∧ wpX6_putByte g0 a1 (a2 + 1) (a3 / 256) σ3 (fun (σ6 : ZS) => Q σ6))
set_option maxHeartbeats 4000000 in
set_option maxRecDepth 100000 in
theorem kX6_putWord (l : Launch) (D : va_G) (dA : Nat → ClassId) (ad : Int → Nat → Nat) (g0 a1 a2 a3 : Int) (σ : ZS) (Q : ZS → Prop) (sz : Nat) (hw : wpX6_putWord g0 a1 a2 a3 σ Q) : Met l yX6_putWord (gws yX6_putWord cX6_putWord 4 none) (gR 2 0 0) (gPre D dA [.ref (ad g0 1000), .int (Int32.ofInt a1), .int (Int32.ofInt a2), .int (Int32.ofInt a3)] (zC dA ad σ) sz) (va_Qv Q (gAt D dA (va_A (zC dA ad σ) sz) (zC dA ad)) (va_A (zC dA ad σ) sz)) 0 0 (va_A (zC dA ad σ) sz) := by
  refine Met.ofW (cc := cX6_putWord) (maxL := 4) (ret := none) (by decide) rfl ?_
  intro p e s m args below meth c s₁ B hml hv
  obtain ⟨rfl, hsz, hP, hK, hD0⟩ := hv
  have hx := B.exec
  have hb := B.bytes
  have hr := B.returns
  have hts := atoms_spec (ws := gws yX6_putWord cX6_putWord 4 none) B.pre
  have hg : ∀ w ∈ gw, w.before _ s = true := fun w h => hts w (List.mem_cons_of_mem _ h)
  have hown : s.vm.findClass RX6 = some m.cls := findClass_of_methodNamed B.named
  have hlocks := B.notSynchronized
  subst hsz
  have hD := hD0.self (sz := s.heap.size)
  generalize hAe : va_A (zC dA ad σ) s.heap.size = A at hD ⊢
  have hA : ∀ q : Nat, s.heap.size ≤ q → A q := fun q h => by rw [← hAe]; exact Or.inr h
  have hS : va_S A s.heap s.heap [] := va_S.rf
  have hl := lv_entry ([.ref (ad g0 1000), .int (Int32.ofInt a1), .int (Int32.ofInt a2), .int (Int32.ofInt a3)]) (n := 4) (Nat.le_of_ble_eq_true rfl)
  rw [lg_entry_eq]
  generalize (lg_sl ([.ref (ad g0 1000), .int (Int32.ofInt a1), .int (Int32.ofInt a2), .int (Int32.ofInt a3)]) ++ List.replicate (4 - (lg_sl ([.ref (ad g0 1000), .int (Int32.ofInt a1), .int (Int32.ofInt a2), .int (Int32.ofInt a3)])).length) Slot.unset).toArray = ls at hl ⊢
  have hl : lv_has ls 4 [(0, .ref (ad g0 1000)), (1, .int (Int32.ofInt a1)), (2, .int (Int32.ofInt a2)), (3, .int (Int32.ofInt a3))] := hl
  have hret : ∀ (σ : ZS) (H : Heap) (locs : List Loc) (ls : Array Slot) (pc : Nat), Q σ → va_P D vwC (zC dA ad σ) H → va_D A (zC dA ad σ) → va_S A s.heap H locs → decode cX6_putWord pc = .ok (.return_, 1) → W p l e (gR 2 0 0) s m #[.ref (ad g0 1000), .int (Int32.ofInt a1), .int (Int32.ofInt a2), .int (Int32.ofInt a3)] below meth c H locs 0 0 (MQ below (va_Qv Q (gAt D dA A (zC dA ad)) A) #[.ref (ad g0 1000), .int (Int32.ofInt a1), .int (Int32.ofInt a2), .int (Int32.ofInt a3)] s 0 0 A) (F0 m pc ls []) := fun σ H locs ls pc hw hP hD hS hd => g_vret hx hb hr hlocks hK σ hP hD hS hw (Nat.le_of_ble_eq_true rfl) (Nat.le_of_ble_eq_true rfl) hd
  generalize MQ below (va_Qv Q (gAt D dA A (zC dA ad)) A) #[.ref (ad g0 1000), .int (Int32.ofInt a1), .int (Int32.ofInt a2), .int (Int32.ofInt a3)] s 0 0 A = QQ at hret ⊢
  unfold wpX6_putWord at hw
  refine lv_aload_n hx hb dX6_putWord_0 rfl (lv_at hl 0 rfl) ?_
  refine lv_iload_n hx hb dX6_putWord_1 rfl (lv_at hl 1 rfl) ?_
  refine lv_iload_n hx hb dX6_putWord_2 rfl (lv_at hl 2 rfl) ?_
  refine lv_iload_n hx hb dX6_putWord_3 rfl (lv_at hl 3 rfl) ?_
  obtain ⟨o1, hw⟩ := hw
  refine z_Vv (n := 3) (As := [.int (Int32.ofInt a1), .int (Int32.ofInt a2), .int (Int32.ofInt a3)]) (rest := []) hx hb hml hg hown hK hP hD hS hA (kX6_putByte l D dA ad g0 a1 a2 a3 σ _ _ hw) (zoCM o1) rfl q1218 q156 q1223 q1216 q1217 (by decide +kernel) ⟨(Nat.le_of_ble_eq_true rfl), (Nat.le_of_ble_eq_true rfl)⟩ rfl hl.1 rfl (Nat.le_of_ble_eq_true rfl) dX6_putWord_4 ⟨(Nat.le_of_ble_eq_true rfl), (Nat.le_of_ble_eq_true rfl)⟩ (fun σ3 H locs hw hP hD hS => ?_)
  refine lv_aload_n hx hb dX6_putWord_7 rfl (lv_at hl 0 rfl) ?_
  refine lv_iload_n hx hb dX6_putWord_8 rfl (lv_at hl 1 rfl) ?_
  refine lv_iload_n hx hb dX6_putWord_9 rfl (lv_at hl 2 rfl) ?_
  refine lv_iconst (v := Int32.ofInt 1) hx hb dX6_putWord_10 (by decide) ?_
  refine z_iadd hx hb dX6_putWord_11 ?_
  refine lv_iload_n hx hb dX6_putWord_12 rfl (lv_at hl 3 rfl) ?_
  refine lv_bipush (v := Int32.ofInt 8) hx hb dX6_putWord_13 (by decide) ?_
  obtain ⟨o4, hw⟩ := hw
  refine z_ishrK (M := 256) hx hb 8 (by decide) (by decide) (by decide) o4 dX6_putWord_15 ?_
  refine z_Vv (n := 3) (As := [.int (Int32.ofInt a1), .int (Int32.ofInt (a2 + 1)), .int (Int32.ofInt (a3 / 256))]) (rest := []) hx hb hml hg hown hK hP hD hS hA (kX6_putByte l D dA ad g0 a1 (a2 + 1) (a3 / 256) σ3 _ _ hw) (zoCM o1) rfl q1218 q156 q1223 q1216 q1217 (by decide +kernel) ⟨(Nat.le_of_ble_eq_true rfl), (Nat.le_of_ble_eq_true rfl)⟩ rfl hl.1 rfl (Nat.le_of_ble_eq_true rfl) dX6_putWord_16 ⟨(Nat.le_of_ble_eq_true rfl), (Nat.le_of_ble_eq_true rfl)⟩ (fun σ6 H locs hw hP hD hS => ?_)
  exact hret σ6 _ _ _ _ hw hP hD hS dX6_putWord_19
def wpX6_addFixup_72 (σ : ZS) (Q : ZS → Prop) : Prop := Q σ
def wpX6_addFixup (g0 a1 a2 a3 a4 a5 : Int) (σ : ZS) (Q : ZS → Prop) : Prop := (0 ≤ g0 ∧ g0 ≤ 2) ∧ (-2147483648 ≤ (zI σ g0 7) ∧ (zI σ g0 7) ≤ 2147483647) ∧ (200 ≤ (zI σ g0 7) → wpX6_addFixup_72 σ Q) ∧ (¬ 200 ≤ (zI σ g0 7) → (0 ≤ (zI σ g0 7) ∧ (zI σ g0 7) < 200) ∧ wpX6_addFixup_72 (zsI (zsA (zsA (zsA (zsA (zsA σ g0 8 (zI σ g0 7) a1) g0 9 (zI σ g0 7) a2) g0 10 (zI σ g0 7) a3) g0 11 (zI σ g0 7) a4) g0 12 (zI σ g0 7) a5) g0 7 ((zI σ g0 7) + 1)) Q)
set_option maxHeartbeats 4000000 in
set_option maxRecDepth 100000 in
theorem kX6_addFixup (l : Launch) (D : va_G) (dA : Nat → ClassId) (ad : Int → Nat → Nat) (g0 a1 a2 a3 a4 a5 : Int) (σ : ZS) (Q : ZS → Prop) (sz : Nat) (hw : wpX6_addFixup g0 a1 a2 a3 a4 a5 σ Q) : Met l yX6_addFixup (gws yX6_addFixup cX6_addFixup 7 none) (gR 1 0 0) (gPre D dA [.ref (ad g0 1000), .int (Int32.ofInt a1), .int (Int32.ofInt a2), .int (Int32.ofInt a3), .int (Int32.ofInt a4), .long (Int64.ofInt a5)] (zC dA ad σ) sz) (va_Qv Q (gAt D dA (va_A (zC dA ad σ) sz) (zC dA ad)) (va_A (zC dA ad σ) sz)) 0 0 (va_A (zC dA ad σ) sz) := by
  refine Met.ofW (cc := cX6_addFixup) (maxL := 7) (ret := none) (by decide) rfl ?_
  intro p e s m args below meth c s₁ B hml hv
  obtain ⟨rfl, hsz, hP, hK, hD0⟩ := hv
  have hx := B.exec
  have hb := B.bytes
  have hr := B.returns
  have hts := atoms_spec (ws := gws yX6_addFixup cX6_addFixup 7 none) B.pre
  have hg : ∀ w ∈ gw, w.before _ s = true := fun w h => hts w (List.mem_cons_of_mem _ h)
  have hown : s.vm.findClass RX6 = some m.cls := findClass_of_methodNamed B.named
  have hlocks := B.notSynchronized
  subst hsz
  have hD := hD0.self (sz := s.heap.size)
  generalize hAe : va_A (zC dA ad σ) s.heap.size = A at hD ⊢
  have hA : ∀ q : Nat, s.heap.size ≤ q → A q := fun q h => by rw [← hAe]; exact Or.inr h
  have hS : va_S A s.heap s.heap [] := va_S.rf
  have hl := lv_entry ([.ref (ad g0 1000), .int (Int32.ofInt a1), .int (Int32.ofInt a2), .int (Int32.ofInt a3), .int (Int32.ofInt a4), .long (Int64.ofInt a5)]) (n := 7) (Nat.le_of_ble_eq_true rfl)
  rw [lg_entry_eq]
  generalize (lg_sl ([.ref (ad g0 1000), .int (Int32.ofInt a1), .int (Int32.ofInt a2), .int (Int32.ofInt a3), .int (Int32.ofInt a4), .long (Int64.ofInt a5)]) ++ List.replicate (7 - (lg_sl ([.ref (ad g0 1000), .int (Int32.ofInt a1), .int (Int32.ofInt a2), .int (Int32.ofInt a3), .int (Int32.ofInt a4), .long (Int64.ofInt a5)])).length) Slot.unset).toArray = ls at hl ⊢
  have hl : lv_has ls 7 [(0, .ref (ad g0 1000)), (1, .int (Int32.ofInt a1)), (2, .int (Int32.ofInt a2)), (3, .int (Int32.ofInt a3)), (4, .int (Int32.ofInt a4)), (5, .long (Int64.ofInt a5))] := hl
  have hret : ∀ (σ : ZS) (H : Heap) (locs : List Loc) (ls : Array Slot) (pc : Nat), Q σ → va_P D vwC (zC dA ad σ) H → va_D A (zC dA ad σ) → va_S A s.heap H locs → decode cX6_addFixup pc = .ok (.return_, 1) → W p l e (gR 1 0 0) s m #[.ref (ad g0 1000), .int (Int32.ofInt a1), .int (Int32.ofInt a2), .int (Int32.ofInt a3), .int (Int32.ofInt a4), .long (Int64.ofInt a5)] below meth c H locs 0 0 (MQ below (va_Qv Q (gAt D dA A (zC dA ad)) A) #[.ref (ad g0 1000), .int (Int32.ofInt a1), .int (Int32.ofInt a2), .int (Int32.ofInt a3), .int (Int32.ofInt a4), .long (Int64.ofInt a5)] s 0 0 A) (F0 m pc ls []) := fun σ H locs ls pc hw hP hD hS hd => g_vret hx hb hr hlocks hK σ hP hD hS hw (Nat.le_of_ble_eq_true rfl) (Nat.le_of_ble_eq_true rfl) hd
  generalize MQ below (va_Qv Q (gAt D dA A (zC dA ad)) A) #[.ref (ad g0 1000), .int (Int32.ofInt a1), .int (Int32.ofInt a2), .int (Int32.ofInt a3), .int (Int32.ofInt a4), .long (Int64.ofInt a5)] s 0 0 A = QQ at hret ⊢
  have j72 : ∀ (σ : ZS), ∀ (H : Heap) (locs : List Loc) (ls : Array Slot), va_P D vwC (zC dA ad σ) H → va_D A (zC dA ad σ) → va_S A s.heap H locs → lv_has ls 7 [] → wpX6_addFixup_72 σ Q → W p l e (gR 1 0 0) s m #[.ref (ad g0 1000), .int (Int32.ofInt a1), .int (Int32.ofInt a2), .int (Int32.ofInt a3), .int (Int32.ofInt a4), .long (Int64.ofInt a5)] below meth c H locs 0 0 QQ (F0 m 72 ls []) := by
    intro σ H locs ls hP hD hS hl hw
    unfold wpX6_addFixup_72 at hw
    exact hret σ _ _ _ _ hw hP hD hS dX6_addFixup_72
  unfold wpX6_addFixup at hw
  refine lv_aload_n hx hb dX6_addFixup_0 rfl (lv_at hl 0 rfl) ?_
  obtain ⟨o1, hw⟩ := hw
  refine zgCM_7 hx hb hg hown o1 hK hP q417 dX6_addFixup_1 ?_
  refine lv_sipush (v := Int32.ofInt 200) hx hb dX6_addFixup_4 (by decide) ?_
  obtain ⟨o2, hw⟩ := hw
  refine z_icmp_ge (tgt := 72) hx hb o2 (by decide) dX6_addFixup_7 (by decide) (fun k3 => ?_) (fun k3 => ?_)
  · replace hw := hw.1 k3
    exact j72 σ _ _ _ hP hD hS (lv_sub hl [] rfl) hw
  · replace hw := hw.2 k3
    refine lv_aload_n hx hb dX6_addFixup_10 rfl (lv_at hl 0 rfl) ?_
    refine zgCM_8 hx hb hg hown o1 hK hP q420 dX6_addFixup_11 ?_
    refine lv_aload_n hx hb dX6_addFixup_14 rfl (lv_at hl 0 rfl) ?_
    refine zgCM_7 hx hb hg hown o1 hK hP q417 dX6_addFixup_15 ?_
    refine lv_iload_n hx hb dX6_addFixup_18 rfl (lv_at hl 1 rfl) ?_
    obtain ⟨o4, hw⟩ := hw
    refine zsCM_8 (v := a1) hx hb o1 o4 hK hP hD hS dX6_addFixup_19 (fun H locs hP hD hS => ?_)
    refine lv_aload_n hx hb dX6_addFixup_20 rfl (lv_at hl 0 rfl) ?_
    refine zgCM_9 hx hb hg hown o1 hK hP q423 dX6_addFixup_21 ?_
    refine lv_aload_n hx hb dX6_addFixup_24 rfl (lv_at hl 0 rfl) ?_
    refine zgCM_7 hx hb hg hown o1 hK hP q417 dX6_addFixup_25 ?_
    refine g_nrm (y := Int32.ofInt (zI σ g0 7)) (congrArg Int32.ofInt (zI_F)) ?_
    refine lv_iload_n hx hb dX6_addFixup_28 rfl (lv_at hl 2 rfl) ?_
    refine zsCM_9 (v := a2) hx hb o1 o4 hK hP hD hS dX6_addFixup_29 (fun H locs hP hD hS => ?_)
    refine lv_aload_n hx hb dX6_addFixup_30 rfl (lv_at hl 0 rfl) ?_
    refine zgCM_10 hx hb hg hown o1 hK hP q426 dX6_addFixup_31 ?_
    refine lv_aload_n hx hb dX6_addFixup_34 rfl (lv_at hl 0 rfl) ?_
    refine zgCM_7 hx hb hg hown o1 hK hP q417 dX6_addFixup_35 ?_
    refine g_nrm (y := Int32.ofInt (zI σ g0 7)) (congrArg Int32.ofInt ((zI_F).trans (zI_F))) ?_
    refine lv_iload_n hx hb dX6_addFixup_38 rfl (lv_at hl 3 rfl) ?_
    refine zsCM_10 (v := a3) hx hb o1 o4 hK hP hD hS dX6_addFixup_39 (fun H locs hP hD hS => ?_)
    refine lv_aload_n hx hb dX6_addFixup_40 rfl (lv_at hl 0 rfl) ?_
    refine zgCM_11 hx hb hg hown o1 hK hP q429 dX6_addFixup_41 ?_
    refine lv_aload_n hx hb dX6_addFixup_44 rfl (lv_at hl 0 rfl) ?_
    refine zgCM_7 hx hb hg hown o1 hK hP q417 dX6_addFixup_45 ?_
    refine g_nrm (y := Int32.ofInt (zI σ g0 7)) (congrArg Int32.ofInt ((zI_F).trans ((zI_F).trans (zI_F)))) ?_
    refine lv_iload hx hb dX6_addFixup_48 (lv_at hl 4 rfl) ?_
    refine zsCM_11 (v := a4) hx hb o1 o4 hK hP hD hS dX6_addFixup_50 (fun H locs hP hD hS => ?_)
    refine lv_aload_n hx hb dX6_addFixup_51 rfl (lv_at hl 0 rfl) ?_
    refine zgCM_12 hx hb hg hown o1 hK hP q432 dX6_addFixup_52 ?_
    refine lv_aload_n hx hb dX6_addFixup_55 rfl (lv_at hl 0 rfl) ?_
    refine zgCM_7 hx hb hg hown o1 hK hP q417 dX6_addFixup_56 ?_
    refine g_nrm (y := Int32.ofInt (zI σ g0 7)) (congrArg Int32.ofInt ((zI_F).trans ((zI_F).trans ((zI_F).trans (zI_F))))) ?_
    refine lv_lload hx hb dX6_addFixup_59 (lv_at hl 5 rfl) ?_
    refine zsCM_12 (v := a5) hx hb o1 o4 hK hP hD hS dX6_addFixup_61 (fun H locs hP hD hS => ?_)
    refine lv_aload_n hx hb dX6_addFixup_62 rfl (lv_at hl 0 rfl) ?_
    refine lv_dup hx hb dX6_addFixup_63 rfl ?_
    refine zgCM_7 hx hb hg hown o1 hK hP q417 dX6_addFixup_64 ?_
    refine g_nrm (y := Int32.ofInt (zI σ g0 7)) (congrArg Int32.ofInt ((zI_F).trans ((zI_F).trans ((zI_F).trans ((zI_F).trans (zI_F)))))) ?_
    refine lv_iconst (v := Int32.ofInt 1) hx hb dX6_addFixup_67 (by decide) ?_
    refine z_iadd hx hb dX6_addFixup_68 ?_
    refine zpCM_7 (v := ((zI σ g0 7) + 1)) hx hb hg hown o1 hK hP hD hS q417 dX6_addFixup_69 (fun H locs hP hD hS => ?_)
    exact j72 (zsI (zsA (zsA (zsA (zsA (zsA σ g0 8 (zI σ g0 7) a1) g0 9 (zI σ g0 7) a2) g0 10 (zI σ g0 7) a3) g0 11 (zI σ g0 7) a4) g0 12 (zI σ g0 7) a5) g0 7 ((zI σ g0 7) + 1)) _ _ _ hP hD hS (lv_sub hl [] rfl) hw
def wpX2_writeFixup (g1 a2 a3 a4 : Int) (σ : ZS) (Q : ZS → Prop) : Prop := (0 ≤ a2 ∧ a2 < 248) ∧ (0 ≤ (zA σ 13 2 a2) ∧ (zA σ 13 2 a2) < 240) ∧ (0 ≤ g1 ∧ g1 ≤ 2) ∧ wpX6_addFixup g1 a4 (zA σ 13 5 a2) a3 (zA σ 11 2 (zA σ 13 2 a2)) (zA σ 11 0 (zA σ 13 2 a2)) σ (fun (σ5 : ZS) => Q σ5)
set_option maxHeartbeats 4000000 in
set_option maxRecDepth 100000 in
theorem kX2_writeFixup (l : Launch) (D : va_G) (dA : Nat → ClassId) (ad : Int → Nat → Nat) (g1 a2 a3 a4 : Int) (σ : ZS) (Q : ZS → Prop) (sz : Nat) (hw : wpX2_writeFixup g1 a2 a3 a4 σ Q) : Met l yX2_writeFixup (gws yX2_writeFixup cX2_writeFixup 6 none) (gR 2 0 0) (gPre D dA [.ref (ad 15 1000), .ref (ad g1 1000), .int (Int32.ofInt a2), .int (Int32.ofInt a3), .int (Int32.ofInt a4)] (zC dA ad σ) sz) (va_Qv Q (gAt D dA (va_A (zC dA ad σ) sz) (zC dA ad)) (va_A (zC dA ad σ) sz)) 0 0 (va_A (zC dA ad σ) sz) := by
  refine Met.ofW (cc := cX2_writeFixup) (maxL := 6) (ret := none) (by decide) rfl ?_
  intro p e s m args below meth c s₁ B hml hv
  obtain ⟨rfl, hsz, hP, hK, hD0⟩ := hv
  have hx := B.exec
  have hb := B.bytes
  have hr := B.returns
  have hts := atoms_spec (ws := gws yX2_writeFixup cX2_writeFixup 6 none) B.pre
  have hg : ∀ w ∈ gw, w.before _ s = true := fun w h => hts w (List.mem_cons_of_mem _ h)
  have hown : s.vm.findClass RX2 = some m.cls := findClass_of_methodNamed B.named
  have hlocks := B.notSynchronized
  subst hsz
  have hD := hD0.self (sz := s.heap.size)
  generalize hAe : va_A (zC dA ad σ) s.heap.size = A at hD ⊢
  have hA : ∀ q : Nat, s.heap.size ≤ q → A q := fun q h => by rw [← hAe]; exact Or.inr h
  have hS : va_S A s.heap s.heap [] := va_S.rf
  have hl := lv_entry ([.ref (ad 15 1000), .ref (ad g1 1000), .int (Int32.ofInt a2), .int (Int32.ofInt a3), .int (Int32.ofInt a4)]) (n := 6) (Nat.le_of_ble_eq_true rfl)
  rw [lg_entry_eq]
  generalize (lg_sl ([.ref (ad 15 1000), .ref (ad g1 1000), .int (Int32.ofInt a2), .int (Int32.ofInt a3), .int (Int32.ofInt a4)]) ++ List.replicate (6 - (lg_sl ([.ref (ad 15 1000), .ref (ad g1 1000), .int (Int32.ofInt a2), .int (Int32.ofInt a3), .int (Int32.ofInt a4)])).length) Slot.unset).toArray = ls at hl ⊢
  have hl : lv_has ls 6 [(0, .ref (ad 15 1000)), (1, .ref (ad g1 1000)), (2, .int (Int32.ofInt a2)), (3, .int (Int32.ofInt a3)), (4, .int (Int32.ofInt a4))] := hl
  have hret : ∀ (σ : ZS) (H : Heap) (locs : List Loc) (ls : Array Slot) (pc : Nat), Q σ → va_P D vwC (zC dA ad σ) H → va_D A (zC dA ad σ) → va_S A s.heap H locs → decode cX2_writeFixup pc = .ok (.return_, 1) → W p l e (gR 2 0 0) s m #[.ref (ad 15 1000), .ref (ad g1 1000), .int (Int32.ofInt a2), .int (Int32.ofInt a3), .int (Int32.ofInt a4)] below meth c H locs 0 0 (MQ below (va_Qv Q (gAt D dA A (zC dA ad)) A) #[.ref (ad 15 1000), .ref (ad g1 1000), .int (Int32.ofInt a2), .int (Int32.ofInt a3), .int (Int32.ofInt a4)] s 0 0 A) (F0 m pc ls []) := fun σ H locs ls pc hw hP hD hS hd => g_vret hx hb hr hlocks hK σ hP hD hS hw (Nat.le_of_ble_eq_true rfl) (Nat.le_of_ble_eq_true rfl) hd
  generalize MQ below (va_Qv Q (gAt D dA A (zC dA ad)) A) #[.ref (ad 15 1000), .ref (ad g1 1000), .int (Int32.ofInt a2), .int (Int32.ofInt a3), .int (Int32.ofInt a4)] s 0 0 A = QQ at hret ⊢
  unfold wpX2_writeFixup at hw
  refine lv_aload_n hx hb dX2_writeFixup_0 rfl (lv_at hl 0 rfl) ?_
  refine zgC15_0 hx hb hg hown hK hP q371 dX2_writeFixup_1 ?_
  refine zgC13_2 hx hb hg hown hK hP q262 dX2_writeFixup_4 ?_
  refine lv_iload_n hx hb dX2_writeFixup_7 rfl (lv_at hl 2 rfl) ?_
  obtain ⟨o1, hw⟩ := hw
  refine zlC13_2 hx hb o1 hK hP dX2_writeFixup_8 ?_
  refine lv_istore (lv' := [(5, .int (Int32.ofInt (zA σ 13 2 a2))), (0, .ref (ad 15 1000)), (1, .ref (ad g1 1000)), (2, .int (Int32.ofInt a2)), (3, .int (Int32.ofInt a3)), (4, .int (Int32.ofInt a4))]) hx hb dX2_writeFixup_9 hl (by decide) rfl (fun ls hl => ?_)
  refine lv_aload_n hx hb dX2_writeFixup_11 rfl (lv_at hl 2 rfl) ?_
  refine lv_iload hx hb dX2_writeFixup_12 (lv_at hl 5 rfl) ?_
  refine lv_aload_n hx hb dX2_writeFixup_14 rfl (lv_at hl 1 rfl) ?_
  refine zgC15_0 hx hb hg hown hK hP q371 dX2_writeFixup_15 ?_
  refine zgC13_5 hx hb hg hown hK hP q268 dX2_writeFixup_18 ?_
  refine lv_iload_n hx hb dX2_writeFixup_21 rfl (lv_at hl 3 rfl) ?_
  refine zlC13_5 hx hb o1 hK hP dX2_writeFixup_22 ?_
  refine lv_iload_n hx hb dX2_writeFixup_23 rfl (lv_at hl 4 rfl) ?_
  refine lv_aload_n hx hb dX2_writeFixup_24 rfl (lv_at hl 1 rfl) ?_
  refine zgC15_1 hx hb hg hown hK hP q372 dX2_writeFixup_25 ?_
  refine zgC11_2 hx hb hg hown hK hP q199 dX2_writeFixup_28 ?_
  refine lv_iload hx hb dX2_writeFixup_31 (lv_at hl 0 rfl) ?_
  obtain ⟨o2, hw⟩ := hw
  refine zlC11_2 hx hb o2 hK hP dX2_writeFixup_33 ?_
  refine lv_aload_n hx hb dX2_writeFixup_34 rfl (lv_at hl 1 rfl) ?_
  refine zgC15_1 hx hb hg hown hK hP q372 dX2_writeFixup_35 ?_
  refine zgC11_0 hx hb hg hown hK hP q195 dX2_writeFixup_38 ?_
  refine lv_iload hx hb dX2_writeFixup_41 (lv_at hl 0 rfl) ?_
  refine zlC11_0 hx hb o2 hK hP dX2_writeFixup_43 ?_
  obtain ⟨o3, hw⟩ := hw
  refine z_Vv (n := 5) (As := [.int (Int32.ofInt a4), .int (Int32.ofInt (zA σ 13 5 a2)), .int (Int32.ofInt a3), .int (Int32.ofInt (zA σ 11 2 (zA σ 13 2 a2))), .long (Int64.ofInt (zA σ 11 0 (zA σ 13 2 a2)))]) (rest := []) hx hb hml hg hown hK hP hD hS hA (kX6_addFixup l D dA ad g1 a4 (zA σ 13 5 a2) a3 (zA σ 11 2 (zA σ 13 2 a2)) (zA σ 11 0 (zA σ 13 2 a2)) σ _ _ hw) (zoCM o3) rfl q1235 q156 q1232 q1233 q1234 (by decide +kernel) ⟨(Nat.le_of_ble_eq_true rfl), (Nat.le_of_ble_eq_true rfl)⟩ rfl hl.1 rfl (Nat.le_of_ble_eq_true rfl) dX2_writeFixup_44 ⟨(Nat.le_of_ble_eq_true rfl), (Nat.le_of_ble_eq_true rfl)⟩ (fun σ5 H locs hw hP hD hS => ?_)
  exact hret σ5 _ _ _ _ hw hP hD hS dX2_writeFixup_47
def wpX2_writeOffset_39 (v1 v2 v3 s0 : Int) (σ : ZS) (Q : ZS → Prop) : Prop := (0 ≤ v2 ∧ v2 < 248) ∧ (0 ≤ v1 ∧ v1 ≤ 2) ∧ wpX6_putWord v1 (zA σ 13 5 v2) v3 ((zA σ 13 1 v2) + s0) σ (fun (σ4 : ZS) => wpX2_writeFixup v1 v2 v3 0 σ4 (fun (σ6 : ZS) => Q σ6))
def wpX2_writeOffset (g1 a2 a3 : Int) (σ : ZS) (Q : ZS → Prop) : Prop := (0 ≤ a2 ∧ a2 < 248) ∧ (0 ≤ (zA σ 13 2 a2) ∧ (zA σ 13 2 a2) < 240) ∧ (-2147483648 ≤ (zA σ 11 1 (zA σ 13 2 a2)) ∧ (zA σ 11 1 (zA σ 13 2 a2)) ≤ 2147483647) ∧ (¬ (zA σ 11 1 (zA σ 13 2 a2)) = 2 → wpX2_writeOffset_39 g1 a2 a3 0 σ Q) ∧ ((zA σ 11 1 (zA σ 13 2 a2)) = 2 → wpX2_writeOffset_39 g1 a2 a3 (zA σ 11 4 (zA σ 13 2 a2)) σ Q)
set_option maxHeartbeats 4000000 in
set_option maxRecDepth 100000 in
theorem kX2_writeOffset (l : Launch) (D : va_G) (dA : Nat → ClassId) (ad : Int → Nat → Nat) (g1 a2 a3 : Int) (σ : ZS) (Q : ZS → Prop) (sz : Nat) (hw : wpX2_writeOffset g1 a2 a3 σ Q) : Met l yX2_writeOffset (gws yX2_writeOffset cX2_writeOffset 6 none) (gR 3 0 0) (gPre D dA [.ref (ad 15 1000), .ref (ad g1 1000), .int (Int32.ofInt a2), .int (Int32.ofInt a3)] (zC dA ad σ) sz) (va_Qv Q (gAt D dA (va_A (zC dA ad σ) sz) (zC dA ad)) (va_A (zC dA ad σ) sz)) 0 0 (va_A (zC dA ad σ) sz) := by
  refine Met.ofW (cc := cX2_writeOffset) (maxL := 6) (ret := none) (by decide) rfl ?_
  intro p e s m args below meth c s₁ B hml hv
  obtain ⟨rfl, hsz, hP, hK, hD0⟩ := hv
  have hx := B.exec
  have hb := B.bytes
  have hr := B.returns
  have hts := atoms_spec (ws := gws yX2_writeOffset cX2_writeOffset 6 none) B.pre
  have hg : ∀ w ∈ gw, w.before _ s = true := fun w h => hts w (List.mem_cons_of_mem _ h)
  have hown : s.vm.findClass RX2 = some m.cls := findClass_of_methodNamed B.named
  have hlocks := B.notSynchronized
  subst hsz
  have hD := hD0.self (sz := s.heap.size)
  generalize hAe : va_A (zC dA ad σ) s.heap.size = A at hD ⊢
  have hA : ∀ q : Nat, s.heap.size ≤ q → A q := fun q h => by rw [← hAe]; exact Or.inr h
  have hS : va_S A s.heap s.heap [] := va_S.rf
  have hl := lv_entry ([.ref (ad 15 1000), .ref (ad g1 1000), .int (Int32.ofInt a2), .int (Int32.ofInt a3)]) (n := 6) (Nat.le_of_ble_eq_true rfl)
  rw [lg_entry_eq]
  generalize (lg_sl ([.ref (ad 15 1000), .ref (ad g1 1000), .int (Int32.ofInt a2), .int (Int32.ofInt a3)]) ++ List.replicate (6 - (lg_sl ([.ref (ad 15 1000), .ref (ad g1 1000), .int (Int32.ofInt a2), .int (Int32.ofInt a3)])).length) Slot.unset).toArray = ls at hl ⊢
  have hl : lv_has ls 6 [(0, .ref (ad 15 1000)), (1, .ref (ad g1 1000)), (2, .int (Int32.ofInt a2)), (3, .int (Int32.ofInt a3))] := hl
  have hret : ∀ (σ : ZS) (H : Heap) (locs : List Loc) (ls : Array Slot) (pc : Nat), Q σ → va_P D vwC (zC dA ad σ) H → va_D A (zC dA ad σ) → va_S A s.heap H locs → decode cX2_writeOffset pc = .ok (.return_, 1) → W p l e (gR 3 0 0) s m #[.ref (ad 15 1000), .ref (ad g1 1000), .int (Int32.ofInt a2), .int (Int32.ofInt a3)] below meth c H locs 0 0 (MQ below (va_Qv Q (gAt D dA A (zC dA ad)) A) #[.ref (ad 15 1000), .ref (ad g1 1000), .int (Int32.ofInt a2), .int (Int32.ofInt a3)] s 0 0 A) (F0 m pc ls []) := fun σ H locs ls pc hw hP hD hS hd => g_vret hx hb hr hlocks hK σ hP hD hS hw (Nat.le_of_ble_eq_true rfl) (Nat.le_of_ble_eq_true rfl) hd
  generalize MQ below (va_Qv Q (gAt D dA A (zC dA ad)) A) #[.ref (ad 15 1000), .ref (ad g1 1000), .int (Int32.ofInt a2), .int (Int32.ofInt a3)] s 0 0 A = QQ at hret ⊢
  have j39 : ∀ (v1 v2 v3 s0 : Int) (σ : ZS), ∀ (H : Heap) (locs : List Loc) (ls : Array Slot), va_P D vwC (zC dA ad σ) H → va_D A (zC dA ad σ) → va_S A s.heap H locs → lv_has ls 6 [(0, .ref (ad 15 1000)), (1, .ref (ad v1 1000)), (2, .int (Int32.ofInt v2)), (3, .int (Int32.ofInt v3))] → wpX2_writeOffset_39 v1 v2 v3 s0 σ Q → W p l e (gR 3 0 0) s m #[.ref (ad 15 1000), .ref (ad g1 1000), .int (Int32.ofInt a2), .int (Int32.ofInt a3)] below meth c H locs 0 0 QQ (F0 m 39 ls [.int (Int32.ofInt s0)]) := by
    intro v1 v2 v3 s0 σ H locs ls hP hD hS hl hw
    unfold wpX2_writeOffset_39 at hw
    refine lv_istore (lv' := [(5, .int (Int32.ofInt s0)), (0, .ref (ad 15 1000)), (1, .ref (ad v1 1000)), (2, .int (Int32.ofInt v2)), (3, .int (Int32.ofInt v3))]) hx hb dX2_writeOffset_39 hl (by decide) rfl (fun ls hl => ?_)
    refine lv_aload_n hx hb dX2_writeOffset_41 rfl (lv_at hl 2 rfl) ?_
    refine lv_aload_n hx hb dX2_writeOffset_42 rfl (lv_at hl 1 rfl) ?_
    refine zgC15_0 hx hb hg hown hK hP q371 dX2_writeOffset_43 ?_
    refine zgC13_5 hx hb hg hown hK hP q268 dX2_writeOffset_46 ?_
    refine lv_iload_n hx hb dX2_writeOffset_49 rfl (lv_at hl 3 rfl) ?_
    obtain ⟨o1, hw⟩ := hw
    refine zlC13_5 hx hb o1 hK hP dX2_writeOffset_50 ?_
    refine lv_iload_n hx hb dX2_writeOffset_51 rfl (lv_at hl 4 rfl) ?_
    refine lv_aload_n hx hb dX2_writeOffset_52 rfl (lv_at hl 1 rfl) ?_
    refine zgC15_0 hx hb hg hown hK hP q371 dX2_writeOffset_53 ?_
    refine zgC13_1 hx hb hg hown hK hP q260 dX2_writeOffset_56 ?_
    refine lv_iload_n hx hb dX2_writeOffset_59 rfl (lv_at hl 3 rfl) ?_
    refine zlC13_1 hx hb o1 hK hP dX2_writeOffset_60 ?_
    refine lv_iload hx hb dX2_writeOffset_61 (lv_at hl 0 rfl) ?_
    refine z_iadd hx hb dX2_writeOffset_63 ?_
    obtain ⟨o2, hw⟩ := hw
    refine z_Vv (n := 3) (As := [.int (Int32.ofInt (zA σ 13 5 v2)), .int (Int32.ofInt v3), .int (Int32.ofInt ((zA σ 13 1 v2) + s0))]) (rest := []) hx hb hml hg hown hK hP hD hS hA (kX6_putWord l D dA ad v1 (zA σ 13 5 v2) v3 ((zA σ 13 1 v2) + s0) σ _ _ hw) (zoCM o2) rfl q1222 q156 q1219 q1220 q1221 (by decide +kernel) ⟨(Nat.le_of_ble_eq_true rfl), (Nat.le_of_ble_eq_true rfl)⟩ rfl hl.1 rfl (Nat.le_of_ble_eq_true rfl) dX2_writeOffset_64 ⟨(Nat.le_of_ble_eq_true rfl), (Nat.le_of_ble_eq_true rfl)⟩ (fun σ4 H locs hw hP hD hS => ?_)
    refine lv_aload_n hx hb dX2_writeOffset_67 rfl (lv_at hl 1 rfl) ?_
    refine lv_aload_n hx hb dX2_writeOffset_68 rfl (lv_at hl 2 rfl) ?_
    refine lv_iload_n hx hb dX2_writeOffset_69 rfl (lv_at hl 3 rfl) ?_
    refine lv_iload_n hx hb dX2_writeOffset_70 rfl (lv_at hl 4 rfl) ?_
    refine lv_iconst (v := Int32.ofInt 0) hx hb dX2_writeOffset_71 (by decide) ?_
    refine z_Vv (n := 4) (As := [.ref (ad v1 1000), .int (Int32.ofInt v2), .int (Int32.ofInt v3), .int (Int32.ofInt 0)]) (rest := []) hx hb hml hg hown hK hP hD hS hA (kX2_writeFixup l D dA ad v1 v2 v3 0 σ4 _ _ hw) (zoC15) rfl q1231 q155 q1228 q1230 q40 (by decide +kernel) ⟨(Nat.le_of_ble_eq_true rfl), (Nat.le_of_ble_eq_true rfl)⟩ rfl hl.1 rfl (Nat.le_of_ble_eq_true rfl) dX2_writeOffset_72 ⟨(Nat.le_of_ble_eq_true rfl), (Nat.le_of_ble_eq_true rfl)⟩ (fun σ6 H locs hw hP hD hS => ?_)
    exact hret σ6 _ _ _ _ hw hP hD hS dX2_writeOffset_75
  unfold wpX2_writeOffset at hw
  refine lv_aload_n hx hb dX2_writeOffset_0 rfl (lv_at hl 0 rfl) ?_
  refine zgC15_0 hx hb hg hown hK hP q371 dX2_writeOffset_1 ?_
  refine zgC13_2 hx hb hg hown hK hP q262 dX2_writeOffset_4 ?_
  refine lv_iload_n hx hb dX2_writeOffset_7 rfl (lv_at hl 2 rfl) ?_
  obtain ⟨o7, hw⟩ := hw
  refine zlC13_2 hx hb o7 hK hP dX2_writeOffset_8 ?_
  refine lv_istore (lv' := [(4, .int (Int32.ofInt (zA σ 13 2 a2))), (0, .ref (ad 15 1000)), (1, .ref (ad g1 1000)), (2, .int (Int32.ofInt a2)), (3, .int (Int32.ofInt a3))]) hx hb dX2_writeOffset_9 hl (by decide) rfl (fun ls hl => ?_)
  refine lv_aload_n hx hb dX2_writeOffset_11 rfl (lv_at hl 1 rfl) ?_
  refine zgC15_1 hx hb hg hown hK hP q372 dX2_writeOffset_12 ?_
  refine zgC11_1 hx hb hg hown hK hP q197 dX2_writeOffset_15 ?_
  refine lv_iload hx hb dX2_writeOffset_18 (lv_at hl 0 rfl) ?_
  obtain ⟨o8, hw⟩ := hw
  refine zlC11_1 hx hb o8 hK hP dX2_writeOffset_20 ?_
  refine lv_iconst (v := Int32.ofInt 2) hx hb dX2_writeOffset_21 (by decide) ?_
  obtain ⟨o9, hw⟩ := hw
  refine z_icmp_ne (tgt := 38) hx hb o9 (by decide) dX2_writeOffset_22 (by decide) (fun k10 => ?_) (fun k10 => ?_)
  · replace hw := hw.1 k10
    refine lv_iconst (v := Int32.ofInt 0) hx hb dX2_writeOffset_38 (by decide) ?_
    exact j39 g1 a2 a3 0 σ _ _ _ hP hD hS (lv_sub hl [1, 2, 3, 4] rfl) hw
  · replace hw := hw.2 k10
    refine lv_aload_n hx hb dX2_writeOffset_25 rfl (lv_at hl 1 rfl) ?_
    refine zgC15_1 hx hb hg hown hK hP q372 dX2_writeOffset_26 ?_
    refine zgC11_4 hx hb hg hown hK hP q203 dX2_writeOffset_29 ?_
    refine lv_iload hx hb dX2_writeOffset_32 (lv_at hl 0 rfl) ?_
    refine zlC11_4 hx hb o8 hK hP dX2_writeOffset_34 ?_
    refine lv_goto (tgt := 39) hx hb dX2_writeOffset_35 (by decide) ?_
    exact j39 g1 a2 a3 (zA σ 11 4 (zA σ 13 2 a2)) σ _ _ _ hP hD hS (lv_sub hl [1, 2, 3, 4] rfl) hw
def wpX2_writeNear_50 (σ : ZS) (Q : ZS → Prop) : Prop := Q σ
def wpX2_writeNear (g1 a2 : Int) (σ : ZS) (Q : ZS → Prop) : Prop := (0 ≤ a2 ∧ a2 < 248) ∧ wpX2_isExtern a2 σ (fun (x2 : Int) (σ3 : ZS) => (-2147483648 ≤ x2 ∧ x2 ≤ 2147483647) ∧ (x2 = 0 → wpX2_distance a2 σ3 (fun (x6 : Int) (σ7 : ZS) => (0 ≤ g1 ∧ g1 ≤ 2) ∧ wpX6_putWord g1 (zA σ3 13 5 a2) ((zA σ 13 6 a2) + 1) x6 σ7 (fun (σ10 : ZS) => wpX2_writeNear_50 σ10 Q))) ∧ (¬ x2 = 0 → wpX2_writeFixup g1 a2 ((zA σ 13 6 a2) + 1) 2 σ3 (fun (σ12 : ZS) => wpX2_writeNear_50 σ12 Q)))
set_option maxHeartbeats 4000000 in
set_option maxRecDepth 100000 in
theorem kX2_writeNear (l : Launch) (D : va_G) (dA : Nat → ClassId) (ad : Int → Nat → Nat) (g1 a2 : Int) (σ : ZS) (Q : ZS → Prop) (sz : Nat) (hw : wpX2_writeNear g1 a2 σ Q) : Met l yX2_writeNear (gws yX2_writeNear cX2_writeNear 4 none) (gR 3 0 0) (gPre D dA [.ref (ad 15 1000), .ref (ad g1 1000), .int (Int32.ofInt a2)] (zC dA ad σ) sz) (va_Qv Q (gAt D dA (va_A (zC dA ad σ) sz) (zC dA ad)) (va_A (zC dA ad σ) sz)) 0 0 (va_A (zC dA ad σ) sz) := by
  refine Met.ofW (cc := cX2_writeNear) (maxL := 4) (ret := none) (by decide) rfl ?_
  intro p e s m args below meth c s₁ B hml hv
  obtain ⟨rfl, hsz, hP, hK, hD0⟩ := hv
  have hx := B.exec
  have hb := B.bytes
  have hr := B.returns
  have hts := atoms_spec (ws := gws yX2_writeNear cX2_writeNear 4 none) B.pre
  have hg : ∀ w ∈ gw, w.before _ s = true := fun w h => hts w (List.mem_cons_of_mem _ h)
  have hown : s.vm.findClass RX2 = some m.cls := findClass_of_methodNamed B.named
  have hlocks := B.notSynchronized
  subst hsz
  have hD := hD0.self (sz := s.heap.size)
  generalize hAe : va_A (zC dA ad σ) s.heap.size = A at hD ⊢
  have hA : ∀ q : Nat, s.heap.size ≤ q → A q := fun q h => by rw [← hAe]; exact Or.inr h
  have hS : va_S A s.heap s.heap [] := va_S.rf
  have hl := lv_entry ([.ref (ad 15 1000), .ref (ad g1 1000), .int (Int32.ofInt a2)]) (n := 4) (Nat.le_of_ble_eq_true rfl)
  rw [lg_entry_eq]
  generalize (lg_sl ([.ref (ad 15 1000), .ref (ad g1 1000), .int (Int32.ofInt a2)]) ++ List.replicate (4 - (lg_sl ([.ref (ad 15 1000), .ref (ad g1 1000), .int (Int32.ofInt a2)])).length) Slot.unset).toArray = ls at hl ⊢
  have hl : lv_has ls 4 [(0, .ref (ad 15 1000)), (1, .ref (ad g1 1000)), (2, .int (Int32.ofInt a2))] := hl
  have hret : ∀ (σ : ZS) (H : Heap) (locs : List Loc) (ls : Array Slot) (pc : Nat), Q σ → va_P D vwC (zC dA ad σ) H → va_D A (zC dA ad σ) → va_S A s.heap H locs → decode cX2_writeNear pc = .ok (.return_, 1) → W p l e (gR 3 0 0) s m #[.ref (ad 15 1000), .ref (ad g1 1000), .int (Int32.ofInt a2)] below meth c H locs 0 0 (MQ below (va_Qv Q (gAt D dA A (zC dA ad)) A) #[.ref (ad 15 1000), .ref (ad g1 1000), .int (Int32.ofInt a2)] s 0 0 A) (F0 m pc ls []) := fun σ H locs ls pc hw hP hD hS hd => g_vret hx hb hr hlocks hK σ hP hD hS hw (Nat.le_of_ble_eq_true rfl) (Nat.le_of_ble_eq_true rfl) hd
  generalize MQ below (va_Qv Q (gAt D dA A (zC dA ad)) A) #[.ref (ad 15 1000), .ref (ad g1 1000), .int (Int32.ofInt a2)] s 0 0 A = QQ at hret ⊢
  have j50 : ∀ (σ : ZS), ∀ (H : Heap) (locs : List Loc) (ls : Array Slot), va_P D vwC (zC dA ad σ) H → va_D A (zC dA ad σ) → va_S A s.heap H locs → lv_has ls 4 [] → wpX2_writeNear_50 σ Q → W p l e (gR 3 0 0) s m #[.ref (ad 15 1000), .ref (ad g1 1000), .int (Int32.ofInt a2)] below meth c H locs 0 0 QQ (F0 m 50 ls []) := by
    intro σ H locs ls hP hD hS hl hw
    unfold wpX2_writeNear_50 at hw
    exact hret σ _ _ _ _ hw hP hD hS dX2_writeNear_50
  unfold wpX2_writeNear at hw
  refine lv_aload_n hx hb dX2_writeNear_0 rfl (lv_at hl 0 rfl) ?_
  refine zgC15_0 hx hb hg hown hK hP q371 dX2_writeNear_1 ?_
  refine zgC13_6 hx hb hg hown hK hP q270 dX2_writeNear_4 ?_
  refine lv_iload_n hx hb dX2_writeNear_7 rfl (lv_at hl 2 rfl) ?_
  obtain ⟨o1, hw⟩ := hw
  refine zlC13_6 hx hb o1 hK hP dX2_writeNear_8 ?_
  refine lv_iconst (v := Int32.ofInt 1) hx hb dX2_writeNear_9 (by decide) ?_
  refine z_iadd hx hb dX2_writeNear_10 ?_
  refine lv_istore_n (lv' := [(3, .int (Int32.ofInt ((zA σ 13 6 a2) + 1))), (0, .ref (ad 15 1000)), (1, .ref (ad g1 1000)), (2, .int (Int32.ofInt a2))]) hx hb dX2_writeNear_11 rfl hl (by decide) rfl (fun ls hl => ?_)
  refine lv_aload_n hx hb dX2_writeNear_12 rfl (lv_at hl 1 rfl) ?_
  refine lv_iload_n hx hb dX2_writeNear_13 rfl (lv_at hl 3 rfl) ?_
  refine z_Vi (n := 1) (As := [.int (Int32.ofInt a2)]) (rest := []) hx hb hml hg hown hK hP hD hS hA (kX2_isExtern l D dA ad a2 σ _ _ hw) (zoC15) rfl q1176 q155 q1173 q1175 q36 (by decide +kernel) ⟨(Nat.le_of_ble_eq_true rfl), (Nat.le_of_ble_eq_true rfl)⟩ rfl hl.1 rfl (Nat.le_of_ble_eq_true rfl) dX2_writeNear_14 ⟨(Nat.le_of_ble_eq_true rfl), (Nat.le_of_ble_eq_true rfl)⟩ (fun x2 σ3 H locs hw hP hD hS => ?_)
  obtain ⟨o4, hw⟩ := hw
  refine z_if_eq (tgt := 31) hx hb o4 dX2_writeNear_17 (by decide) (fun k5 => ?_) (fun k5 => ?_)
  · replace hw := hw.1 k5
    refine lv_aload_n hx hb dX2_writeNear_31 rfl (lv_at hl 2 rfl) ?_
    refine lv_aload_n hx hb dX2_writeNear_32 rfl (lv_at hl 1 rfl) ?_
    refine zgC15_0 hx hb hg hown hK hP q371 dX2_writeNear_33 ?_
    refine zgC13_5 hx hb hg hown hK hP q268 dX2_writeNear_36 ?_
    refine lv_iload_n hx hb dX2_writeNear_39 rfl (lv_at hl 3 rfl) ?_
    refine zlC13_5 hx hb o1 hK hP dX2_writeNear_40 ?_
    refine lv_iload_n hx hb dX2_writeNear_41 rfl (lv_at hl 0 rfl) ?_
    refine lv_aload_n hx hb dX2_writeNear_42 rfl (lv_at hl 1 rfl) ?_
    refine lv_iload_n hx hb dX2_writeNear_43 rfl (lv_at hl 3 rfl) ?_
    refine z_Vi (n := 1) (As := [.int (Int32.ofInt a2)]) (rest := [.int (Int32.ofInt ((zA σ 13 6 a2) + 1)), .int (Int32.ofInt (zA σ3 13 5 a2)), .ref (ad g1 1000)]) hx hb hml hg hown hK hP hD hS hA (kX2_distance l D dA ad a2 σ3 _ _ hw) (zoC15) rfl q1180 q155 q1177 q1179 q37 (by decide +kernel) ⟨(Nat.le_of_ble_eq_true rfl), (Nat.le_of_ble_eq_true rfl)⟩ rfl hl.1 rfl (Nat.le_of_ble_eq_true rfl) dX2_writeNear_44 ⟨(Nat.le_of_ble_eq_true rfl), (Nat.le_of_ble_eq_true rfl)⟩ (fun x6 σ7 H locs hw hP hD hS => ?_)
    obtain ⟨o8, hw⟩ := hw
    refine z_Vv (n := 3) (As := [.int (Int32.ofInt (zA σ3 13 5 a2)), .int (Int32.ofInt ((zA σ 13 6 a2) + 1)), .int (Int32.ofInt x6)]) (rest := []) hx hb hml hg hown hK hP hD hS hA (kX6_putWord l D dA ad g1 (zA σ3 13 5 a2) ((zA σ 13 6 a2) + 1) x6 σ7 _ _ hw) (zoCM o8) rfl q1222 q156 q1219 q1220 q1221 (by decide +kernel) ⟨(Nat.le_of_ble_eq_true rfl), (Nat.le_of_ble_eq_true rfl)⟩ rfl hl.1 rfl (Nat.le_of_ble_eq_true rfl) dX2_writeNear_47 ⟨(Nat.le_of_ble_eq_true rfl), (Nat.le_of_ble_eq_true rfl)⟩ (fun σ10 H locs hw hP hD hS => ?_)
    exact j50 σ10 _ _ _ hP hD hS (lv_sub hl [] rfl) hw
  · replace hw := hw.2 k5
    refine lv_aload_n hx hb dX2_writeNear_20 rfl (lv_at hl 1 rfl) ?_
    refine lv_aload_n hx hb dX2_writeNear_21 rfl (lv_at hl 2 rfl) ?_
    refine lv_iload_n hx hb dX2_writeNear_22 rfl (lv_at hl 3 rfl) ?_
    refine lv_iload_n hx hb dX2_writeNear_23 rfl (lv_at hl 0 rfl) ?_
    refine lv_iconst (v := Int32.ofInt 2) hx hb dX2_writeNear_24 (by decide) ?_
    refine z_Vv (n := 4) (As := [.ref (ad g1 1000), .int (Int32.ofInt a2), .int (Int32.ofInt ((zA σ 13 6 a2) + 1)), .int (Int32.ofInt 2)]) (rest := []) hx hb hml hg hown hK hP hD hS hA (kX2_writeFixup l D dA ad g1 a2 ((zA σ 13 6 a2) + 1) 2 σ3 _ _ hw) (zoC15) rfl q1231 q155 q1228 q1230 q40 (by decide +kernel) ⟨(Nat.le_of_ble_eq_true rfl), (Nat.le_of_ble_eq_true rfl)⟩ rfl hl.1 rfl (Nat.le_of_ble_eq_true rfl) dX2_writeNear_25 ⟨(Nat.le_of_ble_eq_true rfl), (Nat.le_of_ble_eq_true rfl)⟩ (fun σ12 H locs hw hP hD hS => ?_)
    refine lv_goto (tgt := 50) hx hb dX2_writeNear_28 (by decide) ?_
    exact j50 σ12 _ _ _ hP hD hS (lv_sub hl [] rfl) hw
def wpX2_writeJump_77 (σ : ZS) (Q : ZS → Prop) : Prop := Q σ
def wpX2_writeJump (g1 a2 : Int) (σ : ZS) (Q : ZS → Prop) : Prop := (0 ≤ a2 ∧ a2 < 248) ∧ (-2147483648 ≤ (zA σ 13 1 a2) ∧ (zA σ 13 1 a2) ≤ 2147483647) ∧ (¬ (zA σ 13 1 a2) = 3 → (0 ≤ g1 ∧ g1 ≤ 2) ∧ wpX6_putByte g1 (zA σ 13 5 a2) (zA σ 13 6 a2) 235 σ (fun (σ6 : ZS) => wpX2_distance a2 σ6 (fun (x7 : Int) (σ8 : ZS) => wpX6_putByte g1 (zA σ 13 5 a2) ((zA σ 13 6 a2) + 1) x7 σ8 (fun (σ10 : ZS) => wpX2_writeJump_77 σ10 Q)))) ∧ ((zA σ 13 1 a2) = 3 → (0 ≤ g1 ∧ g1 ≤ 2) ∧ wpX6_putByte g1 (zA σ 13 5 a2) (zA σ 13 6 a2) 233 σ (fun (σ13 : ZS) => wpX2_writeNear g1 a2 σ13 (fun (σ15 : ZS) => wpX2_writeJump_77 σ15 Q)))
set_option maxHeartbeats 4000000 in
set_option maxRecDepth 100000 in
theorem kX2_writeJump (l : Launch) (D : va_G) (dA : Nat → ClassId) (ad : Int → Nat → Nat) (g1 a2 : Int) (σ : ZS) (Q : ZS → Prop) (sz : Nat) (hw : wpX2_writeJump g1 a2 σ Q) : Met l yX2_writeJump (gws yX2_writeJump cX2_writeJump 5 none) (gR 4 0 0) (gPre D dA [.ref (ad 15 1000), .ref (ad g1 1000), .int (Int32.ofInt a2)] (zC dA ad σ) sz) (va_Qv Q (gAt D dA (va_A (zC dA ad σ) sz) (zC dA ad)) (va_A (zC dA ad σ) sz)) 0 0 (va_A (zC dA ad σ) sz) := by
  refine Met.ofW (cc := cX2_writeJump) (maxL := 5) (ret := none) (by decide) rfl ?_
  intro p e s m args below meth c s₁ B hml hv
  obtain ⟨rfl, hsz, hP, hK, hD0⟩ := hv
  have hx := B.exec
  have hb := B.bytes
  have hr := B.returns
  have hts := atoms_spec (ws := gws yX2_writeJump cX2_writeJump 5 none) B.pre
  have hg : ∀ w ∈ gw, w.before _ s = true := fun w h => hts w (List.mem_cons_of_mem _ h)
  have hown : s.vm.findClass RX2 = some m.cls := findClass_of_methodNamed B.named
  have hlocks := B.notSynchronized
  subst hsz
  have hD := hD0.self (sz := s.heap.size)
  generalize hAe : va_A (zC dA ad σ) s.heap.size = A at hD ⊢
  have hA : ∀ q : Nat, s.heap.size ≤ q → A q := fun q h => by rw [← hAe]; exact Or.inr h
  have hS : va_S A s.heap s.heap [] := va_S.rf
  have hl := lv_entry ([.ref (ad 15 1000), .ref (ad g1 1000), .int (Int32.ofInt a2)]) (n := 5) (Nat.le_of_ble_eq_true rfl)
  rw [lg_entry_eq]
  generalize (lg_sl ([.ref (ad 15 1000), .ref (ad g1 1000), .int (Int32.ofInt a2)]) ++ List.replicate (5 - (lg_sl ([.ref (ad 15 1000), .ref (ad g1 1000), .int (Int32.ofInt a2)])).length) Slot.unset).toArray = ls at hl ⊢
  have hl : lv_has ls 5 [(0, .ref (ad 15 1000)), (1, .ref (ad g1 1000)), (2, .int (Int32.ofInt a2))] := hl
  have hret : ∀ (σ : ZS) (H : Heap) (locs : List Loc) (ls : Array Slot) (pc : Nat), Q σ → va_P D vwC (zC dA ad σ) H → va_D A (zC dA ad σ) → va_S A s.heap H locs → decode cX2_writeJump pc = .ok (.return_, 1) → W p l e (gR 4 0 0) s m #[.ref (ad 15 1000), .ref (ad g1 1000), .int (Int32.ofInt a2)] below meth c H locs 0 0 (MQ below (va_Qv Q (gAt D dA A (zC dA ad)) A) #[.ref (ad 15 1000), .ref (ad g1 1000), .int (Int32.ofInt a2)] s 0 0 A) (F0 m pc ls []) := fun σ H locs ls pc hw hP hD hS hd => g_vret hx hb hr hlocks hK σ hP hD hS hw (Nat.le_of_ble_eq_true rfl) (Nat.le_of_ble_eq_true rfl) hd
  generalize MQ below (va_Qv Q (gAt D dA A (zC dA ad)) A) #[.ref (ad 15 1000), .ref (ad g1 1000), .int (Int32.ofInt a2)] s 0 0 A = QQ at hret ⊢
  have j77 : ∀ (σ : ZS), ∀ (H : Heap) (locs : List Loc) (ls : Array Slot), va_P D vwC (zC dA ad σ) H → va_D A (zC dA ad σ) → va_S A s.heap H locs → lv_has ls 5 [] → wpX2_writeJump_77 σ Q → W p l e (gR 4 0 0) s m #[.ref (ad 15 1000), .ref (ad g1 1000), .int (Int32.ofInt a2)] below meth c H locs 0 0 QQ (F0 m 77 ls []) := by
    intro σ H locs ls hP hD hS hl hw
    unfold wpX2_writeJump_77 at hw
    exact hret σ _ _ _ _ hw hP hD hS dX2_writeJump_77
  unfold wpX2_writeJump at hw
  refine lv_aload_n hx hb dX2_writeJump_0 rfl (lv_at hl 0 rfl) ?_
  refine zgC15_0 hx hb hg hown hK hP q371 dX2_writeJump_1 ?_
  refine zgC13_5 hx hb hg hown hK hP q268 dX2_writeJump_4 ?_
  refine lv_iload_n hx hb dX2_writeJump_7 rfl (lv_at hl 2 rfl) ?_
  obtain ⟨o1, hw⟩ := hw
  refine zlC13_5 hx hb o1 hK hP dX2_writeJump_8 ?_
  refine lv_istore_n (lv' := [(3, .int (Int32.ofInt (zA σ 13 5 a2))), (0, .ref (ad 15 1000)), (1, .ref (ad g1 1000)), (2, .int (Int32.ofInt a2))]) hx hb dX2_writeJump_9 rfl hl (by decide) rfl (fun ls hl => ?_)
  refine lv_aload_n hx hb dX2_writeJump_10 rfl (lv_at hl 1 rfl) ?_
  refine zgC15_0 hx hb hg hown hK hP q371 dX2_writeJump_11 ?_
  refine zgC13_6 hx hb hg hown hK hP q270 dX2_writeJump_14 ?_
  refine lv_iload_n hx hb dX2_writeJump_17 rfl (lv_at hl 3 rfl) ?_
  refine zlC13_6 hx hb o1 hK hP dX2_writeJump_18 ?_
  refine lv_istore (lv' := [(4, .int (Int32.ofInt (zA σ 13 6 a2))), (3, .int (Int32.ofInt (zA σ 13 5 a2))), (0, .ref (ad 15 1000)), (1, .ref (ad g1 1000)), (2, .int (Int32.ofInt a2))]) hx hb dX2_writeJump_19 hl (by decide) rfl (fun ls hl => ?_)
  refine lv_aload_n hx hb dX2_writeJump_21 rfl (lv_at hl 2 rfl) ?_
  refine zgC15_0 hx hb hg hown hK hP q371 dX2_writeJump_22 ?_
  refine zgC13_1 hx hb hg hown hK hP q260 dX2_writeJump_25 ?_
  refine lv_iload_n hx hb dX2_writeJump_28 rfl (lv_at hl 4 rfl) ?_
  refine zlC13_1 hx hb o1 hK hP dX2_writeJump_29 ?_
  refine lv_iconst (v := Int32.ofInt 3) hx hb dX2_writeJump_30 (by decide) ?_
  obtain ⟨o2, hw⟩ := hw
  refine z_icmp_ne (tgt := 53) hx hb o2 (by decide) dX2_writeJump_31 (by decide) (fun k3 => ?_) (fun k3 => ?_)
  · replace hw := hw.1 k3
    refine lv_aload_n hx hb dX2_writeJump_53 rfl (lv_at hl 3 rfl) ?_
    refine lv_iload_n hx hb dX2_writeJump_54 rfl (lv_at hl 1 rfl) ?_
    refine lv_iload hx hb dX2_writeJump_55 (lv_at hl 0 rfl) ?_
    refine lv_sipush (v := Int32.ofInt 235) hx hb dX2_writeJump_57 (by decide) ?_
    obtain ⟨o4, hw⟩ := hw
    refine z_Vv (n := 3) (As := [.int (Int32.ofInt (zA σ 13 5 a2)), .int (Int32.ofInt (zA σ 13 6 a2)), .int (Int32.ofInt 235)]) (rest := []) hx hb hml hg hown hK hP hD hS hA (kX6_putByte l D dA ad g1 (zA σ 13 5 a2) (zA σ 13 6 a2) 235 σ _ _ hw) (zoCM o4) rfl q1218 q156 q1215 q1216 q1217 (by decide +kernel) ⟨(Nat.le_of_ble_eq_true rfl), (Nat.le_of_ble_eq_true rfl)⟩ rfl hl.1 rfl (Nat.le_of_ble_eq_true rfl) dX2_writeJump_60 ⟨(Nat.le_of_ble_eq_true rfl), (Nat.le_of_ble_eq_true rfl)⟩ (fun σ6 H locs hw hP hD hS => ?_)
    refine lv_aload_n hx hb dX2_writeJump_63 rfl (lv_at hl 3 rfl) ?_
    refine lv_iload_n hx hb dX2_writeJump_64 rfl (lv_at hl 1 rfl) ?_
    refine lv_iload hx hb dX2_writeJump_65 (lv_at hl 0 rfl) ?_
    refine lv_iconst (v := Int32.ofInt 1) hx hb dX2_writeJump_67 (by decide) ?_
    refine z_iadd hx hb dX2_writeJump_68 ?_
    refine lv_aload_n hx hb dX2_writeJump_69 rfl (lv_at hl 2 rfl) ?_
    refine lv_iload_n hx hb dX2_writeJump_70 rfl (lv_at hl 4 rfl) ?_
    refine z_Vi (n := 1) (As := [.int (Int32.ofInt a2)]) (rest := [.int (Int32.ofInt ((zA σ 13 6 a2) + 1)), .int (Int32.ofInt (zA σ 13 5 a2)), .ref (ad g1 1000)]) hx hb hml hg hown hK hP hD hS hA (kX2_distance l D dA ad a2 σ6 _ _ hw) (zoC15) rfl q1180 q155 q1177 q1179 q37 (by decide +kernel) ⟨(Nat.le_of_ble_eq_true rfl), (Nat.le_of_ble_eq_true rfl)⟩ rfl hl.1 rfl (Nat.le_of_ble_eq_true rfl) dX2_writeJump_71 ⟨(Nat.le_of_ble_eq_true rfl), (Nat.le_of_ble_eq_true rfl)⟩ (fun x7 σ8 H locs hw hP hD hS => ?_)
    refine z_Vv (n := 3) (As := [.int (Int32.ofInt (zA σ 13 5 a2)), .int (Int32.ofInt ((zA σ 13 6 a2) + 1)), .int (Int32.ofInt x7)]) (rest := []) hx hb hml hg hown hK hP hD hS hA (kX6_putByte l D dA ad g1 (zA σ 13 5 a2) ((zA σ 13 6 a2) + 1) x7 σ8 _ _ hw) (zoCM o4) rfl q1218 q156 q1215 q1216 q1217 (by decide +kernel) ⟨(Nat.le_of_ble_eq_true rfl), (Nat.le_of_ble_eq_true rfl)⟩ rfl hl.1 rfl (Nat.le_of_ble_eq_true rfl) dX2_writeJump_74 ⟨(Nat.le_of_ble_eq_true rfl), (Nat.le_of_ble_eq_true rfl)⟩ (fun σ10 H locs hw hP hD hS => ?_)
    exact j77 σ10 _ _ _ hP hD hS (lv_sub hl [] rfl) hw
  · replace hw := hw.2 k3
    refine lv_aload_n hx hb dX2_writeJump_34 rfl (lv_at hl 3 rfl) ?_
    refine lv_iload_n hx hb dX2_writeJump_35 rfl (lv_at hl 1 rfl) ?_
    refine lv_iload hx hb dX2_writeJump_36 (lv_at hl 0 rfl) ?_
    refine lv_sipush (v := Int32.ofInt 233) hx hb dX2_writeJump_38 (by decide) ?_
    obtain ⟨o11, hw⟩ := hw
    refine z_Vv (n := 3) (As := [.int (Int32.ofInt (zA σ 13 5 a2)), .int (Int32.ofInt (zA σ 13 6 a2)), .int (Int32.ofInt 233)]) (rest := []) hx hb hml hg hown hK hP hD hS hA (kX6_putByte l D dA ad g1 (zA σ 13 5 a2) (zA σ 13 6 a2) 233 σ _ _ hw) (zoCM o11) rfl q1218 q156 q1215 q1216 q1217 (by decide +kernel) ⟨(Nat.le_of_ble_eq_true rfl), (Nat.le_of_ble_eq_true rfl)⟩ rfl hl.1 rfl (Nat.le_of_ble_eq_true rfl) dX2_writeJump_41 ⟨(Nat.le_of_ble_eq_true rfl), (Nat.le_of_ble_eq_true rfl)⟩ (fun σ13 H locs hw hP hD hS => ?_)
    refine lv_aload_n hx hb dX2_writeJump_44 rfl (lv_at hl 2 rfl) ?_
    refine lv_aload_n hx hb dX2_writeJump_45 rfl (lv_at hl 3 rfl) ?_
    refine lv_iload_n hx hb dX2_writeJump_46 rfl (lv_at hl 4 rfl) ?_
    refine z_Vv (n := 2) (As := [.ref (ad g1 1000), .int (Int32.ofInt a2)]) (rest := []) hx hb hml hg hown hK hP hD hS hA (kX2_writeNear l D dA ad g1 a2 σ13 _ _ hw) (zoC15) rfl q1243 q155 q1240 q1242 q42 (by decide +kernel) ⟨(Nat.le_of_ble_eq_true rfl), (Nat.le_of_ble_eq_true rfl)⟩ rfl hl.1 rfl (Nat.le_of_ble_eq_true rfl) dX2_writeJump_47 ⟨(Nat.le_of_ble_eq_true rfl), (Nat.le_of_ble_eq_true rfl)⟩ (fun σ15 H locs hw hP hD hS => ?_)
    refine lv_goto (tgt := 77) hx hb dX2_writeJump_50 (by decide) ?_
    exact j77 σ15 _ _ _ hP hD hS (lv_sub hl [] rfl) hw
def wpX2_writeItem_227 (σ : ZS) (Q : ZS → Prop) : Prop := Q σ
def wpX2_writeItem (g1 a2 : Int) (σ : ZS) (Q : ZS → Prop) : Prop := (0 ≤ a2 ∧ a2 < 248) ∧ (-2147483648 ≤ (zA σ 13 0 a2) ∧ (zA σ 13 0 a2) ≤ 2147483647) ∧ ((zA σ 13 0 a2) = 4 → (0 ≤ g1 ∧ g1 ≤ 2) ∧ wpX6_putByte g1 (zA σ 13 5 a2) (zA σ 13 6 a2) (zA σ 13 1 a2) σ (fun (σ7 : ZS) => wpX2_writeItem_227 σ7 Q)) ∧ (¬ (zA σ 13 0 a2) = 4 → ((zA σ 13 0 a2) = 5 → wpX2_writeItem_227 σ Q) ∧ (¬ (zA σ 13 0 a2) = 5 → ((zA σ 13 0 a2) = 6 → (0 ≤ g1 ∧ g1 ≤ 2) ∧ wpX6_putWord g1 (zA σ 13 5 a2) (zA σ 13 6 a2) (zA σ 13 1 a2) σ (fun (σ12 : ZS) => wpX2_writeItem_227 σ12 Q)) ∧ (¬ (zA σ 13 0 a2) = 6 → ((zA σ 13 0 a2) = 7 → wpX2_writeOffset g1 a2 (zA σ 13 6 a2) σ (fun (σ15 : ZS) => wpX2_writeItem_227 σ15 Q)) ∧ (¬ (zA σ 13 0 a2) = 7 → ((zA σ 13 0 a2) = 8 → wpX2_writeFixup g1 a2 (zA σ 13 6 a2) 1 σ (fun (σ18 : ZS) => wpX2_writeItem_227 σ18 Q)) ∧ (¬ (zA σ 13 0 a2) = 8 → ((zA σ 13 0 a2) = 9 → wpX2_writeJump g1 a2 σ (fun (σ21 : ZS) => wpX2_writeItem_227 σ21 Q)) ∧ (¬ (zA σ 13 0 a2) = 9 → ((zA σ 13 0 a2) = 10 → (0 ≤ g1 ∧ g1 ≤ 2) ∧ wpX6_putByte g1 (zA σ 13 5 a2) (zA σ 13 6 a2) (zA σ 13 1 a2) σ (fun (σ25 : ZS) => wpX2_distance a2 σ25 (fun (x26 : Int) (σ27 : ZS) => wpX6_putByte g1 (zA σ 13 5 a2) ((zA σ 13 6 a2) + 1) x26 σ27 (fun (σ29 : ZS) => wpX2_writeItem_227 σ29 Q)))) ∧ (¬ (zA σ 13 0 a2) = 10 → ((zA σ 13 0 a2) = 11 → (0 ≤ g1 ∧ g1 ≤ 2) ∧ wpX6_putByte g1 (zA σ 13 5 a2) (zA σ 13 6 a2) 232 σ (fun (σ33 : ZS) => wpX2_writeNear g1 a2 σ33 (fun (σ35 : ZS) => wpX2_writeItem_227 σ35 Q))) ∧ (¬ (zA σ 13 0 a2) = 11 → ((zA σ 13 0 a2) = 12 → (0 ≤ g1 ∧ g1 ≤ 2) ∧ wpX6_putByte g1 (zA σ 13 5 a2) (zA σ 13 6 a2) 154 σ (fun (σ39 : ZS) => wpX2_writeOffset g1 a2 ((zA σ 13 6 a2) + 1) σ39 (fun (σ41 : ZS) => wpX2_writeFixup g1 a2 ((zA σ 13 6 a2) + 3) 1 σ41 (fun (σ43 : ZS) => wpX2_writeItem_227 σ43 Q)))) ∧ (¬ (zA σ 13 0 a2) = 12 → wpX2_writeItem_227 σ Q)))))))))
set_option maxHeartbeats 4000000 in
set_option maxRecDepth 100000 in
theorem kX2_writeItem (l : Launch) (D : va_G) (dA : Nat → ClassId) (ad : Int → Nat → Nat) (g1 a2 : Int) (σ : ZS) (Q : ZS → Prop) (sz : Nat) (hw : wpX2_writeItem g1 a2 σ Q) : Met l yX2_writeItem (gws yX2_writeItem cX2_writeItem 6 none) (gR 5 0 0) (gPre D dA [.ref (ad 15 1000), .ref (ad g1 1000), .int (Int32.ofInt a2)] (zC dA ad σ) sz) (va_Qv Q (gAt D dA (va_A (zC dA ad σ) sz) (zC dA ad)) (va_A (zC dA ad σ) sz)) 0 0 (va_A (zC dA ad σ) sz) := by
  refine Met.ofW (cc := cX2_writeItem) (maxL := 6) (ret := none) (by decide) rfl ?_
  intro p e s m args below meth c s₁ B hml hv
  obtain ⟨rfl, hsz, hP, hK, hD0⟩ := hv
  have hx := B.exec
  have hb := B.bytes
  have hr := B.returns
  have hts := atoms_spec (ws := gws yX2_writeItem cX2_writeItem 6 none) B.pre
  have hg : ∀ w ∈ gw, w.before _ s = true := fun w h => hts w (List.mem_cons_of_mem _ h)
  have hown : s.vm.findClass RX2 = some m.cls := findClass_of_methodNamed B.named
  have hlocks := B.notSynchronized
  subst hsz
  have hD := hD0.self (sz := s.heap.size)
  generalize hAe : va_A (zC dA ad σ) s.heap.size = A at hD ⊢
  have hA : ∀ q : Nat, s.heap.size ≤ q → A q := fun q h => by rw [← hAe]; exact Or.inr h
  have hS : va_S A s.heap s.heap [] := va_S.rf
  have hl := lv_entry ([.ref (ad 15 1000), .ref (ad g1 1000), .int (Int32.ofInt a2)]) (n := 6) (Nat.le_of_ble_eq_true rfl)
  rw [lg_entry_eq]
  generalize (lg_sl ([.ref (ad 15 1000), .ref (ad g1 1000), .int (Int32.ofInt a2)]) ++ List.replicate (6 - (lg_sl ([.ref (ad 15 1000), .ref (ad g1 1000), .int (Int32.ofInt a2)])).length) Slot.unset).toArray = ls at hl ⊢
  have hl : lv_has ls 6 [(0, .ref (ad 15 1000)), (1, .ref (ad g1 1000)), (2, .int (Int32.ofInt a2))] := hl
  have hret : ∀ (σ : ZS) (H : Heap) (locs : List Loc) (ls : Array Slot) (pc : Nat), Q σ → va_P D vwC (zC dA ad σ) H → va_D A (zC dA ad σ) → va_S A s.heap H locs → decode cX2_writeItem pc = .ok (.return_, 1) → W p l e (gR 5 0 0) s m #[.ref (ad 15 1000), .ref (ad g1 1000), .int (Int32.ofInt a2)] below meth c H locs 0 0 (MQ below (va_Qv Q (gAt D dA A (zC dA ad)) A) #[.ref (ad 15 1000), .ref (ad g1 1000), .int (Int32.ofInt a2)] s 0 0 A) (F0 m pc ls []) := fun σ H locs ls pc hw hP hD hS hd => g_vret hx hb hr hlocks hK σ hP hD hS hw (Nat.le_of_ble_eq_true rfl) (Nat.le_of_ble_eq_true rfl) hd
  generalize MQ below (va_Qv Q (gAt D dA A (zC dA ad)) A) #[.ref (ad 15 1000), .ref (ad g1 1000), .int (Int32.ofInt a2)] s 0 0 A = QQ at hret ⊢
  have j227 : ∀ (σ : ZS), ∀ (H : Heap) (locs : List Loc) (ls : Array Slot), va_P D vwC (zC dA ad σ) H → va_D A (zC dA ad σ) → va_S A s.heap H locs → lv_has ls 6 [] → wpX2_writeItem_227 σ Q → W p l e (gR 5 0 0) s m #[.ref (ad 15 1000), .ref (ad g1 1000), .int (Int32.ofInt a2)] below meth c H locs 0 0 QQ (F0 m 227 ls []) := by
    intro σ H locs ls hP hD hS hl hw
    unfold wpX2_writeItem_227 at hw
    exact hret σ _ _ _ _ hw hP hD hS dX2_writeItem_227
  unfold wpX2_writeItem at hw
  refine lv_aload_n hx hb dX2_writeItem_0 rfl (lv_at hl 0 rfl) ?_
  refine zgC15_0 hx hb hg hown hK hP q371 dX2_writeItem_1 ?_
  refine zgC13_5 hx hb hg hown hK hP q268 dX2_writeItem_4 ?_
  refine lv_iload_n hx hb dX2_writeItem_7 rfl (lv_at hl 2 rfl) ?_
  obtain ⟨o1, hw⟩ := hw
  refine zlC13_5 hx hb o1 hK hP dX2_writeItem_8 ?_
  refine lv_istore_n (lv' := [(3, .int (Int32.ofInt (zA σ 13 5 a2))), (0, .ref (ad 15 1000)), (1, .ref (ad g1 1000)), (2, .int (Int32.ofInt a2))]) hx hb dX2_writeItem_9 rfl hl (by decide) rfl (fun ls hl => ?_)
  refine lv_aload_n hx hb dX2_writeItem_10 rfl (lv_at hl 1 rfl) ?_
  refine zgC15_0 hx hb hg hown hK hP q371 dX2_writeItem_11 ?_
  refine zgC13_6 hx hb hg hown hK hP q270 dX2_writeItem_14 ?_
  refine lv_iload_n hx hb dX2_writeItem_17 rfl (lv_at hl 3 rfl) ?_
  refine zlC13_6 hx hb o1 hK hP dX2_writeItem_18 ?_
  refine lv_istore (lv' := [(4, .int (Int32.ofInt (zA σ 13 6 a2))), (3, .int (Int32.ofInt (zA σ 13 5 a2))), (0, .ref (ad 15 1000)), (1, .ref (ad g1 1000)), (2, .int (Int32.ofInt a2))]) hx hb dX2_writeItem_19 hl (by decide) rfl (fun ls hl => ?_)
  refine lv_aload_n hx hb dX2_writeItem_21 rfl (lv_at hl 2 rfl) ?_
  refine zgC15_0 hx hb hg hown hK hP q371 dX2_writeItem_22 ?_
  refine zgC13_1 hx hb hg hown hK hP q260 dX2_writeItem_25 ?_
  refine lv_iload_n hx hb dX2_writeItem_28 rfl (lv_at hl 4 rfl) ?_
  refine zlC13_1 hx hb o1 hK hP dX2_writeItem_29 ?_
  refine lv_istore (lv' := [(5, .int (Int32.ofInt (zA σ 13 1 a2))), (4, .int (Int32.ofInt (zA σ 13 6 a2))), (3, .int (Int32.ofInt (zA σ 13 5 a2))), (0, .ref (ad 15 1000)), (1, .ref (ad g1 1000)), (2, .int (Int32.ofInt a2))]) hx hb dX2_writeItem_30 hl (by decide) rfl (fun ls hl => ?_)
  refine lv_aload_n hx hb dX2_writeItem_32 rfl (lv_at hl 3 rfl) ?_
  refine zgC15_0 hx hb hg hown hK hP q371 dX2_writeItem_33 ?_
  refine zgC13_0 hx hb hg hown hK hP q258 dX2_writeItem_36 ?_
  refine lv_iload_n hx hb dX2_writeItem_39 rfl (lv_at hl 5 rfl) ?_
  refine zlC13_0 hx hb o1 hK hP dX2_writeItem_40 ?_
  obtain ⟨o2, hw⟩ := hw
  have t3 := z_ti o2
  by_cases s4 : (zA σ 13 0 a2) = 4
  · replace hw := hw.1 s4
    refine lv_tableIn (tgt := 92) hx hb dX2_writeItem_41 (by rw [t3, s4]; decide) (by rw [t3, s4]; decide) (by rw [t3, s4]; rfl) (by decide) ?_
    refine lv_aload_n hx hb dX2_writeItem_92 rfl (lv_at hl 4 rfl) ?_
    refine lv_iload_n hx hb dX2_writeItem_93 rfl (lv_at hl 2 rfl) ?_
    refine lv_iload hx hb dX2_writeItem_94 (lv_at hl 1 rfl) ?_
    refine lv_iload hx hb dX2_writeItem_96 (lv_at hl 0 rfl) ?_
    obtain ⟨o5, hw⟩ := hw
    refine z_Vv (n := 3) (As := [.int (Int32.ofInt (zA σ 13 5 a2)), .int (Int32.ofInt (zA σ 13 6 a2)), .int (Int32.ofInt (zA σ 13 1 a2))]) (rest := []) hx hb hml hg hown hK hP hD hS hA (kX6_putByte l D dA ad g1 (zA σ 13 5 a2) (zA σ 13 6 a2) (zA σ 13 1 a2) σ _ _ hw) (zoCM o5) rfl q1218 q156 q1215 q1216 q1217 (by decide +kernel) ⟨(Nat.le_of_ble_eq_true rfl), (Nat.le_of_ble_eq_true rfl)⟩ rfl hl.1 rfl (Nat.le_of_ble_eq_true rfl) dX2_writeItem_98 ⟨(Nat.le_of_ble_eq_true rfl), (Nat.le_of_ble_eq_true rfl)⟩ (fun σ7 H locs hw hP hD hS => ?_)
    refine lv_goto (tgt := 227) hx hb dX2_writeItem_101 (by decide) ?_
    exact j227 σ7 _ _ _ hP hD hS (lv_sub hl [] rfl) hw
  replace hw := hw.2 s4
  by_cases s8 : (zA σ 13 0 a2) = 5
  · replace hw := hw.1 s8
    refine lv_tableIn (tgt := 227) hx hb dX2_writeItem_41 (by rw [t3, s8]; decide) (by rw [t3, s8]; decide) (by rw [t3, s8]; rfl) (by decide) ?_
    exact j227 σ _ _ _ hP hD hS (lv_sub hl [] rfl) hw
  replace hw := hw.2 s8
  by_cases s9 : (zA σ 13 0 a2) = 6
  · replace hw := hw.1 s9
    refine lv_tableIn (tgt := 104) hx hb dX2_writeItem_41 (by rw [t3, s9]; decide) (by rw [t3, s9]; decide) (by rw [t3, s9]; rfl) (by decide) ?_
    refine lv_aload_n hx hb dX2_writeItem_104 rfl (lv_at hl 4 rfl) ?_
    refine lv_iload_n hx hb dX2_writeItem_105 rfl (lv_at hl 2 rfl) ?_
    refine lv_iload hx hb dX2_writeItem_106 (lv_at hl 1 rfl) ?_
    refine lv_iload hx hb dX2_writeItem_108 (lv_at hl 0 rfl) ?_
    obtain ⟨o10, hw⟩ := hw
    refine z_Vv (n := 3) (As := [.int (Int32.ofInt (zA σ 13 5 a2)), .int (Int32.ofInt (zA σ 13 6 a2)), .int (Int32.ofInt (zA σ 13 1 a2))]) (rest := []) hx hb hml hg hown hK hP hD hS hA (kX6_putWord l D dA ad g1 (zA σ 13 5 a2) (zA σ 13 6 a2) (zA σ 13 1 a2) σ _ _ hw) (zoCM o10) rfl q1222 q156 q1219 q1220 q1221 (by decide +kernel) ⟨(Nat.le_of_ble_eq_true rfl), (Nat.le_of_ble_eq_true rfl)⟩ rfl hl.1 rfl (Nat.le_of_ble_eq_true rfl) dX2_writeItem_110 ⟨(Nat.le_of_ble_eq_true rfl), (Nat.le_of_ble_eq_true rfl)⟩ (fun σ12 H locs hw hP hD hS => ?_)
    refine lv_goto (tgt := 227) hx hb dX2_writeItem_113 (by decide) ?_
    exact j227 σ12 _ _ _ hP hD hS (lv_sub hl [] rfl) hw
  replace hw := hw.2 s9
  by_cases s13 : (zA σ 13 0 a2) = 7
  · replace hw := hw.1 s13
    refine lv_tableIn (tgt := 116) hx hb dX2_writeItem_41 (by rw [t3, s13]; decide) (by rw [t3, s13]; decide) (by rw [t3, s13]; rfl) (by decide) ?_
    refine lv_aload_n hx hb dX2_writeItem_116 rfl (lv_at hl 3 rfl) ?_
    refine lv_aload_n hx hb dX2_writeItem_117 rfl (lv_at hl 4 rfl) ?_
    refine lv_iload_n hx hb dX2_writeItem_118 rfl (lv_at hl 5 rfl) ?_
    refine lv_iload hx hb dX2_writeItem_119 (lv_at hl 1 rfl) ?_
    refine z_Vv (n := 3) (As := [.ref (ad g1 1000), .int (Int32.ofInt a2), .int (Int32.ofInt (zA σ 13 6 a2))]) (rest := []) hx hb hml hg hown hK hP hD hS hA (kX2_writeOffset l D dA ad g1 a2 (zA σ 13 6 a2) σ _ _ hw) (zoC15) rfl q1227 q155 q1224 q1226 q39 (by decide +kernel) ⟨(Nat.le_of_ble_eq_true rfl), (Nat.le_of_ble_eq_true rfl)⟩ rfl hl.1 rfl (Nat.le_of_ble_eq_true rfl) dX2_writeItem_121 ⟨(Nat.le_of_ble_eq_true rfl), (Nat.le_of_ble_eq_true rfl)⟩ (fun σ15 H locs hw hP hD hS => ?_)
    refine lv_goto (tgt := 227) hx hb dX2_writeItem_124 (by decide) ?_
    exact j227 σ15 _ _ _ hP hD hS (lv_sub hl [] rfl) hw
  replace hw := hw.2 s13
  by_cases s16 : (zA σ 13 0 a2) = 8
  · replace hw := hw.1 s16
    refine lv_tableIn (tgt := 127) hx hb dX2_writeItem_41 (by rw [t3, s16]; decide) (by rw [t3, s16]; decide) (by rw [t3, s16]; rfl) (by decide) ?_
    refine lv_aload_n hx hb dX2_writeItem_127 rfl (lv_at hl 3 rfl) ?_
    refine lv_aload_n hx hb dX2_writeItem_128 rfl (lv_at hl 4 rfl) ?_
    refine lv_iload_n hx hb dX2_writeItem_129 rfl (lv_at hl 5 rfl) ?_
    refine lv_iload hx hb dX2_writeItem_130 (lv_at hl 1 rfl) ?_
    refine lv_iconst (v := Int32.ofInt 1) hx hb dX2_writeItem_132 (by decide) ?_
    refine z_Vv (n := 4) (As := [.ref (ad g1 1000), .int (Int32.ofInt a2), .int (Int32.ofInt (zA σ 13 6 a2)), .int (Int32.ofInt 1)]) (rest := []) hx hb hml hg hown hK hP hD hS hA (kX2_writeFixup l D dA ad g1 a2 (zA σ 13 6 a2) 1 σ _ _ hw) (zoC15) rfl q1231 q155 q1228 q1230 q40 (by decide +kernel) ⟨(Nat.le_of_ble_eq_true rfl), (Nat.le_of_ble_eq_true rfl)⟩ rfl hl.1 rfl (Nat.le_of_ble_eq_true rfl) dX2_writeItem_133 ⟨(Nat.le_of_ble_eq_true rfl), (Nat.le_of_ble_eq_true rfl)⟩ (fun σ18 H locs hw hP hD hS => ?_)
    refine lv_goto (tgt := 227) hx hb dX2_writeItem_136 (by decide) ?_
    exact j227 σ18 _ _ _ hP hD hS (lv_sub hl [] rfl) hw
  replace hw := hw.2 s16
  by_cases s19 : (zA σ 13 0 a2) = 9
  · replace hw := hw.1 s19
    refine lv_tableIn (tgt := 165) hx hb dX2_writeItem_41 (by rw [t3, s19]; decide) (by rw [t3, s19]; decide) (by rw [t3, s19]; rfl) (by decide) ?_
    refine lv_aload_n hx hb dX2_writeItem_165 rfl (lv_at hl 3 rfl) ?_
    refine lv_aload_n hx hb dX2_writeItem_166 rfl (lv_at hl 4 rfl) ?_
    refine lv_iload_n hx hb dX2_writeItem_167 rfl (lv_at hl 5 rfl) ?_
    refine z_Vv (n := 2) (As := [.ref (ad g1 1000), .int (Int32.ofInt a2)]) (rest := []) hx hb hml hg hown hK hP hD hS hA (kX2_writeJump l D dA ad g1 a2 σ _ _ hw) (zoC15) rfl q1239 q155 q1236 q1238 q41 (by decide +kernel) ⟨(Nat.le_of_ble_eq_true rfl), (Nat.le_of_ble_eq_true rfl)⟩ rfl hl.1 rfl (Nat.le_of_ble_eq_true rfl) dX2_writeItem_168 ⟨(Nat.le_of_ble_eq_true rfl), (Nat.le_of_ble_eq_true rfl)⟩ (fun σ21 H locs hw hP hD hS => ?_)
    refine lv_goto (tgt := 227) hx hb dX2_writeItem_171 (by decide) ?_
    exact j227 σ21 _ _ _ hP hD hS (lv_sub hl [] rfl) hw
  replace hw := hw.2 s19
  by_cases s22 : (zA σ 13 0 a2) = 10
  · replace hw := hw.1 s22
    refine lv_tableIn (tgt := 139) hx hb dX2_writeItem_41 (by rw [t3, s22]; decide) (by rw [t3, s22]; decide) (by rw [t3, s22]; rfl) (by decide) ?_
    refine lv_aload_n hx hb dX2_writeItem_139 rfl (lv_at hl 4 rfl) ?_
    refine lv_iload_n hx hb dX2_writeItem_140 rfl (lv_at hl 2 rfl) ?_
    refine lv_iload hx hb dX2_writeItem_141 (lv_at hl 1 rfl) ?_
    refine lv_iload hx hb dX2_writeItem_143 (lv_at hl 0 rfl) ?_
    obtain ⟨o23, hw⟩ := hw
    refine z_Vv (n := 3) (As := [.int (Int32.ofInt (zA σ 13 5 a2)), .int (Int32.ofInt (zA σ 13 6 a2)), .int (Int32.ofInt (zA σ 13 1 a2))]) (rest := []) hx hb hml hg hown hK hP hD hS hA (kX6_putByte l D dA ad g1 (zA σ 13 5 a2) (zA σ 13 6 a2) (zA σ 13 1 a2) σ _ _ hw) (zoCM o23) rfl q1218 q156 q1215 q1216 q1217 (by decide +kernel) ⟨(Nat.le_of_ble_eq_true rfl), (Nat.le_of_ble_eq_true rfl)⟩ rfl hl.1 rfl (Nat.le_of_ble_eq_true rfl) dX2_writeItem_145 ⟨(Nat.le_of_ble_eq_true rfl), (Nat.le_of_ble_eq_true rfl)⟩ (fun σ25 H locs hw hP hD hS => ?_)
    refine lv_aload_n hx hb dX2_writeItem_148 rfl (lv_at hl 4 rfl) ?_
    refine lv_iload_n hx hb dX2_writeItem_149 rfl (lv_at hl 2 rfl) ?_
    refine lv_iload hx hb dX2_writeItem_150 (lv_at hl 1 rfl) ?_
    refine lv_iconst (v := Int32.ofInt 1) hx hb dX2_writeItem_152 (by decide) ?_
    refine z_iadd hx hb dX2_writeItem_153 ?_
    refine lv_aload_n hx hb dX2_writeItem_154 rfl (lv_at hl 3 rfl) ?_
    refine lv_iload_n hx hb dX2_writeItem_155 rfl (lv_at hl 5 rfl) ?_
    refine z_Vi (n := 1) (As := [.int (Int32.ofInt a2)]) (rest := [.int (Int32.ofInt ((zA σ 13 6 a2) + 1)), .int (Int32.ofInt (zA σ 13 5 a2)), .ref (ad g1 1000)]) hx hb hml hg hown hK hP hD hS hA (kX2_distance l D dA ad a2 σ25 _ _ hw) (zoC15) rfl q1180 q155 q1177 q1179 q37 (by decide +kernel) ⟨(Nat.le_of_ble_eq_true rfl), (Nat.le_of_ble_eq_true rfl)⟩ rfl hl.1 rfl (Nat.le_of_ble_eq_true rfl) dX2_writeItem_156 ⟨(Nat.le_of_ble_eq_true rfl), (Nat.le_of_ble_eq_true rfl)⟩ (fun x26 σ27 H locs hw hP hD hS => ?_)
    refine z_Vv (n := 3) (As := [.int (Int32.ofInt (zA σ 13 5 a2)), .int (Int32.ofInt ((zA σ 13 6 a2) + 1)), .int (Int32.ofInt x26)]) (rest := []) hx hb hml hg hown hK hP hD hS hA (kX6_putByte l D dA ad g1 (zA σ 13 5 a2) ((zA σ 13 6 a2) + 1) x26 σ27 _ _ hw) (zoCM o23) rfl q1218 q156 q1215 q1216 q1217 (by decide +kernel) ⟨(Nat.le_of_ble_eq_true rfl), (Nat.le_of_ble_eq_true rfl)⟩ rfl hl.1 rfl (Nat.le_of_ble_eq_true rfl) dX2_writeItem_159 ⟨(Nat.le_of_ble_eq_true rfl), (Nat.le_of_ble_eq_true rfl)⟩ (fun σ29 H locs hw hP hD hS => ?_)
    refine lv_goto (tgt := 227) hx hb dX2_writeItem_162 (by decide) ?_
    exact j227 σ29 _ _ _ hP hD hS (lv_sub hl [] rfl) hw
  replace hw := hw.2 s22
  by_cases s30 : (zA σ 13 0 a2) = 11
  · replace hw := hw.1 s30
    refine lv_tableIn (tgt := 174) hx hb dX2_writeItem_41 (by rw [t3, s30]; decide) (by rw [t3, s30]; decide) (by rw [t3, s30]; rfl) (by decide) ?_
    refine lv_aload_n hx hb dX2_writeItem_174 rfl (lv_at hl 4 rfl) ?_
    refine lv_iload_n hx hb dX2_writeItem_175 rfl (lv_at hl 2 rfl) ?_
    refine lv_iload hx hb dX2_writeItem_176 (lv_at hl 1 rfl) ?_
    refine lv_sipush (v := Int32.ofInt 232) hx hb dX2_writeItem_178 (by decide) ?_
    obtain ⟨o31, hw⟩ := hw
    refine z_Vv (n := 3) (As := [.int (Int32.ofInt (zA σ 13 5 a2)), .int (Int32.ofInt (zA σ 13 6 a2)), .int (Int32.ofInt 232)]) (rest := []) hx hb hml hg hown hK hP hD hS hA (kX6_putByte l D dA ad g1 (zA σ 13 5 a2) (zA σ 13 6 a2) 232 σ _ _ hw) (zoCM o31) rfl q1218 q156 q1215 q1216 q1217 (by decide +kernel) ⟨(Nat.le_of_ble_eq_true rfl), (Nat.le_of_ble_eq_true rfl)⟩ rfl hl.1 rfl (Nat.le_of_ble_eq_true rfl) dX2_writeItem_181 ⟨(Nat.le_of_ble_eq_true rfl), (Nat.le_of_ble_eq_true rfl)⟩ (fun σ33 H locs hw hP hD hS => ?_)
    refine lv_aload_n hx hb dX2_writeItem_184 rfl (lv_at hl 3 rfl) ?_
    refine lv_aload_n hx hb dX2_writeItem_185 rfl (lv_at hl 4 rfl) ?_
    refine lv_iload_n hx hb dX2_writeItem_186 rfl (lv_at hl 5 rfl) ?_
    refine z_Vv (n := 2) (As := [.ref (ad g1 1000), .int (Int32.ofInt a2)]) (rest := []) hx hb hml hg hown hK hP hD hS hA (kX2_writeNear l D dA ad g1 a2 σ33 _ _ hw) (zoC15) rfl q1243 q155 q1240 q1242 q42 (by decide +kernel) ⟨(Nat.le_of_ble_eq_true rfl), (Nat.le_of_ble_eq_true rfl)⟩ rfl hl.1 rfl (Nat.le_of_ble_eq_true rfl) dX2_writeItem_187 ⟨(Nat.le_of_ble_eq_true rfl), (Nat.le_of_ble_eq_true rfl)⟩ (fun σ35 H locs hw hP hD hS => ?_)
    refine lv_goto (tgt := 227) hx hb dX2_writeItem_190 (by decide) ?_
    exact j227 σ35 _ _ _ hP hD hS (lv_sub hl [] rfl) hw
  replace hw := hw.2 s30
  by_cases s36 : (zA σ 13 0 a2) = 12
  · replace hw := hw.1 s36
    refine lv_tableIn (tgt := 193) hx hb dX2_writeItem_41 (by rw [t3, s36]; decide) (by rw [t3, s36]; decide) (by rw [t3, s36]; rfl) (by decide) ?_
    refine lv_aload_n hx hb dX2_writeItem_193 rfl (lv_at hl 4 rfl) ?_
    refine lv_iload_n hx hb dX2_writeItem_194 rfl (lv_at hl 2 rfl) ?_
    refine lv_iload hx hb dX2_writeItem_195 (lv_at hl 1 rfl) ?_
    refine lv_sipush (v := Int32.ofInt 154) hx hb dX2_writeItem_197 (by decide) ?_
    obtain ⟨o37, hw⟩ := hw
    refine z_Vv (n := 3) (As := [.int (Int32.ofInt (zA σ 13 5 a2)), .int (Int32.ofInt (zA σ 13 6 a2)), .int (Int32.ofInt 154)]) (rest := []) hx hb hml hg hown hK hP hD hS hA (kX6_putByte l D dA ad g1 (zA σ 13 5 a2) (zA σ 13 6 a2) 154 σ _ _ hw) (zoCM o37) rfl q1218 q156 q1215 q1216 q1217 (by decide +kernel) ⟨(Nat.le_of_ble_eq_true rfl), (Nat.le_of_ble_eq_true rfl)⟩ rfl hl.1 rfl (Nat.le_of_ble_eq_true rfl) dX2_writeItem_200 ⟨(Nat.le_of_ble_eq_true rfl), (Nat.le_of_ble_eq_true rfl)⟩ (fun σ39 H locs hw hP hD hS => ?_)
    refine lv_aload_n hx hb dX2_writeItem_203 rfl (lv_at hl 3 rfl) ?_
    refine lv_aload_n hx hb dX2_writeItem_204 rfl (lv_at hl 4 rfl) ?_
    refine lv_iload_n hx hb dX2_writeItem_205 rfl (lv_at hl 5 rfl) ?_
    refine lv_iload hx hb dX2_writeItem_206 (lv_at hl 1 rfl) ?_
    refine lv_iconst (v := Int32.ofInt 1) hx hb dX2_writeItem_208 (by decide) ?_
    refine z_iadd hx hb dX2_writeItem_209 ?_
    refine z_Vv (n := 3) (As := [.ref (ad g1 1000), .int (Int32.ofInt a2), .int (Int32.ofInt ((zA σ 13 6 a2) + 1))]) (rest := []) hx hb hml hg hown hK hP hD hS hA (kX2_writeOffset l D dA ad g1 a2 ((zA σ 13 6 a2) + 1) σ39 _ _ hw) (zoC15) rfl q1227 q155 q1224 q1226 q39 (by decide +kernel) ⟨(Nat.le_of_ble_eq_true rfl), (Nat.le_of_ble_eq_true rfl)⟩ rfl hl.1 rfl (Nat.le_of_ble_eq_true rfl) dX2_writeItem_210 ⟨(Nat.le_of_ble_eq_true rfl), (Nat.le_of_ble_eq_true rfl)⟩ (fun σ41 H locs hw hP hD hS => ?_)
    refine lv_aload_n hx hb dX2_writeItem_213 rfl (lv_at hl 3 rfl) ?_
    refine lv_aload_n hx hb dX2_writeItem_214 rfl (lv_at hl 4 rfl) ?_
    refine lv_iload_n hx hb dX2_writeItem_215 rfl (lv_at hl 5 rfl) ?_
    refine lv_iload hx hb dX2_writeItem_216 (lv_at hl 1 rfl) ?_
    refine lv_iconst (v := Int32.ofInt 3) hx hb dX2_writeItem_218 (by decide) ?_
    refine z_iadd hx hb dX2_writeItem_219 ?_
    refine lv_iconst (v := Int32.ofInt 1) hx hb dX2_writeItem_220 (by decide) ?_
    refine z_Vv (n := 4) (As := [.ref (ad g1 1000), .int (Int32.ofInt a2), .int (Int32.ofInt ((zA σ 13 6 a2) + 3)), .int (Int32.ofInt 1)]) (rest := []) hx hb hml hg hown hK hP hD hS hA (kX2_writeFixup l D dA ad g1 a2 ((zA σ 13 6 a2) + 3) 1 σ41 _ _ hw) (zoC15) rfl q1231 q155 q1228 q1230 q40 (by decide +kernel) ⟨(Nat.le_of_ble_eq_true rfl), (Nat.le_of_ble_eq_true rfl)⟩ rfl hl.1 rfl (Nat.le_of_ble_eq_true rfl) dX2_writeItem_221 ⟨(Nat.le_of_ble_eq_true rfl), (Nat.le_of_ble_eq_true rfl)⟩ (fun σ43 H locs hw hP hD hS => ?_)
    refine lv_goto (tgt := 227) hx hb dX2_writeItem_224 (by decide) ?_
    exact j227 σ43 _ _ _ hP hD hS (lv_sub hl [] rfl) hw
  replace hw := hw.2 s36
  refine lv_tableOut (tgt := 227) hx hb dX2_writeItem_41 (by rw [t3]; clear hw; omega) (by decide) ?_
  exact j227 σ _ _ _ hP hD hS (lv_sub hl [] rfl) hw
