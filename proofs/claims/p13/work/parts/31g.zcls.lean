theorem q38 : Cond.selects RX2 yX2_writeItem yX2_writeItem ∈ gw := gw_in (i := 38) (by decide +kernel) rfl
theorem q43 : Cond.selects RX3 yX3_publicModule yX3_publicModule ∈ gw := gw_in (i := 43) (by decide +kernel) rfl
theorem q44 : Cond.selects RX3 yX3_addPart yX3_addPart ∈ gw := gw_in (i := 44) (by decide +kernel) rfl
theorem q45 : Cond.selects RX3 yX3_combinedNumber yX3_combinedNumber ∈ gw := gw_in (i := 45) (by decide +kernel) rfl
theorem q46 : Cond.selects RX3 yX3_publicPart yX3_publicPart ∈ gw := gw_in (i := 46) (by decide +kernel) rfl
theorem q149 : Cond.initialized RX10 ∈ gw := gw_in (i := 149) (by decide +kernel) rfl
theorem q157 : Cond.initialized RX3 ∈ gw := gw_in (i := 157) (by decide +kernel) rfl
theorem q398 : Cond.fieldLink RX3 36 "SegmentBench$ObjectModule" "there" "Z" ∈ gw := gw_in (i := 398) (by decide +kernel) rfl
theorem q400 : Cond.fieldLink RX2 128 "SegmentBench$ObjectModule" "there" "Z" ∈ gw := gw_in (i := 400) (by decide +kernel) rfl
theorem q402 : Cond.fieldLink RX3 67 "SegmentBench$ObjectModule" "segments" "I" ∈ gw := gw_in (i := 402) (by decide +kernel) rfl
theorem q405 : Cond.fieldLink RX3 78 "SegmentBench$ObjectModule" "segmentName" "[J" ∈ gw := gw_in (i := 405) (by decide +kernel) rfl
theorem q407 : Cond.fieldLink RX3 84 "SegmentBench$ObjectModule" "segmentAlign" "[I" ∈ gw := gw_in (i := 407) (by decide +kernel) rfl
theorem q410 : Cond.fieldLink RX3 90 "SegmentBench$ObjectModule" "segmentSize" "[I" ∈ gw := gw_in (i := 410) (by decide +kernel) rfl
theorem q418 : Cond.fieldLink RX3 58 "SegmentBench$ObjectModule" "fixups" "I" ∈ gw := gw_in (i := 418) (by decide +kernel) rfl
theorem q422 : Cond.fieldLink RX3 102 "SegmentBench$ObjectModule" "fixupKind" "[I" ∈ gw := gw_in (i := 422) (by decide +kernel) rfl
theorem q425 : Cond.fieldLink RX3 105 "SegmentBench$ObjectModule" "fixupSegment" "[I" ∈ gw := gw_in (i := 425) (by decide +kernel) rfl
theorem q430 : Cond.fieldLink RX3 61 "SegmentBench$ObjectModule" "fixupAbout" "[I" ∈ gw := gw_in (i := 430) (by decide +kernel) rfl
theorem q433 : Cond.fieldLink RX3 64 "SegmentBench$ObjectModule" "fixupName" "[J" ∈ gw := gw_in (i := 433) (by decide +kernel) rfl
theorem q435 : Cond.fieldLink RX3 52 "SegmentBench$ObjectModule" "publics" "I" ∈ gw := gw_in (i := 435) (by decide +kernel) rfl
theorem q437 : Cond.fieldLink RX3 55 "SegmentBench$ObjectModule" "publicName" "[J" ∈ gw := gw_in (i := 437) (by decide +kernel) rfl
theorem q439 : Cond.fieldLink RX3 93 "SegmentBench$ObjectModule" "publicSegment" "[I" ∈ gw := gw_in (i := 439) (by decide +kernel) rfl
theorem q483 : Cond.fieldLink RX3 9 "SegmentBench$Linke\x72" "modules" "[LSegmentBench$ObjectModule;" ∈ gw := gw_in (i := 483) (by decide +kernel) rfl
theorem q484 : Cond.fieldLink RX3 15 "SegmentBench$Linke\x72" "name" "[J" ∈ gw := gw_in (i := 484) (by decide +kernel) rfl
theorem q485 : Cond.fieldLink RX3 19 "SegmentBench$Linke\x72" "size" "[I" ∈ gw := gw_in (i := 485) (by decide +kernel) rfl
theorem q486 : Cond.fieldLink RX3 23 "SegmentBench$Linke\x72" "place" "[I" ∈ gw := gw_in (i := 486) (by decide +kernel) rfl
theorem q487 : Cond.fieldLink RX3 26 "SegmentBench$Linke\x72" "combined" "I" ∈ gw := gw_in (i := 487) (by decide +kernel) rfl
theorem q488 : Cond.fieldLink RX3 30 "SegmentBench$Linke\x72" "whole" "[I" ∈ gw := gw_in (i := 488) (by decide +kernel) rfl
theorem q489 : Cond.fieldLink RX3 33 "SegmentBench$Linke\x72" "begin" "[I" ∈ gw := gw_in (i := 489) (by decide +kernel) rfl
theorem q511 : Cond.fieldLink RX1 11 "SegmentBench$Image" "there" "Z" ∈ gw := gw_in (i := 511) (by decide +kernel) rfl
theorem q513 : Cond.fieldLink RX1 17 "SegmentBench$Image" "size" "I" ∈ gw := gw_in (i := 513) (by decide +kernel) rfl
theorem q516 : Cond.fieldLink RX1 21 "SegmentBench$Image" "bytes" "[I" ∈ gw := gw_in (i := 516) (by decide +kernel) rfl
theorem q520 : Cond.fieldLink RX1 25 "SegmentBench$Image" "relocations" "I" ∈ gw := gw_in (i := 520) (by decide +kernel) rfl
theorem q1194 : Cond.methodLink RX2 123 yX6_clear ∈ gw := gw_in (i := 1194) (by decide +kernel) rfl
theorem q1195 : Cond.instanceMethod yX6_clear ∈ gw := gw_in (i := 1195) (by decide +kernel) rfl
theorem q1196 : Cond.selects RX6 yX6_clear yX6_clear ∈ gw := gw_in (i := 1196) (by decide +kernel) rfl
theorem q1197 : Cond.code yX6_clear cX6_clear 1 none ∈ gw := gw_in (i := 1197) (by decide +kernel) rfl
theorem q1199 : Cond.methodLink RX2 135 yX6_addSegment ∈ gw := gw_in (i := 1199) (by decide +kernel) rfl
theorem q1200 : Cond.instanceMethod yX6_addSegment ∈ gw := gw_in (i := 1200) (by decide +kernel) rfl
theorem q1201 : Cond.selects RX6 yX6_addSegment yX6_addSegment ∈ gw := gw_in (i := 1201) (by decide +kernel) rfl
theorem q1202 : Cond.code yX6_addSegment cX6_addSegment 6 none ∈ gw := gw_in (i := 1202) (by decide +kernel) rfl
theorem q1203 : Cond.methodLink RX2 139 yX6_addPublic ∈ gw := gw_in (i := 1203) (by decide +kernel) rfl
theorem q1204 : Cond.instanceMethod yX6_addPublic ∈ gw := gw_in (i := 1204) (by decide +kernel) rfl
theorem q1205 : Cond.selects RX6 yX6_addPublic yX6_addPublic ∈ gw := gw_in (i := 1205) (by decide +kernel) rfl
theorem q1206 : Cond.code yX6_addPublic cX6_addPublic 5 none ∈ gw := gw_in (i := 1206) (by decide +kernel) rfl
theorem q1211 : Cond.methodLink RX2 142 yX2_writeItem ∈ gw := gw_in (i := 1211) (by decide +kernel) rfl
theorem q1213 : Cond.instanceMethod yX2_writeItem ∈ gw := gw_in (i := 1213) (by decide +kernel) rfl
theorem q1214 : Cond.code yX2_writeItem cX2_writeItem 6 none ∈ gw := gw_in (i := 1214) (by decide +kernel) rfl
theorem q1284 : Cond.methodLink RX3 48 yX3_publicModule ∈ gw := gw_in (i := 1284) (by decide +kernel) rfl
theorem q1286 : Cond.instanceMethod yX3_publicModule ∈ gw := gw_in (i := 1286) (by decide +kernel) rfl
theorem q1287 : Cond.code yX3_publicModule cX3_publicModule 5 (some .int) ∈ gw := gw_in (i := 1287) (by decide +kernel) rfl
theorem q1288 : Cond.methodLink RX3 42 yX6_publicNumber ∈ gw := gw_in (i := 1288) (by decide +kernel) rfl
theorem q1299 : Cond.constantLong RX3 46 (230192366) ∈ gw := gw_in (i := 1299) (by decide +kernel) rfl
theorem q1305 : Cond.methodLink RX3 70 yX3_addPart ∈ gw := gw_in (i := 1305) (by decide +kernel) rfl
theorem q1307 : Cond.instanceMethod yX3_addPart ∈ gw := gw_in (i := 1307) (by decide +kernel) rfl
theorem q1308 : Cond.code yX3_addPart cX3_addPart 6 none ∈ gw := gw_in (i := 1308) (by decide +kernel) rfl
theorem q1309 : Cond.methodLink RX3 81 yX3_combinedNumber ∈ gw := gw_in (i := 1309) (by decide +kernel) rfl
theorem q1311 : Cond.instanceMethod yX3_combinedNumber ∈ gw := gw_in (i := 1311) (by decide +kernel) rfl
theorem q1312 : Cond.code yX3_combinedNumber cX3_combinedNumber 4 (some .int) ∈ gw := gw_in (i := 1312) (by decide +kernel) rfl
theorem q1313 : Cond.methodLinkNest RX3 74 yX10_roundUp RX10 ∈ gw := gw_in (i := 1313) (by decide +kernel) rfl
theorem q1314 : Cond.static yX10_roundUp ∈ gw := gw_in (i := 1314) (by decide +kernel) rfl
theorem q1315 : Cond.code yX10_roundUp cX10_roundUp 2 (some .int) ∈ gw := gw_in (i := 1315) (by decide +kernel) rfl
theorem q1316 : Cond.methodLink RX3 87 yX3_part ∈ gw := gw_in (i := 1316) (by decide +kernel) rfl
theorem q1317 : Cond.static yX3_part ∈ gw := gw_in (i := 1317) (by decide +kernel) rfl
theorem q1318 : Cond.code yX3_part cX3_part 2 (some .int) ∈ gw := gw_in (i := 1318) (by decide +kernel) rfl
theorem q1324 : Cond.methodLink RX3 96 yX3_publicPart ∈ gw := gw_in (i := 1324) (by decide +kernel) rfl
theorem q1326 : Cond.instanceMethod yX3_publicPart ∈ gw := gw_in (i := 1326) (by decide +kernel) rfl
theorem q1327 : Cond.code yX3_publicPart cX3_publicPart 4 (some .int) ∈ gw := gw_in (i := 1327) (by decide +kernel) rfl
theorem q1337 : Cond.methodLink RX1 37 yJ7_fill_53178 ∈ gw := gw_in (i := 1337) (by decide +kernel) rfl
theorem dX2_write_0 : decode cX2_write 0 = .ok (.aload_n 1, 1) := by decide +kernel
theorem dX2_write_1 : decode cX2_write 1 = .ok (.invokevirtual 123, 3) := by decide +kernel
theorem dX2_write_4 : decode cX2_write 4 = .ok (.aload_n 1, 1) := by decide +kernel
theorem dX2_write_5 : decode cX2_write 5 = .ok (.iconst 1, 1) := by decide +kernel
theorem dX2_write_6 : decode cX2_write 6 = .ok (.putfield 128, 3) := by decide +kernel
theorem dX2_write_9 : decode cX2_write 9 = .ok (.iconst 0, 1) := by decide +kernel
theorem dX2_write_10 : decode cX2_write 10 = .ok (.istore_n 2, 1) := by decide +kernel
theorem dX2_write_11 : decode cX2_write 11 = .ok (.iload_n 2, 1) := by decide +kernel
theorem dX2_write_12 : decode cX2_write 12 = .ok (.aload_n 0, 1) := by decide +kernel
theorem dX2_write_13 : decode cX2_write 13 = .ok (.getfield 26, 3) := by decide +kernel
theorem dX2_write_16 : decode cX2_write 16 = .ok (.if_icmp .ge 44, 3) := by decide +kernel
theorem dX2_write_60 : decode cX2_write 60 = .ok (.iconst 0, 1) := by decide +kernel
theorem dX2_write_61 : decode cX2_write 61 = .ok (.istore_n 2, 1) := by decide +kernel
theorem dX2_write_19 : decode cX2_write 19 = .ok (.aload_n 0, 1) := by decide +kernel
theorem dX2_write_20 : decode cX2_write 20 = .ok (.getfield 19, 3) := by decide +kernel
theorem dX2_write_23 : decode cX2_write 23 = .ok (.iload_n 2, 1) := by decide +kernel
theorem dX2_write_24 : decode cX2_write 24 = .ok (.iaload, 1) := by decide +kernel
theorem dX2_write_25 : decode cX2_write 25 = .ok (.istore_n 3, 1) := by decide +kernel
theorem dX2_write_26 : decode cX2_write 26 = .ok (.aload_n 1, 1) := by decide +kernel
theorem dX2_write_27 : decode cX2_write 27 = .ok (.aload_n 0, 1) := by decide +kernel
theorem dX2_write_28 : decode cX2_write 28 = .ok (.getfield 15, 3) := by decide +kernel
theorem dX2_write_31 : decode cX2_write 31 = .ok (.getfield 132, 3) := by decide +kernel
theorem dX2_write_34 : decode cX2_write 34 = .ok (.iload_n 3, 1) := by decide +kernel
theorem dX2_write_35 : decode cX2_write 35 = .ok (.laload, 1) := by decide +kernel
theorem dX2_write_36 : decode cX2_write 36 = .ok (.aload_n 0, 1) := by decide +kernel
theorem dX2_write_37 : decode cX2_write 37 = .ok (.getfield 15, 3) := by decide +kernel
theorem dX2_write_40 : decode cX2_write 40 = .ok (.getfield 86, 3) := by decide +kernel
theorem dX2_write_43 : decode cX2_write 43 = .ok (.iload_n 3, 1) := by decide +kernel
theorem dX2_write_44 : decode cX2_write 44 = .ok (.iaload, 1) := by decide +kernel
theorem dX2_write_45 : decode cX2_write 45 = .ok (.aload_n 0, 1) := by decide +kernel
theorem dX2_write_46 : decode cX2_write 46 = .ok (.getfield 23, 3) := by decide +kernel
theorem dX2_write_49 : decode cX2_write 49 = .ok (.iload_n 2, 1) := by decide +kernel
theorem dX2_write_50 : decode cX2_write 50 = .ok (.iaload, 1) := by decide +kernel
theorem dX2_write_51 : decode cX2_write 51 = .ok (.invokevirtual 135, 3) := by decide +kernel
theorem dX2_write_54 : decode cX2_write 54 = .ok (.iinc 2 1, 3) := by decide +kernel
theorem dX2_write_57 : decode cX2_write 57 = .ok (.goto (-46), 3) := by decide +kernel
theorem dX2_write_62 : decode cX2_write 62 = .ok (.iload_n 2, 1) := by decide +kernel
theorem dX2_write_63 : decode cX2_write 63 = .ok (.aload_n 0, 1) := by decide +kernel
theorem dX2_write_64 : decode cX2_write 64 = .ok (.getfield 9, 3) := by decide +kernel
theorem dX2_write_67 : decode cX2_write 67 = .ok (.getfield 41, 3) := by decide +kernel
theorem dX2_write_70 : decode cX2_write 70 = .ok (.if_icmp .ge 84, 3) := by decide +kernel
theorem dX2_write_154 : decode cX2_write 154 = .ok (.return_, 1) := by decide +kernel
theorem dX2_write_73 : decode cX2_write 73 = .ok (.aload_n 0, 1) := by decide +kernel
theorem dX2_write_74 : decode cX2_write 74 = .ok (.getfield 9, 3) := by decide +kernel
theorem dX2_write_77 : decode cX2_write 77 = .ok (.getfield 57, 3) := by decide +kernel
theorem dX2_write_80 : decode cX2_write 80 = .ok (.iload_n 2, 1) := by decide +kernel
theorem dX2_write_81 : decode cX2_write 81 = .ok (.iaload, 1) := by decide +kernel
theorem dX2_write_82 : decode cX2_write 82 = .ok (.iconst 2, 1) := by decide +kernel
theorem dX2_write_83 : decode cX2_write 83 = .ok (.if_icmp .ne 47, 3) := by decide +kernel
theorem dX2_write_130 : decode cX2_write 130 = .ok (.aload_n 0, 1) := by decide +kernel
theorem dX2_write_131 : decode cX2_write 131 = .ok (.getfield 9, 3) := by decide +kernel
theorem dX2_write_134 : decode cX2_write 134 = .ok (.getfield 68, 3) := by decide +kernel
theorem dX2_write_137 : decode cX2_write 137 = .ok (.iload_n 2, 1) := by decide +kernel
theorem dX2_write_138 : decode cX2_write 138 = .ok (.iaload, 1) := by decide +kernel
theorem dX2_write_139 : decode cX2_write 139 = .ok (.ifCond .lt 9, 3) := by decide +kernel
theorem dX2_write_142 : decode cX2_write 142 = .ok (.aload_n 0, 1) := by decide +kernel
theorem dX2_write_143 : decode cX2_write 143 = .ok (.aload_n 1, 1) := by decide +kernel
theorem dX2_write_144 : decode cX2_write 144 = .ok (.iload_n 2, 1) := by decide +kernel
theorem dX2_write_145 : decode cX2_write 145 = .ok (.invokevirtual 142, 3) := by decide +kernel
theorem dX2_write_86 : decode cX2_write 86 = .ok (.aload_n 0, 1) := by decide +kernel
theorem dX2_write_87 : decode cX2_write 87 = .ok (.getfield 9, 3) := by decide +kernel
theorem dX2_write_90 : decode cX2_write 90 = .ok (.getfield 74, 3) := by decide +kernel
theorem dX2_write_93 : decode cX2_write 93 = .ok (.iload_n 2, 1) := by decide +kernel
theorem dX2_write_94 : decode cX2_write 94 = .ok (.iaload, 1) := by decide +kernel
theorem dX2_write_95 : decode cX2_write 95 = .ok (.istore_n 3, 1) := by decide +kernel
theorem dX2_write_96 : decode cX2_write 96 = .ok (.aload_n 1, 1) := by decide +kernel
theorem dX2_write_97 : decode cX2_write 97 = .ok (.aload_n 0, 1) := by decide +kernel
theorem dX2_write_98 : decode cX2_write 98 = .ok (.getfield 15, 3) := by decide +kernel
theorem dX2_write_101 : decode cX2_write 101 = .ok (.getfield 132, 3) := by decide +kernel
theorem dX2_write_104 : decode cX2_write 104 = .ok (.iload_n 3, 1) := by decide +kernel
theorem dX2_write_105 : decode cX2_write 105 = .ok (.laload, 1) := by decide +kernel
theorem dX2_write_106 : decode cX2_write 106 = .ok (.aload_n 0, 1) := by decide +kernel
theorem dX2_write_107 : decode cX2_write 107 = .ok (.getfield 15, 3) := by decide +kernel
theorem dX2_write_110 : decode cX2_write 110 = .ok (.getfield 89, 3) := by decide +kernel
theorem dX2_write_113 : decode cX2_write 113 = .ok (.iload_n 3, 1) := by decide +kernel
theorem dX2_write_114 : decode cX2_write 114 = .ok (.iaload, 1) := by decide +kernel
theorem dX2_write_115 : decode cX2_write 115 = .ok (.aload_n 0, 1) := by decide +kernel
theorem dX2_write_116 : decode cX2_write 116 = .ok (.getfield 15, 3) := by decide +kernel
theorem dX2_write_119 : decode cX2_write 119 = .ok (.getfield 110, 3) := by decide +kernel
theorem dX2_write_122 : decode cX2_write 122 = .ok (.iload_n 3, 1) := by decide +kernel
theorem dX2_write_123 : decode cX2_write 123 = .ok (.iaload, 1) := by decide +kernel
theorem dX2_write_124 : decode cX2_write 124 = .ok (.invokevirtual 139, 3) := by decide +kernel
theorem dX2_write_127 : decode cX2_write 127 = .ok (.goto 21, 3) := by decide +kernel
theorem dX2_write_148 : decode cX2_write 148 = .ok (.iinc 2 1, 3) := by decide +kernel
theorem dX2_write_151 : decode cX2_write 151 = .ok (.goto (-89), 3) := by decide +kernel
theorem dX3_hasModules_0 : decode cX3_hasModules 0 = .ok (.iconst 0, 1) := by decide +kernel
theorem dX3_hasModules_1 : decode cX3_hasModules 1 = .ok (.istore_n 1, 1) := by decide +kernel
theorem dX3_hasModules_2 : decode cX3_hasModules 2 = .ok (.iload_n 1, 1) := by decide +kernel
theorem dX3_hasModules_3 : decode cX3_hasModules 3 = .ok (.iconst 3, 1) := by decide +kernel
theorem dX3_hasModules_4 : decode cX3_hasModules 4 = .ok (.if_icmp .ge 23, 3) := by decide +kernel
theorem dX3_hasModules_27 : decode cX3_hasModules 27 = .ok (.iconst 0, 1) := by decide +kernel
theorem dX3_hasModules_28 : decode cX3_hasModules 28 = .ok (.ireturn, 1) := by decide +kernel
theorem dX3_hasModules_7 : decode cX3_hasModules 7 = .ok (.aload_n 0, 1) := by decide +kernel
theorem dX3_hasModules_8 : decode cX3_hasModules 8 = .ok (.getfield 9, 3) := by decide +kernel
theorem dX3_hasModules_11 : decode cX3_hasModules 11 = .ok (.iload_n 1, 1) := by decide +kernel
theorem dX3_hasModules_12 : decode cX3_hasModules 12 = .ok (.aaload, 1) := by decide +kernel
theorem dX3_hasModules_13 : decode cX3_hasModules 13 = .ok (.getfield 36, 3) := by decide +kernel
theorem dX3_hasModules_16 : decode cX3_hasModules 16 = .ok (.ifCond .eq 5, 3) := by decide +kernel
theorem dX3_hasModules_21 : decode cX3_hasModules 21 = .ok (.iinc 1 1, 3) := by decide +kernel
theorem dX3_hasModules_24 : decode cX3_hasModules 24 = .ok (.goto (-22), 3) := by decide +kernel
theorem dX3_hasModules_19 : decode cX3_hasModules 19 = .ok (.iconst 1, 1) := by decide +kernel
theorem dX3_hasModules_20 : decode cX3_hasModules 20 = .ok (.ireturn, 1) := by decide +kernel
theorem dX3_publicModule_0 : decode cX3_publicModule 0 = .ok (.iconst 0, 1) := by decide +kernel
theorem dX3_publicModule_1 : decode cX3_publicModule 1 = .ok (.istore 4, 2) := by decide +kernel
theorem dX3_publicModule_3 : decode cX3_publicModule 3 = .ok (.iload 4, 2) := by decide +kernel
theorem dX3_publicModule_5 : decode cX3_publicModule 5 = .ok (.iload_n 3, 1) := by decide +kernel
theorem dX3_publicModule_6 : decode cX3_publicModule 6 = .ok (.if_icmp .ge 39, 3) := by decide +kernel
theorem dX3_publicModule_45 : decode cX3_publicModule 45 = .ok (.iconst (-1), 1) := by decide +kernel
theorem dX3_publicModule_46 : decode cX3_publicModule 46 = .ok (.ireturn, 1) := by decide +kernel
theorem dX3_publicModule_9 : decode cX3_publicModule 9 = .ok (.aload_n 0, 1) := by decide +kernel
theorem dX3_publicModule_10 : decode cX3_publicModule 10 = .ok (.getfield 9, 3) := by decide +kernel
theorem dX3_publicModule_13 : decode cX3_publicModule 13 = .ok (.iload 4, 2) := by decide +kernel
theorem dX3_publicModule_15 : decode cX3_publicModule 15 = .ok (.aaload, 1) := by decide +kernel
theorem dX3_publicModule_16 : decode cX3_publicModule 16 = .ok (.getfield 36, 3) := by decide +kernel
theorem dX3_publicModule_19 : decode cX3_publicModule 19 = .ok (.ifCond .eq 20, 3) := by decide +kernel
theorem dX3_publicModule_22 : decode cX3_publicModule 22 = .ok (.aload_n 0, 1) := by decide +kernel
theorem dX3_publicModule_23 : decode cX3_publicModule 23 = .ok (.getfield 9, 3) := by decide +kernel
theorem dX3_publicModule_26 : decode cX3_publicModule 26 = .ok (.iload 4, 2) := by decide +kernel
theorem dX3_publicModule_28 : decode cX3_publicModule 28 = .ok (.aaload, 1) := by decide +kernel
theorem dX3_publicModule_29 : decode cX3_publicModule 29 = .ok (.lload_n 1, 1) := by decide +kernel
theorem dX3_publicModule_30 : decode cX3_publicModule 30 = .ok (.invokevirtual 42, 3) := by decide +kernel
theorem dX3_publicModule_33 : decode cX3_publicModule 33 = .ok (.ifCond .lt 6, 3) := by decide +kernel
theorem dX3_publicModule_36 : decode cX3_publicModule 36 = .ok (.iload 4, 2) := by decide +kernel
theorem dX3_publicModule_38 : decode cX3_publicModule 38 = .ok (.ireturn, 1) := by decide +kernel
theorem dX3_publicModule_39 : decode cX3_publicModule 39 = .ok (.iinc 4 1, 3) := by decide +kernel
theorem dX3_publicModule_42 : decode cX3_publicModule 42 = .ok (.goto (-39), 3) := by decide +kernel
theorem dX3_firstPublicTwice_0 : decode cX3_firstPublicTwice 0 = .ok (.iconst 1, 1) := by decide +kernel
theorem dX3_firstPublicTwice_1 : decode cX3_firstPublicTwice 1 = .ok (.istore_n 1, 1) := by decide +kernel
theorem dX3_firstPublicTwice_2 : decode cX3_firstPublicTwice 2 = .ok (.iload_n 1, 1) := by decide +kernel
theorem dX3_firstPublicTwice_3 : decode cX3_firstPublicTwice 3 = .ok (.iconst 3, 1) := by decide +kernel
theorem dX3_firstPublicTwice_4 : decode cX3_firstPublicTwice 4 = .ok (.if_icmp .ge 48, 3) := by decide +kernel
theorem dX3_firstPublicTwice_52 : decode cX3_firstPublicTwice 52 = .ok (.iconst (-1), 1) := by decide +kernel
theorem dX3_firstPublicTwice_53 : decode cX3_firstPublicTwice 53 = .ok (.ireturn, 1) := by decide +kernel
theorem dX3_firstPublicTwice_7 : decode cX3_firstPublicTwice 7 = .ok (.aload_n 0, 1) := by decide +kernel
theorem dX3_firstPublicTwice_8 : decode cX3_firstPublicTwice 8 = .ok (.getfield 9, 3) := by decide +kernel
theorem dX3_firstPublicTwice_11 : decode cX3_firstPublicTwice 11 = .ok (.iload_n 1, 1) := by decide +kernel
theorem dX3_firstPublicTwice_12 : decode cX3_firstPublicTwice 12 = .ok (.aaload, 1) := by decide +kernel
theorem dX3_firstPublicTwice_13 : decode cX3_firstPublicTwice 13 = .ok (.astore_n 2, 1) := by decide +kernel
theorem dX3_firstPublicTwice_14 : decode cX3_firstPublicTwice 14 = .ok (.iconst 0, 1) := by decide +kernel
theorem dX3_firstPublicTwice_15 : decode cX3_firstPublicTwice 15 = .ok (.istore_n 3, 1) := by decide +kernel
theorem dX3_firstPublicTwice_16 : decode cX3_firstPublicTwice 16 = .ok (.iload_n 3, 1) := by decide +kernel
theorem dX3_firstPublicTwice_17 : decode cX3_firstPublicTwice 17 = .ok (.aload_n 2, 1) := by decide +kernel
theorem dX3_firstPublicTwice_18 : decode cX3_firstPublicTwice 18 = .ok (.getfield 52, 3) := by decide +kernel
theorem dX3_firstPublicTwice_21 : decode cX3_firstPublicTwice 21 = .ok (.if_icmp .ge 25, 3) := by decide +kernel
theorem dX3_firstPublicTwice_46 : decode cX3_firstPublicTwice 46 = .ok (.iinc 1 1, 3) := by decide +kernel
theorem dX3_firstPublicTwice_49 : decode cX3_firstPublicTwice 49 = .ok (.goto (-47), 3) := by decide +kernel
theorem dX3_firstPublicTwice_24 : decode cX3_firstPublicTwice 24 = .ok (.aload_n 0, 1) := by decide +kernel
theorem dX3_firstPublicTwice_25 : decode cX3_firstPublicTwice 25 = .ok (.aload_n 2, 1) := by decide +kernel
theorem dX3_firstPublicTwice_26 : decode cX3_firstPublicTwice 26 = .ok (.getfield 55, 3) := by decide +kernel
theorem dX3_firstPublicTwice_29 : decode cX3_firstPublicTwice 29 = .ok (.iload_n 3, 1) := by decide +kernel
theorem dX3_firstPublicTwice_30 : decode cX3_firstPublicTwice 30 = .ok (.laload, 1) := by decide +kernel
theorem dX3_firstPublicTwice_31 : decode cX3_firstPublicTwice 31 = .ok (.iload_n 1, 1) := by decide +kernel
theorem dX3_firstPublicTwice_32 : decode cX3_firstPublicTwice 32 = .ok (.invokevirtual 48, 3) := by decide +kernel
theorem dX3_firstPublicTwice_35 : decode cX3_firstPublicTwice 35 = .ok (.ifCond .lt 5, 3) := by decide +kernel
theorem dX3_firstPublicTwice_40 : decode cX3_firstPublicTwice 40 = .ok (.iinc 3 1, 3) := by decide +kernel
theorem dX3_firstPublicTwice_43 : decode cX3_firstPublicTwice 43 = .ok (.goto (-27), 3) := by decide +kernel
theorem dX3_firstPublicTwice_38 : decode cX3_firstPublicTwice 38 = .ok (.iload_n 1, 1) := by decide +kernel
theorem dX3_firstPublicTwice_39 : decode cX3_firstPublicTwice 39 = .ok (.ireturn, 1) := by decide +kernel
theorem dX3_firstUnsolved_0 : decode cX3_firstUnsolved 0 = .ok (.iconst 0, 1) := by decide +kernel
theorem dX3_firstUnsolved_1 : decode cX3_firstUnsolved 1 = .ok (.istore_n 1, 1) := by decide +kernel
theorem dX3_firstUnsolved_2 : decode cX3_firstUnsolved 2 = .ok (.iload_n 1, 1) := by decide +kernel
theorem dX3_firstUnsolved_3 : decode cX3_firstUnsolved 3 = .ok (.iconst 3, 1) := by decide +kernel
theorem dX3_firstUnsolved_4 : decode cX3_firstUnsolved 4 = .ok (.if_icmp .ge 57, 3) := by decide +kernel
theorem dX3_firstUnsolved_61 : decode cX3_firstUnsolved 61 = .ok (.iconst (-1), 1) := by decide +kernel
theorem dX3_firstUnsolved_62 : decode cX3_firstUnsolved 62 = .ok (.ireturn, 1) := by decide +kernel
theorem dX3_firstUnsolved_7 : decode cX3_firstUnsolved 7 = .ok (.aload_n 0, 1) := by decide +kernel
theorem dX3_firstUnsolved_8 : decode cX3_firstUnsolved 8 = .ok (.getfield 9, 3) := by decide +kernel
theorem dX3_firstUnsolved_11 : decode cX3_firstUnsolved 11 = .ok (.iload_n 1, 1) := by decide +kernel
theorem dX3_firstUnsolved_12 : decode cX3_firstUnsolved 12 = .ok (.aaload, 1) := by decide +kernel
theorem dX3_firstUnsolved_13 : decode cX3_firstUnsolved 13 = .ok (.astore_n 2, 1) := by decide +kernel
theorem dX3_firstUnsolved_14 : decode cX3_firstUnsolved 14 = .ok (.iconst 0, 1) := by decide +kernel
theorem dX3_firstUnsolved_15 : decode cX3_firstUnsolved 15 = .ok (.istore_n 3, 1) := by decide +kernel
theorem dX3_firstUnsolved_16 : decode cX3_firstUnsolved 16 = .ok (.iload_n 3, 1) := by decide +kernel
theorem dX3_firstUnsolved_17 : decode cX3_firstUnsolved 17 = .ok (.aload_n 2, 1) := by decide +kernel
theorem dX3_firstUnsolved_18 : decode cX3_firstUnsolved 18 = .ok (.getfield 58, 3) := by decide +kernel
theorem dX3_firstUnsolved_21 : decode cX3_firstUnsolved 21 = .ok (.if_icmp .ge 34, 3) := by decide +kernel
theorem dX3_firstUnsolved_55 : decode cX3_firstUnsolved 55 = .ok (.iinc 1 1, 3) := by decide +kernel
theorem dX3_firstUnsolved_58 : decode cX3_firstUnsolved 58 = .ok (.goto (-56), 3) := by decide +kernel
theorem dX3_firstUnsolved_24 : decode cX3_firstUnsolved 24 = .ok (.aload_n 2, 1) := by decide +kernel
theorem dX3_firstUnsolved_25 : decode cX3_firstUnsolved 25 = .ok (.getfield 61, 3) := by decide +kernel
theorem dX3_firstUnsolved_28 : decode cX3_firstUnsolved 28 = .ok (.iload_n 3, 1) := by decide +kernel
theorem dX3_firstUnsolved_29 : decode cX3_firstUnsolved 29 = .ok (.iaload, 1) := by decide +kernel
theorem dX3_firstUnsolved_30 : decode cX3_firstUnsolved 30 = .ok (.ifCond .ge 19, 3) := by decide +kernel
theorem dX3_firstUnsolved_33 : decode cX3_firstUnsolved 33 = .ok (.aload_n 0, 1) := by decide +kernel
theorem dX3_firstUnsolved_34 : decode cX3_firstUnsolved 34 = .ok (.aload_n 2, 1) := by decide +kernel
theorem dX3_firstUnsolved_35 : decode cX3_firstUnsolved 35 = .ok (.getfield 64, 3) := by decide +kernel
theorem dX3_firstUnsolved_38 : decode cX3_firstUnsolved 38 = .ok (.iload_n 3, 1) := by decide +kernel
theorem dX3_firstUnsolved_39 : decode cX3_firstUnsolved 39 = .ok (.laload, 1) := by decide +kernel
theorem dX3_firstUnsolved_40 : decode cX3_firstUnsolved 40 = .ok (.iconst 3, 1) := by decide +kernel
theorem dX3_firstUnsolved_41 : decode cX3_firstUnsolved 41 = .ok (.invokevirtual 48, 3) := by decide +kernel
theorem dX3_firstUnsolved_44 : decode cX3_firstUnsolved 44 = .ok (.ifCond .ge 5, 3) := by decide +kernel
theorem dX3_firstUnsolved_47 : decode cX3_firstUnsolved 47 = .ok (.iload_n 1, 1) := by decide +kernel
theorem dX3_firstUnsolved_48 : decode cX3_firstUnsolved 48 = .ok (.ireturn, 1) := by decide +kernel
theorem dX3_firstUnsolved_49 : decode cX3_firstUnsolved 49 = .ok (.iinc 3 1, 3) := by decide +kernel
theorem dX3_firstUnsolved_52 : decode cX3_firstUnsolved 52 = .ok (.goto (-36), 3) := by decide +kernel
theorem dX3_hasMain_0 : decode cX3_hasMain 0 = .ok (.aload_n 0, 1) := by decide +kernel
theorem dX3_hasMain_1 : decode cX3_hasMain 1 = .ok (.ldc2_w 46, 3) := by decide +kernel
theorem dX3_hasMain_4 : decode cX3_hasMain 4 = .ok (.iconst 3, 1) := by decide +kernel
theorem dX3_hasMain_5 : decode cX3_hasMain 5 = .ok (.invokevirtual 48, 3) := by decide +kernel
theorem dX3_hasMain_8 : decode cX3_hasMain 8 = .ok (.ifCond .lt 7, 3) := by decide +kernel
theorem dX3_hasMain_15 : decode cX3_hasMain 15 = .ok (.iconst 0, 1) := by decide +kernel
theorem dX3_hasMain_11 : decode cX3_hasMain 11 = .ok (.iconst 1, 1) := by decide +kernel
theorem dX3_hasMain_12 : decode cX3_hasMain 12 = .ok (.goto 4, 3) := by decide +kernel
theorem dX3_hasMain_16 : decode cX3_hasMain 16 = .ok (.ireturn, 1) := by decide +kernel
theorem dX3_combinedNumber_0 : decode cX3_combinedNumber 0 = .ok (.iconst 0, 1) := by decide +kernel
theorem dX3_combinedNumber_1 : decode cX3_combinedNumber 1 = .ok (.istore_n 3, 1) := by decide +kernel
theorem dX3_combinedNumber_2 : decode cX3_combinedNumber 2 = .ok (.iload_n 3, 1) := by decide +kernel
theorem dX3_combinedNumber_3 : decode cX3_combinedNumber 3 = .ok (.aload_n 0, 1) := by decide +kernel
theorem dX3_combinedNumber_4 : decode cX3_combinedNumber 4 = .ok (.getfield 26, 3) := by decide +kernel
theorem dX3_combinedNumber_7 : decode cX3_combinedNumber 7 = .ok (.if_icmp .ge 22, 3) := by decide +kernel
theorem dX3_combinedNumber_29 : decode cX3_combinedNumber 29 = .ok (.aload_n 0, 1) := by decide +kernel
theorem dX3_combinedNumber_30 : decode cX3_combinedNumber 30 = .ok (.getfield 26, 3) := by decide +kernel
theorem dX3_combinedNumber_33 : decode cX3_combinedNumber 33 = .ok (.bipush 72, 2) := by decide +kernel
theorem dX3_combinedNumber_35 : decode cX3_combinedNumber 35 = .ok (.if_icmp .lt 6, 3) := by decide +kernel
theorem dX3_combinedNumber_41 : decode cX3_combinedNumber 41 = .ok (.aload_n 0, 1) := by decide +kernel
theorem dX3_combinedNumber_42 : decode cX3_combinedNumber 42 = .ok (.getfield 15, 3) := by decide +kernel
theorem dX3_combinedNumber_45 : decode cX3_combinedNumber 45 = .ok (.aload_n 0, 1) := by decide +kernel
theorem dX3_combinedNumber_46 : decode cX3_combinedNumber 46 = .ok (.getfield 26, 3) := by decide +kernel
theorem dX3_combinedNumber_49 : decode cX3_combinedNumber 49 = .ok (.lload_n 1, 1) := by decide +kernel
theorem dX3_combinedNumber_50 : decode cX3_combinedNumber 50 = .ok (.lastore, 1) := by decide +kernel
theorem dX3_combinedNumber_51 : decode cX3_combinedNumber 51 = .ok (.aload_n 0, 1) := by decide +kernel
theorem dX3_combinedNumber_52 : decode cX3_combinedNumber 52 = .ok (.getfield 19, 3) := by decide +kernel
theorem dX3_combinedNumber_55 : decode cX3_combinedNumber 55 = .ok (.aload_n 0, 1) := by decide +kernel
theorem dX3_combinedNumber_56 : decode cX3_combinedNumber 56 = .ok (.getfield 26, 3) := by decide +kernel
theorem dX3_combinedNumber_59 : decode cX3_combinedNumber 59 = .ok (.iconst 0, 1) := by decide +kernel
theorem dX3_combinedNumber_60 : decode cX3_combinedNumber 60 = .ok (.iastore, 1) := by decide +kernel
theorem dX3_combinedNumber_61 : decode cX3_combinedNumber 61 = .ok (.aload_n 0, 1) := by decide +kernel
theorem dX3_combinedNumber_62 : decode cX3_combinedNumber 62 = .ok (.dup, 1) := by decide +kernel
theorem dX3_combinedNumber_63 : decode cX3_combinedNumber 63 = .ok (.getfield 26, 3) := by decide +kernel
theorem dX3_combinedNumber_66 : decode cX3_combinedNumber 66 = .ok (.iconst 1, 1) := by decide +kernel
theorem dX3_combinedNumber_67 : decode cX3_combinedNumber 67 = .ok (.iadd, 1) := by decide +kernel
theorem dX3_combinedNumber_68 : decode cX3_combinedNumber 68 = .ok (.putfield 26, 3) := by decide +kernel
theorem dX3_combinedNumber_71 : decode cX3_combinedNumber 71 = .ok (.aload_n 0, 1) := by decide +kernel
theorem dX3_combinedNumber_72 : decode cX3_combinedNumber 72 = .ok (.getfield 26, 3) := by decide +kernel
theorem dX3_combinedNumber_75 : decode cX3_combinedNumber 75 = .ok (.iconst 1, 1) := by decide +kernel
theorem dX3_combinedNumber_76 : decode cX3_combinedNumber 76 = .ok (.isub, 1) := by decide +kernel
theorem dX3_combinedNumber_77 : decode cX3_combinedNumber 77 = .ok (.ireturn, 1) := by decide +kernel
theorem dX3_combinedNumber_38 : decode cX3_combinedNumber 38 = .ok (.bipush 71, 2) := by decide +kernel
theorem dX3_combinedNumber_40 : decode cX3_combinedNumber 40 = .ok (.ireturn, 1) := by decide +kernel
theorem dX3_combinedNumber_10 : decode cX3_combinedNumber 10 = .ok (.aload_n 0, 1) := by decide +kernel
theorem dX3_combinedNumber_11 : decode cX3_combinedNumber 11 = .ok (.getfield 15, 3) := by decide +kernel
theorem dX3_combinedNumber_14 : decode cX3_combinedNumber 14 = .ok (.iload_n 3, 1) := by decide +kernel
theorem dX3_combinedNumber_15 : decode cX3_combinedNumber 15 = .ok (.laload, 1) := by decide +kernel
theorem dX3_combinedNumber_16 : decode cX3_combinedNumber 16 = .ok (.lload_n 1, 1) := by decide +kernel
theorem dX3_combinedNumber_17 : decode cX3_combinedNumber 17 = .ok (.lcmp, 1) := by decide +kernel
theorem dX3_combinedNumber_18 : decode cX3_combinedNumber 18 = .ok (.ifCond .ne 5, 3) := by decide +kernel
theorem dX3_combinedNumber_23 : decode cX3_combinedNumber 23 = .ok (.iinc 3 1, 3) := by decide +kernel
theorem dX3_combinedNumber_26 : decode cX3_combinedNumber 26 = .ok (.goto (-24), 3) := by decide +kernel
theorem dX3_combinedNumber_21 : decode cX3_combinedNumber 21 = .ok (.iload_n 3, 1) := by decide +kernel
theorem dX3_combinedNumber_22 : decode cX3_combinedNumber 22 = .ok (.ireturn, 1) := by decide +kernel
theorem dX10_roundUp_0 : decode cX10_roundUp 0 = .ok (.iload_n 0, 1) := by decide +kernel
theorem dX10_roundUp_1 : decode cX10_roundUp 1 = .ok (.iload_n 1, 1) := by decide +kernel
theorem dX10_roundUp_2 : decode cX10_roundUp 2 = .ok (.iadd, 1) := by decide +kernel
theorem dX10_roundUp_3 : decode cX10_roundUp 3 = .ok (.iconst 1, 1) := by decide +kernel
theorem dX10_roundUp_4 : decode cX10_roundUp 4 = .ok (.isub, 1) := by decide +kernel
theorem dX10_roundUp_5 : decode cX10_roundUp 5 = .ok (.iload_n 1, 1) := by decide +kernel
theorem dX10_roundUp_6 : decode cX10_roundUp 6 = .ok (.ineg, 1) := by decide +kernel
theorem dX10_roundUp_7 : decode cX10_roundUp 7 = .ok (.iand, 1) := by decide +kernel
theorem dX10_roundUp_8 : decode cX10_roundUp 8 = .ok (.ireturn, 1) := by decide +kernel
theorem dX3_part_0 : decode cX3_part 0 = .ok (.iload_n 0, 1) := by decide +kernel
theorem dX3_part_1 : decode cX3_part 1 = .ok (.bipush 24, 2) := by decide +kernel
theorem dX3_part_3 : decode cX3_part 3 = .ok (.imul, 1) := by decide +kernel
theorem dX3_part_4 : decode cX3_part 4 = .ok (.iload_n 1, 1) := by decide +kernel
theorem dX3_part_5 : decode cX3_part 5 = .ok (.iadd, 1) := by decide +kernel
theorem dX3_part_6 : decode cX3_part 6 = .ok (.ireturn, 1) := by decide +kernel
theorem dX3_addPart_0 : decode cX3_addPart 0 = .ok (.aload_n 0, 1) := by decide +kernel
theorem dX3_addPart_1 : decode cX3_addPart 1 = .ok (.getfield 9, 3) := by decide +kernel
theorem dX3_addPart_4 : decode cX3_addPart 4 = .ok (.iload_n 1, 1) := by decide +kernel
theorem dX3_addPart_5 : decode cX3_addPart 5 = .ok (.aaload, 1) := by decide +kernel
theorem dX3_addPart_6 : decode cX3_addPart 6 = .ok (.astore_n 3, 1) := by decide +kernel
theorem dX3_addPart_7 : decode cX3_addPart 7 = .ok (.aload_n 0, 1) := by decide +kernel
theorem dX3_addPart_8 : decode cX3_addPart 8 = .ok (.aload_n 3, 1) := by decide +kernel
theorem dX3_addPart_9 : decode cX3_addPart 9 = .ok (.getfield 78, 3) := by decide +kernel
theorem dX3_addPart_12 : decode cX3_addPart 12 = .ok (.iload_n 2, 1) := by decide +kernel
theorem dX3_addPart_13 : decode cX3_addPart 13 = .ok (.laload, 1) := by decide +kernel
theorem dX3_addPart_14 : decode cX3_addPart 14 = .ok (.invokevirtual 81, 3) := by decide +kernel
theorem dX3_addPart_17 : decode cX3_addPart 17 = .ok (.istore 4, 2) := by decide +kernel
theorem dX3_addPart_19 : decode cX3_addPart 19 = .ok (.aload_n 0, 1) := by decide +kernel
theorem dX3_addPart_20 : decode cX3_addPart 20 = .ok (.getfield 19, 3) := by decide +kernel
theorem dX3_addPart_23 : decode cX3_addPart 23 = .ok (.iload 4, 2) := by decide +kernel
theorem dX3_addPart_25 : decode cX3_addPart 25 = .ok (.iaload, 1) := by decide +kernel
theorem dX3_addPart_26 : decode cX3_addPart 26 = .ok (.aload_n 3, 1) := by decide +kernel
theorem dX3_addPart_27 : decode cX3_addPart 27 = .ok (.getfield 84, 3) := by decide +kernel
theorem dX3_addPart_30 : decode cX3_addPart 30 = .ok (.iload_n 2, 1) := by decide +kernel
theorem dX3_addPart_31 : decode cX3_addPart 31 = .ok (.iaload, 1) := by decide +kernel
theorem dX3_addPart_32 : decode cX3_addPart 32 = .ok (.invokestatic 74, 3) := by decide +kernel
theorem dX3_addPart_35 : decode cX3_addPart 35 = .ok (.istore 5, 2) := by decide +kernel
theorem dX3_addPart_37 : decode cX3_addPart 37 = .ok (.aload_n 0, 1) := by decide +kernel
theorem dX3_addPart_38 : decode cX3_addPart 38 = .ok (.getfield 30, 3) := by decide +kernel
theorem dX3_addPart_41 : decode cX3_addPart 41 = .ok (.iload_n 1, 1) := by decide +kernel
theorem dX3_addPart_42 : decode cX3_addPart 42 = .ok (.iload_n 2, 1) := by decide +kernel
theorem dX3_addPart_43 : decode cX3_addPart 43 = .ok (.invokestatic 87, 3) := by decide +kernel
theorem dX3_addPart_46 : decode cX3_addPart 46 = .ok (.iload 4, 2) := by decide +kernel
theorem dX3_addPart_48 : decode cX3_addPart 48 = .ok (.iastore, 1) := by decide +kernel
theorem dX3_addPart_49 : decode cX3_addPart 49 = .ok (.aload_n 0, 1) := by decide +kernel
theorem dX3_addPart_50 : decode cX3_addPart 50 = .ok (.getfield 33, 3) := by decide +kernel
theorem dX3_addPart_53 : decode cX3_addPart 53 = .ok (.iload_n 1, 1) := by decide +kernel
theorem dX3_addPart_54 : decode cX3_addPart 54 = .ok (.iload_n 2, 1) := by decide +kernel
theorem dX3_addPart_55 : decode cX3_addPart 55 = .ok (.invokestatic 87, 3) := by decide +kernel
theorem dX3_addPart_58 : decode cX3_addPart 58 = .ok (.iload 5, 2) := by decide +kernel
theorem dX3_addPart_60 : decode cX3_addPart 60 = .ok (.iastore, 1) := by decide +kernel
theorem dX3_addPart_61 : decode cX3_addPart 61 = .ok (.aload_n 0, 1) := by decide +kernel
theorem dX3_addPart_62 : decode cX3_addPart 62 = .ok (.getfield 19, 3) := by decide +kernel
theorem dX3_addPart_65 : decode cX3_addPart 65 = .ok (.iload 4, 2) := by decide +kernel
theorem dX3_addPart_67 : decode cX3_addPart 67 = .ok (.iload 5, 2) := by decide +kernel
theorem dX3_addPart_69 : decode cX3_addPart 69 = .ok (.aload_n 3, 1) := by decide +kernel
theorem dX3_addPart_70 : decode cX3_addPart 70 = .ok (.getfield 90, 3) := by decide +kernel
theorem dX3_addPart_73 : decode cX3_addPart 73 = .ok (.iload_n 2, 1) := by decide +kernel
theorem dX3_addPart_74 : decode cX3_addPart 74 = .ok (.iaload, 1) := by decide +kernel
theorem dX3_addPart_75 : decode cX3_addPart 75 = .ok (.iadd, 1) := by decide +kernel
theorem dX3_addPart_76 : decode cX3_addPart 76 = .ok (.iastore, 1) := by decide +kernel
theorem dX3_addPart_77 : decode cX3_addPart 77 = .ok (.return_, 1) := by decide +kernel
theorem dX3_combine_0 : decode cX3_combine 0 = .ok (.aload_n 0, 1) := by decide +kernel
theorem dX3_combine_1 : decode cX3_combine 1 = .ok (.iconst 0, 1) := by decide +kernel
theorem dX3_combine_2 : decode cX3_combine 2 = .ok (.putfield 26, 3) := by decide +kernel
theorem dX3_combine_5 : decode cX3_combine 5 = .ok (.iconst 0, 1) := by decide +kernel
theorem dX3_combine_6 : decode cX3_combine 6 = .ok (.istore_n 1, 1) := by decide +kernel
theorem dX3_combine_7 : decode cX3_combine 7 = .ok (.iload_n 1, 1) := by decide +kernel
theorem dX3_combine_8 : decode cX3_combine 8 = .ok (.iconst 3, 1) := by decide +kernel
theorem dX3_combine_9 : decode cX3_combine 9 = .ok (.if_icmp .ge 36, 3) := by decide +kernel
theorem dX3_combine_45 : decode cX3_combine 45 = .ok (.iconst 0, 1) := by decide +kernel
theorem dX3_combine_46 : decode cX3_combine 46 = .ok (.istore_n 1, 1) := by decide +kernel
theorem dX3_combine_47 : decode cX3_combine 47 = .ok (.iconst 0, 1) := by decide +kernel
theorem dX3_combine_48 : decode cX3_combine 48 = .ok (.istore_n 2, 1) := by decide +kernel
theorem dX3_combine_12 : decode cX3_combine 12 = .ok (.iconst 0, 1) := by decide +kernel
theorem dX3_combine_13 : decode cX3_combine 13 = .ok (.istore_n 2, 1) := by decide +kernel
theorem dX3_combine_49 : decode cX3_combine 49 = .ok (.iload_n 2, 1) := by decide +kernel
theorem dX3_combine_50 : decode cX3_combine 50 = .ok (.aload_n 0, 1) := by decide +kernel
theorem dX3_combine_51 : decode cX3_combine 51 = .ok (.getfield 26, 3) := by decide +kernel
theorem dX3_combine_54 : decode cX3_combine 54 = .ok (.if_icmp .ge 35, 3) := by decide +kernel
theorem dX3_combine_89 : decode cX3_combine 89 = .ok (.iload_n 1, 1) := by decide +kernel
theorem dX3_combine_90 : decode cX3_combine 90 = .ok (.ireturn, 1) := by decide +kernel
theorem dX3_combine_57 : decode cX3_combine 57 = .ok (.aload_n 0, 1) := by decide +kernel
theorem dX3_combine_58 : decode cX3_combine 58 = .ok (.getfield 23, 3) := by decide +kernel
theorem dX3_combine_61 : decode cX3_combine 61 = .ok (.iload_n 2, 1) := by decide +kernel
theorem dX3_combine_62 : decode cX3_combine 62 = .ok (.iload_n 1, 1) := by decide +kernel
theorem dX3_combine_63 : decode cX3_combine 63 = .ok (.bipush 16, 2) := by decide +kernel
theorem dX3_combine_65 : decode cX3_combine 65 = .ok (.invokestatic 74, 3) := by decide +kernel
theorem dX3_combine_68 : decode cX3_combine 68 = .ok (.iastore, 1) := by decide +kernel
theorem dX3_combine_69 : decode cX3_combine 69 = .ok (.aload_n 0, 1) := by decide +kernel
theorem dX3_combine_70 : decode cX3_combine 70 = .ok (.getfield 23, 3) := by decide +kernel
theorem dX3_combine_73 : decode cX3_combine 73 = .ok (.iload_n 2, 1) := by decide +kernel
theorem dX3_combine_74 : decode cX3_combine 74 = .ok (.iaload, 1) := by decide +kernel
theorem dX3_combine_75 : decode cX3_combine 75 = .ok (.aload_n 0, 1) := by decide +kernel
theorem dX3_combine_76 : decode cX3_combine 76 = .ok (.getfield 19, 3) := by decide +kernel
theorem dX3_combine_79 : decode cX3_combine 79 = .ok (.iload_n 2, 1) := by decide +kernel
theorem dX3_combine_80 : decode cX3_combine 80 = .ok (.iaload, 1) := by decide +kernel
theorem dX3_combine_81 : decode cX3_combine 81 = .ok (.iadd, 1) := by decide +kernel
theorem dX3_combine_82 : decode cX3_combine 82 = .ok (.istore_n 1, 1) := by decide +kernel
theorem dX3_combine_83 : decode cX3_combine 83 = .ok (.iinc 2 1, 3) := by decide +kernel
theorem dX3_combine_86 : decode cX3_combine 86 = .ok (.goto (-37), 3) := by decide +kernel
theorem dX3_combine_14 : decode cX3_combine 14 = .ok (.iload_n 2, 1) := by decide +kernel
theorem dX3_combine_15 : decode cX3_combine 15 = .ok (.aload_n 0, 1) := by decide +kernel
theorem dX3_combine_16 : decode cX3_combine 16 = .ok (.getfield 9, 3) := by decide +kernel
theorem dX3_combine_19 : decode cX3_combine 19 = .ok (.iload_n 1, 1) := by decide +kernel
theorem dX3_combine_20 : decode cX3_combine 20 = .ok (.aaload, 1) := by decide +kernel
theorem dX3_combine_21 : decode cX3_combine 21 = .ok (.getfield 67, 3) := by decide +kernel
theorem dX3_combine_24 : decode cX3_combine 24 = .ok (.if_icmp .ge 15, 3) := by decide +kernel
theorem dX3_combine_39 : decode cX3_combine 39 = .ok (.iinc 1 1, 3) := by decide +kernel
theorem dX3_combine_42 : decode cX3_combine 42 = .ok (.goto (-35), 3) := by decide +kernel
theorem dX3_combine_27 : decode cX3_combine 27 = .ok (.aload_n 0, 1) := by decide +kernel
theorem dX3_combine_28 : decode cX3_combine 28 = .ok (.iload_n 1, 1) := by decide +kernel
theorem dX3_combine_29 : decode cX3_combine 29 = .ok (.iload_n 2, 1) := by decide +kernel
theorem dX3_combine_30 : decode cX3_combine 30 = .ok (.invokevirtual 70, 3) := by decide +kernel
theorem dX3_combine_33 : decode cX3_combine 33 = .ok (.iinc 2 1, 3) := by decide +kernel
theorem dX3_combine_36 : decode cX3_combine 36 = .ok (.goto (-22), 3) := by decide +kernel
theorem dX3_publicPart_0 : decode cX3_publicPart 0 = .ok (.aload_n 0, 1) := by decide +kernel
theorem dX3_publicPart_1 : decode cX3_publicPart 1 = .ok (.lload_n 1, 1) := by decide +kernel
theorem dX3_publicPart_2 : decode cX3_publicPart 2 = .ok (.iconst 3, 1) := by decide +kernel
theorem dX3_publicPart_3 : decode cX3_publicPart 3 = .ok (.invokevirtual 48, 3) := by decide +kernel
theorem dX3_publicPart_6 : decode cX3_publicPart 6 = .ok (.istore_n 3, 1) := by decide +kernel
theorem dX3_publicPart_7 : decode cX3_publicPart 7 = .ok (.iload_n 3, 1) := by decide +kernel
theorem dX3_publicPart_8 : decode cX3_publicPart 8 = .ok (.ifCond .ge 5, 3) := by decide +kernel
theorem dX3_publicPart_13 : decode cX3_publicPart 13 = .ok (.iload_n 3, 1) := by decide +kernel
theorem dX3_publicPart_14 : decode cX3_publicPart 14 = .ok (.aload_n 0, 1) := by decide +kernel
theorem dX3_publicPart_15 : decode cX3_publicPart 15 = .ok (.getfield 9, 3) := by decide +kernel
theorem dX3_publicPart_18 : decode cX3_publicPart 18 = .ok (.iload_n 3, 1) := by decide +kernel
theorem dX3_publicPart_19 : decode cX3_publicPart 19 = .ok (.aaload, 1) := by decide +kernel
theorem dX3_publicPart_20 : decode cX3_publicPart 20 = .ok (.getfield 93, 3) := by decide +kernel
theorem dX3_publicPart_23 : decode cX3_publicPart 23 = .ok (.aload_n 0, 1) := by decide +kernel
theorem dX3_publicPart_24 : decode cX3_publicPart 24 = .ok (.getfield 9, 3) := by decide +kernel
theorem dX3_publicPart_27 : decode cX3_publicPart 27 = .ok (.iload_n 3, 1) := by decide +kernel
theorem dX3_publicPart_28 : decode cX3_publicPart 28 = .ok (.aaload, 1) := by decide +kernel
theorem dX3_publicPart_29 : decode cX3_publicPart 29 = .ok (.lload_n 1, 1) := by decide +kernel
theorem dX3_publicPart_30 : decode cX3_publicPart 30 = .ok (.invokevirtual 42, 3) := by decide +kernel
theorem dX3_publicPart_33 : decode cX3_publicPart 33 = .ok (.iaload, 1) := by decide +kernel
theorem dX3_publicPart_34 : decode cX3_publicPart 34 = .ok (.invokestatic 87, 3) := by decide +kernel
theorem dX3_publicPart_37 : decode cX3_publicPart 37 = .ok (.ireturn, 1) := by decide +kernel
theorem dX3_publicPart_11 : decode cX3_publicPart 11 = .ok (.iconst 0, 1) := by decide +kernel
theorem dX3_publicPart_12 : decode cX3_publicPart 12 = .ok (.ireturn, 1) := by decide +kernel
theorem dX3_firstApart_0 : decode cX3_firstApart 0 = .ok (.iconst 0, 1) := by decide +kernel
theorem dX3_firstApart_1 : decode cX3_firstApart 1 = .ok (.istore_n 1, 1) := by decide +kernel
theorem dX3_firstApart_2 : decode cX3_firstApart 2 = .ok (.iload_n 1, 1) := by decide +kernel
theorem dX3_firstApart_3 : decode cX3_firstApart 3 = .ok (.iconst 3, 1) := by decide +kernel
theorem dX3_firstApart_4 : decode cX3_firstApart 4 = .ok (.if_icmp .ge 77, 3) := by decide +kernel
theorem dX3_firstApart_81 : decode cX3_firstApart 81 = .ok (.iconst (-1), 1) := by decide +kernel
theorem dX3_firstApart_82 : decode cX3_firstApart 82 = .ok (.ireturn, 1) := by decide +kernel
theorem dX3_firstApart_7 : decode cX3_firstApart 7 = .ok (.aload_n 0, 1) := by decide +kernel
theorem dX3_firstApart_8 : decode cX3_firstApart 8 = .ok (.getfield 9, 3) := by decide +kernel
theorem dX3_firstApart_11 : decode cX3_firstApart 11 = .ok (.iload_n 1, 1) := by decide +kernel
theorem dX3_firstApart_12 : decode cX3_firstApart 12 = .ok (.aaload, 1) := by decide +kernel
theorem dX3_firstApart_13 : decode cX3_firstApart 13 = .ok (.astore_n 2, 1) := by decide +kernel
theorem dX3_firstApart_14 : decode cX3_firstApart 14 = .ok (.iconst 0, 1) := by decide +kernel
theorem dX3_firstApart_15 : decode cX3_firstApart 15 = .ok (.istore_n 3, 1) := by decide +kernel
theorem dX3_firstApart_16 : decode cX3_firstApart 16 = .ok (.iload_n 3, 1) := by decide +kernel
theorem dX3_firstApart_17 : decode cX3_firstApart 17 = .ok (.aload_n 2, 1) := by decide +kernel
theorem dX3_firstApart_18 : decode cX3_firstApart 18 = .ok (.getfield 58, 3) := by decide +kernel
theorem dX3_firstApart_21 : decode cX3_firstApart 21 = .ok (.if_icmp .ge 54, 3) := by decide +kernel
theorem dX3_firstApart_75 : decode cX3_firstApart 75 = .ok (.iinc 1 1, 3) := by decide +kernel
theorem dX3_firstApart_78 : decode cX3_firstApart 78 = .ok (.goto (-76), 3) := by decide +kernel
theorem dX3_firstApart_24 : decode cX3_firstApart 24 = .ok (.aload_n 2, 1) := by decide +kernel
theorem dX3_firstApart_25 : decode cX3_firstApart 25 = .ok (.getfield 102, 3) := by decide +kernel
theorem dX3_firstApart_28 : decode cX3_firstApart 28 = .ok (.iload_n 3, 1) := by decide +kernel
theorem dX3_firstApart_29 : decode cX3_firstApart 29 = .ok (.iaload, 1) := by decide +kernel
theorem dX3_firstApart_30 : decode cX3_firstApart 30 = .ok (.iconst 2, 1) := by decide +kernel
theorem dX3_firstApart_31 : decode cX3_firstApart 31 = .ok (.if_icmp .ne 38, 3) := by decide +kernel
theorem dX3_firstApart_34 : decode cX3_firstApart 34 = .ok (.aload_n 0, 1) := by decide +kernel
theorem dX3_firstApart_35 : decode cX3_firstApart 35 = .ok (.getfield 30, 3) := by decide +kernel
theorem dX3_firstApart_38 : decode cX3_firstApart 38 = .ok (.iload_n 1, 1) := by decide +kernel
theorem dX3_firstApart_39 : decode cX3_firstApart 39 = .ok (.aload_n 2, 1) := by decide +kernel
theorem dX3_firstApart_40 : decode cX3_firstApart 40 = .ok (.getfield 105, 3) := by decide +kernel
theorem dX3_firstApart_43 : decode cX3_firstApart 43 = .ok (.iload_n 3, 1) := by decide +kernel
theorem dX3_firstApart_44 : decode cX3_firstApart 44 = .ok (.iaload, 1) := by decide +kernel
theorem dX3_firstApart_45 : decode cX3_firstApart 45 = .ok (.invokestatic 87, 3) := by decide +kernel
theorem dX3_firstApart_48 : decode cX3_firstApart 48 = .ok (.iaload, 1) := by decide +kernel
theorem dX3_firstApart_49 : decode cX3_firstApart 49 = .ok (.aload_n 0, 1) := by decide +kernel
theorem dX3_firstApart_50 : decode cX3_firstApart 50 = .ok (.getfield 30, 3) := by decide +kernel
theorem dX3_firstApart_53 : decode cX3_firstApart 53 = .ok (.aload_n 0, 1) := by decide +kernel
theorem dX3_firstApart_54 : decode cX3_firstApart 54 = .ok (.aload_n 2, 1) := by decide +kernel
theorem dX3_firstApart_55 : decode cX3_firstApart 55 = .ok (.getfield 64, 3) := by decide +kernel
theorem dX3_firstApart_58 : decode cX3_firstApart 58 = .ok (.iload_n 3, 1) := by decide +kernel
theorem dX3_firstApart_59 : decode cX3_firstApart 59 = .ok (.laload, 1) := by decide +kernel
theorem dX3_firstApart_60 : decode cX3_firstApart 60 = .ok (.invokevirtual 96, 3) := by decide +kernel
theorem dX3_firstApart_63 : decode cX3_firstApart 63 = .ok (.iaload, 1) := by decide +kernel
theorem dX3_firstApart_64 : decode cX3_firstApart 64 = .ok (.if_icmp .eq 5, 3) := by decide +kernel
theorem dX3_firstApart_67 : decode cX3_firstApart 67 = .ok (.iload_n 1, 1) := by decide +kernel
theorem dX3_firstApart_68 : decode cX3_firstApart 68 = .ok (.ireturn, 1) := by decide +kernel
theorem dX3_firstApart_69 : decode cX3_firstApart 69 = .ok (.iinc 3 1, 3) := by decide +kernel
theorem dX3_firstApart_72 : decode cX3_firstApart 72 = .ok (.goto (-56), 3) := by decide +kernel
theorem dX1_begin_0 : decode cX1_begin 0 = .ok (.aload_n 0, 1) := by decide +kernel
theorem dX1_begin_1 : decode cX1_begin 1 = .ok (.iconst 1, 1) := by decide +kernel
theorem dX1_begin_2 : decode cX1_begin 2 = .ok (.putfield 11, 3) := by decide +kernel
theorem dX1_begin_5 : decode cX1_begin 5 = .ok (.aload_n 0, 1) := by decide +kernel
theorem dX1_begin_6 : decode cX1_begin 6 = .ok (.iload_n 1, 1) := by decide +kernel
theorem dX1_begin_7 : decode cX1_begin 7 = .ok (.putfield 17, 3) := by decide +kernel
theorem dX1_begin_10 : decode cX1_begin 10 = .ok (.aload_n 0, 1) := by decide +kernel
theorem dX1_begin_11 : decode cX1_begin 11 = .ok (.iconst 0, 1) := by decide +kernel
theorem dX1_begin_12 : decode cX1_begin 12 = .ok (.putfield 25, 3) := by decide +kernel
theorem dX1_begin_15 : decode cX1_begin 15 = .ok (.aload_n 0, 1) := by decide +kernel
theorem dX1_begin_16 : decode cX1_begin 16 = .ok (.getfield 21, 3) := by decide +kernel
theorem dX1_begin_19 : decode cX1_begin 19 = .ok (.iconst 0, 1) := by decide +kernel
theorem dX1_begin_20 : decode cX1_begin 20 = .ok (.invokestatic 37, 3) := by decide +kernel
theorem dX1_begin_23 : decode cX1_begin 23 = .ok (.return_, 1) := by decide +kernel
def wpX2_write_148 (K62 : Int → ZS → Prop) (v1 v2 : Int) (σ : ZS) (Q : ZS → Prop) : Prop := K62 (v2 + 1) σ
def wpbX2_write_62 (K62 : Int → ZS → Prop) (v1 v2 : Int) (σ : ZS) (Q : ZS → Prop) : Prop := (-2147483648 ≤ v2 ∧ v2 ≤ 2147483647) ∧ (-2147483648 ≤ (zI σ 13 7) ∧ (zI σ 13 7) ≤ 2147483647) ∧ ((zI σ 13 7) ≤ v2 → Q σ) ∧ (¬ (zI σ 13 7) ≤ v2 → (0 ≤ v2 ∧ v2 < 248) ∧ (-2147483648 ≤ (zA σ 13 0 v2) ∧ (zA σ 13 0 v2) ≤ 2147483647) ∧ (¬ (zA σ 13 0 v2) = 2 → (-2147483648 ≤ (zA σ 13 5 v2) ∧ (zA σ 13 5 v2) ≤ 2147483647) ∧ ((zA σ 13 5 v2) < 0 → wpX2_write_148 K62 v1 v2 σ Q) ∧ (¬ (zA σ 13 5 v2) < 0 → wpX2_writeItem v1 v2 σ (fun (σ10 : ZS) => wpX2_write_148 K62 v1 v2 σ10 Q))) ∧ ((zA σ 13 0 v2) = 2 → (0 ≤ (zA σ 13 2 v2) ∧ (zA σ 13 2 v2) < 240) ∧ (0 ≤ v1 ∧ v1 ≤ 2) ∧ wpX6_addPublic v1 (zA σ 11 0 (zA σ 13 2 v2)) (zA σ 11 2 (zA σ 13 2 v2)) (zA σ 11 4 (zA σ 13 2 v2)) σ (fun (σ14 : ZS) => wpX2_write_148 K62 v1 v2 σ14 Q)))
def wpX2_write_62 (v1 v2 : Int) (σ : ZS) (Q : ZS → Prop) : Prop := lfp1 (fun K62 v2 σ => wpbX2_write_62 K62 v1 v2 σ Q) v2 σ
def wpbX2_write_11 (K11 : Int → ZS → Prop) (v1 v2 : Int) (σ : ZS) (Q : ZS → Prop) : Prop := (-2147483648 ≤ v2 ∧ v2 ≤ 2147483647) ∧ (-2147483648 ≤ (zI σ 15 4) ∧ (zI σ 15 4) ≤ 2147483647) ∧ ((zI σ 15 4) ≤ v2 → wpX2_write_62 v1 0 σ Q) ∧ (¬ (zI σ 15 4) ≤ v2 → (0 ≤ v2 ∧ v2 < 60) ∧ (0 ≤ (zA σ 15 2 v2) ∧ (zA σ 15 2 v2) < 240) ∧ (0 ≤ v1 ∧ v1 ≤ 2) ∧ wpX6_addSegment v1 (zA σ 11 0 (zA σ 15 2 v2)) (zA σ 11 3 (zA σ 15 2 v2)) (zA σ 15 3 v2) σ (fun (σ22 : ZS) => K11 (v2 + 1) σ22))
def wpX2_write_11 (v1 v2 : Int) (σ : ZS) (Q : ZS → Prop) : Prop := lfp1 (fun K11 v2 σ => wpbX2_write_11 K11 v1 v2 σ Q) v2 σ
def wpX2_write (g1 : Int) (σ : ZS) (Q : ZS → Prop) : Prop := (0 ≤ g1 ∧ g1 ≤ 2) ∧ wpX6_clear g1 σ (fun (σ25 : ZS) => wpX2_write_11 g1 0 (zsI σ25 g1 0 1) Q)
set_option maxHeartbeats 4000000 in
set_option maxRecDepth 100000 in
theorem kX2_write (l : Launch) (D : va_G) (dA : Nat → ClassId) (ad : Int → Nat → Nat) (g1 : Int) (σ : ZS) (Q : ZS → Prop) (sz : Nat) (hw : wpX2_write g1 σ Q) : Met l yX2_write (gws yX2_write cX2_write 4 none) (gR 6 0 0) (gPre D dA [.ref (ad 15 1000), .ref (ad g1 1000)] (zC dA ad σ) sz) (va_Qv Q (gAt D dA (va_A (zC dA ad σ) sz) (zC dA ad)) (va_A (zC dA ad σ) sz)) 0 0 (va_A (zC dA ad σ) sz) := by
  refine Met.ofW (cc := cX2_write) (maxL := 4) (ret := none) (by decide) rfl ?_
  intro p e s m args below meth c s₁ B hml hv
  obtain ⟨rfl, hsz, hP, hK, hD0⟩ := hv
  have hx := B.exec
  have hb := B.bytes
  have hr := B.returns
  have hts := atoms_spec (ws := gws yX2_write cX2_write 4 none) B.pre
  have hg : ∀ w ∈ gw, w.before _ s = true := fun w h => hts w (List.mem_cons_of_mem _ h)
  have hown : s.vm.findClass RX2 = some m.cls := findClass_of_methodNamed B.named
  have hlocks := B.notSynchronized
  subst hsz
  have hD := hD0.self (sz := s.heap.size)
  generalize hAe : va_A (zC dA ad σ) s.heap.size = A at hD ⊢
  have hA : ∀ q : Nat, s.heap.size ≤ q → A q := fun q h => by rw [← hAe]; exact Or.inr h
  have hS : va_S A s.heap s.heap [] := va_S.rf
  have hl := lv_entry ([.ref (ad 15 1000), .ref (ad g1 1000)]) (n := 4) (Nat.le_of_ble_eq_true rfl)
  rw [lg_entry_eq]
  generalize (lg_sl ([.ref (ad 15 1000), .ref (ad g1 1000)]) ++ List.replicate (4 - (lg_sl ([.ref (ad 15 1000), .ref (ad g1 1000)])).length) Slot.unset).toArray = ls at hl ⊢
  have hl : lv_has ls 4 [(0, .ref (ad 15 1000)), (1, .ref (ad g1 1000))] := hl
  have hret : ∀ (σ : ZS) (H : Heap) (locs : List Loc) (ls : Array Slot) (pc : Nat), Q σ → va_P D vwC (zC dA ad σ) H → va_D A (zC dA ad σ) → va_S A s.heap H locs → decode cX2_write pc = .ok (.return_, 1) → W p l e (gR 6 0 0) s m #[.ref (ad 15 1000), .ref (ad g1 1000)] below meth c H locs 0 0 (MQ below (va_Qv Q (gAt D dA A (zC dA ad)) A) #[.ref (ad 15 1000), .ref (ad g1 1000)] s 0 0 A) (F0 m pc ls []) := fun σ H locs ls pc hw hP hD hS hd => g_vret hx hb hr hlocks hK σ hP hD hS hw (Nat.le_of_ble_eq_true rfl) (Nat.le_of_ble_eq_true rfl) hd
  generalize MQ below (va_Qv Q (gAt D dA A (zC dA ad)) A) #[.ref (ad 15 1000), .ref (ad g1 1000)] s 0 0 A = QQ at hret ⊢
  have b62 : ∀ (v1 : Int) (K62 : Int → ZS → Prop), (∀ (v2 : Int) (σ : ZS), K62 v2 σ → ∀ (H : Heap) (locs : List Loc) (ls : Array Slot), va_P D vwC (zC dA ad σ) H → va_D A (zC dA ad σ) → va_S A s.heap H locs → lv_has ls 4 [(0, .ref (ad 15 1000)), (1, .ref (ad v1 1000)), (2, .int (Int32.ofInt v2))] → W p l e (gR 6 0 0) s m #[.ref (ad 15 1000), .ref (ad g1 1000)] below meth c H locs 0 0 QQ (F0 m 62 ls [])) → ∀ (v2 : Int) (σ : ZS), wpbX2_write_62 K62 v1 v2 σ Q → ∀ (H : Heap) (locs : List Loc) (ls : Array Slot), va_P D vwC (zC dA ad σ) H → va_D A (zC dA ad σ) → va_S A s.heap H locs → lv_has ls 4 [(0, .ref (ad 15 1000)), (1, .ref (ad v1 1000)), (2, .int (Int32.ofInt v2))] → W p l e (gR 6 0 0) s m #[.ref (ad 15 1000), .ref (ad g1 1000)] below meth c H locs 0 0 QQ (F0 m 62 ls []) := by
    intro v1 K62 hK62
    have j148 : ∀ (v2 : Int) (σ : ZS), ∀ (H : Heap) (locs : List Loc) (ls : Array Slot), va_P D vwC (zC dA ad σ) H → va_D A (zC dA ad σ) → va_S A s.heap H locs → lv_has ls 4 [(0, .ref (ad 15 1000)), (1, .ref (ad v1 1000)), (2, .int (Int32.ofInt v2))] → wpX2_write_148 K62 v1 v2 σ Q → W p l e (gR 6 0 0) s m #[.ref (ad 15 1000), .ref (ad g1 1000)] below meth c H locs 0 0 QQ (F0 m 148 ls []) := by
      intro v2 σ H locs ls hP hD hS hl hw
      unfold wpX2_write_148 at hw
      refine lv_iinc (v := Int32.ofInt (v2 + 1)) (lv' := [(2, .int (Int32.ofInt (v2 + 1))), (0, .ref (ad 15 1000)), (1, .ref (ad v1 1000))]) hx hb dX2_write_148 hl (k := 2) rfl (Int32.ofInt_add _ _).symm (by decide) rfl (fun ls hl => ?_)
      refine lv_goto (tgt := 62) hx hb dX2_write_151 (by decide) ?_
      exact hK62 (v2 + 1) σ hw _ _ _ hP hD hS (lv_sub hl [1, 2, 0] rfl)
    intro v2 σ hw H locs ls hP hD hS hl
    unfold wpbX2_write_62 at hw
    refine lv_iload_n hx hb dX2_write_62 rfl (lv_at hl 2 rfl) ?_
    refine lv_aload_n hx hb dX2_write_63 rfl (lv_at hl 0 rfl) ?_
    refine zgC15_0 hx hb hg hown hK hP q371 dX2_write_64 ?_
    refine zgC13_7 hx hb hg hown hK hP q273 dX2_write_67 ?_
    obtain ⟨o1, hw⟩ := hw
    obtain ⟨o2, hw⟩ := hw
    refine z_icmp_ge (tgt := 154) hx hb o1 o2 dX2_write_70 (by decide) (fun k3 => ?_) (fun k3 => ?_)
    · replace hw := hw.1 k3
      exact hret σ _ _ _ _ hw hP hD hS dX2_write_154
    · replace hw := hw.2 k3
      refine lv_aload_n hx hb dX2_write_73 rfl (lv_at hl 0 rfl) ?_
      refine zgC15_0 hx hb hg hown hK hP q371 dX2_write_74 ?_
      refine zgC13_0 hx hb hg hown hK hP q258 dX2_write_77 ?_
      refine lv_iload_n hx hb dX2_write_80 rfl (lv_at hl 2 rfl) ?_
      obtain ⟨o4, hw⟩ := hw
      refine zlC13_0 hx hb o4 hK hP dX2_write_81 ?_
      refine lv_iconst (v := Int32.ofInt 2) hx hb dX2_write_82 (by decide) ?_
      obtain ⟨o5, hw⟩ := hw
      refine z_icmp_ne (tgt := 130) hx hb o5 (by decide) dX2_write_83 (by decide) (fun k6 => ?_) (fun k6 => ?_)
      · replace hw := hw.1 k6
        refine lv_aload_n hx hb dX2_write_130 rfl (lv_at hl 0 rfl) ?_
        refine zgC15_0 hx hb hg hown hK hP q371 dX2_write_131 ?_
        refine zgC13_5 hx hb hg hown hK hP q268 dX2_write_134 ?_
        refine lv_iload_n hx hb dX2_write_137 rfl (lv_at hl 2 rfl) ?_
        refine zlC13_5 hx hb o4 hK hP dX2_write_138 ?_
        obtain ⟨o7, hw⟩ := hw
        refine z_if_lt (tgt := 148) hx hb o7 dX2_write_139 (by decide) (fun k8 => ?_) (fun k8 => ?_)
        · replace hw := hw.1 k8
          exact j148 v2 σ _ _ _ hP hD hS (lv_sub hl [0, 1, 2] rfl) hw
        · replace hw := hw.2 k8
          refine lv_aload_n hx hb dX2_write_142 rfl (lv_at hl 0 rfl) ?_
          refine lv_aload_n hx hb dX2_write_143 rfl (lv_at hl 1 rfl) ?_
          refine lv_iload_n hx hb dX2_write_144 rfl (lv_at hl 2 rfl) ?_
          refine z_Vv (n := 2) (As := [.ref (ad v1 1000), .int (Int32.ofInt v2)]) (rest := []) hx hb hml hg hown hK hP hD hS hA (kX2_writeItem l D dA ad v1 v2 σ _ _ hw) (zoC15) rfl q1214 q155 q1211 q1213 q38 (by decide +kernel) ⟨(Nat.le_of_ble_eq_true rfl), (Nat.le_of_ble_eq_true rfl)⟩ rfl hl.1 rfl (Nat.le_of_ble_eq_true rfl) dX2_write_145 ⟨(Nat.le_of_ble_eq_true rfl), (Nat.le_of_ble_eq_true rfl)⟩ (fun σ10 H locs hw hP hD hS => ?_)
          exact j148 v2 σ10 _ _ _ hP hD hS (lv_sub hl [0, 1, 2] rfl) hw
      · replace hw := hw.2 k6
        refine lv_aload_n hx hb dX2_write_86 rfl (lv_at hl 0 rfl) ?_
        refine zgC15_0 hx hb hg hown hK hP q371 dX2_write_87 ?_
        refine zgC13_2 hx hb hg hown hK hP q262 dX2_write_90 ?_
        refine lv_iload_n hx hb dX2_write_93 rfl (lv_at hl 2 rfl) ?_
        refine zlC13_2 hx hb o4 hK hP dX2_write_94 ?_
        refine lv_istore_n (lv' := [(3, .int (Int32.ofInt (zA σ 13 2 v2))), (0, .ref (ad 15 1000)), (1, .ref (ad v1 1000)), (2, .int (Int32.ofInt v2))]) hx hb dX2_write_95 rfl hl (by decide) rfl (fun ls hl => ?_)
        refine lv_aload_n hx hb dX2_write_96 rfl (lv_at hl 2 rfl) ?_
        refine lv_aload_n hx hb dX2_write_97 rfl (lv_at hl 1 rfl) ?_
        refine zgC15_1 hx hb hg hown hK hP q372 dX2_write_98 ?_
        refine zgC11_0 hx hb hg hown hK hP q195 dX2_write_101 ?_
        refine lv_iload_n hx hb dX2_write_104 rfl (lv_at hl 0 rfl) ?_
        obtain ⟨o11, hw⟩ := hw
        refine zlC11_0 hx hb o11 hK hP dX2_write_105 ?_
        refine lv_aload_n hx hb dX2_write_106 rfl (lv_at hl 1 rfl) ?_
        refine zgC15_1 hx hb hg hown hK hP q372 dX2_write_107 ?_
        refine zgC11_2 hx hb hg hown hK hP q199 dX2_write_110 ?_
        refine lv_iload_n hx hb dX2_write_113 rfl (lv_at hl 0 rfl) ?_
        refine zlC11_2 hx hb o11 hK hP dX2_write_114 ?_
        refine lv_aload_n hx hb dX2_write_115 rfl (lv_at hl 1 rfl) ?_
        refine zgC15_1 hx hb hg hown hK hP q372 dX2_write_116 ?_
        refine zgC11_4 hx hb hg hown hK hP q203 dX2_write_119 ?_
        refine lv_iload_n hx hb dX2_write_122 rfl (lv_at hl 0 rfl) ?_
        refine zlC11_4 hx hb o11 hK hP dX2_write_123 ?_
        obtain ⟨o12, hw⟩ := hw
        refine z_Vv (n := 3) (As := [.long (Int64.ofInt (zA σ 11 0 (zA σ 13 2 v2))), .int (Int32.ofInt (zA σ 11 2 (zA σ 13 2 v2))), .int (Int32.ofInt (zA σ 11 4 (zA σ 13 2 v2)))]) (rest := []) hx hb hml hg hown hK hP hD hS hA (kX6_addPublic l D dA ad v1 (zA σ 11 0 (zA σ 13 2 v2)) (zA σ 11 2 (zA σ 13 2 v2)) (zA σ 11 4 (zA σ 13 2 v2)) σ _ _ hw) (zoCM o12) rfl q1206 q156 q1203 q1204 q1205 (by decide +kernel) ⟨(Nat.le_of_ble_eq_true rfl), (Nat.le_of_ble_eq_true rfl)⟩ rfl hl.1 rfl (Nat.le_of_ble_eq_true rfl) dX2_write_124 ⟨(Nat.le_of_ble_eq_true rfl), (Nat.le_of_ble_eq_true rfl)⟩ (fun σ14 H locs hw hP hD hS => ?_)
        refine lv_goto (tgt := 148) hx hb dX2_write_127 (by decide) ?_
        exact j148 v2 σ14 _ _ _ hP hD hS (lv_sub hl [1, 2, 3] rfl) hw
  have j62 : ∀ (v1 v2 : Int) (σ : ZS), ∀ (H : Heap) (locs : List Loc) (ls : Array Slot), va_P D vwC (zC dA ad σ) H → va_D A (zC dA ad σ) → va_S A s.heap H locs → lv_has ls 4 [(0, .ref (ad 15 1000)), (1, .ref (ad v1 1000)), (2, .int (Int32.ofInt v2))] → wpX2_write_62 v1 v2 σ Q → W p l e (gR 6 0 0) s m #[.ref (ad 15 1000), .ref (ad g1 1000)] below meth c H locs 0 0 QQ (F0 m 62 ls []) := by
    intro v1 v2 σ H locs ls hP hD hS hl hw
    exact hw (fun v2 σ => ∀ (H : Heap) (locs : List Loc) (ls : Array Slot), va_P D vwC (zC dA ad σ) H → va_D A (zC dA ad σ) → va_S A s.heap H locs → lv_has ls 4 [(0, .ref (ad 15 1000)), (1, .ref (ad v1 1000)), (2, .int (Int32.ofInt v2))] → W p l e (gR 6 0 0) s m #[.ref (ad 15 1000), .ref (ad g1 1000)] below meth c H locs 0 0 QQ (F0 m 62 ls [])) (b62 v1 (fun v2 σ => ∀ (H : Heap) (locs : List Loc) (ls : Array Slot), va_P D vwC (zC dA ad σ) H → va_D A (zC dA ad σ) → va_S A s.heap H locs → lv_has ls 4 [(0, .ref (ad 15 1000)), (1, .ref (ad v1 1000)), (2, .int (Int32.ofInt v2))] → W p l e (gR 6 0 0) s m #[.ref (ad 15 1000), .ref (ad g1 1000)] below meth c H locs 0 0 QQ (F0 m 62 ls [])) (fun v2 σ h => h)) _ _ _ hP hD hS hl
  have b11 : ∀ (v1 : Int) (K11 : Int → ZS → Prop), (∀ (v2 : Int) (σ : ZS), K11 v2 σ → ∀ (H : Heap) (locs : List Loc) (ls : Array Slot), va_P D vwC (zC dA ad σ) H → va_D A (zC dA ad σ) → va_S A s.heap H locs → lv_has ls 4 [(0, .ref (ad 15 1000)), (1, .ref (ad v1 1000)), (2, .int (Int32.ofInt v2))] → W p l e (gR 6 0 0) s m #[.ref (ad 15 1000), .ref (ad g1 1000)] below meth c H locs 0 0 QQ (F0 m 11 ls [])) → ∀ (v2 : Int) (σ : ZS), wpbX2_write_11 K11 v1 v2 σ Q → ∀ (H : Heap) (locs : List Loc) (ls : Array Slot), va_P D vwC (zC dA ad σ) H → va_D A (zC dA ad σ) → va_S A s.heap H locs → lv_has ls 4 [(0, .ref (ad 15 1000)), (1, .ref (ad v1 1000)), (2, .int (Int32.ofInt v2))] → W p l e (gR 6 0 0) s m #[.ref (ad 15 1000), .ref (ad g1 1000)] below meth c H locs 0 0 QQ (F0 m 11 ls []) := by
    intro v1 K11 hK11
    intro v2 σ hw H locs ls hP hD hS hl
    unfold wpbX2_write_11 at hw
    refine lv_iload_n hx hb dX2_write_11 rfl (lv_at hl 2 rfl) ?_
    refine lv_aload_n hx hb dX2_write_12 rfl (lv_at hl 0 rfl) ?_
    refine zgC15_4 hx hb hg hown hK hP q375 dX2_write_13 ?_
    obtain ⟨o15, hw⟩ := hw
    obtain ⟨o16, hw⟩ := hw
    refine z_icmp_ge (tgt := 60) hx hb o15 o16 dX2_write_16 (by decide) (fun k17 => ?_) (fun k17 => ?_)
    · replace hw := hw.1 k17
      refine lv_iconst (v := Int32.ofInt 0) hx hb dX2_write_60 (by decide) ?_
      refine lv_istore_n (lv' := [(2, .int (Int32.ofInt 0)), (0, .ref (ad 15 1000)), (1, .ref (ad v1 1000))]) hx hb dX2_write_61 rfl hl (by decide) rfl (fun ls hl => ?_)
      exact j62 v1 0 σ _ _ _ hP hD hS (lv_sub hl [1, 2, 0] rfl) hw
    · replace hw := hw.2 k17
      refine lv_aload_n hx hb dX2_write_19 rfl (lv_at hl 0 rfl) ?_
      refine zgC15_2 hx hb hg hown hK hP q373 dX2_write_20 ?_
      refine lv_iload_n hx hb dX2_write_23 rfl (lv_at hl 2 rfl) ?_
      obtain ⟨o18, hw⟩ := hw
      refine zlC15_2 hx hb o18 hK hP dX2_write_24 ?_
      refine lv_istore_n (lv' := [(3, .int (Int32.ofInt (zA σ 15 2 v2))), (0, .ref (ad 15 1000)), (1, .ref (ad v1 1000)), (2, .int (Int32.ofInt v2))]) hx hb dX2_write_25 rfl hl (by decide) rfl (fun ls hl => ?_)
      refine lv_aload_n hx hb dX2_write_26 rfl (lv_at hl 2 rfl) ?_
      refine lv_aload_n hx hb dX2_write_27 rfl (lv_at hl 1 rfl) ?_
      refine zgC15_1 hx hb hg hown hK hP q372 dX2_write_28 ?_
      refine zgC11_0 hx hb hg hown hK hP q195 dX2_write_31 ?_
      refine lv_iload_n hx hb dX2_write_34 rfl (lv_at hl 0 rfl) ?_
      obtain ⟨o19, hw⟩ := hw
      refine zlC11_0 hx hb o19 hK hP dX2_write_35 ?_
      refine lv_aload_n hx hb dX2_write_36 rfl (lv_at hl 1 rfl) ?_
      refine zgC15_1 hx hb hg hown hK hP q372 dX2_write_37 ?_
      refine zgC11_3 hx hb hg hown hK hP q201 dX2_write_40 ?_
      refine lv_iload_n hx hb dX2_write_43 rfl (lv_at hl 0 rfl) ?_
      refine zlC11_3 hx hb o19 hK hP dX2_write_44 ?_
      refine lv_aload_n hx hb dX2_write_45 rfl (lv_at hl 1 rfl) ?_
      refine zgC15_3 hx hb hg hown hK hP q374 dX2_write_46 ?_
      refine lv_iload_n hx hb dX2_write_49 rfl (lv_at hl 3 rfl) ?_
      refine zlC15_3 hx hb o18 hK hP dX2_write_50 ?_
      obtain ⟨o20, hw⟩ := hw
      refine z_Vv (n := 3) (As := [.long (Int64.ofInt (zA σ 11 0 (zA σ 15 2 v2))), .int (Int32.ofInt (zA σ 11 3 (zA σ 15 2 v2))), .int (Int32.ofInt (zA σ 15 3 v2))]) (rest := []) hx hb hml hg hown hK hP hD hS hA (kX6_addSegment l D dA ad v1 (zA σ 11 0 (zA σ 15 2 v2)) (zA σ 11 3 (zA σ 15 2 v2)) (zA σ 15 3 v2) σ _ _ hw) (zoCM o20) rfl q1202 q156 q1199 q1200 q1201 (by decide +kernel) ⟨(Nat.le_of_ble_eq_true rfl), (Nat.le_of_ble_eq_true rfl)⟩ rfl hl.1 rfl (Nat.le_of_ble_eq_true rfl) dX2_write_51 ⟨(Nat.le_of_ble_eq_true rfl), (Nat.le_of_ble_eq_true rfl)⟩ (fun σ22 H locs hw hP hD hS => ?_)
      refine lv_iinc (v := Int32.ofInt (v2 + 1)) (lv' := [(2, .int (Int32.ofInt (v2 + 1))), (3, .int (Int32.ofInt (zA σ 15 2 v2))), (0, .ref (ad 15 1000)), (1, .ref (ad v1 1000))]) hx hb dX2_write_54 hl (k := 3) rfl (Int32.ofInt_add _ _).symm (by decide) rfl (fun ls hl => ?_)
      refine lv_goto (tgt := 11) hx hb dX2_write_57 (by decide) ?_
      exact hK11 (v2 + 1) σ22 hw _ _ _ hP hD hS (lv_sub hl [2, 3, 0] rfl)
  have j11 : ∀ (v1 v2 : Int) (σ : ZS), ∀ (H : Heap) (locs : List Loc) (ls : Array Slot), va_P D vwC (zC dA ad σ) H → va_D A (zC dA ad σ) → va_S A s.heap H locs → lv_has ls 4 [(0, .ref (ad 15 1000)), (1, .ref (ad v1 1000)), (2, .int (Int32.ofInt v2))] → wpX2_write_11 v1 v2 σ Q → W p l e (gR 6 0 0) s m #[.ref (ad 15 1000), .ref (ad g1 1000)] below meth c H locs 0 0 QQ (F0 m 11 ls []) := by
    intro v1 v2 σ H locs ls hP hD hS hl hw
    exact hw (fun v2 σ => ∀ (H : Heap) (locs : List Loc) (ls : Array Slot), va_P D vwC (zC dA ad σ) H → va_D A (zC dA ad σ) → va_S A s.heap H locs → lv_has ls 4 [(0, .ref (ad 15 1000)), (1, .ref (ad v1 1000)), (2, .int (Int32.ofInt v2))] → W p l e (gR 6 0 0) s m #[.ref (ad 15 1000), .ref (ad g1 1000)] below meth c H locs 0 0 QQ (F0 m 11 ls [])) (b11 v1 (fun v2 σ => ∀ (H : Heap) (locs : List Loc) (ls : Array Slot), va_P D vwC (zC dA ad σ) H → va_D A (zC dA ad σ) → va_S A s.heap H locs → lv_has ls 4 [(0, .ref (ad 15 1000)), (1, .ref (ad v1 1000)), (2, .int (Int32.ofInt v2))] → W p l e (gR 6 0 0) s m #[.ref (ad 15 1000), .ref (ad g1 1000)] below meth c H locs 0 0 QQ (F0 m 11 ls [])) (fun v2 σ h => h)) _ _ _ hP hD hS hl
  unfold wpX2_write at hw
  refine lv_aload_n hx hb dX2_write_0 rfl (lv_at hl 1 rfl) ?_
  obtain ⟨o23, hw⟩ := hw
  refine z_Vv (n := 0) (As := []) (rest := []) hx hb hml hg hown hK hP hD hS hA (kX6_clear l D dA ad g1 σ _ _ hw) (zoCM o23) rfl q1197 q156 q1194 q1195 q1196 (by decide +kernel) ⟨(Nat.le_of_ble_eq_true rfl), (Nat.le_of_ble_eq_true rfl)⟩ rfl hl.1 rfl (Nat.le_of_ble_eq_true rfl) dX2_write_1 ⟨(Nat.le_of_ble_eq_true rfl), (Nat.le_of_ble_eq_true rfl)⟩ (fun σ25 H locs hw hP hD hS => ?_)
  refine lv_aload_n hx hb dX2_write_4 rfl (lv_at hl 1 rfl) ?_
  refine lv_iconst (v := Int32.ofInt 1) hx hb dX2_write_5 (by decide) ?_
  refine zpCM_0 (v := 1) hx hb hg hown o23 (by decide) hK hP hD hS q400 dX2_write_6 (fun H locs hP hD hS => ?_)
  refine lv_iconst (v := Int32.ofInt 0) hx hb dX2_write_9 (by decide) ?_
  refine lv_istore_n (lv' := [(2, .int (Int32.ofInt 0)), (0, .ref (ad 15 1000)), (1, .ref (ad g1 1000))]) hx hb dX2_write_10 rfl hl (by decide) rfl (fun ls hl => ?_)
  exact j11 g1 0 (zsI σ25 g1 0 1) _ _ _ hP hD hS (lv_sub hl [1, 2, 0] rfl) hw
def wpbX3_hasModules_2 (K2 : Int → ZS → Prop) (v1 : Int) (σ : ZS) (Q : Int → ZS → Prop) : Prop := (-2147483648 ≤ v1 ∧ v1 ≤ 2147483647) ∧ (3 ≤ v1 → Q 0 σ) ∧ (¬ 3 ≤ v1 → (0 ≤ v1 ∧ v1 < 3) ∧ (-2147483648 ≤ (zI σ v1 0) ∧ (zI σ v1 0) ≤ 2147483647) ∧ ((zI σ v1 0) = 0 → K2 (v1 + 1) σ) ∧ (¬ (zI σ v1 0) = 0 → Q 1 σ))
def wpX3_hasModules_2 (v1 : Int) (σ : ZS) (Q : Int → ZS → Prop) : Prop := lfp1 (fun K2 v1 σ => wpbX3_hasModules_2 K2 v1 σ Q) v1 σ
def wpX3_hasModules (σ : ZS) (Q : Int → ZS → Prop) : Prop := wpX3_hasModules_2 0 σ Q
set_option maxHeartbeats 4000000 in
set_option maxRecDepth 100000 in
theorem kX3_hasModules (l : Launch) (D : va_G) (dA : Nat → ClassId) (ad : Int → Nat → Nat) (σ : ZS) (Q : Int → ZS → Prop) (sz : Nat) (hw : wpX3_hasModules σ Q) : Met l yX3_hasModules (gws yX3_hasModules cX3_hasModules 2 (some .boolean)) (gR 1 0 0) (gPre D dA [.ref (ad 16 1000)] (zC dA ad σ) sz) (va_Qi (zQi Q) (gAt D dA (va_A (zC dA ad σ) sz) (zC dA ad)) (va_A (zC dA ad σ) sz)) 0 0 (va_A (zC dA ad σ) sz) := by
  refine Met.ofW (cc := cX3_hasModules) (maxL := 2) (ret := (some .boolean)) (by decide) rfl ?_
  intro p e s m args below meth c s₁ B hml hv
  obtain ⟨rfl, hsz, hP, hK, hD0⟩ := hv
  have hx := B.exec
  have hb := B.bytes
  have hr := B.returns
  have hts := atoms_spec (ws := gws yX3_hasModules cX3_hasModules 2 (some .boolean)) B.pre
  have hg : ∀ w ∈ gw, w.before _ s = true := fun w h => hts w (List.mem_cons_of_mem _ h)
  have hown : s.vm.findClass RX3 = some m.cls := findClass_of_methodNamed B.named
  have hlocks := B.notSynchronized
  subst hsz
  have hD := hD0.self (sz := s.heap.size)
  generalize hAe : va_A (zC dA ad σ) s.heap.size = A at hD ⊢
  have hA : ∀ q : Nat, s.heap.size ≤ q → A q := fun q h => by rw [← hAe]; exact Or.inr h
  have hS : va_S A s.heap s.heap [] := va_S.rf
  have hl := lv_entry ([.ref (ad 16 1000)]) (n := 2) (Nat.le_of_ble_eq_true rfl)
  rw [lg_entry_eq]
  generalize (lg_sl ([.ref (ad 16 1000)]) ++ List.replicate (2 - (lg_sl ([.ref (ad 16 1000)])).length) Slot.unset).toArray = ls at hl ⊢
  have hl : lv_has ls 2 [(0, .ref (ad 16 1000))] := hl
  have hret : ∀ (v : Int) (σ : ZS) (H : Heap) (locs : List Loc) (ls : Array Slot) (pc : Nat), (0 ≤ v ∧ v ≤ 1) → Q v σ → va_P D vwC (zC dA ad σ) H → va_D A (zC dA ad σ) → va_S A s.heap H locs → decode cX3_hasModules pc = .ok (.ireturn, 1) → W p l e (gR 1 0 0) s m #[.ref (ad 16 1000)] below meth c H locs 0 0 (MQ below (va_Qi (zQi Q) (gAt D dA A (zC dA ad)) A) #[.ref (ad 16 1000)] s 0 0 A) (F0 m pc ls [.int (Int32.ofInt v)]) := fun v σ H locs ls pc hv hw hP hD hS hd => g_iret hx hb hr (z_nb hv) hlocks hK σ hP hD hS ⟨v, rfl, hw⟩ (Nat.le_of_ble_eq_true rfl) (Nat.le_of_ble_eq_true rfl) hd
  generalize MQ below (va_Qi (zQi Q) (gAt D dA A (zC dA ad)) A) #[.ref (ad 16 1000)] s 0 0 A = QQ at hret ⊢
  have b2 : ∀ (K2 : Int → ZS → Prop), (∀ (v1 : Int) (σ : ZS), K2 v1 σ → ∀ (H : Heap) (locs : List Loc) (ls : Array Slot), va_P D vwC (zC dA ad σ) H → va_D A (zC dA ad σ) → va_S A s.heap H locs → lv_has ls 2 [(0, .ref (ad 16 1000)), (1, .int (Int32.ofInt v1))] → W p l e (gR 1 0 0) s m #[.ref (ad 16 1000)] below meth c H locs 0 0 QQ (F0 m 2 ls [])) → ∀ (v1 : Int) (σ : ZS), wpbX3_hasModules_2 K2 v1 σ Q → ∀ (H : Heap) (locs : List Loc) (ls : Array Slot), va_P D vwC (zC dA ad σ) H → va_D A (zC dA ad σ) → va_S A s.heap H locs → lv_has ls 2 [(0, .ref (ad 16 1000)), (1, .int (Int32.ofInt v1))] → W p l e (gR 1 0 0) s m #[.ref (ad 16 1000)] below meth c H locs 0 0 QQ (F0 m 2 ls []) := by
    intro K2 hK2
    intro v1 σ hw H locs ls hP hD hS hl
    unfold wpbX3_hasModules_2 at hw
    refine lv_iload_n hx hb dX3_hasModules_2 rfl (lv_at hl 1 rfl) ?_
    refine lv_iconst (v := Int32.ofInt 3) hx hb dX3_hasModules_3 (by decide) ?_
    obtain ⟨o1, hw⟩ := hw
    refine z_icmp_ge (tgt := 27) hx hb o1 (by decide) dX3_hasModules_4 (by decide) (fun k2 => ?_) (fun k2 => ?_)
    · replace hw := hw.1 k2
      refine lv_iconst (v := Int32.ofInt 0) hx hb dX3_hasModules_27 (by decide) ?_
      exact hret 0 σ _ _ _ _ (by decide) hw hP hD hS dX3_hasModules_28
    · replace hw := hw.2 k2
      refine lv_aload_n hx hb dX3_hasModules_7 rfl (lv_at hl 0 rfl) ?_
      refine zgC16_0 hx hb hg hown hK hP q483 dX3_hasModules_8 ?_
      refine lv_iload_n hx hb dX3_hasModules_11 rfl (lv_at hl 1 rfl) ?_
      obtain ⟨o3, hw⟩ := hw
      refine zlC10_8 hx hb o3 hK hP dX3_hasModules_12 ?_
      refine zgCM_0 hx hb hg hown (by clear hw; omega) hK hP q398 dX3_hasModules_13 ?_
      obtain ⟨o4, hw⟩ := hw
      refine z_if_eq (tgt := 21) hx hb o4 dX3_hasModules_16 (by decide) (fun k5 => ?_) (fun k5 => ?_)
      · replace hw := hw.1 k5
        refine lv_iinc (v := Int32.ofInt (v1 + 1)) (lv' := [(1, .int (Int32.ofInt (v1 + 1))), (0, .ref (ad 16 1000))]) hx hb dX3_hasModules_21 hl (k := 1) rfl (Int32.ofInt_add _ _).symm (by decide) rfl (fun ls hl => ?_)
        refine lv_goto (tgt := 2) hx hb dX3_hasModules_24 (by decide) ?_
        exact hK2 (v1 + 1) σ hw _ _ _ hP hD hS (lv_sub hl [1, 0] rfl)
      · replace hw := hw.2 k5
        refine lv_iconst (v := Int32.ofInt 1) hx hb dX3_hasModules_19 (by decide) ?_
        exact hret 1 σ _ _ _ _ (by decide) hw hP hD hS dX3_hasModules_20
  have j2 : ∀ (v1 : Int) (σ : ZS), ∀ (H : Heap) (locs : List Loc) (ls : Array Slot), va_P D vwC (zC dA ad σ) H → va_D A (zC dA ad σ) → va_S A s.heap H locs → lv_has ls 2 [(0, .ref (ad 16 1000)), (1, .int (Int32.ofInt v1))] → wpX3_hasModules_2 v1 σ Q → W p l e (gR 1 0 0) s m #[.ref (ad 16 1000)] below meth c H locs 0 0 QQ (F0 m 2 ls []) := by
    intro v1 σ H locs ls hP hD hS hl hw
    exact hw (fun v1 σ => ∀ (H : Heap) (locs : List Loc) (ls : Array Slot), va_P D vwC (zC dA ad σ) H → va_D A (zC dA ad σ) → va_S A s.heap H locs → lv_has ls 2 [(0, .ref (ad 16 1000)), (1, .int (Int32.ofInt v1))] → W p l e (gR 1 0 0) s m #[.ref (ad 16 1000)] below meth c H locs 0 0 QQ (F0 m 2 ls [])) (b2 (fun v1 σ => ∀ (H : Heap) (locs : List Loc) (ls : Array Slot), va_P D vwC (zC dA ad σ) H → va_D A (zC dA ad σ) → va_S A s.heap H locs → lv_has ls 2 [(0, .ref (ad 16 1000)), (1, .int (Int32.ofInt v1))] → W p l e (gR 1 0 0) s m #[.ref (ad 16 1000)] below meth c H locs 0 0 QQ (F0 m 2 ls [])) (fun v1 σ h => h)) _ _ _ hP hD hS hl
  unfold wpX3_hasModules at hw
  refine lv_iconst (v := Int32.ofInt 0) hx hb dX3_hasModules_0 (by decide) ?_
  refine lv_istore_n (lv' := [(1, .int (Int32.ofInt 0)), (0, .ref (ad 16 1000))]) hx hb dX3_hasModules_1 rfl hl (by decide) rfl (fun ls hl => ?_)
  exact j2 0 σ _ _ _ hP hD hS (lv_sub hl [1, 0] rfl) hw
def wpX3_publicModule_39 (K3 : Int → ZS → Prop) (v1 v3 v4 : Int) (σ : ZS) (Q : Int → ZS → Prop) : Prop := K3 (v4 + 1) σ
def wpbX3_publicModule_3 (K3 : Int → ZS → Prop) (v1 v3 v4 : Int) (σ : ZS) (Q : Int → ZS → Prop) : Prop := (-2147483648 ≤ v4 ∧ v4 ≤ 2147483647) ∧ (-2147483648 ≤ v3 ∧ v3 ≤ 2147483647) ∧ (v3 ≤ v4 → Q (-1) σ) ∧ (¬ v3 ≤ v4 → (0 ≤ v4 ∧ v4 < 3) ∧ (-2147483648 ≤ (zI σ v4 0) ∧ (zI σ v4 0) ≤ 2147483647) ∧ ((zI σ v4 0) = 0 → wpX3_publicModule_39 K3 v1 v3 v4 σ Q) ∧ (¬ (zI σ v4 0) = 0 → wpX6_publicNumber v4 v1 σ (fun (x7 : Int) (σ8 : ZS) => (-2147483648 ≤ x7 ∧ x7 ≤ 2147483647) ∧ (x7 < 0 → wpX3_publicModule_39 K3 v1 v3 v4 σ8 Q) ∧ (¬ x7 < 0 → Q v4 σ8))))
def wpX3_publicModule_3 (v1 v3 v4 : Int) (σ : ZS) (Q : Int → ZS → Prop) : Prop := lfp1 (fun K3 v4 σ => wpbX3_publicModule_3 K3 v1 v3 v4 σ Q) v4 σ
def wpX3_publicModule (a1 a2 : Int) (σ : ZS) (Q : Int → ZS → Prop) : Prop := wpX3_publicModule_3 a1 a2 0 σ Q
set_option maxHeartbeats 4000000 in
set_option maxRecDepth 100000 in
theorem kX3_publicModule (l : Launch) (D : va_G) (dA : Nat → ClassId) (ad : Int → Nat → Nat) (a1 a2 : Int) (σ : ZS) (Q : Int → ZS → Prop) (sz : Nat) (hw : wpX3_publicModule a1 a2 σ Q) : Met l yX3_publicModule (gws yX3_publicModule cX3_publicModule 5 (some .int)) (gR 2 0 0) (gPre D dA [.ref (ad 16 1000), .long (Int64.ofInt a1), .int (Int32.ofInt a2)] (zC dA ad σ) sz) (va_Qi (zQi Q) (gAt D dA (va_A (zC dA ad σ) sz) (zC dA ad)) (va_A (zC dA ad σ) sz)) 0 0 (va_A (zC dA ad σ) sz) := by
  refine Met.ofW (cc := cX3_publicModule) (maxL := 5) (ret := (some .int)) (by decide) rfl ?_
  intro p e s m args below meth c s₁ B hml hv
  obtain ⟨rfl, hsz, hP, hK, hD0⟩ := hv
  have hx := B.exec
  have hb := B.bytes
  have hr := B.returns
  have hts := atoms_spec (ws := gws yX3_publicModule cX3_publicModule 5 (some .int)) B.pre
  have hg : ∀ w ∈ gw, w.before _ s = true := fun w h => hts w (List.mem_cons_of_mem _ h)
  have hown : s.vm.findClass RX3 = some m.cls := findClass_of_methodNamed B.named
  have hlocks := B.notSynchronized
  subst hsz
  have hD := hD0.self (sz := s.heap.size)
  generalize hAe : va_A (zC dA ad σ) s.heap.size = A at hD ⊢
  have hA : ∀ q : Nat, s.heap.size ≤ q → A q := fun q h => by rw [← hAe]; exact Or.inr h
  have hS : va_S A s.heap s.heap [] := va_S.rf
  have hl := lv_entry ([.ref (ad 16 1000), .long (Int64.ofInt a1), .int (Int32.ofInt a2)]) (n := 5) (Nat.le_of_ble_eq_true rfl)
  rw [lg_entry_eq]
  generalize (lg_sl ([.ref (ad 16 1000), .long (Int64.ofInt a1), .int (Int32.ofInt a2)]) ++ List.replicate (5 - (lg_sl ([.ref (ad 16 1000), .long (Int64.ofInt a1), .int (Int32.ofInt a2)])).length) Slot.unset).toArray = ls at hl ⊢
  have hl : lv_has ls 5 [(0, .ref (ad 16 1000)), (1, .long (Int64.ofInt a1)), (3, .int (Int32.ofInt a2))] := hl
  have hret : ∀ (v : Int) (σ : ZS) (H : Heap) (locs : List Loc) (ls : Array Slot) (pc : Nat), Q v σ → va_P D vwC (zC dA ad σ) H → va_D A (zC dA ad σ) → va_S A s.heap H locs → decode cX3_publicModule pc = .ok (.ireturn, 1) → W p l e (gR 2 0 0) s m #[.ref (ad 16 1000), .long (Int64.ofInt a1), .int (Int32.ofInt a2)] below meth c H locs 0 0 (MQ below (va_Qi (zQi Q) (gAt D dA A (zC dA ad)) A) #[.ref (ad 16 1000), .long (Int64.ofInt a1), .int (Int32.ofInt a2)] s 0 0 A) (F0 m pc ls [.int (Int32.ofInt v)]) := fun v σ H locs ls pc hw hP hD hS hd => g_iret hx hb hr rfl hlocks hK σ hP hD hS ⟨v, rfl, hw⟩ (Nat.le_of_ble_eq_true rfl) (Nat.le_of_ble_eq_true rfl) hd
  generalize MQ below (va_Qi (zQi Q) (gAt D dA A (zC dA ad)) A) #[.ref (ad 16 1000), .long (Int64.ofInt a1), .int (Int32.ofInt a2)] s 0 0 A = QQ at hret ⊢
  have b3 : ∀ (v1 v3 : Int) (K3 : Int → ZS → Prop), (∀ (v4 : Int) (σ : ZS), K3 v4 σ → ∀ (H : Heap) (locs : List Loc) (ls : Array Slot), va_P D vwC (zC dA ad σ) H → va_D A (zC dA ad σ) → va_S A s.heap H locs → lv_has ls 5 [(0, .ref (ad 16 1000)), (1, .long (Int64.ofInt v1)), (3, .int (Int32.ofInt v3)), (4, .int (Int32.ofInt v4))] → W p l e (gR 2 0 0) s m #[.ref (ad 16 1000), .long (Int64.ofInt a1), .int (Int32.ofInt a2)] below meth c H locs 0 0 QQ (F0 m 3 ls [])) → ∀ (v4 : Int) (σ : ZS), wpbX3_publicModule_3 K3 v1 v3 v4 σ Q → ∀ (H : Heap) (locs : List Loc) (ls : Array Slot), va_P D vwC (zC dA ad σ) H → va_D A (zC dA ad σ) → va_S A s.heap H locs → lv_has ls 5 [(0, .ref (ad 16 1000)), (1, .long (Int64.ofInt v1)), (3, .int (Int32.ofInt v3)), (4, .int (Int32.ofInt v4))] → W p l e (gR 2 0 0) s m #[.ref (ad 16 1000), .long (Int64.ofInt a1), .int (Int32.ofInt a2)] below meth c H locs 0 0 QQ (F0 m 3 ls []) := by
    intro v1 v3 K3 hK3
    have j39 : ∀ (v4 : Int) (σ : ZS), ∀ (H : Heap) (locs : List Loc) (ls : Array Slot), va_P D vwC (zC dA ad σ) H → va_D A (zC dA ad σ) → va_S A s.heap H locs → lv_has ls 5 [(0, .ref (ad 16 1000)), (1, .long (Int64.ofInt v1)), (3, .int (Int32.ofInt v3)), (4, .int (Int32.ofInt v4))] → wpX3_publicModule_39 K3 v1 v3 v4 σ Q → W p l e (gR 2 0 0) s m #[.ref (ad 16 1000), .long (Int64.ofInt a1), .int (Int32.ofInt a2)] below meth c H locs 0 0 QQ (F0 m 39 ls []) := by
      intro v4 σ H locs ls hP hD hS hl hw
      unfold wpX3_publicModule_39 at hw
      refine lv_iinc (v := Int32.ofInt (v4 + 1)) (lv' := [(4, .int (Int32.ofInt (v4 + 1))), (0, .ref (ad 16 1000)), (1, .long (Int64.ofInt v1)), (3, .int (Int32.ofInt v3))]) hx hb dX3_publicModule_39 hl (k := 3) rfl (Int32.ofInt_add _ _).symm (by decide) rfl (fun ls hl => ?_)
      refine lv_goto (tgt := 3) hx hb dX3_publicModule_42 (by decide) ?_
      exact hK3 (v4 + 1) σ hw _ _ _ hP hD hS (lv_sub hl [1, 2, 3, 0] rfl)
    intro v4 σ hw H locs ls hP hD hS hl
    unfold wpbX3_publicModule_3 at hw
    refine lv_iload hx hb dX3_publicModule_3 (lv_at hl 3 rfl) ?_
    refine lv_iload_n hx hb dX3_publicModule_5 rfl (lv_at hl 2 rfl) ?_
    obtain ⟨o1, hw⟩ := hw
    obtain ⟨o2, hw⟩ := hw
    refine z_icmp_ge (tgt := 45) hx hb o1 o2 dX3_publicModule_6 (by decide) (fun k3 => ?_) (fun k3 => ?_)
    · replace hw := hw.1 k3
      refine lv_iconst (v := Int32.ofInt (-1)) hx hb dX3_publicModule_45 (by decide) ?_
      exact hret (-1) σ _ _ _ _ hw hP hD hS dX3_publicModule_46
    · replace hw := hw.2 k3
      refine lv_aload_n hx hb dX3_publicModule_9 rfl (lv_at hl 0 rfl) ?_
      refine zgC16_0 hx hb hg hown hK hP q483 dX3_publicModule_10 ?_
      refine lv_iload hx hb dX3_publicModule_13 (lv_at hl 3 rfl) ?_
      obtain ⟨o4, hw⟩ := hw
      refine zlC10_8 hx hb o4 hK hP dX3_publicModule_15 ?_
      refine zgCM_0 hx hb hg hown (by clear hw; omega) hK hP q398 dX3_publicModule_16 ?_
      obtain ⟨o5, hw⟩ := hw
      refine z_if_eq (tgt := 39) hx hb o5 dX3_publicModule_19 (by decide) (fun k6 => ?_) (fun k6 => ?_)
      · replace hw := hw.1 k6
        exact j39 v4 σ _ _ _ hP hD hS (lv_sub hl [0, 1, 2, 3] rfl) hw
      · replace hw := hw.2 k6
        refine lv_aload_n hx hb dX3_publicModule_22 rfl (lv_at hl 0 rfl) ?_
        refine zgC16_0 hx hb hg hown hK hP q483 dX3_publicModule_23 ?_
        refine lv_iload hx hb dX3_publicModule_26 (lv_at hl 3 rfl) ?_
        refine zlC10_8 hx hb o4 hK hP dX3_publicModule_28 ?_
        refine lv_lload_n hx hb dX3_publicModule_29 rfl (lv_at hl 1 rfl) ?_
        refine z_Vi (n := 1) (As := [.long (Int64.ofInt v1)]) (rest := []) hx hb hml hg hown hK hP hD hS hA (kX6_publicNumber l D dA ad v4 v1 σ _ _ hw) (zoCM (by clear hw; omega)) rfl q1210 q156 q1288 q1208 q1209 (by decide +kernel) ⟨(Nat.le_of_ble_eq_true rfl), (Nat.le_of_ble_eq_true rfl)⟩ rfl hl.1 rfl (Nat.le_of_ble_eq_true rfl) dX3_publicModule_30 ⟨(Nat.le_of_ble_eq_true rfl), (Nat.le_of_ble_eq_true rfl)⟩ (fun x7 σ8 H locs hw hP hD hS => ?_)
        obtain ⟨o9, hw⟩ := hw
        refine z_if_lt (tgt := 39) hx hb o9 dX3_publicModule_33 (by decide) (fun k10 => ?_) (fun k10 => ?_)
        · replace hw := hw.1 k10
          exact j39 v4 σ8 _ _ _ hP hD hS (lv_sub hl [0, 1, 2, 3] rfl) hw
        · replace hw := hw.2 k10
          refine lv_iload hx hb dX3_publicModule_36 (lv_at hl 3 rfl) ?_
          exact hret v4 σ8 _ _ _ _ hw hP hD hS dX3_publicModule_38
  have j3 : ∀ (v1 v3 v4 : Int) (σ : ZS), ∀ (H : Heap) (locs : List Loc) (ls : Array Slot), va_P D vwC (zC dA ad σ) H → va_D A (zC dA ad σ) → va_S A s.heap H locs → lv_has ls 5 [(0, .ref (ad 16 1000)), (1, .long (Int64.ofInt v1)), (3, .int (Int32.ofInt v3)), (4, .int (Int32.ofInt v4))] → wpX3_publicModule_3 v1 v3 v4 σ Q → W p l e (gR 2 0 0) s m #[.ref (ad 16 1000), .long (Int64.ofInt a1), .int (Int32.ofInt a2)] below meth c H locs 0 0 QQ (F0 m 3 ls []) := by
    intro v1 v3 v4 σ H locs ls hP hD hS hl hw
    exact hw (fun v4 σ => ∀ (H : Heap) (locs : List Loc) (ls : Array Slot), va_P D vwC (zC dA ad σ) H → va_D A (zC dA ad σ) → va_S A s.heap H locs → lv_has ls 5 [(0, .ref (ad 16 1000)), (1, .long (Int64.ofInt v1)), (3, .int (Int32.ofInt v3)), (4, .int (Int32.ofInt v4))] → W p l e (gR 2 0 0) s m #[.ref (ad 16 1000), .long (Int64.ofInt a1), .int (Int32.ofInt a2)] below meth c H locs 0 0 QQ (F0 m 3 ls [])) (b3 v1 v3 (fun v4 σ => ∀ (H : Heap) (locs : List Loc) (ls : Array Slot), va_P D vwC (zC dA ad σ) H → va_D A (zC dA ad σ) → va_S A s.heap H locs → lv_has ls 5 [(0, .ref (ad 16 1000)), (1, .long (Int64.ofInt v1)), (3, .int (Int32.ofInt v3)), (4, .int (Int32.ofInt v4))] → W p l e (gR 2 0 0) s m #[.ref (ad 16 1000), .long (Int64.ofInt a1), .int (Int32.ofInt a2)] below meth c H locs 0 0 QQ (F0 m 3 ls [])) (fun v4 σ h => h)) _ _ _ hP hD hS hl
  unfold wpX3_publicModule at hw
  refine lv_iconst (v := Int32.ofInt 0) hx hb dX3_publicModule_0 (by decide) ?_
  refine lv_istore (lv' := [(4, .int (Int32.ofInt 0)), (0, .ref (ad 16 1000)), (1, .long (Int64.ofInt a1)), (3, .int (Int32.ofInt a2))]) hx hb dX3_publicModule_1 hl (by decide) rfl (fun ls hl => ?_)
  exact j3 a1 a2 0 σ _ _ _ hP hD hS (lv_sub hl [1, 2, 3, 0] rfl) hw
def wpbX3_firstPublicTwice_16 (K2 : Int → ZS → Prop) (K16 : Int → ZS → Prop) (v1 v2 v3 : Int) (σ : ZS) (Q : Int → ZS → Prop) : Prop := (0 ≤ v2 ∧ v2 ≤ 2) ∧ (-2147483648 ≤ v3 ∧ v3 ≤ 2147483647) ∧ (-2147483648 ≤ (zI σ v2 13) ∧ (zI σ v2 13) ≤ 2147483647) ∧ ((zI σ v2 13) ≤ v3 → K2 (v1 + 1) σ) ∧ (¬ (zI σ v2 13) ≤ v3 → (0 ≤ v3 ∧ v3 < 24) ∧ wpX3_publicModule (zA σ v2 14 v3) v1 σ (fun (x6 : Int) (σ7 : ZS) => (-2147483648 ≤ x6 ∧ x6 ≤ 2147483647) ∧ (x6 < 0 → K16 (v3 + 1) σ7) ∧ (¬ x6 < 0 → Q v1 σ7)))
def wpX3_firstPublicTwice_16 (K2 : Int → ZS → Prop) (v1 v2 v3 : Int) (σ : ZS) (Q : Int → ZS → Prop) : Prop := lfp1 (fun K16 v3 σ => wpbX3_firstPublicTwice_16 K2 K16 v1 v2 v3 σ Q) v3 σ
def wpbX3_firstPublicTwice_2 (K2 : Int → ZS → Prop) (v1 : Int) (σ : ZS) (Q : Int → ZS → Prop) : Prop := (-2147483648 ≤ v1 ∧ v1 ≤ 2147483647) ∧ (3 ≤ v1 → Q (-1) σ) ∧ (¬ 3 ≤ v1 → (0 ≤ v1 ∧ v1 < 3) ∧ wpX3_firstPublicTwice_16 K2 v1 v1 0 σ Q)
def wpX3_firstPublicTwice_2 (v1 : Int) (σ : ZS) (Q : Int → ZS → Prop) : Prop := lfp1 (fun K2 v1 σ => wpbX3_firstPublicTwice_2 K2 v1 σ Q) v1 σ
def wpX3_firstPublicTwice (σ : ZS) (Q : Int → ZS → Prop) : Prop := wpX3_firstPublicTwice_2 1 σ Q
set_option maxHeartbeats 4000000 in
set_option maxRecDepth 100000 in
theorem kX3_firstPublicTwice (l : Launch) (D : va_G) (dA : Nat → ClassId) (ad : Int → Nat → Nat) (σ : ZS) (Q : Int → ZS → Prop) (sz : Nat) (hw : wpX3_firstPublicTwice σ Q) : Met l yX3_firstPublicTwice (gws yX3_firstPublicTwice cX3_firstPublicTwice 4 (some .int)) (gR 3 0 0) (gPre D dA [.ref (ad 16 1000)] (zC dA ad σ) sz) (va_Qi (zQi Q) (gAt D dA (va_A (zC dA ad σ) sz) (zC dA ad)) (va_A (zC dA ad σ) sz)) 0 0 (va_A (zC dA ad σ) sz) := by
  refine Met.ofW (cc := cX3_firstPublicTwice) (maxL := 4) (ret := (some .int)) (by decide) rfl ?_
  intro p e s m args below meth c s₁ B hml hv
  obtain ⟨rfl, hsz, hP, hK, hD0⟩ := hv
  have hx := B.exec
  have hb := B.bytes
  have hr := B.returns
  have hts := atoms_spec (ws := gws yX3_firstPublicTwice cX3_firstPublicTwice 4 (some .int)) B.pre
  have hg : ∀ w ∈ gw, w.before _ s = true := fun w h => hts w (List.mem_cons_of_mem _ h)
  have hown : s.vm.findClass RX3 = some m.cls := findClass_of_methodNamed B.named
  have hlocks := B.notSynchronized
  subst hsz
  have hD := hD0.self (sz := s.heap.size)
  generalize hAe : va_A (zC dA ad σ) s.heap.size = A at hD ⊢
  have hA : ∀ q : Nat, s.heap.size ≤ q → A q := fun q h => by rw [← hAe]; exact Or.inr h
  have hS : va_S A s.heap s.heap [] := va_S.rf
  have hl := lv_entry ([.ref (ad 16 1000)]) (n := 4) (Nat.le_of_ble_eq_true rfl)
  rw [lg_entry_eq]
  generalize (lg_sl ([.ref (ad 16 1000)]) ++ List.replicate (4 - (lg_sl ([.ref (ad 16 1000)])).length) Slot.unset).toArray = ls at hl ⊢
  have hl : lv_has ls 4 [(0, .ref (ad 16 1000))] := hl
  have hret : ∀ (v : Int) (σ : ZS) (H : Heap) (locs : List Loc) (ls : Array Slot) (pc : Nat), Q v σ → va_P D vwC (zC dA ad σ) H → va_D A (zC dA ad σ) → va_S A s.heap H locs → decode cX3_firstPublicTwice pc = .ok (.ireturn, 1) → W p l e (gR 3 0 0) s m #[.ref (ad 16 1000)] below meth c H locs 0 0 (MQ below (va_Qi (zQi Q) (gAt D dA A (zC dA ad)) A) #[.ref (ad 16 1000)] s 0 0 A) (F0 m pc ls [.int (Int32.ofInt v)]) := fun v σ H locs ls pc hw hP hD hS hd => g_iret hx hb hr rfl hlocks hK σ hP hD hS ⟨v, rfl, hw⟩ (Nat.le_of_ble_eq_true rfl) (Nat.le_of_ble_eq_true rfl) hd
  generalize MQ below (va_Qi (zQi Q) (gAt D dA A (zC dA ad)) A) #[.ref (ad 16 1000)] s 0 0 A = QQ at hret ⊢
  have b2 : ∀ (K2 : Int → ZS → Prop), (∀ (v1 : Int) (σ : ZS), K2 v1 σ → ∀ (H : Heap) (locs : List Loc) (ls : Array Slot), va_P D vwC (zC dA ad σ) H → va_D A (zC dA ad σ) → va_S A s.heap H locs → lv_has ls 4 [(0, .ref (ad 16 1000)), (1, .int (Int32.ofInt v1))] → W p l e (gR 3 0 0) s m #[.ref (ad 16 1000)] below meth c H locs 0 0 QQ (F0 m 2 ls [])) → ∀ (v1 : Int) (σ : ZS), wpbX3_firstPublicTwice_2 K2 v1 σ Q → ∀ (H : Heap) (locs : List Loc) (ls : Array Slot), va_P D vwC (zC dA ad σ) H → va_D A (zC dA ad σ) → va_S A s.heap H locs → lv_has ls 4 [(0, .ref (ad 16 1000)), (1, .int (Int32.ofInt v1))] → W p l e (gR 3 0 0) s m #[.ref (ad 16 1000)] below meth c H locs 0 0 QQ (F0 m 2 ls []) := by
    intro K2 hK2
    have b16 : ∀ (v1 v2 : Int) (K16 : Int → ZS → Prop), (∀ (v3 : Int) (σ : ZS), K16 v3 σ → ∀ (H : Heap) (locs : List Loc) (ls : Array Slot), va_P D vwC (zC dA ad σ) H → va_D A (zC dA ad σ) → va_S A s.heap H locs → lv_has ls 4 [(0, .ref (ad 16 1000)), (1, .int (Int32.ofInt v1)), (2, .ref (ad v2 1000)), (3, .int (Int32.ofInt v3))] → W p l e (gR 3 0 0) s m #[.ref (ad 16 1000)] below meth c H locs 0 0 QQ (F0 m 16 ls [])) → ∀ (v3 : Int) (σ : ZS), wpbX3_firstPublicTwice_16 K2 K16 v1 v2 v3 σ Q → ∀ (H : Heap) (locs : List Loc) (ls : Array Slot), va_P D vwC (zC dA ad σ) H → va_D A (zC dA ad σ) → va_S A s.heap H locs → lv_has ls 4 [(0, .ref (ad 16 1000)), (1, .int (Int32.ofInt v1)), (2, .ref (ad v2 1000)), (3, .int (Int32.ofInt v3))] → W p l e (gR 3 0 0) s m #[.ref (ad 16 1000)] below meth c H locs 0 0 QQ (F0 m 16 ls []) := by
      intro v1 v2 K16 hK16
      intro v3 σ hw H locs ls hP hD hS hl
      unfold wpbX3_firstPublicTwice_16 at hw
      refine lv_iload_n hx hb dX3_firstPublicTwice_16 rfl (lv_at hl 3 rfl) ?_
      refine lv_aload_n hx hb dX3_firstPublicTwice_17 rfl (lv_at hl 2 rfl) ?_
      obtain ⟨o1, hw⟩ := hw
      refine zgCM_13 hx hb hg hown o1 hK hP q435 dX3_firstPublicTwice_18 ?_
      obtain ⟨o2, hw⟩ := hw
      obtain ⟨o3, hw⟩ := hw
      refine z_icmp_ge (tgt := 46) hx hb o2 o3 dX3_firstPublicTwice_21 (by decide) (fun k4 => ?_) (fun k4 => ?_)
      · replace hw := hw.1 k4
        refine lv_iinc (v := Int32.ofInt (v1 + 1)) (lv' := [(1, .int (Int32.ofInt (v1 + 1))), (0, .ref (ad 16 1000)), (2, .ref (ad v2 1000)), (3, .int (Int32.ofInt v3))]) hx hb dX3_firstPublicTwice_46 hl (k := 1) rfl (Int32.ofInt_add _ _).symm (by decide) rfl (fun ls hl => ?_)
        refine lv_goto (tgt := 2) hx hb dX3_firstPublicTwice_49 (by decide) ?_
        exact hK2 (v1 + 1) σ hw _ _ _ hP hD hS (lv_sub hl [1, 0] rfl)
      · replace hw := hw.2 k4
        refine lv_aload_n hx hb dX3_firstPublicTwice_24 rfl (lv_at hl 0 rfl) ?_
        refine lv_aload_n hx hb dX3_firstPublicTwice_25 rfl (lv_at hl 2 rfl) ?_
        refine zgCM_14 hx hb hg hown o1 hK hP q437 dX3_firstPublicTwice_26 ?_
        refine lv_iload_n hx hb dX3_firstPublicTwice_29 rfl (lv_at hl 3 rfl) ?_
        obtain ⟨o5, hw⟩ := hw
        refine zlCM_14 hx hb o1 o5 hK hP dX3_firstPublicTwice_30 ?_
        refine lv_iload_n hx hb dX3_firstPublicTwice_31 rfl (lv_at hl 1 rfl) ?_
        refine z_Vi (n := 2) (As := [.long (Int64.ofInt (zA σ v2 14 v3)), .int (Int32.ofInt v1)]) (rest := []) hx hb hml hg hown hK hP hD hS hA (kX3_publicModule l D dA ad (zA σ v2 14 v3) v1 σ _ _ hw) (zoC16) rfl q1287 q157 q1284 q1286 q43 (by decide +kernel) ⟨(Nat.le_of_ble_eq_true rfl), (Nat.le_of_ble_eq_true rfl)⟩ rfl hl.1 rfl (Nat.le_of_ble_eq_true rfl) dX3_firstPublicTwice_32 ⟨(Nat.le_of_ble_eq_true rfl), (Nat.le_of_ble_eq_true rfl)⟩ (fun x6 σ7 H locs hw hP hD hS => ?_)
        obtain ⟨o8, hw⟩ := hw
        refine z_if_lt (tgt := 40) hx hb o8 dX3_firstPublicTwice_35 (by decide) (fun k9 => ?_) (fun k9 => ?_)
        · replace hw := hw.1 k9
          refine lv_iinc (v := Int32.ofInt (v3 + 1)) (lv' := [(3, .int (Int32.ofInt (v3 + 1))), (0, .ref (ad 16 1000)), (1, .int (Int32.ofInt v1)), (2, .ref (ad v2 1000))]) hx hb dX3_firstPublicTwice_40 hl (k := 3) rfl (Int32.ofInt_add _ _).symm (by decide) rfl (fun ls hl => ?_)
          refine lv_goto (tgt := 16) hx hb dX3_firstPublicTwice_43 (by decide) ?_
          exact hK16 (v3 + 1) σ7 hw _ _ _ hP hD hS (lv_sub hl [1, 2, 3, 0] rfl)
        · replace hw := hw.2 k9
          refine lv_iload_n hx hb dX3_firstPublicTwice_38 rfl (lv_at hl 1 rfl) ?_
          exact hret v1 σ7 _ _ _ _ hw hP hD hS dX3_firstPublicTwice_39
    have j16 : ∀ (v1 v2 v3 : Int) (σ : ZS), ∀ (H : Heap) (locs : List Loc) (ls : Array Slot), va_P D vwC (zC dA ad σ) H → va_D A (zC dA ad σ) → va_S A s.heap H locs → lv_has ls 4 [(0, .ref (ad 16 1000)), (1, .int (Int32.ofInt v1)), (2, .ref (ad v2 1000)), (3, .int (Int32.ofInt v3))] → wpX3_firstPublicTwice_16 K2 v1 v2 v3 σ Q → W p l e (gR 3 0 0) s m #[.ref (ad 16 1000)] below meth c H locs 0 0 QQ (F0 m 16 ls []) := by
      intro v1 v2 v3 σ H locs ls hP hD hS hl hw
      exact hw (fun v3 σ => ∀ (H : Heap) (locs : List Loc) (ls : Array Slot), va_P D vwC (zC dA ad σ) H → va_D A (zC dA ad σ) → va_S A s.heap H locs → lv_has ls 4 [(0, .ref (ad 16 1000)), (1, .int (Int32.ofInt v1)), (2, .ref (ad v2 1000)), (3, .int (Int32.ofInt v3))] → W p l e (gR 3 0 0) s m #[.ref (ad 16 1000)] below meth c H locs 0 0 QQ (F0 m 16 ls [])) (b16 v1 v2 (fun v3 σ => ∀ (H : Heap) (locs : List Loc) (ls : Array Slot), va_P D vwC (zC dA ad σ) H → va_D A (zC dA ad σ) → va_S A s.heap H locs → lv_has ls 4 [(0, .ref (ad 16 1000)), (1, .int (Int32.ofInt v1)), (2, .ref (ad v2 1000)), (3, .int (Int32.ofInt v3))] → W p l e (gR 3 0 0) s m #[.ref (ad 16 1000)] below meth c H locs 0 0 QQ (F0 m 16 ls [])) (fun v3 σ h => h)) _ _ _ hP hD hS hl
    intro v1 σ hw H locs ls hP hD hS hl
    unfold wpbX3_firstPublicTwice_2 at hw
    refine lv_iload_n hx hb dX3_firstPublicTwice_2 rfl (lv_at hl 1 rfl) ?_
    refine lv_iconst (v := Int32.ofInt 3) hx hb dX3_firstPublicTwice_3 (by decide) ?_
    obtain ⟨o10, hw⟩ := hw
    refine z_icmp_ge (tgt := 52) hx hb o10 (by decide) dX3_firstPublicTwice_4 (by decide) (fun k11 => ?_) (fun k11 => ?_)
    · replace hw := hw.1 k11
      refine lv_iconst (v := Int32.ofInt (-1)) hx hb dX3_firstPublicTwice_52 (by decide) ?_
      exact hret (-1) σ _ _ _ _ hw hP hD hS dX3_firstPublicTwice_53
    · replace hw := hw.2 k11
      refine lv_aload_n hx hb dX3_firstPublicTwice_7 rfl (lv_at hl 0 rfl) ?_
      refine zgC16_0 hx hb hg hown hK hP q483 dX3_firstPublicTwice_8 ?_
      refine lv_iload_n hx hb dX3_firstPublicTwice_11 rfl (lv_at hl 1 rfl) ?_
      obtain ⟨o12, hw⟩ := hw
      refine zlC10_8 hx hb o12 hK hP dX3_firstPublicTwice_12 ?_
      refine lv_astore_n (lv' := [(2, .ref (ad v1 1000)), (0, .ref (ad 16 1000)), (1, .int (Int32.ofInt v1))]) hx hb dX3_firstPublicTwice_13 rfl hl (by decide) rfl (fun ls hl => ?_)
      refine lv_iconst (v := Int32.ofInt 0) hx hb dX3_firstPublicTwice_14 (by decide) ?_
      refine lv_istore_n (lv' := [(3, .int (Int32.ofInt 0)), (2, .ref (ad v1 1000)), (0, .ref (ad 16 1000)), (1, .int (Int32.ofInt v1))]) hx hb dX3_firstPublicTwice_15 rfl hl (by decide) rfl (fun ls hl => ?_)
      exact j16 v1 v1 0 σ _ _ _ hP hD hS (lv_sub hl [2, 3, 1, 0] rfl) hw
  have j2 : ∀ (v1 : Int) (σ : ZS), ∀ (H : Heap) (locs : List Loc) (ls : Array Slot), va_P D vwC (zC dA ad σ) H → va_D A (zC dA ad σ) → va_S A s.heap H locs → lv_has ls 4 [(0, .ref (ad 16 1000)), (1, .int (Int32.ofInt v1))] → wpX3_firstPublicTwice_2 v1 σ Q → W p l e (gR 3 0 0) s m #[.ref (ad 16 1000)] below meth c H locs 0 0 QQ (F0 m 2 ls []) := by
    intro v1 σ H locs ls hP hD hS hl hw
    exact hw (fun v1 σ => ∀ (H : Heap) (locs : List Loc) (ls : Array Slot), va_P D vwC (zC dA ad σ) H → va_D A (zC dA ad σ) → va_S A s.heap H locs → lv_has ls 4 [(0, .ref (ad 16 1000)), (1, .int (Int32.ofInt v1))] → W p l e (gR 3 0 0) s m #[.ref (ad 16 1000)] below meth c H locs 0 0 QQ (F0 m 2 ls [])) (b2 (fun v1 σ => ∀ (H : Heap) (locs : List Loc) (ls : Array Slot), va_P D vwC (zC dA ad σ) H → va_D A (zC dA ad σ) → va_S A s.heap H locs → lv_has ls 4 [(0, .ref (ad 16 1000)), (1, .int (Int32.ofInt v1))] → W p l e (gR 3 0 0) s m #[.ref (ad 16 1000)] below meth c H locs 0 0 QQ (F0 m 2 ls [])) (fun v1 σ h => h)) _ _ _ hP hD hS hl
  unfold wpX3_firstPublicTwice at hw
  refine lv_iconst (v := Int32.ofInt 1) hx hb dX3_firstPublicTwice_0 (by decide) ?_
  refine lv_istore_n (lv' := [(1, .int (Int32.ofInt 1)), (0, .ref (ad 16 1000))]) hx hb dX3_firstPublicTwice_1 rfl hl (by decide) rfl (fun ls hl => ?_)
  exact j2 1 σ _ _ _ hP hD hS (lv_sub hl [1, 0] rfl) hw
def wpX3_firstUnsolved_49 (K2 : Int → ZS → Prop) (K16 : Int → ZS → Prop) (v1 v2 v3 : Int) (σ : ZS) (Q : Int → ZS → Prop) : Prop := K16 (v3 + 1) σ
def wpbX3_firstUnsolved_16 (K2 : Int → ZS → Prop) (K16 : Int → ZS → Prop) (v1 v2 v3 : Int) (σ : ZS) (Q : Int → ZS → Prop) : Prop := (0 ≤ v2 ∧ v2 ≤ 2) ∧ (-2147483648 ≤ v3 ∧ v3 ≤ 2147483647) ∧ (-2147483648 ≤ (zI σ v2 7) ∧ (zI σ v2 7) ≤ 2147483647) ∧ ((zI σ v2 7) ≤ v3 → K2 (v1 + 1) σ) ∧ (¬ (zI σ v2 7) ≤ v3 → (0 ≤ v3 ∧ v3 < 200) ∧ (-2147483648 ≤ (zA σ v2 11 v3) ∧ (zA σ v2 11 v3) ≤ 2147483647) ∧ (0 ≤ (zA σ v2 11 v3) → wpX3_firstUnsolved_49 K2 K16 v1 v2 v3 σ Q) ∧ (¬ 0 ≤ (zA σ v2 11 v3) → wpX3_publicModule (zA σ v2 12 v3) 3 σ (fun (x8 : Int) (σ9 : ZS) => (-2147483648 ≤ x8 ∧ x8 ≤ 2147483647) ∧ (0 ≤ x8 → wpX3_firstUnsolved_49 K2 K16 v1 v2 v3 σ9 Q) ∧ (¬ 0 ≤ x8 → Q v1 σ9))))
def wpX3_firstUnsolved_16 (K2 : Int → ZS → Prop) (v1 v2 v3 : Int) (σ : ZS) (Q : Int → ZS → Prop) : Prop := lfp1 (fun K16 v3 σ => wpbX3_firstUnsolved_16 K2 K16 v1 v2 v3 σ Q) v3 σ
def wpbX3_firstUnsolved_2 (K2 : Int → ZS → Prop) (v1 : Int) (σ : ZS) (Q : Int → ZS → Prop) : Prop := (-2147483648 ≤ v1 ∧ v1 ≤ 2147483647) ∧ (3 ≤ v1 → Q (-1) σ) ∧ (¬ 3 ≤ v1 → (0 ≤ v1 ∧ v1 < 3) ∧ wpX3_firstUnsolved_16 K2 v1 v1 0 σ Q)
def wpX3_firstUnsolved_2 (v1 : Int) (σ : ZS) (Q : Int → ZS → Prop) : Prop := lfp1 (fun K2 v1 σ => wpbX3_firstUnsolved_2 K2 v1 σ Q) v1 σ
def wpX3_firstUnsolved (σ : ZS) (Q : Int → ZS → Prop) : Prop := wpX3_firstUnsolved_2 0 σ Q
set_option maxHeartbeats 4000000 in
set_option maxRecDepth 100000 in
theorem kX3_firstUnsolved (l : Launch) (D : va_G) (dA : Nat → ClassId) (ad : Int → Nat → Nat) (σ : ZS) (Q : Int → ZS → Prop) (sz : Nat) (hw : wpX3_firstUnsolved σ Q) : Met l yX3_firstUnsolved (gws yX3_firstUnsolved cX3_firstUnsolved 4 (some .int)) (gR 3 0 0) (gPre D dA [.ref (ad 16 1000)] (zC dA ad σ) sz) (va_Qi (zQi Q) (gAt D dA (va_A (zC dA ad σ) sz) (zC dA ad)) (va_A (zC dA ad σ) sz)) 0 0 (va_A (zC dA ad σ) sz) := by
  refine Met.ofW (cc := cX3_firstUnsolved) (maxL := 4) (ret := (some .int)) (by decide) rfl ?_
  intro p e s m args below meth c s₁ B hml hv
  obtain ⟨rfl, hsz, hP, hK, hD0⟩ := hv
  have hx := B.exec
  have hb := B.bytes
  have hr := B.returns
  have hts := atoms_spec (ws := gws yX3_firstUnsolved cX3_firstUnsolved 4 (some .int)) B.pre
  have hg : ∀ w ∈ gw, w.before _ s = true := fun w h => hts w (List.mem_cons_of_mem _ h)
  have hown : s.vm.findClass RX3 = some m.cls := findClass_of_methodNamed B.named
  have hlocks := B.notSynchronized
  subst hsz
  have hD := hD0.self (sz := s.heap.size)
  generalize hAe : va_A (zC dA ad σ) s.heap.size = A at hD ⊢
  have hA : ∀ q : Nat, s.heap.size ≤ q → A q := fun q h => by rw [← hAe]; exact Or.inr h
  have hS : va_S A s.heap s.heap [] := va_S.rf
  have hl := lv_entry ([.ref (ad 16 1000)]) (n := 4) (Nat.le_of_ble_eq_true rfl)
  rw [lg_entry_eq]
  generalize (lg_sl ([.ref (ad 16 1000)]) ++ List.replicate (4 - (lg_sl ([.ref (ad 16 1000)])).length) Slot.unset).toArray = ls at hl ⊢
  have hl : lv_has ls 4 [(0, .ref (ad 16 1000))] := hl
  have hret : ∀ (v : Int) (σ : ZS) (H : Heap) (locs : List Loc) (ls : Array Slot) (pc : Nat), Q v σ → va_P D vwC (zC dA ad σ) H → va_D A (zC dA ad σ) → va_S A s.heap H locs → decode cX3_firstUnsolved pc = .ok (.ireturn, 1) → W p l e (gR 3 0 0) s m #[.ref (ad 16 1000)] below meth c H locs 0 0 (MQ below (va_Qi (zQi Q) (gAt D dA A (zC dA ad)) A) #[.ref (ad 16 1000)] s 0 0 A) (F0 m pc ls [.int (Int32.ofInt v)]) := fun v σ H locs ls pc hw hP hD hS hd => g_iret hx hb hr rfl hlocks hK σ hP hD hS ⟨v, rfl, hw⟩ (Nat.le_of_ble_eq_true rfl) (Nat.le_of_ble_eq_true rfl) hd
  generalize MQ below (va_Qi (zQi Q) (gAt D dA A (zC dA ad)) A) #[.ref (ad 16 1000)] s 0 0 A = QQ at hret ⊢
  have b2 : ∀ (K2 : Int → ZS → Prop), (∀ (v1 : Int) (σ : ZS), K2 v1 σ → ∀ (H : Heap) (locs : List Loc) (ls : Array Slot), va_P D vwC (zC dA ad σ) H → va_D A (zC dA ad σ) → va_S A s.heap H locs → lv_has ls 4 [(0, .ref (ad 16 1000)), (1, .int (Int32.ofInt v1))] → W p l e (gR 3 0 0) s m #[.ref (ad 16 1000)] below meth c H locs 0 0 QQ (F0 m 2 ls [])) → ∀ (v1 : Int) (σ : ZS), wpbX3_firstUnsolved_2 K2 v1 σ Q → ∀ (H : Heap) (locs : List Loc) (ls : Array Slot), va_P D vwC (zC dA ad σ) H → va_D A (zC dA ad σ) → va_S A s.heap H locs → lv_has ls 4 [(0, .ref (ad 16 1000)), (1, .int (Int32.ofInt v1))] → W p l e (gR 3 0 0) s m #[.ref (ad 16 1000)] below meth c H locs 0 0 QQ (F0 m 2 ls []) := by
    intro K2 hK2
    have b16 : ∀ (v1 v2 : Int) (K16 : Int → ZS → Prop), (∀ (v3 : Int) (σ : ZS), K16 v3 σ → ∀ (H : Heap) (locs : List Loc) (ls : Array Slot), va_P D vwC (zC dA ad σ) H → va_D A (zC dA ad σ) → va_S A s.heap H locs → lv_has ls 4 [(0, .ref (ad 16 1000)), (1, .int (Int32.ofInt v1)), (2, .ref (ad v2 1000)), (3, .int (Int32.ofInt v3))] → W p l e (gR 3 0 0) s m #[.ref (ad 16 1000)] below meth c H locs 0 0 QQ (F0 m 16 ls [])) → ∀ (v3 : Int) (σ : ZS), wpbX3_firstUnsolved_16 K2 K16 v1 v2 v3 σ Q → ∀ (H : Heap) (locs : List Loc) (ls : Array Slot), va_P D vwC (zC dA ad σ) H → va_D A (zC dA ad σ) → va_S A s.heap H locs → lv_has ls 4 [(0, .ref (ad 16 1000)), (1, .int (Int32.ofInt v1)), (2, .ref (ad v2 1000)), (3, .int (Int32.ofInt v3))] → W p l e (gR 3 0 0) s m #[.ref (ad 16 1000)] below meth c H locs 0 0 QQ (F0 m 16 ls []) := by
      intro v1 v2 K16 hK16
      have j49 : ∀ (v3 : Int) (σ : ZS), ∀ (H : Heap) (locs : List Loc) (ls : Array Slot), va_P D vwC (zC dA ad σ) H → va_D A (zC dA ad σ) → va_S A s.heap H locs → lv_has ls 4 [(0, .ref (ad 16 1000)), (1, .int (Int32.ofInt v1)), (2, .ref (ad v2 1000)), (3, .int (Int32.ofInt v3))] → wpX3_firstUnsolved_49 K2 K16 v1 v2 v3 σ Q → W p l e (gR 3 0 0) s m #[.ref (ad 16 1000)] below meth c H locs 0 0 QQ (F0 m 49 ls []) := by
        intro v3 σ H locs ls hP hD hS hl hw
        unfold wpX3_firstUnsolved_49 at hw
        refine lv_iinc (v := Int32.ofInt (v3 + 1)) (lv' := [(3, .int (Int32.ofInt (v3 + 1))), (0, .ref (ad 16 1000)), (1, .int (Int32.ofInt v1)), (2, .ref (ad v2 1000))]) hx hb dX3_firstUnsolved_49 hl (k := 3) rfl (Int32.ofInt_add _ _).symm (by decide) rfl (fun ls hl => ?_)
        refine lv_goto (tgt := 16) hx hb dX3_firstUnsolved_52 (by decide) ?_
        exact hK16 (v3 + 1) σ hw _ _ _ hP hD hS (lv_sub hl [1, 2, 3, 0] rfl)
      intro v3 σ hw H locs ls hP hD hS hl
      unfold wpbX3_firstUnsolved_16 at hw
      refine lv_iload_n hx hb dX3_firstUnsolved_16 rfl (lv_at hl 3 rfl) ?_
      refine lv_aload_n hx hb dX3_firstUnsolved_17 rfl (lv_at hl 2 rfl) ?_
      obtain ⟨o1, hw⟩ := hw
      refine zgCM_7 hx hb hg hown o1 hK hP q418 dX3_firstUnsolved_18 ?_
      obtain ⟨o2, hw⟩ := hw
      obtain ⟨o3, hw⟩ := hw
      refine z_icmp_ge (tgt := 55) hx hb o2 o3 dX3_firstUnsolved_21 (by decide) (fun k4 => ?_) (fun k4 => ?_)
      · replace hw := hw.1 k4
        refine lv_iinc (v := Int32.ofInt (v1 + 1)) (lv' := [(1, .int (Int32.ofInt (v1 + 1))), (0, .ref (ad 16 1000)), (2, .ref (ad v2 1000)), (3, .int (Int32.ofInt v3))]) hx hb dX3_firstUnsolved_55 hl (k := 1) rfl (Int32.ofInt_add _ _).symm (by decide) rfl (fun ls hl => ?_)
        refine lv_goto (tgt := 2) hx hb dX3_firstUnsolved_58 (by decide) ?_
        exact hK2 (v1 + 1) σ hw _ _ _ hP hD hS (lv_sub hl [1, 0] rfl)
      · replace hw := hw.2 k4
        refine lv_aload_n hx hb dX3_firstUnsolved_24 rfl (lv_at hl 2 rfl) ?_
        refine zgCM_11 hx hb hg hown o1 hK hP q430 dX3_firstUnsolved_25 ?_
        refine lv_iload_n hx hb dX3_firstUnsolved_28 rfl (lv_at hl 3 rfl) ?_
        obtain ⟨o5, hw⟩ := hw
        refine zlCM_11 hx hb o1 o5 hK hP dX3_firstUnsolved_29 ?_
        obtain ⟨o6, hw⟩ := hw
        refine z_if_ge (tgt := 49) hx hb o6 dX3_firstUnsolved_30 (by decide) (fun k7 => ?_) (fun k7 => ?_)
        · replace hw := hw.1 k7
          exact j49 v3 σ _ _ _ hP hD hS (lv_sub hl [0, 1, 2, 3] rfl) hw
        · replace hw := hw.2 k7
          refine lv_aload_n hx hb dX3_firstUnsolved_33 rfl (lv_at hl 0 rfl) ?_
          refine lv_aload_n hx hb dX3_firstUnsolved_34 rfl (lv_at hl 2 rfl) ?_
          refine zgCM_12 hx hb hg hown o1 hK hP q433 dX3_firstUnsolved_35 ?_
          refine lv_iload_n hx hb dX3_firstUnsolved_38 rfl (lv_at hl 3 rfl) ?_
          refine zlCM_12 hx hb o1 o5 hK hP dX3_firstUnsolved_39 ?_
          refine lv_iconst (v := Int32.ofInt 3) hx hb dX3_firstUnsolved_40 (by decide) ?_
          refine z_Vi (n := 2) (As := [.long (Int64.ofInt (zA σ v2 12 v3)), .int (Int32.ofInt 3)]) (rest := []) hx hb hml hg hown hK hP hD hS hA (kX3_publicModule l D dA ad (zA σ v2 12 v3) 3 σ _ _ hw) (zoC16) rfl q1287 q157 q1284 q1286 q43 (by decide +kernel) ⟨(Nat.le_of_ble_eq_true rfl), (Nat.le_of_ble_eq_true rfl)⟩ rfl hl.1 rfl (Nat.le_of_ble_eq_true rfl) dX3_firstUnsolved_41 ⟨(Nat.le_of_ble_eq_true rfl), (Nat.le_of_ble_eq_true rfl)⟩ (fun x8 σ9 H locs hw hP hD hS => ?_)
          obtain ⟨o10, hw⟩ := hw
          refine z_if_ge (tgt := 49) hx hb o10 dX3_firstUnsolved_44 (by decide) (fun k11 => ?_) (fun k11 => ?_)
          · replace hw := hw.1 k11
            exact j49 v3 σ9 _ _ _ hP hD hS (lv_sub hl [0, 1, 2, 3] rfl) hw
          · replace hw := hw.2 k11
            refine lv_iload_n hx hb dX3_firstUnsolved_47 rfl (lv_at hl 1 rfl) ?_
            exact hret v1 σ9 _ _ _ _ hw hP hD hS dX3_firstUnsolved_48
    have j16 : ∀ (v1 v2 v3 : Int) (σ : ZS), ∀ (H : Heap) (locs : List Loc) (ls : Array Slot), va_P D vwC (zC dA ad σ) H → va_D A (zC dA ad σ) → va_S A s.heap H locs → lv_has ls 4 [(0, .ref (ad 16 1000)), (1, .int (Int32.ofInt v1)), (2, .ref (ad v2 1000)), (3, .int (Int32.ofInt v3))] → wpX3_firstUnsolved_16 K2 v1 v2 v3 σ Q → W p l e (gR 3 0 0) s m #[.ref (ad 16 1000)] below meth c H locs 0 0 QQ (F0 m 16 ls []) := by
      intro v1 v2 v3 σ H locs ls hP hD hS hl hw
      exact hw (fun v3 σ => ∀ (H : Heap) (locs : List Loc) (ls : Array Slot), va_P D vwC (zC dA ad σ) H → va_D A (zC dA ad σ) → va_S A s.heap H locs → lv_has ls 4 [(0, .ref (ad 16 1000)), (1, .int (Int32.ofInt v1)), (2, .ref (ad v2 1000)), (3, .int (Int32.ofInt v3))] → W p l e (gR 3 0 0) s m #[.ref (ad 16 1000)] below meth c H locs 0 0 QQ (F0 m 16 ls [])) (b16 v1 v2 (fun v3 σ => ∀ (H : Heap) (locs : List Loc) (ls : Array Slot), va_P D vwC (zC dA ad σ) H → va_D A (zC dA ad σ) → va_S A s.heap H locs → lv_has ls 4 [(0, .ref (ad 16 1000)), (1, .int (Int32.ofInt v1)), (2, .ref (ad v2 1000)), (3, .int (Int32.ofInt v3))] → W p l e (gR 3 0 0) s m #[.ref (ad 16 1000)] below meth c H locs 0 0 QQ (F0 m 16 ls [])) (fun v3 σ h => h)) _ _ _ hP hD hS hl
    intro v1 σ hw H locs ls hP hD hS hl
    unfold wpbX3_firstUnsolved_2 at hw
    refine lv_iload_n hx hb dX3_firstUnsolved_2 rfl (lv_at hl 1 rfl) ?_
    refine lv_iconst (v := Int32.ofInt 3) hx hb dX3_firstUnsolved_3 (by decide) ?_
    obtain ⟨o12, hw⟩ := hw
    refine z_icmp_ge (tgt := 61) hx hb o12 (by decide) dX3_firstUnsolved_4 (by decide) (fun k13 => ?_) (fun k13 => ?_)
    · replace hw := hw.1 k13
      refine lv_iconst (v := Int32.ofInt (-1)) hx hb dX3_firstUnsolved_61 (by decide) ?_
      exact hret (-1) σ _ _ _ _ hw hP hD hS dX3_firstUnsolved_62
    · replace hw := hw.2 k13
      refine lv_aload_n hx hb dX3_firstUnsolved_7 rfl (lv_at hl 0 rfl) ?_
      refine zgC16_0 hx hb hg hown hK hP q483 dX3_firstUnsolved_8 ?_
      refine lv_iload_n hx hb dX3_firstUnsolved_11 rfl (lv_at hl 1 rfl) ?_
      obtain ⟨o14, hw⟩ := hw
      refine zlC10_8 hx hb o14 hK hP dX3_firstUnsolved_12 ?_
      refine lv_astore_n (lv' := [(2, .ref (ad v1 1000)), (0, .ref (ad 16 1000)), (1, .int (Int32.ofInt v1))]) hx hb dX3_firstUnsolved_13 rfl hl (by decide) rfl (fun ls hl => ?_)
      refine lv_iconst (v := Int32.ofInt 0) hx hb dX3_firstUnsolved_14 (by decide) ?_
      refine lv_istore_n (lv' := [(3, .int (Int32.ofInt 0)), (2, .ref (ad v1 1000)), (0, .ref (ad 16 1000)), (1, .int (Int32.ofInt v1))]) hx hb dX3_firstUnsolved_15 rfl hl (by decide) rfl (fun ls hl => ?_)
      exact j16 v1 v1 0 σ _ _ _ hP hD hS (lv_sub hl [2, 3, 1, 0] rfl) hw
  have j2 : ∀ (v1 : Int) (σ : ZS), ∀ (H : Heap) (locs : List Loc) (ls : Array Slot), va_P D vwC (zC dA ad σ) H → va_D A (zC dA ad σ) → va_S A s.heap H locs → lv_has ls 4 [(0, .ref (ad 16 1000)), (1, .int (Int32.ofInt v1))] → wpX3_firstUnsolved_2 v1 σ Q → W p l e (gR 3 0 0) s m #[.ref (ad 16 1000)] below meth c H locs 0 0 QQ (F0 m 2 ls []) := by
    intro v1 σ H locs ls hP hD hS hl hw
    exact hw (fun v1 σ => ∀ (H : Heap) (locs : List Loc) (ls : Array Slot), va_P D vwC (zC dA ad σ) H → va_D A (zC dA ad σ) → va_S A s.heap H locs → lv_has ls 4 [(0, .ref (ad 16 1000)), (1, .int (Int32.ofInt v1))] → W p l e (gR 3 0 0) s m #[.ref (ad 16 1000)] below meth c H locs 0 0 QQ (F0 m 2 ls [])) (b2 (fun v1 σ => ∀ (H : Heap) (locs : List Loc) (ls : Array Slot), va_P D vwC (zC dA ad σ) H → va_D A (zC dA ad σ) → va_S A s.heap H locs → lv_has ls 4 [(0, .ref (ad 16 1000)), (1, .int (Int32.ofInt v1))] → W p l e (gR 3 0 0) s m #[.ref (ad 16 1000)] below meth c H locs 0 0 QQ (F0 m 2 ls [])) (fun v1 σ h => h)) _ _ _ hP hD hS hl
  unfold wpX3_firstUnsolved at hw
  refine lv_iconst (v := Int32.ofInt 0) hx hb dX3_firstUnsolved_0 (by decide) ?_
  refine lv_istore_n (lv' := [(1, .int (Int32.ofInt 0)), (0, .ref (ad 16 1000))]) hx hb dX3_firstUnsolved_1 rfl hl (by decide) rfl (fun ls hl => ?_)
  exact j2 0 σ _ _ _ hP hD hS (lv_sub hl [1, 0] rfl) hw
def wpX3_hasMain_16 (s0 : Int) (σ : ZS) (Q : Int → ZS → Prop) : Prop := (0 ≤ s0 ∧ s0 ≤ 1) ∧ Q s0 σ
def wpX3_hasMain (σ : ZS) (Q : Int → ZS → Prop) : Prop := wpX3_publicModule 230192366 3 σ (fun (x2 : Int) (σ3 : ZS) => (-2147483648 ≤ x2 ∧ x2 ≤ 2147483647) ∧ (x2 < 0 → wpX3_hasMain_16 0 σ3 Q) ∧ (¬ x2 < 0 → wpX3_hasMain_16 1 σ3 Q))
set_option maxHeartbeats 4000000 in
set_option maxRecDepth 100000 in
theorem kX3_hasMain (l : Launch) (D : va_G) (dA : Nat → ClassId) (ad : Int → Nat → Nat) (σ : ZS) (Q : Int → ZS → Prop) (sz : Nat) (hw : wpX3_hasMain σ Q) : Met l yX3_hasMain (gws yX3_hasMain cX3_hasMain 1 (some .boolean)) (gR 3 0 0) (gPre D dA [.ref (ad 16 1000)] (zC dA ad σ) sz) (va_Qi (zQi Q) (gAt D dA (va_A (zC dA ad σ) sz) (zC dA ad)) (va_A (zC dA ad σ) sz)) 0 0 (va_A (zC dA ad σ) sz) := by
  refine Met.ofW (cc := cX3_hasMain) (maxL := 1) (ret := (some .boolean)) (by decide) rfl ?_
  intro p e s m args below meth c s₁ B hml hv
  obtain ⟨rfl, hsz, hP, hK, hD0⟩ := hv
  have hx := B.exec
  have hb := B.bytes
  have hr := B.returns
  have hts := atoms_spec (ws := gws yX3_hasMain cX3_hasMain 1 (some .boolean)) B.pre
  have hg : ∀ w ∈ gw, w.before _ s = true := fun w h => hts w (List.mem_cons_of_mem _ h)
  have hown : s.vm.findClass RX3 = some m.cls := findClass_of_methodNamed B.named
  have hlocks := B.notSynchronized
  subst hsz
  have hD := hD0.self (sz := s.heap.size)
  generalize hAe : va_A (zC dA ad σ) s.heap.size = A at hD ⊢
  have hA : ∀ q : Nat, s.heap.size ≤ q → A q := fun q h => by rw [← hAe]; exact Or.inr h
  have hS : va_S A s.heap s.heap [] := va_S.rf
  have hl := lv_entry ([.ref (ad 16 1000)]) (n := 1) (Nat.le_of_ble_eq_true rfl)
  rw [lg_entry_eq]
  generalize (lg_sl ([.ref (ad 16 1000)]) ++ List.replicate (1 - (lg_sl ([.ref (ad 16 1000)])).length) Slot.unset).toArray = ls at hl ⊢
  have hl : lv_has ls 1 [(0, .ref (ad 16 1000))] := hl
  have hret : ∀ (v : Int) (σ : ZS) (H : Heap) (locs : List Loc) (ls : Array Slot) (pc : Nat), (0 ≤ v ∧ v ≤ 1) → Q v σ → va_P D vwC (zC dA ad σ) H → va_D A (zC dA ad σ) → va_S A s.heap H locs → decode cX3_hasMain pc = .ok (.ireturn, 1) → W p l e (gR 3 0 0) s m #[.ref (ad 16 1000)] below meth c H locs 0 0 (MQ below (va_Qi (zQi Q) (gAt D dA A (zC dA ad)) A) #[.ref (ad 16 1000)] s 0 0 A) (F0 m pc ls [.int (Int32.ofInt v)]) := fun v σ H locs ls pc hv hw hP hD hS hd => g_iret hx hb hr (z_nb hv) hlocks hK σ hP hD hS ⟨v, rfl, hw⟩ (Nat.le_of_ble_eq_true rfl) (Nat.le_of_ble_eq_true rfl) hd
  generalize MQ below (va_Qi (zQi Q) (gAt D dA A (zC dA ad)) A) #[.ref (ad 16 1000)] s 0 0 A = QQ at hret ⊢
  have j16 : ∀ (s0 : Int) (σ : ZS), ∀ (H : Heap) (locs : List Loc) (ls : Array Slot), va_P D vwC (zC dA ad σ) H → va_D A (zC dA ad σ) → va_S A s.heap H locs → lv_has ls 1 [] → wpX3_hasMain_16 s0 σ Q → W p l e (gR 3 0 0) s m #[.ref (ad 16 1000)] below meth c H locs 0 0 QQ (F0 m 16 ls [.int (Int32.ofInt s0)]) := by
    intro s0 σ H locs ls hP hD hS hl hw
    unfold wpX3_hasMain_16 at hw
    obtain ⟨o1, hw⟩ := hw
    exact hret s0 σ _ _ _ _ o1 hw hP hD hS dX3_hasMain_16
  unfold wpX3_hasMain at hw
  refine lv_aload_n hx hb dX3_hasMain_0 rfl (lv_at hl 0 rfl) ?_
  refine lv_ldc2 hx hb hown (hg _ q1299) dX3_hasMain_1 ?_
  refine g_nrmL (y := Int64.ofInt 230192366) (by decide) ?_
  refine lv_iconst (v := Int32.ofInt 3) hx hb dX3_hasMain_4 (by decide) ?_
  refine z_Vi (n := 2) (As := [.long (Int64.ofInt 230192366), .int (Int32.ofInt 3)]) (rest := []) hx hb hml hg hown hK hP hD hS hA (kX3_publicModule l D dA ad 230192366 3 σ _ _ hw) (zoC16) rfl q1287 q157 q1284 q1286 q43 (by decide +kernel) ⟨(Nat.le_of_ble_eq_true rfl), (Nat.le_of_ble_eq_true rfl)⟩ rfl hl.1 rfl (Nat.le_of_ble_eq_true rfl) dX3_hasMain_5 ⟨(Nat.le_of_ble_eq_true rfl), (Nat.le_of_ble_eq_true rfl)⟩ (fun x2 σ3 H locs hw hP hD hS => ?_)
  obtain ⟨o4, hw⟩ := hw
  refine z_if_lt (tgt := 15) hx hb o4 dX3_hasMain_8 (by decide) (fun k5 => ?_) (fun k5 => ?_)
  · replace hw := hw.1 k5
    refine lv_iconst (v := Int32.ofInt 0) hx hb dX3_hasMain_15 (by decide) ?_
    exact j16 0 σ3 _ _ _ hP hD hS (lv_sub hl [] rfl) hw
  · replace hw := hw.2 k5
    refine lv_iconst (v := Int32.ofInt 1) hx hb dX3_hasMain_11 (by decide) ?_
    refine lv_goto (tgt := 16) hx hb dX3_hasMain_12 (by decide) ?_
    exact j16 1 σ3 _ _ _ hP hD hS (lv_sub hl [] rfl) hw
def wpbX3_combinedNumber_2 (K2 : Int → ZS → Prop) (v1 v3 : Int) (σ : ZS) (Q : Int → ZS → Prop) : Prop := (-2147483648 ≤ v3 ∧ v3 ≤ 2147483647) ∧ (-2147483648 ≤ (zI σ 16 4) ∧ (zI σ 16 4) ≤ 2147483647) ∧ ((zI σ 16 4) ≤ v3 → ((zI σ 16 4) < 72 → (0 ≤ (zI σ 16 4) ∧ (zI σ 16 4) < 72) ∧ Q (((zI σ 16 4) + 1) - 1) (zsI (zsA (zsA σ 16 1 (zI σ 16 4) v1) 16 2 (zI σ 16 4) 0) 16 4 ((zI σ 16 4) + 1))) ∧ (¬ (zI σ 16 4) < 72 → Q 71 σ)) ∧ (¬ (zI σ 16 4) ≤ v3 → (0 ≤ v3 ∧ v3 < 72) ∧ (-9223372036854775808 ≤ (zA σ 16 1 v3) ∧ (zA σ 16 1 v3) ≤ 9223372036854775807) ∧ (-9223372036854775808 ≤ v1 ∧ v1 ≤ 9223372036854775807) ∧ (¬ (zA σ 16 1 v3) = v1 → K2 (v3 + 1) σ) ∧ ((zA σ 16 1 v3) = v1 → Q v3 σ))
def wpX3_combinedNumber_2 (v1 v3 : Int) (σ : ZS) (Q : Int → ZS → Prop) : Prop := lfp1 (fun K2 v3 σ => wpbX3_combinedNumber_2 K2 v1 v3 σ Q) v3 σ
def wpX3_combinedNumber (a1 : Int) (σ : ZS) (Q : Int → ZS → Prop) : Prop := wpX3_combinedNumber_2 a1 0 σ Q
set_option maxHeartbeats 4000000 in
set_option maxRecDepth 100000 in
theorem kX3_combinedNumber (l : Launch) (D : va_G) (dA : Nat → ClassId) (ad : Int → Nat → Nat) (a1 : Int) (σ : ZS) (Q : Int → ZS → Prop) (sz : Nat) (hw : wpX3_combinedNumber a1 σ Q) : Met l yX3_combinedNumber (gws yX3_combinedNumber cX3_combinedNumber 4 (some .int)) (gR 1 0 0) (gPre D dA [.ref (ad 16 1000), .long (Int64.ofInt a1)] (zC dA ad σ) sz) (va_Qi (zQi Q) (gAt D dA (va_A (zC dA ad σ) sz) (zC dA ad)) (va_A (zC dA ad σ) sz)) 0 0 (va_A (zC dA ad σ) sz) := by
  refine Met.ofW (cc := cX3_combinedNumber) (maxL := 4) (ret := (some .int)) (by decide) rfl ?_
  intro p e s m args below meth c s₁ B hml hv
  obtain ⟨rfl, hsz, hP, hK, hD0⟩ := hv
  have hx := B.exec
  have hb := B.bytes
  have hr := B.returns
  have hts := atoms_spec (ws := gws yX3_combinedNumber cX3_combinedNumber 4 (some .int)) B.pre
  have hg : ∀ w ∈ gw, w.before _ s = true := fun w h => hts w (List.mem_cons_of_mem _ h)
  have hown : s.vm.findClass RX3 = some m.cls := findClass_of_methodNamed B.named
  have hlocks := B.notSynchronized
  subst hsz
  have hD := hD0.self (sz := s.heap.size)
  generalize hAe : va_A (zC dA ad σ) s.heap.size = A at hD ⊢
  have hA : ∀ q : Nat, s.heap.size ≤ q → A q := fun q h => by rw [← hAe]; exact Or.inr h
  have hS : va_S A s.heap s.heap [] := va_S.rf
  have hl := lv_entry ([.ref (ad 16 1000), .long (Int64.ofInt a1)]) (n := 4) (Nat.le_of_ble_eq_true rfl)
  rw [lg_entry_eq]
  generalize (lg_sl ([.ref (ad 16 1000), .long (Int64.ofInt a1)]) ++ List.replicate (4 - (lg_sl ([.ref (ad 16 1000), .long (Int64.ofInt a1)])).length) Slot.unset).toArray = ls at hl ⊢
  have hl : lv_has ls 4 [(0, .ref (ad 16 1000)), (1, .long (Int64.ofInt a1))] := hl
  have hret : ∀ (v : Int) (σ : ZS) (H : Heap) (locs : List Loc) (ls : Array Slot) (pc : Nat), Q v σ → va_P D vwC (zC dA ad σ) H → va_D A (zC dA ad σ) → va_S A s.heap H locs → decode cX3_combinedNumber pc = .ok (.ireturn, 1) → W p l e (gR 1 0 0) s m #[.ref (ad 16 1000), .long (Int64.ofInt a1)] below meth c H locs 0 0 (MQ below (va_Qi (zQi Q) (gAt D dA A (zC dA ad)) A) #[.ref (ad 16 1000), .long (Int64.ofInt a1)] s 0 0 A) (F0 m pc ls [.int (Int32.ofInt v)]) := fun v σ H locs ls pc hw hP hD hS hd => g_iret hx hb hr rfl hlocks hK σ hP hD hS ⟨v, rfl, hw⟩ (Nat.le_of_ble_eq_true rfl) (Nat.le_of_ble_eq_true rfl) hd
  generalize MQ below (va_Qi (zQi Q) (gAt D dA A (zC dA ad)) A) #[.ref (ad 16 1000), .long (Int64.ofInt a1)] s 0 0 A = QQ at hret ⊢
  have b2 : ∀ (v1 : Int) (K2 : Int → ZS → Prop), (∀ (v3 : Int) (σ : ZS), K2 v3 σ → ∀ (H : Heap) (locs : List Loc) (ls : Array Slot), va_P D vwC (zC dA ad σ) H → va_D A (zC dA ad σ) → va_S A s.heap H locs → lv_has ls 4 [(0, .ref (ad 16 1000)), (1, .long (Int64.ofInt v1)), (3, .int (Int32.ofInt v3))] → W p l e (gR 1 0 0) s m #[.ref (ad 16 1000), .long (Int64.ofInt a1)] below meth c H locs 0 0 QQ (F0 m 2 ls [])) → ∀ (v3 : Int) (σ : ZS), wpbX3_combinedNumber_2 K2 v1 v3 σ Q → ∀ (H : Heap) (locs : List Loc) (ls : Array Slot), va_P D vwC (zC dA ad σ) H → va_D A (zC dA ad σ) → va_S A s.heap H locs → lv_has ls 4 [(0, .ref (ad 16 1000)), (1, .long (Int64.ofInt v1)), (3, .int (Int32.ofInt v3))] → W p l e (gR 1 0 0) s m #[.ref (ad 16 1000), .long (Int64.ofInt a1)] below meth c H locs 0 0 QQ (F0 m 2 ls []) := by
    intro v1 K2 hK2
    intro v3 σ hw H locs ls hP hD hS hl
    unfold wpbX3_combinedNumber_2 at hw
    refine lv_iload_n hx hb dX3_combinedNumber_2 rfl (lv_at hl 2 rfl) ?_
    refine lv_aload_n hx hb dX3_combinedNumber_3 rfl (lv_at hl 0 rfl) ?_
    refine zgC16_4 hx hb hg hown hK hP q487 dX3_combinedNumber_4 ?_
    obtain ⟨o1, hw⟩ := hw
    obtain ⟨o2, hw⟩ := hw
    refine z_icmp_ge (tgt := 29) hx hb o1 o2 dX3_combinedNumber_7 (by decide) (fun k3 => ?_) (fun k3 => ?_)
    · replace hw := hw.1 k3
      refine lv_aload_n hx hb dX3_combinedNumber_29 rfl (lv_at hl 0 rfl) ?_
      refine zgC16_4 hx hb hg hown hK hP q487 dX3_combinedNumber_30 ?_
      refine lv_bipush (v := Int32.ofInt 72) hx hb dX3_combinedNumber_33 (by decide) ?_
      refine z_icmp_lt (tgt := 41) hx hb o2 (by decide) dX3_combinedNumber_35 (by decide) (fun k4 => ?_) (fun k4 => ?_)
      · replace hw := hw.1 k4
        refine lv_aload_n hx hb dX3_combinedNumber_41 rfl (lv_at hl 0 rfl) ?_
        refine zgC16_1 hx hb hg hown hK hP q484 dX3_combinedNumber_42 ?_
        refine lv_aload_n hx hb dX3_combinedNumber_45 rfl (lv_at hl 0 rfl) ?_
        refine zgC16_4 hx hb hg hown hK hP q487 dX3_combinedNumber_46 ?_
        refine lv_lload_n hx hb dX3_combinedNumber_49 rfl (lv_at hl 1 rfl) ?_
        obtain ⟨o5, hw⟩ := hw
        refine zsC16_1 (v := v1) hx hb o5 hK hP hD hS dX3_combinedNumber_50 (fun H locs hP hD hS => ?_)
        refine lv_aload_n hx hb dX3_combinedNumber_51 rfl (lv_at hl 0 rfl) ?_
        refine zgC16_2 hx hb hg hown hK hP q485 dX3_combinedNumber_52 ?_
        refine lv_aload_n hx hb dX3_combinedNumber_55 rfl (lv_at hl 0 rfl) ?_
        refine zgC16_4 hx hb hg hown hK hP q487 dX3_combinedNumber_56 ?_
        refine g_nrm (y := Int32.ofInt (zI σ 16 4)) rfl ?_
        refine lv_iconst (v := Int32.ofInt 0) hx hb dX3_combinedNumber_59 (by decide) ?_
        refine zsC16_2 (v := 0) hx hb o5 hK hP hD hS dX3_combinedNumber_60 (fun H locs hP hD hS => ?_)
        refine lv_aload_n hx hb dX3_combinedNumber_61 rfl (lv_at hl 0 rfl) ?_
        refine lv_dup hx hb dX3_combinedNumber_62 rfl ?_
        refine zgC16_4 hx hb hg hown hK hP q487 dX3_combinedNumber_63 ?_
        refine g_nrm (y := Int32.ofInt (zI σ 16 4)) rfl ?_
        refine lv_iconst (v := Int32.ofInt 1) hx hb dX3_combinedNumber_66 (by decide) ?_
        refine z_iadd hx hb dX3_combinedNumber_67 ?_
        refine zpC16_4 (v := ((zI σ 16 4) + 1)) hx hb hg hown hK hP hD hS q487 dX3_combinedNumber_68 (fun H locs hP hD hS => ?_)
        refine lv_aload_n hx hb dX3_combinedNumber_71 rfl (lv_at hl 0 rfl) ?_
        refine zgC16_4 hx hb hg hown hK hP q487 dX3_combinedNumber_72 ?_
        refine g_nrm (y := Int32.ofInt ((zI σ 16 4) + 1)) rfl ?_
        refine lv_iconst (v := Int32.ofInt 1) hx hb dX3_combinedNumber_75 (by decide) ?_
        refine z_isub hx hb dX3_combinedNumber_76 ?_
        exact hret (((zI σ 16 4) + 1) - 1) (zsI (zsA (zsA σ 16 1 (zI σ 16 4) v1) 16 2 (zI σ 16 4) 0) 16 4 ((zI σ 16 4) + 1)) _ _ _ _ hw hP hD hS dX3_combinedNumber_77
      · replace hw := hw.2 k4
        refine lv_bipush (v := Int32.ofInt 71) hx hb dX3_combinedNumber_38 (by decide) ?_
        exact hret 71 σ _ _ _ _ hw hP hD hS dX3_combinedNumber_40
    · replace hw := hw.2 k3
      refine lv_aload_n hx hb dX3_combinedNumber_10 rfl (lv_at hl 0 rfl) ?_
      refine zgC16_1 hx hb hg hown hK hP q484 dX3_combinedNumber_11 ?_
      refine lv_iload_n hx hb dX3_combinedNumber_14 rfl (lv_at hl 2 rfl) ?_
      obtain ⟨o6, hw⟩ := hw
      refine zlC16_1 hx hb o6 hK hP dX3_combinedNumber_15 ?_
      refine lv_lload_n hx hb dX3_combinedNumber_16 rfl (lv_at hl 1 rfl) ?_
      obtain ⟨o7, hw⟩ := hw
      obtain ⟨o8, hw⟩ := hw
      refine z_lc_ne (tgt := 23) hx hb o7 o8 dX3_combinedNumber_17 dX3_combinedNumber_18 (by decide) (fun k9 => ?_) (fun k9 => ?_)
      · replace hw := hw.1 k9
        refine lv_iinc (v := Int32.ofInt (v3 + 1)) (lv' := [(3, .int (Int32.ofInt (v3 + 1))), (0, .ref (ad 16 1000)), (1, .long (Int64.ofInt v1))]) hx hb dX3_combinedNumber_23 hl (k := 2) rfl (Int32.ofInt_add _ _).symm (by decide) rfl (fun ls hl => ?_)
        refine lv_goto (tgt := 2) hx hb dX3_combinedNumber_26 (by decide) ?_
        exact hK2 (v3 + 1) σ hw _ _ _ hP hD hS (lv_sub hl [1, 2, 0] rfl)
      · replace hw := hw.2 k9
        refine lv_iload_n hx hb dX3_combinedNumber_21 rfl (lv_at hl 2 rfl) ?_
        exact hret v3 σ _ _ _ _ hw hP hD hS dX3_combinedNumber_22
  have j2 : ∀ (v1 v3 : Int) (σ : ZS), ∀ (H : Heap) (locs : List Loc) (ls : Array Slot), va_P D vwC (zC dA ad σ) H → va_D A (zC dA ad σ) → va_S A s.heap H locs → lv_has ls 4 [(0, .ref (ad 16 1000)), (1, .long (Int64.ofInt v1)), (3, .int (Int32.ofInt v3))] → wpX3_combinedNumber_2 v1 v3 σ Q → W p l e (gR 1 0 0) s m #[.ref (ad 16 1000), .long (Int64.ofInt a1)] below meth c H locs 0 0 QQ (F0 m 2 ls []) := by
    intro v1 v3 σ H locs ls hP hD hS hl hw
    exact hw (fun v3 σ => ∀ (H : Heap) (locs : List Loc) (ls : Array Slot), va_P D vwC (zC dA ad σ) H → va_D A (zC dA ad σ) → va_S A s.heap H locs → lv_has ls 4 [(0, .ref (ad 16 1000)), (1, .long (Int64.ofInt v1)), (3, .int (Int32.ofInt v3))] → W p l e (gR 1 0 0) s m #[.ref (ad 16 1000), .long (Int64.ofInt a1)] below meth c H locs 0 0 QQ (F0 m 2 ls [])) (b2 v1 (fun v3 σ => ∀ (H : Heap) (locs : List Loc) (ls : Array Slot), va_P D vwC (zC dA ad σ) H → va_D A (zC dA ad σ) → va_S A s.heap H locs → lv_has ls 4 [(0, .ref (ad 16 1000)), (1, .long (Int64.ofInt v1)), (3, .int (Int32.ofInt v3))] → W p l e (gR 1 0 0) s m #[.ref (ad 16 1000), .long (Int64.ofInt a1)] below meth c H locs 0 0 QQ (F0 m 2 ls [])) (fun v3 σ h => h)) _ _ _ hP hD hS hl
  unfold wpX3_combinedNumber at hw
  refine lv_iconst (v := Int32.ofInt 0) hx hb dX3_combinedNumber_0 (by decide) ?_
  refine lv_istore_n (lv' := [(3, .int (Int32.ofInt 0)), (0, .ref (ad 16 1000)), (1, .long (Int64.ofInt a1))]) hx hb dX3_combinedNumber_1 rfl hl (by decide) rfl (fun ls hl => ?_)
  exact j2 a1 0 σ _ _ _ hP hD hS (lv_sub hl [1, 2, 0] rfl) hw
def wpX10_roundUp (a0 a1 : Int) (σ : ZS) (Q : Int → ZS → Prop) : Prop := Q (zand ((a0 + a1) - 1) (-a1)) σ
set_option maxHeartbeats 4000000 in
set_option maxRecDepth 100000 in
theorem kX10_roundUp (l : Launch) (D : va_G) (dA : Nat → ClassId) (ad : Int → Nat → Nat) (a0 a1 : Int) (σ : ZS) (Q : Int → ZS → Prop) (sz : Nat) (hw : wpX10_roundUp a0 a1 σ Q) : Met l yX10_roundUp (gws yX10_roundUp cX10_roundUp 2 (some .int)) (gR 1 0 0) (gPre D dA [.int (Int32.ofInt a0), .int (Int32.ofInt a1)] (zC dA ad σ) sz) (va_Qi (zQi Q) (gAt D dA (va_A (zC dA ad σ) sz) (zC dA ad)) (va_A (zC dA ad σ) sz)) 0 0 (va_A (zC dA ad σ) sz) := by
  refine Met.ofW (cc := cX10_roundUp) (maxL := 2) (ret := (some .int)) (by decide) rfl ?_
  intro p e s m args below meth c s₁ B hml hv
  obtain ⟨rfl, hsz, hP, hK, hD0⟩ := hv
  have hx := B.exec
  have hb := B.bytes
  have hr := B.returns
  have hts := atoms_spec (ws := gws yX10_roundUp cX10_roundUp 2 (some .int)) B.pre
  have hg : ∀ w ∈ gw, w.before _ s = true := fun w h => hts w (List.mem_cons_of_mem _ h)
  have hown : s.vm.findClass RX10 = some m.cls := findClass_of_methodNamed B.named
  have hlocks := B.notSynchronized
  subst hsz
  have hD := hD0.self (sz := s.heap.size)
  generalize hAe : va_A (zC dA ad σ) s.heap.size = A at hD ⊢
  have hA : ∀ q : Nat, s.heap.size ≤ q → A q := fun q h => by rw [← hAe]; exact Or.inr h
  have hS : va_S A s.heap s.heap [] := va_S.rf
  have hl := lv_entry ([.int (Int32.ofInt a0), .int (Int32.ofInt a1)]) (n := 2) (Nat.le_of_ble_eq_true rfl)
  rw [lg_entry_eq]
  generalize (lg_sl ([.int (Int32.ofInt a0), .int (Int32.ofInt a1)]) ++ List.replicate (2 - (lg_sl ([.int (Int32.ofInt a0), .int (Int32.ofInt a1)])).length) Slot.unset).toArray = ls at hl ⊢
  have hl : lv_has ls 2 [(0, .int (Int32.ofInt a0)), (1, .int (Int32.ofInt a1))] := hl
  have hret : ∀ (v : Int) (σ : ZS) (H : Heap) (locs : List Loc) (ls : Array Slot) (pc : Nat), Q v σ → va_P D vwC (zC dA ad σ) H → va_D A (zC dA ad σ) → va_S A s.heap H locs → decode cX10_roundUp pc = .ok (.ireturn, 1) → W p l e (gR 1 0 0) s m #[.int (Int32.ofInt a0), .int (Int32.ofInt a1)] below meth c H locs 0 0 (MQ below (va_Qi (zQi Q) (gAt D dA A (zC dA ad)) A) #[.int (Int32.ofInt a0), .int (Int32.ofInt a1)] s 0 0 A) (F0 m pc ls [.int (Int32.ofInt v)]) := fun v σ H locs ls pc hw hP hD hS hd => g_iret hx hb hr rfl hlocks hK σ hP hD hS ⟨v, rfl, hw⟩ (Nat.le_of_ble_eq_true rfl) (Nat.le_of_ble_eq_true rfl) hd
  generalize MQ below (va_Qi (zQi Q) (gAt D dA A (zC dA ad)) A) #[.int (Int32.ofInt a0), .int (Int32.ofInt a1)] s 0 0 A = QQ at hret ⊢
  unfold wpX10_roundUp at hw
  refine lv_iload_n hx hb dX10_roundUp_0 rfl (lv_at hl 0 rfl) ?_
  refine lv_iload_n hx hb dX10_roundUp_1 rfl (lv_at hl 1 rfl) ?_
  refine z_iadd hx hb dX10_roundUp_2 ?_
  refine lv_iconst (v := Int32.ofInt 1) hx hb dX10_roundUp_3 (by decide) ?_
  refine z_isub hx hb dX10_roundUp_4 ?_
  refine lv_iload_n hx hb dX10_roundUp_5 rfl (lv_at hl 1 rfl) ?_
  refine z_ineg hx hb dX10_roundUp_6 ?_
  refine z_iand hx hb dX10_roundUp_7 ?_
  exact hret (zand ((a0 + a1) - 1) (-a1)) σ _ _ _ _ hw hP hD hS dX10_roundUp_8
def wpX3_part (a0 a1 : Int) (σ : ZS) (Q : Int → ZS → Prop) : Prop := Q ((a0 * 24) + a1) σ
set_option maxHeartbeats 4000000 in
set_option maxRecDepth 100000 in
theorem kX3_part (l : Launch) (D : va_G) (dA : Nat → ClassId) (ad : Int → Nat → Nat) (a0 a1 : Int) (σ : ZS) (Q : Int → ZS → Prop) (sz : Nat) (hw : wpX3_part a0 a1 σ Q) : Met l yX3_part (gws yX3_part cX3_part 2 (some .int)) (gR 1 0 0) (gPre D dA [.int (Int32.ofInt a0), .int (Int32.ofInt a1)] (zC dA ad σ) sz) (va_Qi (zQi Q) (gAt D dA (va_A (zC dA ad σ) sz) (zC dA ad)) (va_A (zC dA ad σ) sz)) 0 0 (va_A (zC dA ad σ) sz) := by
  refine Met.ofW (cc := cX3_part) (maxL := 2) (ret := (some .int)) (by decide) rfl ?_
  intro p e s m args below meth c s₁ B hml hv
  obtain ⟨rfl, hsz, hP, hK, hD0⟩ := hv
  have hx := B.exec
  have hb := B.bytes
  have hr := B.returns
  have hts := atoms_spec (ws := gws yX3_part cX3_part 2 (some .int)) B.pre
  have hg : ∀ w ∈ gw, w.before _ s = true := fun w h => hts w (List.mem_cons_of_mem _ h)
  have hown : s.vm.findClass RX3 = some m.cls := findClass_of_methodNamed B.named
  have hlocks := B.notSynchronized
  subst hsz
  have hD := hD0.self (sz := s.heap.size)
  generalize hAe : va_A (zC dA ad σ) s.heap.size = A at hD ⊢
  have hA : ∀ q : Nat, s.heap.size ≤ q → A q := fun q h => by rw [← hAe]; exact Or.inr h
  have hS : va_S A s.heap s.heap [] := va_S.rf
  have hl := lv_entry ([.int (Int32.ofInt a0), .int (Int32.ofInt a1)]) (n := 2) (Nat.le_of_ble_eq_true rfl)
  rw [lg_entry_eq]
  generalize (lg_sl ([.int (Int32.ofInt a0), .int (Int32.ofInt a1)]) ++ List.replicate (2 - (lg_sl ([.int (Int32.ofInt a0), .int (Int32.ofInt a1)])).length) Slot.unset).toArray = ls at hl ⊢
  have hl : lv_has ls 2 [(0, .int (Int32.ofInt a0)), (1, .int (Int32.ofInt a1))] := hl
  have hret : ∀ (v : Int) (σ : ZS) (H : Heap) (locs : List Loc) (ls : Array Slot) (pc : Nat), Q v σ → va_P D vwC (zC dA ad σ) H → va_D A (zC dA ad σ) → va_S A s.heap H locs → decode cX3_part pc = .ok (.ireturn, 1) → W p l e (gR 1 0 0) s m #[.int (Int32.ofInt a0), .int (Int32.ofInt a1)] below meth c H locs 0 0 (MQ below (va_Qi (zQi Q) (gAt D dA A (zC dA ad)) A) #[.int (Int32.ofInt a0), .int (Int32.ofInt a1)] s 0 0 A) (F0 m pc ls [.int (Int32.ofInt v)]) := fun v σ H locs ls pc hw hP hD hS hd => g_iret hx hb hr rfl hlocks hK σ hP hD hS ⟨v, rfl, hw⟩ (Nat.le_of_ble_eq_true rfl) (Nat.le_of_ble_eq_true rfl) hd
  generalize MQ below (va_Qi (zQi Q) (gAt D dA A (zC dA ad)) A) #[.int (Int32.ofInt a0), .int (Int32.ofInt a1)] s 0 0 A = QQ at hret ⊢
  unfold wpX3_part at hw
  refine lv_iload_n hx hb dX3_part_0 rfl (lv_at hl 0 rfl) ?_
  refine lv_bipush (v := Int32.ofInt 24) hx hb dX3_part_1 (by decide) ?_
  refine z_imul hx hb dX3_part_3 ?_
  refine lv_iload_n hx hb dX3_part_4 rfl (lv_at hl 1 rfl) ?_
  refine z_iadd hx hb dX3_part_5 ?_
  exact hret ((a0 * 24) + a1) σ _ _ _ _ hw hP hD hS dX3_part_6
def wpX3_addPart (a1 a2 : Int) (σ : ZS) (Q : ZS → Prop) : Prop := (0 ≤ a1 ∧ a1 < 3) ∧ (0 ≤ a2 ∧ a2 < 24) ∧ wpX3_combinedNumber (zA σ a1 2 a2) σ (fun (x3 : Int) (σ4 : ZS) => (0 ≤ x3 ∧ x3 < 72) ∧ wpX10_roundUp (zA σ4 16 2 x3) (zA σ4 a1 3 a2) σ4 (fun (x6 : Int) (σ7 : ZS) => wpX3_part a1 a2 σ7 (fun (x8 : Int) (σ9 : ZS) => (0 ≤ x8 ∧ x8 < 72) ∧ wpX3_part a1 a2 (zsA σ9 16 5 x8 x3) (fun (x11 : Int) (σ12 : ZS) => (0 ≤ x11 ∧ x11 < 72) ∧ Q (zsA (zsA σ12 16 6 x11 x6) 16 2 x3 (x6 + (zA σ12 a1 4 a2)))))))
set_option maxHeartbeats 4000000 in
set_option maxRecDepth 100000 in
theorem kX3_addPart (l : Launch) (D : va_G) (dA : Nat → ClassId) (ad : Int → Nat → Nat) (a1 a2 : Int) (σ : ZS) (Q : ZS → Prop) (sz : Nat) (hw : wpX3_addPart a1 a2 σ Q) : Met l yX3_addPart (gws yX3_addPart cX3_addPart 6 none) (gR 2 0 0) (gPre D dA [.ref (ad 16 1000), .int (Int32.ofInt a1), .int (Int32.ofInt a2)] (zC dA ad σ) sz) (va_Qv Q (gAt D dA (va_A (zC dA ad σ) sz) (zC dA ad)) (va_A (zC dA ad σ) sz)) 0 0 (va_A (zC dA ad σ) sz) := by
  refine Met.ofW (cc := cX3_addPart) (maxL := 6) (ret := none) (by decide) rfl ?_
  intro p e s m args below meth c s₁ B hml hv
  obtain ⟨rfl, hsz, hP, hK, hD0⟩ := hv
  have hx := B.exec
  have hb := B.bytes
  have hr := B.returns
  have hts := atoms_spec (ws := gws yX3_addPart cX3_addPart 6 none) B.pre
  have hg : ∀ w ∈ gw, w.before _ s = true := fun w h => hts w (List.mem_cons_of_mem _ h)
  have hown : s.vm.findClass RX3 = some m.cls := findClass_of_methodNamed B.named
  have hlocks := B.notSynchronized
  subst hsz
  have hD := hD0.self (sz := s.heap.size)
  generalize hAe : va_A (zC dA ad σ) s.heap.size = A at hD ⊢
  have hA : ∀ q : Nat, s.heap.size ≤ q → A q := fun q h => by rw [← hAe]; exact Or.inr h
  have hS : va_S A s.heap s.heap [] := va_S.rf
  have hl := lv_entry ([.ref (ad 16 1000), .int (Int32.ofInt a1), .int (Int32.ofInt a2)]) (n := 6) (Nat.le_of_ble_eq_true rfl)
  rw [lg_entry_eq]
  generalize (lg_sl ([.ref (ad 16 1000), .int (Int32.ofInt a1), .int (Int32.ofInt a2)]) ++ List.replicate (6 - (lg_sl ([.ref (ad 16 1000), .int (Int32.ofInt a1), .int (Int32.ofInt a2)])).length) Slot.unset).toArray = ls at hl ⊢
  have hl : lv_has ls 6 [(0, .ref (ad 16 1000)), (1, .int (Int32.ofInt a1)), (2, .int (Int32.ofInt a2))] := hl
  have hret : ∀ (σ : ZS) (H : Heap) (locs : List Loc) (ls : Array Slot) (pc : Nat), Q σ → va_P D vwC (zC dA ad σ) H → va_D A (zC dA ad σ) → va_S A s.heap H locs → decode cX3_addPart pc = .ok (.return_, 1) → W p l e (gR 2 0 0) s m #[.ref (ad 16 1000), .int (Int32.ofInt a1), .int (Int32.ofInt a2)] below meth c H locs 0 0 (MQ below (va_Qv Q (gAt D dA A (zC dA ad)) A) #[.ref (ad 16 1000), .int (Int32.ofInt a1), .int (Int32.ofInt a2)] s 0 0 A) (F0 m pc ls []) := fun σ H locs ls pc hw hP hD hS hd => g_vret hx hb hr hlocks hK σ hP hD hS hw (Nat.le_of_ble_eq_true rfl) (Nat.le_of_ble_eq_true rfl) hd
  generalize MQ below (va_Qv Q (gAt D dA A (zC dA ad)) A) #[.ref (ad 16 1000), .int (Int32.ofInt a1), .int (Int32.ofInt a2)] s 0 0 A = QQ at hret ⊢
  unfold wpX3_addPart at hw
  refine lv_aload_n hx hb dX3_addPart_0 rfl (lv_at hl 0 rfl) ?_
  refine zgC16_0 hx hb hg hown hK hP q483 dX3_addPart_1 ?_
  refine lv_iload_n hx hb dX3_addPart_4 rfl (lv_at hl 1 rfl) ?_
  obtain ⟨o1, hw⟩ := hw
  refine zlC10_8 hx hb o1 hK hP dX3_addPart_5 ?_
  refine lv_astore_n (lv' := [(3, .ref (ad a1 1000)), (0, .ref (ad 16 1000)), (1, .int (Int32.ofInt a1)), (2, .int (Int32.ofInt a2))]) hx hb dX3_addPart_6 rfl hl (by decide) rfl (fun ls hl => ?_)
  refine lv_aload_n hx hb dX3_addPart_7 rfl (lv_at hl 1 rfl) ?_
  refine lv_aload_n hx hb dX3_addPart_8 rfl (lv_at hl 0 rfl) ?_
  refine zgCM_2 hx hb hg hown (by clear hw; omega) hK hP q405 dX3_addPart_9 ?_
  refine lv_iload_n hx hb dX3_addPart_12 rfl (lv_at hl 3 rfl) ?_
  obtain ⟨o2, hw⟩ := hw
  refine zlCM_2 hx hb (by clear hw; omega) o2 hK hP dX3_addPart_13 ?_
  refine z_Vi (n := 1) (As := [.long (Int64.ofInt (zA σ a1 2 a2))]) (rest := []) hx hb hml hg hown hK hP hD hS hA (kX3_combinedNumber l D dA ad (zA σ a1 2 a2) σ _ _ hw) (zoC16) rfl q1312 q157 q1309 q1311 q45 (by decide +kernel) ⟨(Nat.le_of_ble_eq_true rfl), (Nat.le_of_ble_eq_true rfl)⟩ rfl hl.1 rfl (Nat.le_of_ble_eq_true rfl) dX3_addPart_14 ⟨(Nat.le_of_ble_eq_true rfl), (Nat.le_of_ble_eq_true rfl)⟩ (fun x3 σ4 H locs hw hP hD hS => ?_)
  refine lv_istore (lv' := [(4, .int (Int32.ofInt x3)), (3, .ref (ad a1 1000)), (0, .ref (ad 16 1000)), (1, .int (Int32.ofInt a1)), (2, .int (Int32.ofInt a2))]) hx hb dX3_addPart_17 hl (by decide) rfl (fun ls hl => ?_)
  refine lv_aload_n hx hb dX3_addPart_19 rfl (lv_at hl 2 rfl) ?_
  refine zgC16_2 hx hb hg hown hK hP q485 dX3_addPart_20 ?_
  refine lv_iload hx hb dX3_addPart_23 (lv_at hl 0 rfl) ?_
  obtain ⟨o5, hw⟩ := hw
  refine zlC16_2 hx hb o5 hK hP dX3_addPart_25 ?_
  refine lv_aload_n hx hb dX3_addPart_26 rfl (lv_at hl 1 rfl) ?_
  refine zgCM_3 hx hb hg hown (by clear hw; omega) hK hP q407 dX3_addPart_27 ?_
  refine lv_iload_n hx hb dX3_addPart_30 rfl (lv_at hl 4 rfl) ?_
  refine zlCM_3 hx hb (by clear hw; omega) o2 hK hP dX3_addPart_31 ?_
  refine z_SiN (n := 2) (As := [.int (Int32.ofInt (zA σ4 16 2 x3)), .int (Int32.ofInt (zA σ4 a1 3 a2))]) (rest := []) hx hb hml hg hown hK hP hD hS hA (kX10_roundUp l D dA ad (zA σ4 16 2 x3) (zA σ4 a1 3 a2) σ4 _ _ hw) q1315 q149 q1313 q1314 (by decide +kernel) ⟨(Nat.le_of_ble_eq_true rfl), (Nat.le_of_ble_eq_true rfl)⟩ rfl hl.1 rfl (Nat.le_of_ble_eq_true rfl) dX3_addPart_32 ⟨(Nat.le_of_ble_eq_true rfl), (Nat.le_of_ble_eq_true rfl)⟩ (fun x6 σ7 H locs hw hP hD hS => ?_)
  refine lv_istore (lv' := [(5, .int (Int32.ofInt x6)), (4, .int (Int32.ofInt x3)), (3, .ref (ad a1 1000)), (0, .ref (ad 16 1000)), (1, .int (Int32.ofInt a1)), (2, .int (Int32.ofInt a2))]) hx hb dX3_addPart_35 hl (by decide) rfl (fun ls hl => ?_)
  refine lv_aload_n hx hb dX3_addPart_37 rfl (lv_at hl 3 rfl) ?_
  refine zgC16_5 hx hb hg hown hK hP q488 dX3_addPart_38 ?_
  refine lv_iload_n hx hb dX3_addPart_41 rfl (lv_at hl 4 rfl) ?_
  refine lv_iload_n hx hb dX3_addPart_42 rfl (lv_at hl 5 rfl) ?_
  refine z_Si (n := 2) (As := [.int (Int32.ofInt a1), .int (Int32.ofInt a2)]) (rest := [.ref (ad 16 5)]) hx hb hml hg hown hK hP hD hS hA (kX3_part l D dA ad a1 a2 σ7 _ _ hw) q1318 q157 q1316 q1317 (by decide +kernel) ⟨(Nat.le_of_ble_eq_true rfl), (Nat.le_of_ble_eq_true rfl)⟩ rfl hl.1 rfl (Nat.le_of_ble_eq_true rfl) dX3_addPart_43 ⟨(Nat.le_of_ble_eq_true rfl), (Nat.le_of_ble_eq_true rfl)⟩ (fun x8 σ9 H locs hw hP hD hS => ?_)
  refine lv_iload hx hb dX3_addPart_46 (lv_at hl 1 rfl) ?_
  obtain ⟨o10, hw⟩ := hw
  refine zsC16_5 (v := x3) hx hb o10 hK hP hD hS dX3_addPart_48 (fun H locs hP hD hS => ?_)
  refine lv_aload_n hx hb dX3_addPart_49 rfl (lv_at hl 3 rfl) ?_
  refine zgC16_6 hx hb hg hown hK hP q489 dX3_addPart_50 ?_
  refine lv_iload_n hx hb dX3_addPart_53 rfl (lv_at hl 4 rfl) ?_
  refine lv_iload_n hx hb dX3_addPart_54 rfl (lv_at hl 5 rfl) ?_
  refine z_Si (n := 2) (As := [.int (Int32.ofInt a1), .int (Int32.ofInt a2)]) (rest := [.ref (ad 16 6)]) hx hb hml hg hown hK hP hD hS hA (kX3_part l D dA ad a1 a2 (zsA σ9 16 5 x8 x3) _ _ hw) q1318 q157 q1316 q1317 (by decide +kernel) ⟨(Nat.le_of_ble_eq_true rfl), (Nat.le_of_ble_eq_true rfl)⟩ rfl hl.1 rfl (Nat.le_of_ble_eq_true rfl) dX3_addPart_55 ⟨(Nat.le_of_ble_eq_true rfl), (Nat.le_of_ble_eq_true rfl)⟩ (fun x11 σ12 H locs hw hP hD hS => ?_)
  refine lv_iload hx hb dX3_addPart_58 (lv_at hl 0 rfl) ?_
  obtain ⟨o13, hw⟩ := hw
  refine zsC16_6 (v := x6) hx hb o13 hK hP hD hS dX3_addPart_60 (fun H locs hP hD hS => ?_)
  refine lv_aload_n hx hb dX3_addPart_61 rfl (lv_at hl 3 rfl) ?_
  refine zgC16_2 hx hb hg hown hK hP q485 dX3_addPart_62 ?_
  refine lv_iload hx hb dX3_addPart_65 (lv_at hl 1 rfl) ?_
  refine lv_iload hx hb dX3_addPart_67 (lv_at hl 0 rfl) ?_
  refine lv_aload_n hx hb dX3_addPart_69 rfl (lv_at hl 2 rfl) ?_
  refine zgCM_4 hx hb hg hown (by clear hw; omega) hK hP q410 dX3_addPart_70 ?_
  refine lv_iload_n hx hb dX3_addPart_73 rfl (lv_at hl 5 rfl) ?_
  refine zlCM_4 hx hb (by clear hw; omega) o2 hK hP dX3_addPart_74 ?_
  refine g_nrm (y := Int32.ofInt (zA σ12 a1 4 a2)) (congrArg Int32.ofInt (congrFun (zA_nf (by decide)) _)) ?_
  refine z_iadd hx hb dX3_addPart_75 ?_
  refine zsC16_2 (v := (x6 + (zA σ12 a1 4 a2))) hx hb o5 hK hP hD hS dX3_addPart_76 (fun H locs hP hD hS => ?_)
  exact hret (zsA (zsA σ12 16 6 x11 x6) 16 2 x3 (x6 + (zA σ12 a1 4 a2))) _ _ _ _ hw hP hD hS dX3_addPart_77
def wpbX3_combine_49 (K49 : Int → Int → ZS → Prop) (v1 v2 : Int) (σ : ZS) (Q : Int → ZS → Prop) : Prop := (-2147483648 ≤ v2 ∧ v2 ≤ 2147483647) ∧ (-2147483648 ≤ (zI σ 16 4) ∧ (zI σ 16 4) ≤ 2147483647) ∧ ((zI σ 16 4) ≤ v2 → Q v1 σ) ∧ (¬ (zI σ 16 4) ≤ v2 → wpX10_roundUp v1 16 σ (fun (x4 : Int) (σ5 : ZS) => (0 ≤ v2 ∧ v2 < 72) ∧ K49 ((zA (zsA σ5 16 3 v2 x4) 16 3 v2) + (zA σ5 16 2 v2)) (v2 + 1) (zsA σ5 16 3 v2 x4)))
def wpX3_combine_49 (v1 v2 : Int) (σ : ZS) (Q : Int → ZS → Prop) : Prop := lfp2 (fun K49 v1 v2 σ => wpbX3_combine_49 K49 v1 v2 σ Q) v1 v2 σ
def wpbX3_combine_14 (K7 : Int → ZS → Prop) (K14 : Int → ZS → Prop) (v1 v2 : Int) (σ : ZS) (Q : Int → ZS → Prop) : Prop := (0 ≤ v1 ∧ v1 < 3) ∧ (-2147483648 ≤ v2 ∧ v2 ≤ 2147483647) ∧ (-2147483648 ≤ (zI σ v1 1) ∧ (zI σ v1 1) ≤ 2147483647) ∧ ((zI σ v1 1) ≤ v2 → K7 (v1 + 1) σ) ∧ (¬ (zI σ v1 1) ≤ v2 → wpX3_addPart v1 v2 σ (fun (σ12 : ZS) => K14 (v2 + 1) σ12))
def wpX3_combine_14 (K7 : Int → ZS → Prop) (v1 v2 : Int) (σ : ZS) (Q : Int → ZS → Prop) : Prop := lfp1 (fun K14 v2 σ => wpbX3_combine_14 K7 K14 v1 v2 σ Q) v2 σ
def wpbX3_combine_7 (K7 : Int → ZS → Prop) (v1 : Int) (σ : ZS) (Q : Int → ZS → Prop) : Prop := (-2147483648 ≤ v1 ∧ v1 ≤ 2147483647) ∧ (3 ≤ v1 → wpX3_combine_49 0 0 σ Q) ∧ (¬ 3 ≤ v1 → wpX3_combine_14 K7 v1 0 σ Q)
def wpX3_combine_7 (v1 : Int) (σ : ZS) (Q : Int → ZS → Prop) : Prop := lfp1 (fun K7 v1 σ => wpbX3_combine_7 K7 v1 σ Q) v1 σ
def wpX3_combine (σ : ZS) (Q : Int → ZS → Prop) : Prop := wpX3_combine_7 0 (zsI σ 16 4 0) Q
set_option maxHeartbeats 4000000 in
set_option maxRecDepth 100000 in
theorem kX3_combine (l : Launch) (D : va_G) (dA : Nat → ClassId) (ad : Int → Nat → Nat) (σ : ZS) (Q : Int → ZS → Prop) (sz : Nat) (hw : wpX3_combine σ Q) : Met l yX3_combine (gws yX3_combine cX3_combine 3 (some .int)) (gR 3 0 0) (gPre D dA [.ref (ad 16 1000)] (zC dA ad σ) sz) (va_Qi (zQi Q) (gAt D dA (va_A (zC dA ad σ) sz) (zC dA ad)) (va_A (zC dA ad σ) sz)) 0 0 (va_A (zC dA ad σ) sz) := by
  refine Met.ofW (cc := cX3_combine) (maxL := 3) (ret := (some .int)) (by decide) rfl ?_
  intro p e s m args below meth c s₁ B hml hv
  obtain ⟨rfl, hsz, hP, hK, hD0⟩ := hv
  have hx := B.exec
  have hb := B.bytes
  have hr := B.returns
  have hts := atoms_spec (ws := gws yX3_combine cX3_combine 3 (some .int)) B.pre
  have hg : ∀ w ∈ gw, w.before _ s = true := fun w h => hts w (List.mem_cons_of_mem _ h)
  have hown : s.vm.findClass RX3 = some m.cls := findClass_of_methodNamed B.named
  have hlocks := B.notSynchronized
  subst hsz
  have hD := hD0.self (sz := s.heap.size)
  generalize hAe : va_A (zC dA ad σ) s.heap.size = A at hD ⊢
  have hA : ∀ q : Nat, s.heap.size ≤ q → A q := fun q h => by rw [← hAe]; exact Or.inr h
  have hS : va_S A s.heap s.heap [] := va_S.rf
  have hl := lv_entry ([.ref (ad 16 1000)]) (n := 3) (Nat.le_of_ble_eq_true rfl)
  rw [lg_entry_eq]
  generalize (lg_sl ([.ref (ad 16 1000)]) ++ List.replicate (3 - (lg_sl ([.ref (ad 16 1000)])).length) Slot.unset).toArray = ls at hl ⊢
  have hl : lv_has ls 3 [(0, .ref (ad 16 1000))] := hl
  have hret : ∀ (v : Int) (σ : ZS) (H : Heap) (locs : List Loc) (ls : Array Slot) (pc : Nat), Q v σ → va_P D vwC (zC dA ad σ) H → va_D A (zC dA ad σ) → va_S A s.heap H locs → decode cX3_combine pc = .ok (.ireturn, 1) → W p l e (gR 3 0 0) s m #[.ref (ad 16 1000)] below meth c H locs 0 0 (MQ below (va_Qi (zQi Q) (gAt D dA A (zC dA ad)) A) #[.ref (ad 16 1000)] s 0 0 A) (F0 m pc ls [.int (Int32.ofInt v)]) := fun v σ H locs ls pc hw hP hD hS hd => g_iret hx hb hr rfl hlocks hK σ hP hD hS ⟨v, rfl, hw⟩ (Nat.le_of_ble_eq_true rfl) (Nat.le_of_ble_eq_true rfl) hd
  generalize MQ below (va_Qi (zQi Q) (gAt D dA A (zC dA ad)) A) #[.ref (ad 16 1000)] s 0 0 A = QQ at hret ⊢
  have b49 : ∀ (K49 : Int → Int → ZS → Prop), (∀ (v1 v2 : Int) (σ : ZS), K49 v1 v2 σ → ∀ (H : Heap) (locs : List Loc) (ls : Array Slot), va_P D vwC (zC dA ad σ) H → va_D A (zC dA ad σ) → va_S A s.heap H locs → lv_has ls 3 [(0, .ref (ad 16 1000)), (1, .int (Int32.ofInt v1)), (2, .int (Int32.ofInt v2))] → W p l e (gR 3 0 0) s m #[.ref (ad 16 1000)] below meth c H locs 0 0 QQ (F0 m 49 ls [])) → ∀ (v1 v2 : Int) (σ : ZS), wpbX3_combine_49 K49 v1 v2 σ Q → ∀ (H : Heap) (locs : List Loc) (ls : Array Slot), va_P D vwC (zC dA ad σ) H → va_D A (zC dA ad σ) → va_S A s.heap H locs → lv_has ls 3 [(0, .ref (ad 16 1000)), (1, .int (Int32.ofInt v1)), (2, .int (Int32.ofInt v2))] → W p l e (gR 3 0 0) s m #[.ref (ad 16 1000)] below meth c H locs 0 0 QQ (F0 m 49 ls []) := by
    intro K49 hK49
    intro v1 v2 σ hw H locs ls hP hD hS hl
    unfold wpbX3_combine_49 at hw
    refine lv_iload_n hx hb dX3_combine_49 rfl (lv_at hl 2 rfl) ?_
    refine lv_aload_n hx hb dX3_combine_50 rfl (lv_at hl 0 rfl) ?_
    refine zgC16_4 hx hb hg hown hK hP q487 dX3_combine_51 ?_
    obtain ⟨o1, hw⟩ := hw
    obtain ⟨o2, hw⟩ := hw
    refine z_icmp_ge (tgt := 89) hx hb o1 o2 dX3_combine_54 (by decide) (fun k3 => ?_) (fun k3 => ?_)
    · replace hw := hw.1 k3
      refine lv_iload_n hx hb dX3_combine_89 rfl (lv_at hl 1 rfl) ?_
      exact hret v1 σ _ _ _ _ hw hP hD hS dX3_combine_90
    · replace hw := hw.2 k3
      refine lv_aload_n hx hb dX3_combine_57 rfl (lv_at hl 0 rfl) ?_
      refine zgC16_3 hx hb hg hown hK hP q486 dX3_combine_58 ?_
      refine lv_iload_n hx hb dX3_combine_61 rfl (lv_at hl 2 rfl) ?_
      refine lv_iload_n hx hb dX3_combine_62 rfl (lv_at hl 1 rfl) ?_
      refine lv_bipush (v := Int32.ofInt 16) hx hb dX3_combine_63 (by decide) ?_
      refine z_SiN (n := 2) (As := [.int (Int32.ofInt v1), .int (Int32.ofInt 16)]) (rest := [.int (Int32.ofInt v2), .ref (ad 16 3)]) hx hb hml hg hown hK hP hD hS hA (kX10_roundUp l D dA ad v1 16 σ _ _ hw) q1315 q149 q1313 q1314 (by decide +kernel) ⟨(Nat.le_of_ble_eq_true rfl), (Nat.le_of_ble_eq_true rfl)⟩ rfl hl.1 rfl (Nat.le_of_ble_eq_true rfl) dX3_combine_65 ⟨(Nat.le_of_ble_eq_true rfl), (Nat.le_of_ble_eq_true rfl)⟩ (fun x4 σ5 H locs hw hP hD hS => ?_)
      obtain ⟨o6, hw⟩ := hw
      refine zsC16_3 (v := x4) hx hb o6 hK hP hD hS dX3_combine_68 (fun H locs hP hD hS => ?_)
      refine lv_aload_n hx hb dX3_combine_69 rfl (lv_at hl 0 rfl) ?_
      refine zgC16_3 hx hb hg hown hK hP q486 dX3_combine_70 ?_
      refine lv_iload_n hx hb dX3_combine_73 rfl (lv_at hl 2 rfl) ?_
      refine zlC16_3 hx hb o6 hK hP dX3_combine_74 ?_
      refine lv_aload_n hx hb dX3_combine_75 rfl (lv_at hl 0 rfl) ?_
      refine zgC16_2 hx hb hg hown hK hP q485 dX3_combine_76 ?_
      refine lv_iload_n hx hb dX3_combine_79 rfl (lv_at hl 2 rfl) ?_
      refine zlC16_2 hx hb o6 hK hP dX3_combine_80 ?_
      refine g_nrm (y := Int32.ofInt (zA σ5 16 2 v2)) rfl ?_
      refine z_iadd hx hb dX3_combine_81 ?_
      refine lv_istore_n (lv' := [(1, .int (Int32.ofInt ((zA (zsA σ5 16 3 v2 x4) 16 3 v2) + (zA σ5 16 2 v2)))), (0, .ref (ad 16 1000)), (2, .int (Int32.ofInt v2))]) hx hb dX3_combine_82 rfl hl (by decide) rfl (fun ls hl => ?_)
      refine lv_iinc (v := Int32.ofInt (v2 + 1)) (lv' := [(2, .int (Int32.ofInt (v2 + 1))), (1, .int (Int32.ofInt ((zA (zsA σ5 16 3 v2 x4) 16 3 v2) + (zA σ5 16 2 v2)))), (0, .ref (ad 16 1000))]) hx hb dX3_combine_83 hl (k := 2) rfl (Int32.ofInt_add _ _).symm (by decide) rfl (fun ls hl => ?_)
      refine lv_goto (tgt := 49) hx hb dX3_combine_86 (by decide) ?_
      exact hK49 ((zA (zsA σ5 16 3 v2 x4) 16 3 v2) + (zA σ5 16 2 v2)) (v2 + 1) (zsA σ5 16 3 v2 x4) hw _ _ _ hP hD hS (lv_sub hl [2, 1, 0] rfl)
  have j49 : ∀ (v1 v2 : Int) (σ : ZS), ∀ (H : Heap) (locs : List Loc) (ls : Array Slot), va_P D vwC (zC dA ad σ) H → va_D A (zC dA ad σ) → va_S A s.heap H locs → lv_has ls 3 [(0, .ref (ad 16 1000)), (1, .int (Int32.ofInt v1)), (2, .int (Int32.ofInt v2))] → wpX3_combine_49 v1 v2 σ Q → W p l e (gR 3 0 0) s m #[.ref (ad 16 1000)] below meth c H locs 0 0 QQ (F0 m 49 ls []) := by
    intro v1 v2 σ H locs ls hP hD hS hl hw
    exact hw (fun v1 v2 σ => ∀ (H : Heap) (locs : List Loc) (ls : Array Slot), va_P D vwC (zC dA ad σ) H → va_D A (zC dA ad σ) → va_S A s.heap H locs → lv_has ls 3 [(0, .ref (ad 16 1000)), (1, .int (Int32.ofInt v1)), (2, .int (Int32.ofInt v2))] → W p l e (gR 3 0 0) s m #[.ref (ad 16 1000)] below meth c H locs 0 0 QQ (F0 m 49 ls [])) (b49 (fun v1 v2 σ => ∀ (H : Heap) (locs : List Loc) (ls : Array Slot), va_P D vwC (zC dA ad σ) H → va_D A (zC dA ad σ) → va_S A s.heap H locs → lv_has ls 3 [(0, .ref (ad 16 1000)), (1, .int (Int32.ofInt v1)), (2, .int (Int32.ofInt v2))] → W p l e (gR 3 0 0) s m #[.ref (ad 16 1000)] below meth c H locs 0 0 QQ (F0 m 49 ls [])) (fun v1 v2 σ h => h)) _ _ _ hP hD hS hl
  have b7 : ∀ (K7 : Int → ZS → Prop), (∀ (v1 : Int) (σ : ZS), K7 v1 σ → ∀ (H : Heap) (locs : List Loc) (ls : Array Slot), va_P D vwC (zC dA ad σ) H → va_D A (zC dA ad σ) → va_S A s.heap H locs → lv_has ls 3 [(0, .ref (ad 16 1000)), (1, .int (Int32.ofInt v1))] → W p l e (gR 3 0 0) s m #[.ref (ad 16 1000)] below meth c H locs 0 0 QQ (F0 m 7 ls [])) → ∀ (v1 : Int) (σ : ZS), wpbX3_combine_7 K7 v1 σ Q → ∀ (H : Heap) (locs : List Loc) (ls : Array Slot), va_P D vwC (zC dA ad σ) H → va_D A (zC dA ad σ) → va_S A s.heap H locs → lv_has ls 3 [(0, .ref (ad 16 1000)), (1, .int (Int32.ofInt v1))] → W p l e (gR 3 0 0) s m #[.ref (ad 16 1000)] below meth c H locs 0 0 QQ (F0 m 7 ls []) := by
    intro K7 hK7
    have b14 : ∀ (v1 : Int) (K14 : Int → ZS → Prop), (∀ (v2 : Int) (σ : ZS), K14 v2 σ → ∀ (H : Heap) (locs : List Loc) (ls : Array Slot), va_P D vwC (zC dA ad σ) H → va_D A (zC dA ad σ) → va_S A s.heap H locs → lv_has ls 3 [(0, .ref (ad 16 1000)), (1, .int (Int32.ofInt v1)), (2, .int (Int32.ofInt v2))] → W p l e (gR 3 0 0) s m #[.ref (ad 16 1000)] below meth c H locs 0 0 QQ (F0 m 14 ls [])) → ∀ (v2 : Int) (σ : ZS), wpbX3_combine_14 K7 K14 v1 v2 σ Q → ∀ (H : Heap) (locs : List Loc) (ls : Array Slot), va_P D vwC (zC dA ad σ) H → va_D A (zC dA ad σ) → va_S A s.heap H locs → lv_has ls 3 [(0, .ref (ad 16 1000)), (1, .int (Int32.ofInt v1)), (2, .int (Int32.ofInt v2))] → W p l e (gR 3 0 0) s m #[.ref (ad 16 1000)] below meth c H locs 0 0 QQ (F0 m 14 ls []) := by
      intro v1 K14 hK14
      intro v2 σ hw H locs ls hP hD hS hl
      unfold wpbX3_combine_14 at hw
      refine lv_iload_n hx hb dX3_combine_14 rfl (lv_at hl 2 rfl) ?_
      refine lv_aload_n hx hb dX3_combine_15 rfl (lv_at hl 0 rfl) ?_
      refine zgC16_0 hx hb hg hown hK hP q483 dX3_combine_16 ?_
      refine lv_iload_n hx hb dX3_combine_19 rfl (lv_at hl 1 rfl) ?_
      obtain ⟨o7, hw⟩ := hw
      refine zlC10_8 hx hb o7 hK hP dX3_combine_20 ?_
      refine zgCM_1 hx hb hg hown (by clear hw; omega) hK hP q402 dX3_combine_21 ?_
      obtain ⟨o8, hw⟩ := hw
      obtain ⟨o9, hw⟩ := hw
      refine z_icmp_ge (tgt := 39) hx hb o8 o9 dX3_combine_24 (by decide) (fun k10 => ?_) (fun k10 => ?_)
      · replace hw := hw.1 k10
        refine lv_iinc (v := Int32.ofInt (v1 + 1)) (lv' := [(1, .int (Int32.ofInt (v1 + 1))), (0, .ref (ad 16 1000)), (2, .int (Int32.ofInt v2))]) hx hb dX3_combine_39 hl (k := 1) rfl (Int32.ofInt_add _ _).symm (by decide) rfl (fun ls hl => ?_)
        refine lv_goto (tgt := 7) hx hb dX3_combine_42 (by decide) ?_
        exact hK7 (v1 + 1) σ hw _ _ _ hP hD hS (lv_sub hl [1, 0] rfl)
      · replace hw := hw.2 k10
        refine lv_aload_n hx hb dX3_combine_27 rfl (lv_at hl 0 rfl) ?_
        refine lv_iload_n hx hb dX3_combine_28 rfl (lv_at hl 1 rfl) ?_
        refine lv_iload_n hx hb dX3_combine_29 rfl (lv_at hl 2 rfl) ?_
        refine z_Vv (n := 2) (As := [.int (Int32.ofInt v1), .int (Int32.ofInt v2)]) (rest := []) hx hb hml hg hown hK hP hD hS hA (kX3_addPart l D dA ad v1 v2 σ _ _ hw) (zoC16) rfl q1308 q157 q1305 q1307 q44 (by decide +kernel) ⟨(Nat.le_of_ble_eq_true rfl), (Nat.le_of_ble_eq_true rfl)⟩ rfl hl.1 rfl (Nat.le_of_ble_eq_true rfl) dX3_combine_30 ⟨(Nat.le_of_ble_eq_true rfl), (Nat.le_of_ble_eq_true rfl)⟩ (fun σ12 H locs hw hP hD hS => ?_)
        refine lv_iinc (v := Int32.ofInt (v2 + 1)) (lv' := [(2, .int (Int32.ofInt (v2 + 1))), (0, .ref (ad 16 1000)), (1, .int (Int32.ofInt v1))]) hx hb dX3_combine_33 hl (k := 2) rfl (Int32.ofInt_add _ _).symm (by decide) rfl (fun ls hl => ?_)
        refine lv_goto (tgt := 14) hx hb dX3_combine_36 (by decide) ?_
        exact hK14 (v2 + 1) σ12 hw _ _ _ hP hD hS (lv_sub hl [1, 2, 0] rfl)
    have j14 : ∀ (v1 v2 : Int) (σ : ZS), ∀ (H : Heap) (locs : List Loc) (ls : Array Slot), va_P D vwC (zC dA ad σ) H → va_D A (zC dA ad σ) → va_S A s.heap H locs → lv_has ls 3 [(0, .ref (ad 16 1000)), (1, .int (Int32.ofInt v1)), (2, .int (Int32.ofInt v2))] → wpX3_combine_14 K7 v1 v2 σ Q → W p l e (gR 3 0 0) s m #[.ref (ad 16 1000)] below meth c H locs 0 0 QQ (F0 m 14 ls []) := by
      intro v1 v2 σ H locs ls hP hD hS hl hw
      exact hw (fun v2 σ => ∀ (H : Heap) (locs : List Loc) (ls : Array Slot), va_P D vwC (zC dA ad σ) H → va_D A (zC dA ad σ) → va_S A s.heap H locs → lv_has ls 3 [(0, .ref (ad 16 1000)), (1, .int (Int32.ofInt v1)), (2, .int (Int32.ofInt v2))] → W p l e (gR 3 0 0) s m #[.ref (ad 16 1000)] below meth c H locs 0 0 QQ (F0 m 14 ls [])) (b14 v1 (fun v2 σ => ∀ (H : Heap) (locs : List Loc) (ls : Array Slot), va_P D vwC (zC dA ad σ) H → va_D A (zC dA ad σ) → va_S A s.heap H locs → lv_has ls 3 [(0, .ref (ad 16 1000)), (1, .int (Int32.ofInt v1)), (2, .int (Int32.ofInt v2))] → W p l e (gR 3 0 0) s m #[.ref (ad 16 1000)] below meth c H locs 0 0 QQ (F0 m 14 ls [])) (fun v2 σ h => h)) _ _ _ hP hD hS hl
    intro v1 σ hw H locs ls hP hD hS hl
    unfold wpbX3_combine_7 at hw
    refine lv_iload_n hx hb dX3_combine_7 rfl (lv_at hl 1 rfl) ?_
    refine lv_iconst (v := Int32.ofInt 3) hx hb dX3_combine_8 (by decide) ?_
    obtain ⟨o13, hw⟩ := hw
    refine z_icmp_ge (tgt := 45) hx hb o13 (by decide) dX3_combine_9 (by decide) (fun k14 => ?_) (fun k14 => ?_)
    · replace hw := hw.1 k14
      refine lv_iconst (v := Int32.ofInt 0) hx hb dX3_combine_45 (by decide) ?_
      refine lv_istore_n (lv' := [(1, .int (Int32.ofInt 0)), (0, .ref (ad 16 1000))]) hx hb dX3_combine_46 rfl hl (by decide) rfl (fun ls hl => ?_)
      refine lv_iconst (v := Int32.ofInt 0) hx hb dX3_combine_47 (by decide) ?_
      refine lv_istore_n (lv' := [(2, .int (Int32.ofInt 0)), (1, .int (Int32.ofInt 0)), (0, .ref (ad 16 1000))]) hx hb dX3_combine_48 rfl hl (by decide) rfl (fun ls hl => ?_)
      exact j49 0 0 σ _ _ _ hP hD hS (lv_sub hl [2, 1, 0] rfl) hw
    · replace hw := hw.2 k14
      refine lv_iconst (v := Int32.ofInt 0) hx hb dX3_combine_12 (by decide) ?_
      refine lv_istore_n (lv' := [(2, .int (Int32.ofInt 0)), (0, .ref (ad 16 1000)), (1, .int (Int32.ofInt v1))]) hx hb dX3_combine_13 rfl hl (by decide) rfl (fun ls hl => ?_)
      exact j14 v1 0 σ _ _ _ hP hD hS (lv_sub hl [1, 2, 0] rfl) hw
  have j7 : ∀ (v1 : Int) (σ : ZS), ∀ (H : Heap) (locs : List Loc) (ls : Array Slot), va_P D vwC (zC dA ad σ) H → va_D A (zC dA ad σ) → va_S A s.heap H locs → lv_has ls 3 [(0, .ref (ad 16 1000)), (1, .int (Int32.ofInt v1))] → wpX3_combine_7 v1 σ Q → W p l e (gR 3 0 0) s m #[.ref (ad 16 1000)] below meth c H locs 0 0 QQ (F0 m 7 ls []) := by
    intro v1 σ H locs ls hP hD hS hl hw
    exact hw (fun v1 σ => ∀ (H : Heap) (locs : List Loc) (ls : Array Slot), va_P D vwC (zC dA ad σ) H → va_D A (zC dA ad σ) → va_S A s.heap H locs → lv_has ls 3 [(0, .ref (ad 16 1000)), (1, .int (Int32.ofInt v1))] → W p l e (gR 3 0 0) s m #[.ref (ad 16 1000)] below meth c H locs 0 0 QQ (F0 m 7 ls [])) (b7 (fun v1 σ => ∀ (H : Heap) (locs : List Loc) (ls : Array Slot), va_P D vwC (zC dA ad σ) H → va_D A (zC dA ad σ) → va_S A s.heap H locs → lv_has ls 3 [(0, .ref (ad 16 1000)), (1, .int (Int32.ofInt v1))] → W p l e (gR 3 0 0) s m #[.ref (ad 16 1000)] below meth c H locs 0 0 QQ (F0 m 7 ls [])) (fun v1 σ h => h)) _ _ _ hP hD hS hl
  unfold wpX3_combine at hw
  refine lv_aload_n hx hb dX3_combine_0 rfl (lv_at hl 0 rfl) ?_
  refine lv_iconst (v := Int32.ofInt 0) hx hb dX3_combine_1 (by decide) ?_
  refine zpC16_4 (v := 0) hx hb hg hown hK hP hD hS q487 dX3_combine_2 (fun H locs hP hD hS => ?_)
  refine lv_iconst (v := Int32.ofInt 0) hx hb dX3_combine_5 (by decide) ?_
  refine lv_istore_n (lv' := [(1, .int (Int32.ofInt 0)), (0, .ref (ad 16 1000))]) hx hb dX3_combine_6 rfl hl (by decide) rfl (fun ls hl => ?_)
  exact j7 0 (zsI σ 16 4 0) _ _ _ hP hD hS (lv_sub hl [1, 0] rfl) hw
def wpX3_publicPart (a1 : Int) (σ : ZS) (Q : Int → ZS → Prop) : Prop := wpX3_publicModule a1 3 σ (fun (x1 : Int) (σ2 : ZS) => (-2147483648 ≤ x1 ∧ x1 ≤ 2147483647) ∧ (0 ≤ x1 → (0 ≤ x1 ∧ x1 < 3) ∧ wpX6_publicNumber x1 a1 σ2 (fun (x6 : Int) (σ7 : ZS) => (0 ≤ x6 ∧ x6 < 24) ∧ wpX3_part x1 (zA σ7 x1 15 x6) σ7 (fun (x9 : Int) (σ10 : ZS) => Q x9 σ10))) ∧ (¬ 0 ≤ x1 → Q 0 σ2))
set_option maxHeartbeats 4000000 in
set_option maxRecDepth 100000 in
theorem kX3_publicPart (l : Launch) (D : va_G) (dA : Nat → ClassId) (ad : Int → Nat → Nat) (a1 : Int) (σ : ZS) (Q : Int → ZS → Prop) (sz : Nat) (hw : wpX3_publicPart a1 σ Q) : Met l yX3_publicPart (gws yX3_publicPart cX3_publicPart 4 (some .int)) (gR 3 0 0) (gPre D dA [.ref (ad 16 1000), .long (Int64.ofInt a1)] (zC dA ad σ) sz) (va_Qi (zQi Q) (gAt D dA (va_A (zC dA ad σ) sz) (zC dA ad)) (va_A (zC dA ad σ) sz)) 0 0 (va_A (zC dA ad σ) sz) := by
  refine Met.ofW (cc := cX3_publicPart) (maxL := 4) (ret := (some .int)) (by decide) rfl ?_
  intro p e s m args below meth c s₁ B hml hv
  obtain ⟨rfl, hsz, hP, hK, hD0⟩ := hv
  have hx := B.exec
  have hb := B.bytes
  have hr := B.returns
  have hts := atoms_spec (ws := gws yX3_publicPart cX3_publicPart 4 (some .int)) B.pre
  have hg : ∀ w ∈ gw, w.before _ s = true := fun w h => hts w (List.mem_cons_of_mem _ h)
  have hown : s.vm.findClass RX3 = some m.cls := findClass_of_methodNamed B.named
  have hlocks := B.notSynchronized
  subst hsz
  have hD := hD0.self (sz := s.heap.size)
  generalize hAe : va_A (zC dA ad σ) s.heap.size = A at hD ⊢
  have hA : ∀ q : Nat, s.heap.size ≤ q → A q := fun q h => by rw [← hAe]; exact Or.inr h
  have hS : va_S A s.heap s.heap [] := va_S.rf
  have hl := lv_entry ([.ref (ad 16 1000), .long (Int64.ofInt a1)]) (n := 4) (Nat.le_of_ble_eq_true rfl)
  rw [lg_entry_eq]
  generalize (lg_sl ([.ref (ad 16 1000), .long (Int64.ofInt a1)]) ++ List.replicate (4 - (lg_sl ([.ref (ad 16 1000), .long (Int64.ofInt a1)])).length) Slot.unset).toArray = ls at hl ⊢
  have hl : lv_has ls 4 [(0, .ref (ad 16 1000)), (1, .long (Int64.ofInt a1))] := hl
  have hret : ∀ (v : Int) (σ : ZS) (H : Heap) (locs : List Loc) (ls : Array Slot) (pc : Nat), Q v σ → va_P D vwC (zC dA ad σ) H → va_D A (zC dA ad σ) → va_S A s.heap H locs → decode cX3_publicPart pc = .ok (.ireturn, 1) → W p l e (gR 3 0 0) s m #[.ref (ad 16 1000), .long (Int64.ofInt a1)] below meth c H locs 0 0 (MQ below (va_Qi (zQi Q) (gAt D dA A (zC dA ad)) A) #[.ref (ad 16 1000), .long (Int64.ofInt a1)] s 0 0 A) (F0 m pc ls [.int (Int32.ofInt v)]) := fun v σ H locs ls pc hw hP hD hS hd => g_iret hx hb hr rfl hlocks hK σ hP hD hS ⟨v, rfl, hw⟩ (Nat.le_of_ble_eq_true rfl) (Nat.le_of_ble_eq_true rfl) hd
  generalize MQ below (va_Qi (zQi Q) (gAt D dA A (zC dA ad)) A) #[.ref (ad 16 1000), .long (Int64.ofInt a1)] s 0 0 A = QQ at hret ⊢
  unfold wpX3_publicPart at hw
  refine lv_aload_n hx hb dX3_publicPart_0 rfl (lv_at hl 0 rfl) ?_
  refine lv_lload_n hx hb dX3_publicPart_1 rfl (lv_at hl 1 rfl) ?_
  refine lv_iconst (v := Int32.ofInt 3) hx hb dX3_publicPart_2 (by decide) ?_
  refine z_Vi (n := 2) (As := [.long (Int64.ofInt a1), .int (Int32.ofInt 3)]) (rest := []) hx hb hml hg hown hK hP hD hS hA (kX3_publicModule l D dA ad a1 3 σ _ _ hw) (zoC16) rfl q1287 q157 q1284 q1286 q43 (by decide +kernel) ⟨(Nat.le_of_ble_eq_true rfl), (Nat.le_of_ble_eq_true rfl)⟩ rfl hl.1 rfl (Nat.le_of_ble_eq_true rfl) dX3_publicPart_3 ⟨(Nat.le_of_ble_eq_true rfl), (Nat.le_of_ble_eq_true rfl)⟩ (fun x1 σ2 H locs hw hP hD hS => ?_)
  refine lv_istore_n (lv' := [(3, .int (Int32.ofInt x1)), (0, .ref (ad 16 1000)), (1, .long (Int64.ofInt a1))]) hx hb dX3_publicPart_6 rfl hl (by decide) rfl (fun ls hl => ?_)
  refine lv_iload_n hx hb dX3_publicPart_7 rfl (lv_at hl 0 rfl) ?_
  obtain ⟨o3, hw⟩ := hw
  refine z_if_ge (tgt := 13) hx hb o3 dX3_publicPart_8 (by decide) (fun k4 => ?_) (fun k4 => ?_)
  · replace hw := hw.1 k4
    refine lv_iload_n hx hb dX3_publicPart_13 rfl (lv_at hl 0 rfl) ?_
    refine lv_aload_n hx hb dX3_publicPart_14 rfl (lv_at hl 1 rfl) ?_
    refine zgC16_0 hx hb hg hown hK hP q483 dX3_publicPart_15 ?_
    refine lv_iload_n hx hb dX3_publicPart_18 rfl (lv_at hl 0 rfl) ?_
    obtain ⟨o5, hw⟩ := hw
    refine zlC10_8 hx hb o5 hK hP dX3_publicPart_19 ?_
    refine zgCM_15 hx hb hg hown (by clear hw; omega) hK hP q439 dX3_publicPart_20 ?_
    refine lv_aload_n hx hb dX3_publicPart_23 rfl (lv_at hl 1 rfl) ?_
    refine zgC16_0 hx hb hg hown hK hP q483 dX3_publicPart_24 ?_
    refine lv_iload_n hx hb dX3_publicPart_27 rfl (lv_at hl 0 rfl) ?_
    refine zlC10_8 hx hb o5 hK hP dX3_publicPart_28 ?_
    refine lv_lload_n hx hb dX3_publicPart_29 rfl (lv_at hl 2 rfl) ?_
    refine z_Vi (n := 1) (As := [.long (Int64.ofInt a1)]) (rest := [.ref (ad x1 15), .int (Int32.ofInt x1)]) hx hb hml hg hown hK hP hD hS hA (kX6_publicNumber l D dA ad x1 a1 σ2 _ _ hw) (zoCM (by clear hw; omega)) rfl q1210 q156 q1288 q1208 q1209 (by decide +kernel) ⟨(Nat.le_of_ble_eq_true rfl), (Nat.le_of_ble_eq_true rfl)⟩ rfl hl.1 rfl (Nat.le_of_ble_eq_true rfl) dX3_publicPart_30 ⟨(Nat.le_of_ble_eq_true rfl), (Nat.le_of_ble_eq_true rfl)⟩ (fun x6 σ7 H locs hw hP hD hS => ?_)
    obtain ⟨o8, hw⟩ := hw
    refine zlCM_15 hx hb (by clear hw; omega) o8 hK hP dX3_publicPart_33 ?_
    refine z_Si (n := 2) (As := [.int (Int32.ofInt x1), .int (Int32.ofInt (zA σ7 x1 15 x6))]) (rest := []) hx hb hml hg hown hK hP hD hS hA (kX3_part l D dA ad x1 (zA σ7 x1 15 x6) σ7 _ _ hw) q1318 q157 q1316 q1317 (by decide +kernel) ⟨(Nat.le_of_ble_eq_true rfl), (Nat.le_of_ble_eq_true rfl)⟩ rfl hl.1 rfl (Nat.le_of_ble_eq_true rfl) dX3_publicPart_34 ⟨(Nat.le_of_ble_eq_true rfl), (Nat.le_of_ble_eq_true rfl)⟩ (fun x9 σ10 H locs hw hP hD hS => ?_)
    exact hret x9 σ10 _ _ _ _ hw hP hD hS dX3_publicPart_37
  · replace hw := hw.2 k4
    refine lv_iconst (v := Int32.ofInt 0) hx hb dX3_publicPart_11 (by decide) ?_
    exact hret 0 σ2 _ _ _ _ hw hP hD hS dX3_publicPart_12
def wpX3_firstApart_69 (K2 : Int → ZS → Prop) (K16 : Int → ZS → Prop) (v1 v2 v3 : Int) (σ : ZS) (Q : Int → ZS → Prop) : Prop := K16 (v3 + 1) σ
def wpbX3_firstApart_16 (K2 : Int → ZS → Prop) (K16 : Int → ZS → Prop) (v1 v2 v3 : Int) (σ : ZS) (Q : Int → ZS → Prop) : Prop := (0 ≤ v2 ∧ v2 ≤ 2) ∧ (-2147483648 ≤ v3 ∧ v3 ≤ 2147483647) ∧ (-2147483648 ≤ (zI σ v2 7) ∧ (zI σ v2 7) ≤ 2147483647) ∧ ((zI σ v2 7) ≤ v3 → K2 (v1 + 1) σ) ∧ (¬ (zI σ v2 7) ≤ v3 → (0 ≤ v3 ∧ v3 < 200) ∧ (-2147483648 ≤ (zA σ v2 8 v3) ∧ (zA σ v2 8 v3) ≤ 2147483647) ∧ (¬ (zA σ v2 8 v3) = 2 → wpX3_firstApart_69 K2 K16 v1 v2 v3 σ Q) ∧ ((zA σ v2 8 v3) = 2 → wpX3_part v1 (zA σ v2 9 v3) σ (fun (x8 : Int) (σ9 : ZS) => (0 ≤ x8 ∧ x8 < 72) ∧ wpX3_publicPart (zA σ9 v2 12 v3) σ9 (fun (x11 : Int) (σ12 : ZS) => (0 ≤ x11 ∧ x11 < 72) ∧ (-2147483648 ≤ (zA σ9 16 5 x8) ∧ (zA σ9 16 5 x8) ≤ 2147483647) ∧ (-2147483648 ≤ (zA σ12 16 5 x11) ∧ (zA σ12 16 5 x11) ≤ 2147483647) ∧ ((zA σ9 16 5 x8) = (zA σ12 16 5 x11) → wpX3_firstApart_69 K2 K16 v1 v2 v3 σ12 Q) ∧ (¬ (zA σ9 16 5 x8) = (zA σ12 16 5 x11) → Q v1 σ12)))))
def wpX3_firstApart_16 (K2 : Int → ZS → Prop) (v1 v2 v3 : Int) (σ : ZS) (Q : Int → ZS → Prop) : Prop := lfp1 (fun K16 v3 σ => wpbX3_firstApart_16 K2 K16 v1 v2 v3 σ Q) v3 σ
def wpbX3_firstApart_2 (K2 : Int → ZS → Prop) (v1 : Int) (σ : ZS) (Q : Int → ZS → Prop) : Prop := (-2147483648 ≤ v1 ∧ v1 ≤ 2147483647) ∧ (3 ≤ v1 → Q (-1) σ) ∧ (¬ 3 ≤ v1 → (0 ≤ v1 ∧ v1 < 3) ∧ wpX3_firstApart_16 K2 v1 v1 0 σ Q)
def wpX3_firstApart_2 (v1 : Int) (σ : ZS) (Q : Int → ZS → Prop) : Prop := lfp1 (fun K2 v1 σ => wpbX3_firstApart_2 K2 v1 σ Q) v1 σ
def wpX3_firstApart (σ : ZS) (Q : Int → ZS → Prop) : Prop := wpX3_firstApart_2 0 σ Q
set_option maxHeartbeats 4000000 in
set_option maxRecDepth 100000 in
theorem kX3_firstApart (l : Launch) (D : va_G) (dA : Nat → ClassId) (ad : Int → Nat → Nat) (σ : ZS) (Q : Int → ZS → Prop) (sz : Nat) (hw : wpX3_firstApart σ Q) : Met l yX3_firstApart (gws yX3_firstApart cX3_firstApart 4 (some .int)) (gR 4 0 0) (gPre D dA [.ref (ad 16 1000)] (zC dA ad σ) sz) (va_Qi (zQi Q) (gAt D dA (va_A (zC dA ad σ) sz) (zC dA ad)) (va_A (zC dA ad σ) sz)) 0 0 (va_A (zC dA ad σ) sz) := by
  refine Met.ofW (cc := cX3_firstApart) (maxL := 4) (ret := (some .int)) (by decide) rfl ?_
  intro p e s m args below meth c s₁ B hml hv
  obtain ⟨rfl, hsz, hP, hK, hD0⟩ := hv
  have hx := B.exec
  have hb := B.bytes
  have hr := B.returns
  have hts := atoms_spec (ws := gws yX3_firstApart cX3_firstApart 4 (some .int)) B.pre
  have hg : ∀ w ∈ gw, w.before _ s = true := fun w h => hts w (List.mem_cons_of_mem _ h)
  have hown : s.vm.findClass RX3 = some m.cls := findClass_of_methodNamed B.named
  have hlocks := B.notSynchronized
  subst hsz
  have hD := hD0.self (sz := s.heap.size)
  generalize hAe : va_A (zC dA ad σ) s.heap.size = A at hD ⊢
  have hA : ∀ q : Nat, s.heap.size ≤ q → A q := fun q h => by rw [← hAe]; exact Or.inr h
  have hS : va_S A s.heap s.heap [] := va_S.rf
  have hl := lv_entry ([.ref (ad 16 1000)]) (n := 4) (Nat.le_of_ble_eq_true rfl)
  rw [lg_entry_eq]
  generalize (lg_sl ([.ref (ad 16 1000)]) ++ List.replicate (4 - (lg_sl ([.ref (ad 16 1000)])).length) Slot.unset).toArray = ls at hl ⊢
  have hl : lv_has ls 4 [(0, .ref (ad 16 1000))] := hl
  have hret : ∀ (v : Int) (σ : ZS) (H : Heap) (locs : List Loc) (ls : Array Slot) (pc : Nat), Q v σ → va_P D vwC (zC dA ad σ) H → va_D A (zC dA ad σ) → va_S A s.heap H locs → decode cX3_firstApart pc = .ok (.ireturn, 1) → W p l e (gR 4 0 0) s m #[.ref (ad 16 1000)] below meth c H locs 0 0 (MQ below (va_Qi (zQi Q) (gAt D dA A (zC dA ad)) A) #[.ref (ad 16 1000)] s 0 0 A) (F0 m pc ls [.int (Int32.ofInt v)]) := fun v σ H locs ls pc hw hP hD hS hd => g_iret hx hb hr rfl hlocks hK σ hP hD hS ⟨v, rfl, hw⟩ (Nat.le_of_ble_eq_true rfl) (Nat.le_of_ble_eq_true rfl) hd
  generalize MQ below (va_Qi (zQi Q) (gAt D dA A (zC dA ad)) A) #[.ref (ad 16 1000)] s 0 0 A = QQ at hret ⊢
  have b2 : ∀ (K2 : Int → ZS → Prop), (∀ (v1 : Int) (σ : ZS), K2 v1 σ → ∀ (H : Heap) (locs : List Loc) (ls : Array Slot), va_P D vwC (zC dA ad σ) H → va_D A (zC dA ad σ) → va_S A s.heap H locs → lv_has ls 4 [(0, .ref (ad 16 1000)), (1, .int (Int32.ofInt v1))] → W p l e (gR 4 0 0) s m #[.ref (ad 16 1000)] below meth c H locs 0 0 QQ (F0 m 2 ls [])) → ∀ (v1 : Int) (σ : ZS), wpbX3_firstApart_2 K2 v1 σ Q → ∀ (H : Heap) (locs : List Loc) (ls : Array Slot), va_P D vwC (zC dA ad σ) H → va_D A (zC dA ad σ) → va_S A s.heap H locs → lv_has ls 4 [(0, .ref (ad 16 1000)), (1, .int (Int32.ofInt v1))] → W p l e (gR 4 0 0) s m #[.ref (ad 16 1000)] below meth c H locs 0 0 QQ (F0 m 2 ls []) := by
    intro K2 hK2
    have b16 : ∀ (v1 v2 : Int) (K16 : Int → ZS → Prop), (∀ (v3 : Int) (σ : ZS), K16 v3 σ → ∀ (H : Heap) (locs : List Loc) (ls : Array Slot), va_P D vwC (zC dA ad σ) H → va_D A (zC dA ad σ) → va_S A s.heap H locs → lv_has ls 4 [(0, .ref (ad 16 1000)), (1, .int (Int32.ofInt v1)), (2, .ref (ad v2 1000)), (3, .int (Int32.ofInt v3))] → W p l e (gR 4 0 0) s m #[.ref (ad 16 1000)] below meth c H locs 0 0 QQ (F0 m 16 ls [])) → ∀ (v3 : Int) (σ : ZS), wpbX3_firstApart_16 K2 K16 v1 v2 v3 σ Q → ∀ (H : Heap) (locs : List Loc) (ls : Array Slot), va_P D vwC (zC dA ad σ) H → va_D A (zC dA ad σ) → va_S A s.heap H locs → lv_has ls 4 [(0, .ref (ad 16 1000)), (1, .int (Int32.ofInt v1)), (2, .ref (ad v2 1000)), (3, .int (Int32.ofInt v3))] → W p l e (gR 4 0 0) s m #[.ref (ad 16 1000)] below meth c H locs 0 0 QQ (F0 m 16 ls []) := by
      intro v1 v2 K16 hK16
      have j69 : ∀ (v3 : Int) (σ : ZS), ∀ (H : Heap) (locs : List Loc) (ls : Array Slot), va_P D vwC (zC dA ad σ) H → va_D A (zC dA ad σ) → va_S A s.heap H locs → lv_has ls 4 [(0, .ref (ad 16 1000)), (1, .int (Int32.ofInt v1)), (2, .ref (ad v2 1000)), (3, .int (Int32.ofInt v3))] → wpX3_firstApart_69 K2 K16 v1 v2 v3 σ Q → W p l e (gR 4 0 0) s m #[.ref (ad 16 1000)] below meth c H locs 0 0 QQ (F0 m 69 ls []) := by
        intro v3 σ H locs ls hP hD hS hl hw
        unfold wpX3_firstApart_69 at hw
        refine lv_iinc (v := Int32.ofInt (v3 + 1)) (lv' := [(3, .int (Int32.ofInt (v3 + 1))), (0, .ref (ad 16 1000)), (1, .int (Int32.ofInt v1)), (2, .ref (ad v2 1000))]) hx hb dX3_firstApart_69 hl (k := 3) rfl (Int32.ofInt_add _ _).symm (by decide) rfl (fun ls hl => ?_)
        refine lv_goto (tgt := 16) hx hb dX3_firstApart_72 (by decide) ?_
        exact hK16 (v3 + 1) σ hw _ _ _ hP hD hS (lv_sub hl [1, 2, 3, 0] rfl)
      intro v3 σ hw H locs ls hP hD hS hl
      unfold wpbX3_firstApart_16 at hw
      refine lv_iload_n hx hb dX3_firstApart_16 rfl (lv_at hl 3 rfl) ?_
      refine lv_aload_n hx hb dX3_firstApart_17 rfl (lv_at hl 2 rfl) ?_
      obtain ⟨o1, hw⟩ := hw
      refine zgCM_7 hx hb hg hown o1 hK hP q418 dX3_firstApart_18 ?_
      obtain ⟨o2, hw⟩ := hw
      obtain ⟨o3, hw⟩ := hw
      refine z_icmp_ge (tgt := 75) hx hb o2 o3 dX3_firstApart_21 (by decide) (fun k4 => ?_) (fun k4 => ?_)
      · replace hw := hw.1 k4
        refine lv_iinc (v := Int32.ofInt (v1 + 1)) (lv' := [(1, .int (Int32.ofInt (v1 + 1))), (0, .ref (ad 16 1000)), (2, .ref (ad v2 1000)), (3, .int (Int32.ofInt v3))]) hx hb dX3_firstApart_75 hl (k := 1) rfl (Int32.ofInt_add _ _).symm (by decide) rfl (fun ls hl => ?_)
        refine lv_goto (tgt := 2) hx hb dX3_firstApart_78 (by decide) ?_
        exact hK2 (v1 + 1) σ hw _ _ _ hP hD hS (lv_sub hl [1, 0] rfl)
      · replace hw := hw.2 k4
        refine lv_aload_n hx hb dX3_firstApart_24 rfl (lv_at hl 2 rfl) ?_
        refine zgCM_8 hx hb hg hown o1 hK hP q422 dX3_firstApart_25 ?_
        refine lv_iload_n hx hb dX3_firstApart_28 rfl (lv_at hl 3 rfl) ?_
        obtain ⟨o5, hw⟩ := hw
        refine zlCM_8 hx hb o1 o5 hK hP dX3_firstApart_29 ?_
        refine lv_iconst (v := Int32.ofInt 2) hx hb dX3_firstApart_30 (by decide) ?_
        obtain ⟨o6, hw⟩ := hw
        refine z_icmp_ne (tgt := 69) hx hb o6 (by decide) dX3_firstApart_31 (by decide) (fun k7 => ?_) (fun k7 => ?_)
        · replace hw := hw.1 k7
          exact j69 v3 σ _ _ _ hP hD hS (lv_sub hl [0, 1, 2, 3] rfl) hw
        · replace hw := hw.2 k7
          refine lv_aload_n hx hb dX3_firstApart_34 rfl (lv_at hl 0 rfl) ?_
          refine zgC16_5 hx hb hg hown hK hP q488 dX3_firstApart_35 ?_
          refine lv_iload_n hx hb dX3_firstApart_38 rfl (lv_at hl 1 rfl) ?_
          refine lv_aload_n hx hb dX3_firstApart_39 rfl (lv_at hl 2 rfl) ?_
          refine zgCM_9 hx hb hg hown o1 hK hP q425 dX3_firstApart_40 ?_
          refine lv_iload_n hx hb dX3_firstApart_43 rfl (lv_at hl 3 rfl) ?_
          refine zlCM_9 hx hb o1 o5 hK hP dX3_firstApart_44 ?_
          refine z_Si (n := 2) (As := [.int (Int32.ofInt v1), .int (Int32.ofInt (zA σ v2 9 v3))]) (rest := [.ref (ad 16 5)]) hx hb hml hg hown hK hP hD hS hA (kX3_part l D dA ad v1 (zA σ v2 9 v3) σ _ _ hw) q1318 q157 q1316 q1317 (by decide +kernel) ⟨(Nat.le_of_ble_eq_true rfl), (Nat.le_of_ble_eq_true rfl)⟩ rfl hl.1 rfl (Nat.le_of_ble_eq_true rfl) dX3_firstApart_45 ⟨(Nat.le_of_ble_eq_true rfl), (Nat.le_of_ble_eq_true rfl)⟩ (fun x8 σ9 H locs hw hP hD hS => ?_)
          obtain ⟨o10, hw⟩ := hw
          refine zlC16_5 hx hb o10 hK hP dX3_firstApart_48 ?_
          refine lv_aload_n hx hb dX3_firstApart_49 rfl (lv_at hl 0 rfl) ?_
          refine zgC16_5 hx hb hg hown hK hP q488 dX3_firstApart_50 ?_
          refine lv_aload_n hx hb dX3_firstApart_53 rfl (lv_at hl 0 rfl) ?_
          refine lv_aload_n hx hb dX3_firstApart_54 rfl (lv_at hl 2 rfl) ?_
          refine zgCM_12 hx hb hg hown o1 hK hP q433 dX3_firstApart_55 ?_
          refine lv_iload_n hx hb dX3_firstApart_58 rfl (lv_at hl 3 rfl) ?_
          refine zlCM_12 hx hb o1 o5 hK hP dX3_firstApart_59 ?_
          refine z_Vi (n := 1) (As := [.long (Int64.ofInt (zA σ9 v2 12 v3))]) (rest := [.ref (ad 16 5), .int (Int32.ofInt (zA σ9 16 5 x8))]) hx hb hml hg hown hK hP hD hS hA (kX3_publicPart l D dA ad (zA σ9 v2 12 v3) σ9 _ _ hw) (zoC16) rfl q1327 q157 q1324 q1326 q46 (by decide +kernel) ⟨(Nat.le_of_ble_eq_true rfl), (Nat.le_of_ble_eq_true rfl)⟩ rfl hl.1 rfl (Nat.le_of_ble_eq_true rfl) dX3_firstApart_60 ⟨(Nat.le_of_ble_eq_true rfl), (Nat.le_of_ble_eq_true rfl)⟩ (fun x11 σ12 H locs hw hP hD hS => ?_)
          obtain ⟨o13, hw⟩ := hw
          refine zlC16_5 hx hb o13 hK hP dX3_firstApart_63 ?_
          obtain ⟨o14, hw⟩ := hw
          obtain ⟨o15, hw⟩ := hw
          refine z_icmp_eq (tgt := 69) hx hb o14 o15 dX3_firstApart_64 (by decide) (fun k16 => ?_) (fun k16 => ?_)
          · replace hw := hw.1 k16
            exact j69 v3 σ12 _ _ _ hP hD hS (lv_sub hl [0, 1, 2, 3] rfl) hw
          · replace hw := hw.2 k16
            refine lv_iload_n hx hb dX3_firstApart_67 rfl (lv_at hl 1 rfl) ?_
            exact hret v1 σ12 _ _ _ _ hw hP hD hS dX3_firstApart_68
    have j16 : ∀ (v1 v2 v3 : Int) (σ : ZS), ∀ (H : Heap) (locs : List Loc) (ls : Array Slot), va_P D vwC (zC dA ad σ) H → va_D A (zC dA ad σ) → va_S A s.heap H locs → lv_has ls 4 [(0, .ref (ad 16 1000)), (1, .int (Int32.ofInt v1)), (2, .ref (ad v2 1000)), (3, .int (Int32.ofInt v3))] → wpX3_firstApart_16 K2 v1 v2 v3 σ Q → W p l e (gR 4 0 0) s m #[.ref (ad 16 1000)] below meth c H locs 0 0 QQ (F0 m 16 ls []) := by
      intro v1 v2 v3 σ H locs ls hP hD hS hl hw
      exact hw (fun v3 σ => ∀ (H : Heap) (locs : List Loc) (ls : Array Slot), va_P D vwC (zC dA ad σ) H → va_D A (zC dA ad σ) → va_S A s.heap H locs → lv_has ls 4 [(0, .ref (ad 16 1000)), (1, .int (Int32.ofInt v1)), (2, .ref (ad v2 1000)), (3, .int (Int32.ofInt v3))] → W p l e (gR 4 0 0) s m #[.ref (ad 16 1000)] below meth c H locs 0 0 QQ (F0 m 16 ls [])) (b16 v1 v2 (fun v3 σ => ∀ (H : Heap) (locs : List Loc) (ls : Array Slot), va_P D vwC (zC dA ad σ) H → va_D A (zC dA ad σ) → va_S A s.heap H locs → lv_has ls 4 [(0, .ref (ad 16 1000)), (1, .int (Int32.ofInt v1)), (2, .ref (ad v2 1000)), (3, .int (Int32.ofInt v3))] → W p l e (gR 4 0 0) s m #[.ref (ad 16 1000)] below meth c H locs 0 0 QQ (F0 m 16 ls [])) (fun v3 σ h => h)) _ _ _ hP hD hS hl
    intro v1 σ hw H locs ls hP hD hS hl
    unfold wpbX3_firstApart_2 at hw
    refine lv_iload_n hx hb dX3_firstApart_2 rfl (lv_at hl 1 rfl) ?_
    refine lv_iconst (v := Int32.ofInt 3) hx hb dX3_firstApart_3 (by decide) ?_
    obtain ⟨o17, hw⟩ := hw
    refine z_icmp_ge (tgt := 81) hx hb o17 (by decide) dX3_firstApart_4 (by decide) (fun k18 => ?_) (fun k18 => ?_)
    · replace hw := hw.1 k18
      refine lv_iconst (v := Int32.ofInt (-1)) hx hb dX3_firstApart_81 (by decide) ?_
      exact hret (-1) σ _ _ _ _ hw hP hD hS dX3_firstApart_82
    · replace hw := hw.2 k18
      refine lv_aload_n hx hb dX3_firstApart_7 rfl (lv_at hl 0 rfl) ?_
      refine zgC16_0 hx hb hg hown hK hP q483 dX3_firstApart_8 ?_
      refine lv_iload_n hx hb dX3_firstApart_11 rfl (lv_at hl 1 rfl) ?_
      obtain ⟨o19, hw⟩ := hw
      refine zlC10_8 hx hb o19 hK hP dX3_firstApart_12 ?_
      refine lv_astore_n (lv' := [(2, .ref (ad v1 1000)), (0, .ref (ad 16 1000)), (1, .int (Int32.ofInt v1))]) hx hb dX3_firstApart_13 rfl hl (by decide) rfl (fun ls hl => ?_)
      refine lv_iconst (v := Int32.ofInt 0) hx hb dX3_firstApart_14 (by decide) ?_
      refine lv_istore_n (lv' := [(3, .int (Int32.ofInt 0)), (2, .ref (ad v1 1000)), (0, .ref (ad 16 1000)), (1, .int (Int32.ofInt v1))]) hx hb dX3_firstApart_15 rfl hl (by decide) rfl (fun ls hl => ?_)
      exact j16 v1 v1 0 σ _ _ _ hP hD hS (lv_sub hl [2, 3, 1, 0] rfl) hw
  have j2 : ∀ (v1 : Int) (σ : ZS), ∀ (H : Heap) (locs : List Loc) (ls : Array Slot), va_P D vwC (zC dA ad σ) H → va_D A (zC dA ad σ) → va_S A s.heap H locs → lv_has ls 4 [(0, .ref (ad 16 1000)), (1, .int (Int32.ofInt v1))] → wpX3_firstApart_2 v1 σ Q → W p l e (gR 4 0 0) s m #[.ref (ad 16 1000)] below meth c H locs 0 0 QQ (F0 m 2 ls []) := by
    intro v1 σ H locs ls hP hD hS hl hw
    exact hw (fun v1 σ => ∀ (H : Heap) (locs : List Loc) (ls : Array Slot), va_P D vwC (zC dA ad σ) H → va_D A (zC dA ad σ) → va_S A s.heap H locs → lv_has ls 4 [(0, .ref (ad 16 1000)), (1, .int (Int32.ofInt v1))] → W p l e (gR 4 0 0) s m #[.ref (ad 16 1000)] below meth c H locs 0 0 QQ (F0 m 2 ls [])) (b2 (fun v1 σ => ∀ (H : Heap) (locs : List Loc) (ls : Array Slot), va_P D vwC (zC dA ad σ) H → va_D A (zC dA ad σ) → va_S A s.heap H locs → lv_has ls 4 [(0, .ref (ad 16 1000)), (1, .int (Int32.ofInt v1))] → W p l e (gR 4 0 0) s m #[.ref (ad 16 1000)] below meth c H locs 0 0 QQ (F0 m 2 ls [])) (fun v1 σ h => h)) _ _ _ hP hD hS hl
  unfold wpX3_firstApart at hw
  refine lv_iconst (v := Int32.ofInt 0) hx hb dX3_firstApart_0 (by decide) ?_
  refine lv_istore_n (lv' := [(1, .int (Int32.ofInt 0)), (0, .ref (ad 16 1000))]) hx hb dX3_firstApart_1 rfl hl (by decide) rfl (fun ls hl => ?_)
  exact j2 0 σ _ _ _ hP hD hS (lv_sub hl [1, 0] rfl) hw
def wpX1_begin (a1 : Int) (σ : ZS) (Q : ZS → Prop) : Prop := wpJ7_fill_53178_17_2 0 (zsI (zsI (zsI σ 17 0 1) 17 1 a1) 17 3 0) (fun (σ2 : ZS) => Q σ2)
set_option maxHeartbeats 4000000 in
set_option maxRecDepth 100000 in
theorem kX1_begin (l : Launch) (D : va_G) (dA : Nat → ClassId) (ad : Int → Nat → Nat) (a1 : Int) (σ : ZS) (Q : ZS → Prop) (sz : Nat) (hw : wpX1_begin a1 σ Q) : Met l yX1_begin (gws yX1_begin cX1_begin 2 none) (gR 2 0 0) (gPre D dA [.ref (ad 17 1000), .int (Int32.ofInt a1)] (zC dA ad σ) sz) (va_Qv Q (gAt D dA (va_A (zC dA ad σ) sz) (zC dA ad)) (va_A (zC dA ad σ) sz)) 0 0 (va_A (zC dA ad σ) sz) := by
  refine Met.ofW (cc := cX1_begin) (maxL := 2) (ret := none) (by decide) rfl ?_
  intro p e s m args below meth c s₁ B hml hv
  obtain ⟨rfl, hsz, hP, hK, hD0⟩ := hv
  have hx := B.exec
  have hb := B.bytes
  have hr := B.returns
  have hts := atoms_spec (ws := gws yX1_begin cX1_begin 2 none) B.pre
  have hg : ∀ w ∈ gw, w.before _ s = true := fun w h => hts w (List.mem_cons_of_mem _ h)
  have hown : s.vm.findClass RX1 = some m.cls := findClass_of_methodNamed B.named
  have hlocks := B.notSynchronized
  subst hsz
  have hD := hD0.self (sz := s.heap.size)
  generalize hAe : va_A (zC dA ad σ) s.heap.size = A at hD ⊢
  have hA : ∀ q : Nat, s.heap.size ≤ q → A q := fun q h => by rw [← hAe]; exact Or.inr h
  have hS : va_S A s.heap s.heap [] := va_S.rf
  have hl := lv_entry ([.ref (ad 17 1000), .int (Int32.ofInt a1)]) (n := 2) (Nat.le_of_ble_eq_true rfl)
  rw [lg_entry_eq]
  generalize (lg_sl ([.ref (ad 17 1000), .int (Int32.ofInt a1)]) ++ List.replicate (2 - (lg_sl ([.ref (ad 17 1000), .int (Int32.ofInt a1)])).length) Slot.unset).toArray = ls at hl ⊢
  have hl : lv_has ls 2 [(0, .ref (ad 17 1000)), (1, .int (Int32.ofInt a1))] := hl
  have hret : ∀ (σ : ZS) (H : Heap) (locs : List Loc) (ls : Array Slot) (pc : Nat), Q σ → va_P D vwC (zC dA ad σ) H → va_D A (zC dA ad σ) → va_S A s.heap H locs → decode cX1_begin pc = .ok (.return_, 1) → W p l e (gR 2 0 0) s m #[.ref (ad 17 1000), .int (Int32.ofInt a1)] below meth c H locs 0 0 (MQ below (va_Qv Q (gAt D dA A (zC dA ad)) A) #[.ref (ad 17 1000), .int (Int32.ofInt a1)] s 0 0 A) (F0 m pc ls []) := fun σ H locs ls pc hw hP hD hS hd => g_vret hx hb hr hlocks hK σ hP hD hS hw (Nat.le_of_ble_eq_true rfl) (Nat.le_of_ble_eq_true rfl) hd
  generalize MQ below (va_Qv Q (gAt D dA A (zC dA ad)) A) #[.ref (ad 17 1000), .int (Int32.ofInt a1)] s 0 0 A = QQ at hret ⊢
  unfold wpX1_begin at hw
  refine lv_aload_n hx hb dX1_begin_0 rfl (lv_at hl 0 rfl) ?_
  refine lv_iconst (v := Int32.ofInt 1) hx hb dX1_begin_1 (by decide) ?_
  refine zpC17_0 (v := 1) hx hb hg hown (by decide) hK hP hD hS q511 dX1_begin_2 (fun H locs hP hD hS => ?_)
  refine lv_aload_n hx hb dX1_begin_5 rfl (lv_at hl 0 rfl) ?_
  refine lv_iload_n hx hb dX1_begin_6 rfl (lv_at hl 1 rfl) ?_
  refine zpC17_1 (v := a1) hx hb hg hown hK hP hD hS q513 dX1_begin_7 (fun H locs hP hD hS => ?_)
  refine lv_aload_n hx hb dX1_begin_10 rfl (lv_at hl 0 rfl) ?_
  refine lv_iconst (v := Int32.ofInt 0) hx hb dX1_begin_11 (by decide) ?_
  refine zpC17_3 (v := 0) hx hb hg hown hK hP hD hS q520 dX1_begin_12 (fun H locs hP hD hS => ?_)
  refine lv_aload_n hx hb dX1_begin_15 rfl (lv_at hl 0 rfl) ?_
  refine zgC17_2 hx hb hg hown hK hP q516 dX1_begin_16 ?_
  refine lv_iconst (v := Int32.ofInt 0) hx hb dX1_begin_19 (by decide) ?_
  refine z_Sv (n := 2) (As := [.ref (ad 17 2), .int (Int32.ofInt 0)]) (rest := []) hx hb hml hg hown hK hP hD hS hA (kJ7_fill_53178_17_2 l D dA ad 0 (zsI (zsI (zsI σ 17 0 1) 17 1 a1) 17 3 0) _ _ hw) q1164 q177 q1337 q1163 (by decide +kernel) ⟨(Nat.le_of_ble_eq_true rfl), (Nat.le_of_ble_eq_true rfl)⟩ rfl hl.1 rfl (Nat.le_of_ble_eq_true rfl) dX1_begin_20 ⟨(Nat.le_of_ble_eq_true rfl), (Nat.le_of_ble_eq_true rfl)⟩ (fun σ2 H locs hw hP hD hS => ?_)
  exact hret σ2 _ _ _ _ hw hP hD hS dX1_begin_23
