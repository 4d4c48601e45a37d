theorem q164 : Cond.initialized "java/lang/IndexOutOfBoundsException" ∈ gw := gw_in (i := 164) (by decide +kernel) rfl
theorem q167 : Cond.initialized "java/lang/IllegalArgumentException" ∈ gw := gw_in (i := 167) (by decide +kernel) rfl
theorem q178 : Cond.initialized "java/lang/IllegalStateException" ∈ gw := gw_in (i := 178) (by decide +kernel) rfl
theorem q399 : Cond.fieldLink RX10 156 "SegmentBench$ObjectModule" "there" "Z" ∈ gw := gw_in (i := 399) (by decide +kernel) rfl
theorem q403 : Cond.fieldLink RX10 224 "SegmentBench$ObjectModule" "segments" "I" ∈ gw := gw_in (i := 403) (by decide +kernel) rfl
theorem q409 : Cond.fieldLink RX10 229 "SegmentBench$ObjectModule" "segmentSize" "[I" ∈ gw := gw_in (i := 409) (by decide +kernel) rfl
theorem q412 : Cond.fieldLink RX10 238 "SegmentBench$ObjectModule" "segmentStart" "[I" ∈ gw := gw_in (i := 412) (by decide +kernel) rfl
theorem q415 : Cond.fieldLink RX10 235 "SegmentBench$ObjectModule" "bytes" "[I" ∈ gw := gw_in (i := 415) (by decide +kernel) rfl
theorem q419 : Cond.fieldLink RX10 243 "SegmentBench$ObjectModule" "fixups" "I" ∈ gw := gw_in (i := 419) (by decide +kernel) rfl
theorem q421 : Cond.fieldLink RX10 248 "SegmentBench$ObjectModule" "fixupKind" "[I" ∈ gw := gw_in (i := 421) (by decide +kernel) rfl
theorem q424 : Cond.fieldLink RX10 251 "SegmentBench$ObjectModule" "fixupSegment" "[I" ∈ gw := gw_in (i := 424) (by decide +kernel) rfl
theorem q427 : Cond.fieldLink RX10 254 "SegmentBench$ObjectModule" "fixupPlace" "[I" ∈ gw := gw_in (i := 427) (by decide +kernel) rfl
theorem q431 : Cond.fieldLink RX10 257 "SegmentBench$ObjectModule" "fixupAbout" "[I" ∈ gw := gw_in (i := 431) (by decide +kernel) rfl
theorem q512 : Cond.fieldLink RX10 202 "SegmentBench$Image" "there" "Z" ∈ gw := gw_in (i := 512) (by decide +kernel) rfl
theorem q515 : Cond.fieldLink RX10 260 "SegmentBench$Image" "size" "I" ∈ gw := gw_in (i := 515) (by decide +kernel) rfl
theorem q518 : Cond.fieldLink RX10 263 "SegmentBench$Image" "bytes" "[I" ∈ gw := gw_in (i := 518) (by decide +kernel) rfl
theorem q522 : Cond.fieldLink RX10 296 "SegmentBench$Image" "relocations" "I" ∈ gw := gw_in (i := 522) (by decide +kernel) rfl
theorem q553 : Cond.fieldLink RX10 266 "SegmentBench$Machine" "cells" "[I" ∈ gw := gw_in (i := 553) (by decide +kernel) rfl
theorem q555 : Cond.fieldLink RX10 271 "SegmentBench$Machine" "general" "[I" ∈ gw := gw_in (i := 555) (by decide +kernel) rfl
theorem q557 : Cond.fieldLink RX10 274 "SegmentBench$Machine" "segment" "[I" ∈ gw := gw_in (i := 557) (by decide +kernel) rfl
theorem q559 : Cond.fieldLink RX10 208 "SegmentBench$Machine" "ip" "I" ∈ gw := gw_in (i := 559) (by decide +kernel) rfl
theorem q561 : Cond.fieldLink RX10 277 "SegmentBench$Machine" "carry" "I" ∈ gw := gw_in (i := 561) (by decide +kernel) rfl
theorem q563 : Cond.fieldLink RX10 280 "SegmentBench$Machine" "zero" "I" ∈ gw := gw_in (i := 563) (by decide +kernel) rfl
theorem q565 : Cond.fieldLink RX10 283 "SegmentBench$Machine" "sign" "I" ∈ gw := gw_in (i := 565) (by decide +kernel) rfl
theorem q567 : Cond.fieldLink RX10 213 "SegmentBench$Machine" "halted" "Z" ∈ gw := gw_in (i := 567) (by decide +kernel) rfl
theorem q569 : Cond.fieldLink RX10 299 "SegmentBench$Machine" "done" "I" ∈ gw := gw_in (i := 569) (by decide +kernel) rfl
theorem q571 : Cond.fieldLink RX10 286 "SegmentBench$Machine" "ints" "I" ∈ gw := gw_in (i := 571) (by decide +kernel) rfl
theorem q573 : Cond.fieldLink RX10 291 "SegmentBench$Machine" "told" "[I" ∈ gw := gw_in (i := 573) (by decide +kernel) rfl
theorem q606 : Cond.fieldLink RX10 9 "SegmentBench" "text" "[C" ∈ gw := gw_in (i := 606) (by decide +kernel) rfl
theorem q607 : Cond.fieldLink RX10 13 "SegmentBench" "length" "I" ∈ gw := gw_in (i := 607) (by decide +kernel) rfl
theorem q614 : Cond.fieldLink RX10 62 "SegmentBench" "modules" "[LSegmentBench$ObjectModule;" ∈ gw := gw_in (i := 614) (by decide +kernel) rfl
theorem q616 : Cond.fieldLink RX10 79 "SegmentBench" "image" "LSegmentBench$Image;" ∈ gw := gw_in (i := 616) (by decide +kernel) rfl
theorem q617 : Cond.fieldLink RX10 86 "SegmentBench" "machine" "LSegmentBench$Machine;" ∈ gw := gw_in (i := 617) (by decide +kernel) rfl
theorem q731 : Cond.classLink RX10 90 "java/lang/IllegalArgumentException" ∈ gw := gw_in (i := 731) (by decide +kernel) rfl
theorem q747 : Cond.methodLink RX10 97 yX10_byteOf ∈ gw := gw_in (i := 747) (by decide +kernel) rfl
theorem q748 : Cond.static yX10_byteOf ∈ gw := gw_in (i := 748) (by decide +kernel) rfl
theorem q749 : Cond.code yX10_byteOf cX10_byteOf 3 (some .int) ∈ gw := gw_in (i := 749) (by decide +kernel) rfl
theorem q751 : Cond.classLink RX10 103 "java/lang/IndexOutOfBoundsException" ∈ gw := gw_in (i := 751) (by decide +kernel) rfl
theorem q787 : Cond.methodLink RX10 108 yX10_isModule ∈ gw := gw_in (i := 787) (by decide +kernel) rfl
theorem q788 : Cond.static yX10_isModule ∈ gw := gw_in (i := 788) (by decide +kernel) rfl
theorem q789 : Cond.code yX10_isModule cX10_isModule 1 (some .boolean) ∈ gw := gw_in (i := 789) (by decide +kernel) rfl
theorem q1251 : Cond.methodLink RX10 160 yX6_clear ∈ gw := gw_in (i := 1251) (by decide +kernel) rfl
theorem q1264 : Cond.classLink RX10 167 "java/lang/IllegalStateException" ∈ gw := gw_in (i := 1264) (by decide +kernel) rfl
theorem q1370 : Cond.methodLink RX10 205 yX4_start ∈ gw := gw_in (i := 1370) (by decide +kernel) rfl
theorem q1371 : Cond.instanceMethod yX4_start ∈ gw := gw_in (i := 1371) (by decide +kernel) rfl
theorem q1372 : Cond.selects RX4 yX4_start yX4_start ∈ gw := gw_in (i := 1372) (by decide +kernel) rfl
theorem q1373 : Cond.code yX4_start cX4_start 6 none ∈ gw := gw_in (i := 1373) (by decide +kernel) rfl
theorem q1392 : Cond.methodLink RX10 218 yX4_go ∈ gw := gw_in (i := 1392) (by decide +kernel) rfl
theorem q1393 : Cond.instanceMethod yX4_go ∈ gw := gw_in (i := 1393) (by decide +kernel) rfl
theorem q1394 : Cond.selects RX4 yX4_go yX4_go ∈ gw := gw_in (i := 1394) (by decide +kernel) rfl
theorem q1395 : Cond.code yX4_go cX4_go 5 (some .int) ∈ gw := gw_in (i := 1395) (by decide +kernel) rfl
theorem dX10_append_0 : decode cX10_append 0 = .ok (.iload_n 3, 1) := by decide +kernel
theorem dX10_append_1 : decode cX10_append 1 = .ok (.iconst 1, 1) := by decide +kernel
theorem dX10_append_2 : decode cX10_append 2 = .ok (.if_icmp .lt 9, 3) := by decide +kernel
theorem dX10_append_5 : decode cX10_append 5 = .ok (.iload_n 3, 1) := by decide +kernel
theorem dX10_append_6 : decode cX10_append 6 = .ok (.bipush 8, 2) := by decide +kernel
theorem dX10_append_8 : decode cX10_append 8 = .ok (.if_icmp .le 13, 3) := by decide +kernel
theorem dX10_append_21 : decode cX10_append 21 = .ok (.iconst 0, 1) := by decide +kernel
theorem dX10_append_22 : decode cX10_append 22 = .ok (.istore 4, 2) := by decide +kernel
theorem dX10_append_11 : decode cX10_append 11 = .ok (.new 90, 3) := by decide +kernel
theorem dX10_append_14 : decode cX10_append 14 = .ok (.dup, 1) := by decide +kernel
theorem dX10_append_15 : decode cX10_append 15 = .ok (.ldc 92, 2) := by decide +kernel
theorem dX10_append_17 : decode cX10_append 17 = .ok (.invokespecial 94, 3) := by decide +kernel
theorem dX10_append_20 : decode cX10_append 20 = .ok (.athrow, 1) := by decide +kernel
theorem dX10_append_24 : decode cX10_append 24 = .ok (.iload 4, 2) := by decide +kernel
theorem dX10_append_26 : decode cX10_append 26 = .ok (.iload_n 3, 1) := by decide +kernel
theorem dX10_append_27 : decode cX10_append 27 = .ok (.if_icmp .ge 41, 3) := by decide +kernel
theorem dX10_append_68 : decode cX10_append 68 = .ok (.aload_n 0, 1) := by decide +kernel
theorem dX10_append_69 : decode cX10_append 69 = .ok (.getfield 13, 3) := by decide +kernel
theorem dX10_append_72 : decode cX10_append 72 = .ok (.iload_n 3, 1) := by decide +kernel
theorem dX10_append_73 : decode cX10_append 73 = .ok (.iadd, 1) := by decide +kernel
theorem dX10_append_74 : decode cX10_append 74 = .ok (.sipush 480, 3) := by decide +kernel
theorem dX10_append_77 : decode cX10_append 77 = .ok (.if_icmp .le 13, 3) := by decide +kernel
theorem dX10_append_90 : decode cX10_append 90 = .ok (.iload_n 3, 1) := by decide +kernel
theorem dX10_append_91 : decode cX10_append 91 = .ok (.iconst 1, 1) := by decide +kernel
theorem dX10_append_92 : decode cX10_append 92 = .ok (.isub, 1) := by decide +kernel
theorem dX10_append_93 : decode cX10_append 93 = .ok (.istore 4, 2) := by decide +kernel
theorem dX10_append_80 : decode cX10_append 80 = .ok (.new 103, 3) := by decide +kernel
theorem dX10_append_83 : decode cX10_append 83 = .ok (.dup, 1) := by decide +kernel
theorem dX10_append_84 : decode cX10_append 84 = .ok (.ldc 105, 2) := by decide +kernel
theorem dX10_append_86 : decode cX10_append 86 = .ok (.invokespecial 107, 3) := by decide +kernel
theorem dX10_append_89 : decode cX10_append 89 = .ok (.athrow, 1) := by decide +kernel
theorem dX10_append_30 : decode cX10_append 30 = .ok (.lload_n 1, 1) := by decide +kernel
theorem dX10_append_31 : decode cX10_append 31 = .ok (.iload 4, 2) := by decide +kernel
theorem dX10_append_33 : decode cX10_append 33 = .ok (.invokestatic 97, 3) := by decide +kernel
theorem dX10_append_36 : decode cX10_append 36 = .ok (.istore 5, 2) := by decide +kernel
theorem dX10_append_38 : decode cX10_append 38 = .ok (.iload 5, 2) := by decide +kernel
theorem dX10_append_40 : decode cX10_append 40 = .ok (.bipush 32, 2) := by decide +kernel
theorem dX10_append_42 : decode cX10_append 42 = .ok (.if_icmp .lt 10, 3) := by decide +kernel
theorem dX10_append_45 : decode cX10_append 45 = .ok (.iload 5, 2) := by decide +kernel
theorem dX10_append_47 : decode cX10_append 47 = .ok (.bipush 126, 2) := by decide +kernel
theorem dX10_append_49 : decode cX10_append 49 = .ok (.if_icmp .le 13, 3) := by decide +kernel
theorem dX10_append_62 : decode cX10_append 62 = .ok (.iinc 4 1, 3) := by decide +kernel
theorem dX10_append_65 : decode cX10_append 65 = .ok (.goto (-41), 3) := by decide +kernel
theorem dX10_append_95 : decode cX10_append 95 = .ok (.iload 4, 2) := by decide +kernel
theorem dX10_append_97 : decode cX10_append 97 = .ok (.ifCond .lt 35, 3) := by decide +kernel
theorem dX10_append_132 : decode cX10_append 132 = .ok (.aload_n 0, 1) := by decide +kernel
theorem dX10_append_133 : decode cX10_append 133 = .ok (.getfield 13, 3) := by decide +kernel
theorem dX10_append_136 : decode cX10_append 136 = .ok (.ireturn, 1) := by decide +kernel
theorem dX10_append_100 : decode cX10_append 100 = .ok (.aload_n 0, 1) := by decide +kernel
theorem dX10_append_101 : decode cX10_append 101 = .ok (.getfield 9, 3) := by decide +kernel
theorem dX10_append_104 : decode cX10_append 104 = .ok (.aload_n 0, 1) := by decide +kernel
theorem dX10_append_105 : decode cX10_append 105 = .ok (.getfield 13, 3) := by decide +kernel
theorem dX10_append_108 : decode cX10_append 108 = .ok (.lload_n 1, 1) := by decide +kernel
theorem dX10_append_109 : decode cX10_append 109 = .ok (.iload 4, 2) := by decide +kernel
theorem dX10_append_111 : decode cX10_append 111 = .ok (.invokestatic 97, 3) := by decide +kernel
theorem dX10_append_114 : decode cX10_append 114 = .ok (.i2c, 1) := by decide +kernel
theorem dX10_append_115 : decode cX10_append 115 = .ok (.castore, 1) := by decide +kernel
theorem dX10_append_116 : decode cX10_append 116 = .ok (.aload_n 0, 1) := by decide +kernel
theorem dX10_append_117 : decode cX10_append 117 = .ok (.dup, 1) := by decide +kernel
theorem dX10_append_118 : decode cX10_append 118 = .ok (.getfield 13, 3) := by decide +kernel
theorem dX10_append_121 : decode cX10_append 121 = .ok (.iconst 1, 1) := by decide +kernel
theorem dX10_append_122 : decode cX10_append 122 = .ok (.iadd, 1) := by decide +kernel
theorem dX10_append_123 : decode cX10_append 123 = .ok (.putfield 13, 3) := by decide +kernel
theorem dX10_append_126 : decode cX10_append 126 = .ok (.iinc 4 (-1), 3) := by decide +kernel
theorem dX10_append_129 : decode cX10_append 129 = .ok (.goto (-34), 3) := by decide +kernel
theorem dX10_append_52 : decode cX10_append 52 = .ok (.new 90, 3) := by decide +kernel
theorem dX10_append_55 : decode cX10_append 55 = .ok (.dup, 1) := by decide +kernel
theorem dX10_append_56 : decode cX10_append 56 = .ok (.ldc 101, 2) := by decide +kernel
theorem dX10_append_58 : decode cX10_append 58 = .ok (.invokespecial 94, 3) := by decide +kernel
theorem dX10_append_61 : decode cX10_append 61 = .ok (.athrow, 1) := by decide +kernel
theorem dX10_drop_0 : decode cX10_drop 0 = .ok (.iload_n 1, 1) := by decide +kernel
theorem dX10_drop_1 : decode cX10_drop 1 = .ok (.invokestatic 108, 3) := by decide +kernel
theorem dX10_drop_4 : decode cX10_drop 4 = .ok (.ifCond .ne 13, 3) := by decide +kernel
theorem dX10_drop_17 : decode cX10_drop 17 = .ok (.aload_n 0, 1) := by decide +kernel
theorem dX10_drop_18 : decode cX10_drop 18 = .ok (.getfield 62, 3) := by decide +kernel
theorem dX10_drop_21 : decode cX10_drop 21 = .ok (.iload_n 1, 1) := by decide +kernel
theorem dX10_drop_22 : decode cX10_drop 22 = .ok (.aaload, 1) := by decide +kernel
theorem dX10_drop_23 : decode cX10_drop 23 = .ok (.getfield 156, 3) := by decide +kernel
theorem dX10_drop_26 : decode cX10_drop 26 = .ok (.istore_n 2, 1) := by decide +kernel
theorem dX10_drop_27 : decode cX10_drop 27 = .ok (.aload_n 0, 1) := by decide +kernel
theorem dX10_drop_28 : decode cX10_drop 28 = .ok (.getfield 62, 3) := by decide +kernel
theorem dX10_drop_31 : decode cX10_drop 31 = .ok (.iload_n 1, 1) := by decide +kernel
theorem dX10_drop_32 : decode cX10_drop 32 = .ok (.aaload, 1) := by decide +kernel
theorem dX10_drop_33 : decode cX10_drop 33 = .ok (.invokevirtual 160, 3) := by decide +kernel
theorem dX10_drop_36 : decode cX10_drop 36 = .ok (.iload_n 2, 1) := by decide +kernel
theorem dX10_drop_37 : decode cX10_drop 37 = .ok (.ireturn, 1) := by decide +kernel
theorem dX10_drop_7 : decode cX10_drop 7 = .ok (.new 90, 3) := by decide +kernel
theorem dX10_drop_10 : decode cX10_drop 10 = .ok (.dup, 1) := by decide +kernel
theorem dX10_drop_11 : decode cX10_drop 11 = .ok (.ldc 112, 2) := by decide +kernel
theorem dX10_drop_13 : decode cX10_drop 13 = .ok (.invokespecial 94, 3) := by decide +kernel
theorem dX10_drop_16 : decode cX10_drop 16 = .ok (.athrow, 1) := by decide +kernel
theorem dX10_load_0 : decode cX10_load 0 = .ok (.iload_n 1, 1) := by decide +kernel
theorem dX10_load_1 : decode cX10_load 1 = .ok (.ifCond .lt 10, 3) := by decide +kernel
theorem dX10_load_4 : decode cX10_load 4 = .ok (.iload_n 1, 1) := by decide +kernel
theorem dX10_load_5 : decode cX10_load 5 = .ok (.sipush 255, 3) := by decide +kernel
theorem dX10_load_8 : decode cX10_load 8 = .ok (.if_icmp .le 13, 3) := by decide +kernel
theorem dX10_load_21 : decode cX10_load 21 = .ok (.aload_n 0, 1) := by decide +kernel
theorem dX10_load_22 : decode cX10_load 22 = .ok (.getfield 79, 3) := by decide +kernel
theorem dX10_load_25 : decode cX10_load 25 = .ok (.getfield 202, 3) := by decide +kernel
theorem dX10_load_28 : decode cX10_load 28 = .ok (.ifCond .ne 13, 3) := by decide +kernel
theorem dX10_load_41 : decode cX10_load 41 = .ok (.aload_n 0, 1) := by decide +kernel
theorem dX10_load_42 : decode cX10_load 42 = .ok (.getfield 86, 3) := by decide +kernel
theorem dX10_load_45 : decode cX10_load 45 = .ok (.aload_n 0, 1) := by decide +kernel
theorem dX10_load_46 : decode cX10_load 46 = .ok (.getfield 79, 3) := by decide +kernel
theorem dX10_load_49 : decode cX10_load 49 = .ok (.iload_n 1, 1) := by decide +kernel
theorem dX10_load_50 : decode cX10_load 50 = .ok (.invokevirtual 205, 3) := by decide +kernel
theorem dX10_load_53 : decode cX10_load 53 = .ok (.aload_n 0, 1) := by decide +kernel
theorem dX10_load_54 : decode cX10_load 54 = .ok (.getfield 86, 3) := by decide +kernel
theorem dX10_load_57 : decode cX10_load 57 = .ok (.getfield 208, 3) := by decide +kernel
theorem dX10_load_60 : decode cX10_load 60 = .ok (.ireturn, 1) := by decide +kernel
theorem dX10_load_31 : decode cX10_load 31 = .ok (.new 167, 3) := by decide +kernel
theorem dX10_load_34 : decode cX10_load 34 = .ok (.dup, 1) := by decide +kernel
theorem dX10_load_35 : decode cX10_load 35 = .ok (.ldc 203, 2) := by decide +kernel
theorem dX10_load_37 : decode cX10_load 37 = .ok (.invokespecial 171, 3) := by decide +kernel
theorem dX10_load_40 : decode cX10_load 40 = .ok (.athrow, 1) := by decide +kernel
theorem dX10_load_11 : decode cX10_load 11 = .ok (.new 90, 3) := by decide +kernel
theorem dX10_load_14 : decode cX10_load 14 = .ok (.dup, 1) := by decide +kernel
theorem dX10_load_15 : decode cX10_load 15 = .ok (.ldc 200, 2) := by decide +kernel
theorem dX10_load_17 : decode cX10_load 17 = .ok (.invokespecial 94, 3) := by decide +kernel
theorem dX10_load_20 : decode cX10_load 20 = .ok (.athrow, 1) := by decide +kernel
theorem dX10_run_0 : decode cX10_run 0 = .ok (.iload_n 1, 1) := by decide +kernel
theorem dX10_run_1 : decode cX10_run 1 = .ok (.iconst 1, 1) := by decide +kernel
theorem dX10_run_2 : decode cX10_run 2 = .ok (.if_icmp .lt 10, 3) := by decide +kernel
theorem dX10_run_5 : decode cX10_run 5 = .ok (.iload_n 1, 1) := by decide +kernel
theorem dX10_run_6 : decode cX10_run 6 = .ok (.sipush 400, 3) := by decide +kernel
theorem dX10_run_9 : decode cX10_run 9 = .ok (.if_icmp .le 13, 3) := by decide +kernel
theorem dX10_run_22 : decode cX10_run 22 = .ok (.aload_n 0, 1) := by decide +kernel
theorem dX10_run_23 : decode cX10_run 23 = .ok (.getfield 86, 3) := by decide +kernel
theorem dX10_run_26 : decode cX10_run 26 = .ok (.getfield 213, 3) := by decide +kernel
theorem dX10_run_29 : decode cX10_run 29 = .ok (.ifCond .eq 13, 3) := by decide +kernel
theorem dX10_run_42 : decode cX10_run 42 = .ok (.aload_n 0, 1) := by decide +kernel
theorem dX10_run_43 : decode cX10_run 43 = .ok (.getfield 86, 3) := by decide +kernel
theorem dX10_run_46 : decode cX10_run 46 = .ok (.iload_n 1, 1) := by decide +kernel
theorem dX10_run_47 : decode cX10_run 47 = .ok (.invokevirtual 218, 3) := by decide +kernel
theorem dX10_run_50 : decode cX10_run 50 = .ok (.ireturn, 1) := by decide +kernel
theorem dX10_run_32 : decode cX10_run 32 = .ok (.new 167, 3) := by decide +kernel
theorem dX10_run_35 : decode cX10_run 35 = .ok (.dup, 1) := by decide +kernel
theorem dX10_run_36 : decode cX10_run 36 = .ok (.ldc 216, 2) := by decide +kernel
theorem dX10_run_38 : decode cX10_run 38 = .ok (.invokespecial 171, 3) := by decide +kernel
theorem dX10_run_41 : decode cX10_run 41 = .ok (.athrow, 1) := by decide +kernel
theorem dX10_run_12 : decode cX10_run 12 = .ok (.new 90, 3) := by decide +kernel
theorem dX10_run_15 : decode cX10_run 15 = .ok (.dup, 1) := by decide +kernel
theorem dX10_run_16 : decode cX10_run 16 = .ok (.ldc 211, 2) := by decide +kernel
theorem dX10_run_18 : decode cX10_run 18 = .ok (.invokespecial 94, 3) := by decide +kernel
theorem dX10_run_21 : decode cX10_run 21 = .ok (.athrow, 1) := by decide +kernel
theorem dX10_code_0 : decode cX10_code 0 = .ok (.iload_n 1, 1) := by decide +kernel
theorem dX10_code_1 : decode cX10_code 1 = .ok (.invokestatic 108, 3) := by decide +kernel
theorem dX10_code_4 : decode cX10_code 4 = .ok (.ifCond .ne 13, 3) := by decide +kernel
theorem dX10_code_17 : decode cX10_code 17 = .ok (.aload_n 0, 1) := by decide +kernel
theorem dX10_code_18 : decode cX10_code 18 = .ok (.getfield 62, 3) := by decide +kernel
theorem dX10_code_21 : decode cX10_code 21 = .ok (.iload_n 1, 1) := by decide +kernel
theorem dX10_code_22 : decode cX10_code 22 = .ok (.aaload, 1) := by decide +kernel
theorem dX10_code_23 : decode cX10_code 23 = .ok (.astore 4, 2) := by decide +kernel
theorem dX10_code_25 : decode cX10_code 25 = .ok (.iload_n 2, 1) := by decide +kernel
theorem dX10_code_26 : decode cX10_code 26 = .ok (.ifCond .lt 12, 3) := by decide +kernel
theorem dX10_code_29 : decode cX10_code 29 = .ok (.iload_n 2, 1) := by decide +kernel
theorem dX10_code_30 : decode cX10_code 30 = .ok (.aload 4, 2) := by decide +kernel
theorem dX10_code_32 : decode cX10_code 32 = .ok (.getfield 224, 3) := by decide +kernel
theorem dX10_code_35 : decode cX10_code 35 = .ok (.if_icmp .lt 13, 3) := by decide +kernel
theorem dX10_code_48 : decode cX10_code 48 = .ok (.iload_n 3, 1) := by decide +kernel
theorem dX10_code_49 : decode cX10_code 49 = .ok (.ifCond .lt 14, 3) := by decide +kernel
theorem dX10_code_52 : decode cX10_code 52 = .ok (.iload_n 3, 1) := by decide +kernel
theorem dX10_code_53 : decode cX10_code 53 = .ok (.aload 4, 2) := by decide +kernel
theorem dX10_code_55 : decode cX10_code 55 = .ok (.getfield 229, 3) := by decide +kernel
theorem dX10_code_58 : decode cX10_code 58 = .ok (.iload_n 2, 1) := by decide +kernel
theorem dX10_code_59 : decode cX10_code 59 = .ok (.iaload, 1) := by decide +kernel
theorem dX10_code_60 : decode cX10_code 60 = .ok (.if_icmp .lt 13, 3) := by decide +kernel
theorem dX10_code_73 : decode cX10_code 73 = .ok (.aload 4, 2) := by decide +kernel
theorem dX10_code_75 : decode cX10_code 75 = .ok (.getfield 235, 3) := by decide +kernel
theorem dX10_code_78 : decode cX10_code 78 = .ok (.aload 4, 2) := by decide +kernel
theorem dX10_code_80 : decode cX10_code 80 = .ok (.getfield 238, 3) := by decide +kernel
theorem dX10_code_83 : decode cX10_code 83 = .ok (.iload_n 2, 1) := by decide +kernel
theorem dX10_code_84 : decode cX10_code 84 = .ok (.iaload, 1) := by decide +kernel
theorem dX10_code_85 : decode cX10_code 85 = .ok (.iload_n 3, 1) := by decide +kernel
theorem dX10_code_86 : decode cX10_code 86 = .ok (.iadd, 1) := by decide +kernel
theorem dX10_code_87 : decode cX10_code 87 = .ok (.iaload, 1) := by decide +kernel
theorem dX10_code_88 : decode cX10_code 88 = .ok (.ireturn, 1) := by decide +kernel
theorem dX10_code_7 : decode cX10_code 7 = .ok (.new 103, 3) := by decide +kernel
theorem dX10_code_10 : decode cX10_code 10 = .ok (.dup, 1) := by decide +kernel
theorem dX10_code_11 : decode cX10_code 11 = .ok (.ldc 222, 2) := by decide +kernel
theorem dX10_code_13 : decode cX10_code 13 = .ok (.invokespecial 107, 3) := by decide +kernel
theorem dX10_code_16 : decode cX10_code 16 = .ok (.athrow, 1) := by decide +kernel
theorem dX10_code_38 : decode cX10_code 38 = .ok (.new 103, 3) := by decide +kernel
theorem dX10_code_41 : decode cX10_code 41 = .ok (.dup, 1) := by decide +kernel
theorem dX10_code_42 : decode cX10_code 42 = .ok (.ldc 227, 2) := by decide +kernel
theorem dX10_code_44 : decode cX10_code 44 = .ok (.invokespecial 107, 3) := by decide +kernel
theorem dX10_code_47 : decode cX10_code 47 = .ok (.athrow, 1) := by decide +kernel
theorem dX10_code_63 : decode cX10_code 63 = .ok (.new 103, 3) := by decide +kernel
theorem dX10_code_66 : decode cX10_code 66 = .ok (.dup, 1) := by decide +kernel
theorem dX10_code_67 : decode cX10_code 67 = .ok (.ldc 233, 2) := by decide +kernel
theorem dX10_code_69 : decode cX10_code 69 = .ok (.invokespecial 107, 3) := by decide +kernel
theorem dX10_code_72 : decode cX10_code 72 = .ok (.athrow, 1) := by decide +kernel
theorem dX10_fixup_0 : decode cX10_fixup 0 = .ok (.iload_n 3, 1) := by decide +kernel
theorem dX10_fixup_1 : decode cX10_fixup 1 = .ok (.ifCond .lt 8, 3) := by decide +kernel
theorem dX10_fixup_4 : decode cX10_fixup 4 = .ok (.iload_n 3, 1) := by decide +kernel
theorem dX10_fixup_5 : decode cX10_fixup 5 = .ok (.iconst 3, 1) := by decide +kernel
theorem dX10_fixup_6 : decode cX10_fixup 6 = .ok (.if_icmp .le 13, 3) := by decide +kernel
theorem dX10_fixup_19 : decode cX10_fixup 19 = .ok (.iload_n 1, 1) := by decide +kernel
theorem dX10_fixup_20 : decode cX10_fixup 20 = .ok (.invokestatic 108, 3) := by decide +kernel
theorem dX10_fixup_23 : decode cX10_fixup 23 = .ok (.ifCond .ne 13, 3) := by decide +kernel
theorem dX10_fixup_36 : decode cX10_fixup 36 = .ok (.aload_n 0, 1) := by decide +kernel
theorem dX10_fixup_37 : decode cX10_fixup 37 = .ok (.getfield 62, 3) := by decide +kernel
theorem dX10_fixup_40 : decode cX10_fixup 40 = .ok (.iload_n 1, 1) := by decide +kernel
theorem dX10_fixup_41 : decode cX10_fixup 41 = .ok (.aaload, 1) := by decide +kernel
theorem dX10_fixup_42 : decode cX10_fixup 42 = .ok (.astore 4, 2) := by decide +kernel
theorem dX10_fixup_44 : decode cX10_fixup 44 = .ok (.iload_n 2, 1) := by decide +kernel
theorem dX10_fixup_45 : decode cX10_fixup 45 = .ok (.ifCond .lt 12, 3) := by decide +kernel
theorem dX10_fixup_48 : decode cX10_fixup 48 = .ok (.iload_n 2, 1) := by decide +kernel
theorem dX10_fixup_49 : decode cX10_fixup 49 = .ok (.aload 4, 2) := by decide +kernel
theorem dX10_fixup_51 : decode cX10_fixup 51 = .ok (.getfield 243, 3) := by decide +kernel
theorem dX10_fixup_54 : decode cX10_fixup 54 = .ok (.if_icmp .lt 13, 3) := by decide +kernel
theorem dX10_fixup_67 : decode cX10_fixup 67 = .ok (.iload_n 3, 1) := by decide +kernel
theorem dX10_fixup_68 : decode cX10_fixup 68 = .ok (.tableswitch 52 0 2 #[28, 36, 44], 28) := by decide +kernel
theorem dX10_fixup_96 : decode cX10_fixup 96 = .ok (.aload 4, 2) := by decide +kernel
theorem dX10_fixup_98 : decode cX10_fixup 98 = .ok (.getfield 248, 3) := by decide +kernel
theorem dX10_fixup_101 : decode cX10_fixup 101 = .ok (.iload_n 2, 1) := by decide +kernel
theorem dX10_fixup_102 : decode cX10_fixup 102 = .ok (.iaload, 1) := by decide +kernel
theorem dX10_fixup_103 : decode cX10_fixup 103 = .ok (.ireturn, 1) := by decide +kernel
theorem dX10_fixup_104 : decode cX10_fixup 104 = .ok (.aload 4, 2) := by decide +kernel
theorem dX10_fixup_106 : decode cX10_fixup 106 = .ok (.getfield 251, 3) := by decide +kernel
theorem dX10_fixup_109 : decode cX10_fixup 109 = .ok (.iload_n 2, 1) := by decide +kernel
theorem dX10_fixup_110 : decode cX10_fixup 110 = .ok (.iaload, 1) := by decide +kernel
theorem dX10_fixup_111 : decode cX10_fixup 111 = .ok (.ireturn, 1) := by decide +kernel
theorem dX10_fixup_112 : decode cX10_fixup 112 = .ok (.aload 4, 2) := by decide +kernel
theorem dX10_fixup_114 : decode cX10_fixup 114 = .ok (.getfield 254, 3) := by decide +kernel
theorem dX10_fixup_117 : decode cX10_fixup 117 = .ok (.iload_n 2, 1) := by decide +kernel
theorem dX10_fixup_118 : decode cX10_fixup 118 = .ok (.iaload, 1) := by decide +kernel
theorem dX10_fixup_119 : decode cX10_fixup 119 = .ok (.ireturn, 1) := by decide +kernel
theorem dX10_fixup_120 : decode cX10_fixup 120 = .ok (.aload 4, 2) := by decide +kernel
theorem dX10_fixup_122 : decode cX10_fixup 122 = .ok (.getfield 257, 3) := by decide +kernel
theorem dX10_fixup_125 : decode cX10_fixup 125 = .ok (.iload_n 2, 1) := by decide +kernel
theorem dX10_fixup_126 : decode cX10_fixup 126 = .ok (.iaload, 1) := by decide +kernel
theorem dX10_fixup_127 : decode cX10_fixup 127 = .ok (.ireturn, 1) := by decide +kernel
theorem dX10_fixup_26 : decode cX10_fixup 26 = .ok (.new 103, 3) := by decide +kernel
theorem dX10_fixup_29 : decode cX10_fixup 29 = .ok (.dup, 1) := by decide +kernel
theorem dX10_fixup_30 : decode cX10_fixup 30 = .ok (.ldc 222, 2) := by decide +kernel
theorem dX10_fixup_32 : decode cX10_fixup 32 = .ok (.invokespecial 107, 3) := by decide +kernel
theorem dX10_fixup_35 : decode cX10_fixup 35 = .ok (.athrow, 1) := by decide +kernel
theorem dX10_fixup_9 : decode cX10_fixup 9 = .ok (.new 90, 3) := by decide +kernel
theorem dX10_fixup_12 : decode cX10_fixup 12 = .ok (.dup, 1) := by decide +kernel
theorem dX10_fixup_13 : decode cX10_fixup 13 = .ok (.ldc 241, 2) := by decide +kernel
theorem dX10_fixup_15 : decode cX10_fixup 15 = .ok (.invokespecial 94, 3) := by decide +kernel
theorem dX10_fixup_18 : decode cX10_fixup 18 = .ok (.athrow, 1) := by decide +kernel
theorem dX10_fixup_57 : decode cX10_fixup 57 = .ok (.new 103, 3) := by decide +kernel
theorem dX10_fixup_60 : decode cX10_fixup 60 = .ok (.dup, 1) := by decide +kernel
theorem dX10_fixup_61 : decode cX10_fixup 61 = .ok (.ldc 246, 2) := by decide +kernel
theorem dX10_fixup_63 : decode cX10_fixup 63 = .ok (.invokespecial 107, 3) := by decide +kernel
theorem dX10_fixup_66 : decode cX10_fixup 66 = .ok (.athrow, 1) := by decide +kernel
theorem dX10_image_0 : decode cX10_image 0 = .ok (.iload_n 1, 1) := by decide +kernel
theorem dX10_image_1 : decode cX10_image 1 = .ok (.ifCond .lt 14, 3) := by decide +kernel
theorem dX10_image_4 : decode cX10_image 4 = .ok (.iload_n 1, 1) := by decide +kernel
theorem dX10_image_5 : decode cX10_image 5 = .ok (.aload_n 0, 1) := by decide +kernel
theorem dX10_image_6 : decode cX10_image 6 = .ok (.getfield 79, 3) := by decide +kernel
theorem dX10_image_9 : decode cX10_image 9 = .ok (.getfield 260, 3) := by decide +kernel
theorem dX10_image_12 : decode cX10_image 12 = .ok (.if_icmp .lt 13, 3) := by decide +kernel
theorem dX10_image_25 : decode cX10_image 25 = .ok (.aload_n 0, 1) := by decide +kernel
theorem dX10_image_26 : decode cX10_image 26 = .ok (.getfield 79, 3) := by decide +kernel
theorem dX10_image_29 : decode cX10_image 29 = .ok (.getfield 263, 3) := by decide +kernel
theorem dX10_image_32 : decode cX10_image 32 = .ok (.iload_n 1, 1) := by decide +kernel
theorem dX10_image_33 : decode cX10_image 33 = .ok (.iaload, 1) := by decide +kernel
theorem dX10_image_34 : decode cX10_image 34 = .ok (.ireturn, 1) := by decide +kernel
theorem dX10_image_15 : decode cX10_image 15 = .ok (.new 103, 3) := by decide +kernel
theorem dX10_image_18 : decode cX10_image 18 = .ok (.dup, 1) := by decide +kernel
theorem dX10_image_19 : decode cX10_image 19 = .ok (.ldc 233, 2) := by decide +kernel
theorem dX10_image_21 : decode cX10_image 21 = .ok (.invokespecial 107, 3) := by decide +kernel
theorem dX10_image_24 : decode cX10_image 24 = .ok (.athrow, 1) := by decide +kernel
theorem dX10_memory_0 : decode cX10_memory 0 = .ok (.iload_n 1, 1) := by decide +kernel
theorem dX10_memory_1 : decode cX10_memory 1 = .ok (.ifCond .lt 10, 3) := by decide +kernel
theorem dX10_memory_4 : decode cX10_memory 4 = .ok (.iload_n 1, 1) := by decide +kernel
theorem dX10_memory_5 : decode cX10_memory 5 = .ok (.sipush 4096, 3) := by decide +kernel
theorem dX10_memory_8 : decode cX10_memory 8 = .ok (.if_icmp .lt 14, 3) := by decide +kernel
theorem dX10_memory_22 : decode cX10_memory 22 = .ok (.aload_n 0, 1) := by decide +kernel
theorem dX10_memory_23 : decode cX10_memory 23 = .ok (.getfield 86, 3) := by decide +kernel
theorem dX10_memory_26 : decode cX10_memory 26 = .ok (.getfield 266, 3) := by decide +kernel
theorem dX10_memory_29 : decode cX10_memory 29 = .ok (.iload_n 1, 1) := by decide +kernel
theorem dX10_memory_30 : decode cX10_memory 30 = .ok (.iaload, 1) := by decide +kernel
theorem dX10_memory_31 : decode cX10_memory 31 = .ok (.ireturn, 1) := by decide +kernel
theorem dX10_memory_11 : decode cX10_memory 11 = .ok (.new 90, 3) := by decide +kernel
theorem dX10_memory_14 : decode cX10_memory 14 = .ok (.dup, 1) := by decide +kernel
theorem dX10_memory_15 : decode cX10_memory 15 = .ok (.ldc_w 264, 3) := by decide +kernel
theorem dX10_memory_18 : decode cX10_memory 18 = .ok (.invokespecial 94, 3) := by decide +kernel
theorem dX10_memory_21 : decode cX10_memory 21 = .ok (.athrow, 1) := by decide +kernel
theorem dX10_register_0 : decode cX10_register 0 = .ok (.iload_n 1, 1) := by decide +kernel
theorem dX10_register_1 : decode cX10_register 1 = .ok (.ifCond .lt 9, 3) := by decide +kernel
theorem dX10_register_4 : decode cX10_register 4 = .ok (.iload_n 1, 1) := by decide +kernel
theorem dX10_register_5 : decode cX10_register 5 = .ok (.bipush 15, 2) := by decide +kernel
theorem dX10_register_7 : decode cX10_register 7 = .ok (.if_icmp .le 14, 3) := by decide +kernel
theorem dX10_register_21 : decode cX10_register 21 = .ok (.iload_n 1, 1) := by decide +kernel
theorem dX10_register_22 : decode cX10_register 22 = .ok (.bipush 8, 2) := by decide +kernel
theorem dX10_register_24 : decode cX10_register 24 = .ok (.if_icmp .ge 13, 3) := by decide +kernel
theorem dX10_register_37 : decode cX10_register 37 = .ok (.iload_n 1, 1) := by decide +kernel
theorem dX10_register_38 : decode cX10_register 38 = .ok (.bipush 12, 2) := by decide +kernel
theorem dX10_register_40 : decode cX10_register 40 = .ok (.if_icmp .ge 16, 3) := by decide +kernel
theorem dX10_register_56 : decode cX10_register 56 = .ok (.iload_n 1, 1) := by decide +kernel
theorem dX10_register_57 : decode cX10_register 57 = .ok (.tableswitch 51 12 14 #[27, 35, 43], 27) := by decide +kernel
theorem dX10_register_84 : decode cX10_register 84 = .ok (.aload_n 0, 1) := by decide +kernel
theorem dX10_register_85 : decode cX10_register 85 = .ok (.getfield 86, 3) := by decide +kernel
theorem dX10_register_88 : decode cX10_register 88 = .ok (.getfield 208, 3) := by decide +kernel
theorem dX10_register_91 : decode cX10_register 91 = .ok (.ireturn, 1) := by decide +kernel
theorem dX10_register_92 : decode cX10_register 92 = .ok (.aload_n 0, 1) := by decide +kernel
theorem dX10_register_93 : decode cX10_register 93 = .ok (.getfield 86, 3) := by decide +kernel
theorem dX10_register_96 : decode cX10_register 96 = .ok (.getfield 277, 3) := by decide +kernel
theorem dX10_register_99 : decode cX10_register 99 = .ok (.ireturn, 1) := by decide +kernel
theorem dX10_register_100 : decode cX10_register 100 = .ok (.aload_n 0, 1) := by decide +kernel
theorem dX10_register_101 : decode cX10_register 101 = .ok (.getfield 86, 3) := by decide +kernel
theorem dX10_register_104 : decode cX10_register 104 = .ok (.getfield 280, 3) := by decide +kernel
theorem dX10_register_107 : decode cX10_register 107 = .ok (.ireturn, 1) := by decide +kernel
theorem dX10_register_108 : decode cX10_register 108 = .ok (.aload_n 0, 1) := by decide +kernel
theorem dX10_register_109 : decode cX10_register 109 = .ok (.getfield 86, 3) := by decide +kernel
theorem dX10_register_112 : decode cX10_register 112 = .ok (.getfield 283, 3) := by decide +kernel
theorem dX10_register_115 : decode cX10_register 115 = .ok (.ireturn, 1) := by decide +kernel
theorem dX10_register_43 : decode cX10_register 43 = .ok (.aload_n 0, 1) := by decide +kernel
theorem dX10_register_44 : decode cX10_register 44 = .ok (.getfield 86, 3) := by decide +kernel
theorem dX10_register_47 : decode cX10_register 47 = .ok (.getfield 274, 3) := by decide +kernel
theorem dX10_register_50 : decode cX10_register 50 = .ok (.iload_n 1, 1) := by decide +kernel
theorem dX10_register_51 : decode cX10_register 51 = .ok (.bipush 8, 2) := by decide +kernel
theorem dX10_register_53 : decode cX10_register 53 = .ok (.isub, 1) := by decide +kernel
theorem dX10_register_54 : decode cX10_register 54 = .ok (.iaload, 1) := by decide +kernel
theorem dX10_register_55 : decode cX10_register 55 = .ok (.ireturn, 1) := by decide +kernel
theorem dX10_register_27 : decode cX10_register 27 = .ok (.aload_n 0, 1) := by decide +kernel
theorem dX10_register_28 : decode cX10_register 28 = .ok (.getfield 86, 3) := by decide +kernel
theorem dX10_register_31 : decode cX10_register 31 = .ok (.getfield 271, 3) := by decide +kernel
theorem dX10_register_34 : decode cX10_register 34 = .ok (.iload_n 1, 1) := by decide +kernel
theorem dX10_register_35 : decode cX10_register 35 = .ok (.iaload, 1) := by decide +kernel
theorem dX10_register_36 : decode cX10_register 36 = .ok (.ireturn, 1) := by decide +kernel
theorem dX10_register_10 : decode cX10_register 10 = .ok (.new 90, 3) := by decide +kernel
theorem dX10_register_13 : decode cX10_register 13 = .ok (.dup, 1) := by decide +kernel
theorem dX10_register_14 : decode cX10_register 14 = .ok (.ldc_w 269, 3) := by decide +kernel
theorem dX10_register_17 : decode cX10_register 17 = .ok (.invokespecial 94, 3) := by decide +kernel
theorem dX10_register_20 : decode cX10_register 20 = .ok (.athrow, 1) := by decide +kernel
theorem dX10_trace_0 : decode cX10_trace 0 = .ok (.iload_n 1, 1) := by decide +kernel
theorem dX10_trace_1 : decode cX10_trace 1 = .ok (.ifCond .lt 20, 3) := by decide +kernel
theorem dX10_trace_4 : decode cX10_trace 4 = .ok (.iload_n 1, 1) := by decide +kernel
theorem dX10_trace_5 : decode cX10_trace 5 = .ok (.bipush 30, 2) := by decide +kernel
theorem dX10_trace_7 : decode cX10_trace 7 = .ok (.if_icmp .ge 14, 3) := by decide +kernel
theorem dX10_trace_10 : decode cX10_trace 10 = .ok (.iload_n 1, 1) := by decide +kernel
theorem dX10_trace_11 : decode cX10_trace 11 = .ok (.aload_n 0, 1) := by decide +kernel
theorem dX10_trace_12 : decode cX10_trace 12 = .ok (.getfield 86, 3) := by decide +kernel
theorem dX10_trace_15 : decode cX10_trace 15 = .ok (.getfield 286, 3) := by decide +kernel
theorem dX10_trace_18 : decode cX10_trace 18 = .ok (.if_icmp .lt 14, 3) := by decide +kernel
theorem dX10_trace_32 : decode cX10_trace 32 = .ok (.aload_n 0, 1) := by decide +kernel
theorem dX10_trace_33 : decode cX10_trace 33 = .ok (.getfield 86, 3) := by decide +kernel
theorem dX10_trace_36 : decode cX10_trace 36 = .ok (.getfield 291, 3) := by decide +kernel
theorem dX10_trace_39 : decode cX10_trace 39 = .ok (.iload_n 1, 1) := by decide +kernel
theorem dX10_trace_40 : decode cX10_trace 40 = .ok (.iaload, 1) := by decide +kernel
theorem dX10_trace_41 : decode cX10_trace 41 = .ok (.ireturn, 1) := by decide +kernel
theorem dX10_trace_21 : decode cX10_trace 21 = .ok (.new 103, 3) := by decide +kernel
theorem dX10_trace_24 : decode cX10_trace 24 = .ok (.dup, 1) := by decide +kernel
theorem dX10_trace_25 : decode cX10_trace 25 = .ok (.ldc_w 289, 3) := by decide +kernel
theorem dX10_trace_28 : decode cX10_trace 28 = .ok (.invokespecial 107, 3) := by decide +kernel
theorem dX10_trace_31 : decode cX10_trace 31 = .ok (.athrow, 1) := by decide +kernel
theorem dX10_count_0 : decode cX10_count 0 = .ok (.iload_n 1, 1) := by decide +kernel
theorem dX10_count_1 : decode cX10_count 1 = .ok (.ifCond .lt 9, 3) := by decide +kernel
theorem dX10_count_4 : decode cX10_count 4 = .ok (.iload_n 1, 1) := by decide +kernel
theorem dX10_count_5 : decode cX10_count 5 = .ok (.bipush 13, 2) := by decide +kernel
theorem dX10_count_7 : decode cX10_count 7 = .ok (.if_icmp .le 14, 3) := by decide +kernel
theorem dX10_count_21 : decode cX10_count 21 = .ok (.iload_n 1, 1) := by decide +kernel
theorem dX10_count_22 : decode cX10_count 22 = .ok (.bipush 11, 2) := by decide +kernel
theorem dX10_count_24 : decode cX10_count 24 = .ok (.if_icmp .lt 16, 3) := by decide +kernel
theorem dX10_count_40 : decode cX10_count 40 = .ok (.iload_n 1, 1) := by decide +kernel
theorem dX10_count_41 : decode cX10_count 41 = .ok (.bipush 8, 2) := by decide +kernel
theorem dX10_count_43 : decode cX10_count 43 = .ok (.if_icmp .lt 16, 3) := by decide +kernel
theorem dX10_count_59 : decode cX10_count 59 = .ok (.iload_n 1, 1) := by decide +kernel
theorem dX10_count_60 : decode cX10_count 60 = .ok (.tableswitch 91 0 6 #[44, 49, 54, 59, 67, 75, 83], 44) := by decide +kernel
theorem dX10_count_104 : decode cX10_count 104 = .ok (.aload_n 0, 1) := by decide +kernel
theorem dX10_count_105 : decode cX10_count 105 = .ok (.getfield 13, 3) := by decide +kernel
theorem dX10_count_108 : decode cX10_count 108 = .ok (.ireturn, 1) := by decide +kernel
theorem dX10_count_109 : decode cX10_count 109 = .ok (.aload_n 0, 1) := by decide +kernel
theorem dX10_count_110 : decode cX10_count 110 = .ok (.getfield 17, 3) := by decide +kernel
theorem dX10_count_113 : decode cX10_count 113 = .ok (.ireturn, 1) := by decide +kernel
theorem dX10_count_114 : decode cX10_count 114 = .ok (.aload_n 0, 1) := by decide +kernel
theorem dX10_count_115 : decode cX10_count 115 = .ok (.getfield 20, 3) := by decide +kernel
theorem dX10_count_118 : decode cX10_count 118 = .ok (.ireturn, 1) := by decide +kernel
theorem dX10_count_119 : decode cX10_count 119 = .ok (.aload_n 0, 1) := by decide +kernel
theorem dX10_count_120 : decode cX10_count 120 = .ok (.getfield 79, 3) := by decide +kernel
theorem dX10_count_123 : decode cX10_count 123 = .ok (.getfield 260, 3) := by decide +kernel
theorem dX10_count_126 : decode cX10_count 126 = .ok (.ireturn, 1) := by decide +kernel
theorem dX10_count_127 : decode cX10_count 127 = .ok (.aload_n 0, 1) := by decide +kernel
theorem dX10_count_128 : decode cX10_count 128 = .ok (.getfield 79, 3) := by decide +kernel
theorem dX10_count_131 : decode cX10_count 131 = .ok (.getfield 296, 3) := by decide +kernel
theorem dX10_count_134 : decode cX10_count 134 = .ok (.ireturn, 1) := by decide +kernel
theorem dX10_count_135 : decode cX10_count 135 = .ok (.aload_n 0, 1) := by decide +kernel
theorem dX10_count_136 : decode cX10_count 136 = .ok (.getfield 86, 3) := by decide +kernel
theorem dX10_count_139 : decode cX10_count 139 = .ok (.getfield 299, 3) := by decide +kernel
theorem dX10_count_142 : decode cX10_count 142 = .ok (.ireturn, 1) := by decide +kernel
theorem dX10_count_143 : decode cX10_count 143 = .ok (.aload_n 0, 1) := by decide +kernel
theorem dX10_count_144 : decode cX10_count 144 = .ok (.getfield 86, 3) := by decide +kernel
theorem dX10_count_147 : decode cX10_count 147 = .ok (.getfield 286, 3) := by decide +kernel
theorem dX10_count_150 : decode cX10_count 150 = .ok (.ireturn, 1) := by decide +kernel
theorem dX10_count_151 : decode cX10_count 151 = .ok (.aload_n 0, 1) := by decide +kernel
theorem dX10_count_152 : decode cX10_count 152 = .ok (.getfield 86, 3) := by decide +kernel
theorem dX10_count_155 : decode cX10_count 155 = .ok (.getfield 213, 3) := by decide +kernel
theorem dX10_count_158 : decode cX10_count 158 = .ok (.ifCond .eq 7, 3) := by decide +kernel
theorem dX10_count_165 : decode cX10_count 165 = .ok (.iconst 0, 1) := by decide +kernel
theorem dX10_count_161 : decode cX10_count 161 = .ok (.iconst 1, 1) := by decide +kernel
theorem dX10_count_162 : decode cX10_count 162 = .ok (.goto 4, 3) := by decide +kernel
theorem dX10_count_46 : decode cX10_count 46 = .ok (.aload_n 0, 1) := by decide +kernel
theorem dX10_count_47 : decode cX10_count 47 = .ok (.getfield 62, 3) := by decide +kernel
theorem dX10_count_50 : decode cX10_count 50 = .ok (.iload_n 1, 1) := by decide +kernel
theorem dX10_count_51 : decode cX10_count 51 = .ok (.bipush 8, 2) := by decide +kernel
theorem dX10_count_53 : decode cX10_count 53 = .ok (.isub, 1) := by decide +kernel
theorem dX10_count_54 : decode cX10_count 54 = .ok (.aaload, 1) := by decide +kernel
theorem dX10_count_55 : decode cX10_count 55 = .ok (.getfield 224, 3) := by decide +kernel
theorem dX10_count_58 : decode cX10_count 58 = .ok (.ireturn, 1) := by decide +kernel
theorem dX10_count_27 : decode cX10_count 27 = .ok (.aload_n 0, 1) := by decide +kernel
theorem dX10_count_28 : decode cX10_count 28 = .ok (.getfield 62, 3) := by decide +kernel
theorem dX10_count_31 : decode cX10_count 31 = .ok (.iload_n 1, 1) := by decide +kernel
theorem dX10_count_32 : decode cX10_count 32 = .ok (.bipush 11, 2) := by decide +kernel
theorem dX10_count_34 : decode cX10_count 34 = .ok (.isub, 1) := by decide +kernel
theorem dX10_count_35 : decode cX10_count 35 = .ok (.aaload, 1) := by decide +kernel
theorem dX10_count_36 : decode cX10_count 36 = .ok (.getfield 243, 3) := by decide +kernel
theorem dX10_count_39 : decode cX10_count 39 = .ok (.ireturn, 1) := by decide +kernel
theorem dX10_count_10 : decode cX10_count 10 = .ok (.new 90, 3) := by decide +kernel
theorem dX10_count_13 : decode cX10_count 13 = .ok (.dup, 1) := by decide +kernel
theorem dX10_count_14 : decode cX10_count 14 = .ok (.ldc_w 294, 3) := by decide +kernel
theorem dX10_count_17 : decode cX10_count 17 = .ok (.invokespecial 94, 3) := by decide +kernel
theorem dX10_count_20 : decode cX10_count 20 = .ok (.athrow, 1) := by decide +kernel
theorem dX10_count_166 : decode cX10_count 166 = .ok (.ireturn, 1) := by decide +kernel
def wpbX10_append_95 (K95 : Int → ZS → Prop) (v1 v4 : Int) (σ : ZS) (Q : Int → ZS → Prop) (X : String → ZS → Prop) : Prop := (-2147483648 ≤ v4 ∧ v4 ≤ 2147483647) ∧ (v4 < 0 → Q (zI σ 10 1) σ) ∧ (¬ v4 < 0 → wpX10_byteOf v1 v4 σ (fun (x3 : Int) (σ4 : ZS) => (0 ≤ (zI σ 10 1) ∧ (zI σ 10 1) < 480) ∧ K95 (v4 + (-1)) (zsI (zsA σ4 10 0 (zI σ 10 1) (x3 % 65536)) 10 1 ((zI σ4 10 1) + 1))))
def wpX10_append_95 (v1 v4 : Int) (σ : ZS) (Q : Int → ZS → Prop) (X : String → ZS → Prop) : Prop := lfp1 (fun K95 v4 σ => wpbX10_append_95 K95 v1 v4 σ Q X) v4 σ
def wpX10_append_52 (σ : ZS) (Q : Int → ZS → Prop) (X : String → ZS → Prop) : Prop := X xIAE σ
def wpbX10_append_24 (K24 : Int → ZS → Prop) (v1 v3 v4 : Int) (σ : ZS) (Q : Int → ZS → Prop) (X : String → ZS → Prop) : Prop := (-2147483648 ≤ v4 ∧ v4 ≤ 2147483647) ∧ (-2147483648 ≤ v3 ∧ v3 ≤ 2147483647) ∧ (v3 ≤ v4 → (-2147483648 ≤ ((zI σ 10 1) + v3) ∧ ((zI σ 10 1) + v3) ≤ 2147483647) ∧ (((zI σ 10 1) + v3) ≤ 480 → wpX10_append_95 v1 (v3 - 1) σ Q X) ∧ (¬ ((zI σ 10 1) + v3) ≤ 480 → X xIOB σ)) ∧ (¬ v3 ≤ v4 → wpX10_byteOf v1 v4 σ (fun (x11 : Int) (σ12 : ZS) => (-2147483648 ≤ x11 ∧ x11 ≤ 2147483647) ∧ (x11 < 32 → wpX10_append_52 σ12 Q X) ∧ (¬ x11 < 32 → (x11 ≤ 126 → K24 (v4 + 1) σ12) ∧ (¬ x11 ≤ 126 → wpX10_append_52 σ12 Q X))))
def wpX10_append_24 (v1 v3 v4 : Int) (σ : ZS) (Q : Int → ZS → Prop) (X : String → ZS → Prop) : Prop := lfp1 (fun K24 v4 σ => wpbX10_append_24 K24 v1 v3 v4 σ Q X) v4 σ
def wpX10_append_11 (σ : ZS) (Q : Int → ZS → Prop) (X : String → ZS → Prop) : Prop := X xIAE σ
def wpX10_append (a1 a2 : Int) (σ : ZS) (Q : Int → ZS → Prop) (X : String → ZS → Prop) : Prop := (-2147483648 ≤ a2 ∧ a2 ≤ 2147483647) ∧ (a2 < 1 → wpX10_append_11 σ Q X) ∧ (¬ a2 < 1 → (a2 ≤ 8 → wpX10_append_24 a1 a2 0 σ Q X) ∧ (¬ a2 ≤ 8 → wpX10_append_11 σ Q X))
set_option maxHeartbeats 4000000 in
set_option maxRecDepth 100000 in
theorem kX10_append (l : Launch) (htr : l.stackTraces = false) (D : va_G) (dA : Nat → ClassId) (ad : Int → Nat → Nat) (tf tc : Nat) (aK aV : Nat → Nat) (a1 a2 : Int) (σ : ZS) (Q : Int → ZS → Prop) (X : String → ZS → Prop) (sz : Nat) (hw : wpX10_append a1 a2 σ Q X) : vx_Met l yX10_append (gws yX10_append cX10_append 6 (some .int)) (gR 6 1 6) (gPreE D dA tf tc aK aV [.ref (ad 10 1000), .long (Int64.ofInt a1), .int (Int32.ofInt a2)] (zC dA ad σ) sz) (va_Qi (zQi Q) (gAt D dA (va_A (zC dA ad σ) sz) (zC dA ad)) (va_A (zC dA ad σ) sz)) (zX D dA X (zC dA ad) (va_A (zC dA ad σ) sz)) 1 6 (va_A (zC dA ad σ) sz) := by
  refine vx_ofW (cc := cX10_append) (maxL := 6) (ret := (some .int)) (by decide) rfl ?_
  intro p e s m args below meth c s₁ B hml hnt hv
  obtain ⟨rfl, hsz, hP, hK, hD0, hE⟩ := hv
  have hx := B.exec
  have hb := B.bytes
  have hr := B.returns
  have hts := atoms_spec (ws := gws yX10_append cX10_append 6 (some .int)) B.pre
  have hg : ∀ w ∈ gw, w.before _ s = true := fun w h => hts w (List.mem_cons_of_mem _ h)
  have hown : s.vm.findClass RX10 = some m.cls := findClass_of_methodNamed B.named
  have hlocks := B.notSynchronized
  subst hsz
  have hD := hD0.self (sz := s.heap.size)
  generalize hAe : va_A (zC dA ad σ) s.heap.size = A at hD hE ⊢
  have hA : ∀ q : Nat, s.heap.size ≤ q → A q := fun q h => by rw [← hAe]; exact Or.inr h
  have hS : va_S A s.heap s.heap [] := va_S.rf
  have hl := lv_entry ([.ref (ad 10 1000), .long (Int64.ofInt a1), .int (Int32.ofInt a2)]) (n := 6) (Nat.le_of_ble_eq_true rfl)
  rw [lg_entry_eq]
  generalize (lg_sl ([.ref (ad 10 1000), .long (Int64.ofInt a1), .int (Int32.ofInt a2)]) ++ List.replicate (6 - (lg_sl ([.ref (ad 10 1000), .long (Int64.ofInt a1), .int (Int32.ofInt a2)])).length) Slot.unset).toArray = ls at hl ⊢
  have hl : lv_has ls 6 [(0, .ref (ad 10 1000)), (1, .long (Int64.ofInt a1)), (3, .int (Int32.ofInt a2))] := hl
  have hret : ∀ (v : Int) (σ : ZS) (H : Heap) (locs : List Loc) (ls : Array Slot) (pc : Nat), Q v σ → va_P D vwC (zC dA ad σ) H → va_D A (zC dA ad σ) → va_S A s.heap H locs → decode cX10_append pc = .ok (.ireturn, 1) → W p l e (gR 6 1 6) s m #[.ref (ad 10 1000), .long (Int64.ofInt a1), .int (Int32.ofInt a2)] below meth c H locs 0 0 (vx_MQ below (va_Qi (zQi Q) (gAt D dA A (zC dA ad)) A) (zX D dA X (zC dA ad) A) #[.ref (ad 10 1000), .long (Int64.ofInt a1), .int (Int32.ofInt a2)] s 1 6 A) (F0 m pc ls [.int (Int32.ofInt v)]) := fun v σ H locs ls pc hw hP hD hS hd => vx_ret (g_iret hx hb hr rfl hlocks hK σ hP hD hS ⟨v, rfl, hw⟩ (Nat.le_of_ble_eq_true rfl) (Nat.le_of_ble_eq_true rfl) hd)
  have b95 : ∀ (v1 : Int) (K95 : Int → ZS → Prop), (∀ (v4 : Int) (σ : ZS), K95 v4 σ → ∀ (H : Heap) (locs : List Loc) (ls : Array Slot), va_P D vwC (zC dA ad σ) H → va_D A (zC dA ad σ) → va_S A s.heap H locs → lv_has ls 6 [(0, .ref (ad 10 1000)), (1, .long (Int64.ofInt v1)), (4, .int (Int32.ofInt v4))] → W p l e (gR 6 1 6) s m #[.ref (ad 10 1000), .long (Int64.ofInt a1), .int (Int32.ofInt a2)] below meth c H locs 0 0 (vx_MQ below (va_Qi (zQi Q) (gAt D dA A (zC dA ad)) A) (zX D dA X (zC dA ad) A) #[.ref (ad 10 1000), .long (Int64.ofInt a1), .int (Int32.ofInt a2)] s 1 6 A) (F0 m 95 ls [])) → ∀ (v4 : Int) (σ : ZS), wpbX10_append_95 K95 v1 v4 σ Q X → ∀ (H : Heap) (locs : List Loc) (ls : Array Slot), va_P D vwC (zC dA ad σ) H → va_D A (zC dA ad σ) → va_S A s.heap H locs → lv_has ls 6 [(0, .ref (ad 10 1000)), (1, .long (Int64.ofInt v1)), (4, .int (Int32.ofInt v4))] → W p l e (gR 6 1 6) s m #[.ref (ad 10 1000), .long (Int64.ofInt a1), .int (Int32.ofInt a2)] below meth c H locs 0 0 (vx_MQ below (va_Qi (zQi Q) (gAt D dA A (zC dA ad)) A) (zX D dA X (zC dA ad) A) #[.ref (ad 10 1000), .long (Int64.ofInt a1), .int (Int32.ofInt a2)] s 1 6 A) (F0 m 95 ls []) := by
    intro v1 K95 hK95
    intro v4 σ hw H locs ls hP hD hS hl
    unfold wpbX10_append_95 at hw
    refine lv_iload hx hb dX10_append_95 (lv_at hl 2 rfl) ?_
    obtain ⟨o1, hw⟩ := hw
    refine z_if_lt (tgt := 132) hx hb o1 dX10_append_97 (by decide) (fun k2 => ?_) (fun k2 => ?_)
    · replace hw := hw.1 k2
      refine lv_aload_n hx hb dX10_append_132 rfl (lv_at hl 0 rfl) ?_
      refine zgC10_1 hx hb hg hown hK hP q607 dX10_append_133 ?_
      exact hret (zI σ 10 1) σ _ _ _ _ hw hP hD hS dX10_append_136
    · replace hw := hw.2 k2
      refine lv_aload_n hx hb dX10_append_100 rfl (lv_at hl 0 rfl) ?_
      refine zgC10_0 hx hb hg hown hK hP q606 dX10_append_101 ?_
      refine lv_aload_n hx hb dX10_append_104 rfl (lv_at hl 0 rfl) ?_
      refine zgC10_1 hx hb hg hown hK hP q607 dX10_append_105 ?_
      refine lv_lload_n hx hb dX10_append_108 rfl (lv_at hl 1 rfl) ?_
      refine lv_iload hx hb dX10_append_109 (lv_at hl 2 rfl) ?_
      refine z_Si (n := 2) (As := [.long (Int64.ofInt v1), .int (Int32.ofInt v4)]) (rest := [.int (Int32.ofInt (zI σ 10 1)), .ref (ad 10 0)]) hx hb hml hg hown hK hP hD hS hA (kX10_byteOf l D dA ad v1 v4 σ _ _ hw) q749 q149 q747 q748 (by decide +kernel) ⟨(Nat.le_of_ble_eq_true rfl), (Nat.le_of_ble_eq_true rfl)⟩ rfl hl.1 rfl (Nat.le_of_ble_eq_true rfl) dX10_append_111 ⟨(Nat.le_of_ble_eq_true rfl), (Nat.le_of_ble_eq_true rfl)⟩ (fun x3 σ4 H locs hw hP hD hS => ?_)
      refine z_i2c hx hb dX10_append_114 ?_
      obtain ⟨o5, hw⟩ := hw
      refine zsC10_0 (v := (x3 % 65536)) hx hb o5 (by clear hw; omega) hK hP hD hS dX10_append_115 (fun H locs hP hD hS => ?_)
      refine lv_aload_n hx hb dX10_append_116 rfl (lv_at hl 0 rfl) ?_
      refine lv_dup hx hb dX10_append_117 rfl ?_
      refine zgC10_1 hx hb hg hown hK hP q607 dX10_append_118 ?_
      refine g_nrm (y := Int32.ofInt (zI σ4 10 1)) rfl ?_
      refine lv_iconst (v := Int32.ofInt 1) hx hb dX10_append_121 (by decide) ?_
      refine z_iadd hx hb dX10_append_122 ?_
      refine zpC10_1 (v := ((zI σ4 10 1) + 1)) hx hb hg hown hK hP hD hS q607 dX10_append_123 (fun H locs hP hD hS => ?_)
      refine lv_iinc (v := Int32.ofInt (v4 + (-1))) (lv' := [(4, .int (Int32.ofInt (v4 + (-1)))), (0, .ref (ad 10 1000)), (1, .long (Int64.ofInt v1))]) hx hb dX10_append_126 hl (k := 2) rfl (Int32.ofInt_add _ _).symm (by decide) rfl (fun ls hl => ?_)
      refine lv_goto (tgt := 95) hx hb dX10_append_129 (by decide) ?_
      exact hK95 (v4 + (-1)) (zsI (zsA σ4 10 0 (zI σ 10 1) (x3 % 65536)) 10 1 ((zI σ4 10 1) + 1)) hw _ _ _ hP hD hS (lv_sub hl [1, 2, 0] rfl)
  have j95 : ∀ (v1 v4 : Int) (σ : ZS), ∀ (H : Heap) (locs : List Loc) (ls : Array Slot), va_P D vwC (zC dA ad σ) H → va_D A (zC dA ad σ) → va_S A s.heap H locs → lv_has ls 6 [(0, .ref (ad 10 1000)), (1, .long (Int64.ofInt v1)), (4, .int (Int32.ofInt v4))] → wpX10_append_95 v1 v4 σ Q X → W p l e (gR 6 1 6) s m #[.ref (ad 10 1000), .long (Int64.ofInt a1), .int (Int32.ofInt a2)] below meth c H locs 0 0 (vx_MQ below (va_Qi (zQi Q) (gAt D dA A (zC dA ad)) A) (zX D dA X (zC dA ad) A) #[.ref (ad 10 1000), .long (Int64.ofInt a1), .int (Int32.ofInt a2)] s 1 6 A) (F0 m 95 ls []) := by
    intro v1 v4 σ H locs ls hP hD hS hl hw
    exact hw (fun v4 σ => ∀ (H : Heap) (locs : List Loc) (ls : Array Slot), va_P D vwC (zC dA ad σ) H → va_D A (zC dA ad σ) → va_S A s.heap H locs → lv_has ls 6 [(0, .ref (ad 10 1000)), (1, .long (Int64.ofInt v1)), (4, .int (Int32.ofInt v4))] → W p l e (gR 6 1 6) s m #[.ref (ad 10 1000), .long (Int64.ofInt a1), .int (Int32.ofInt a2)] below meth c H locs 0 0 (vx_MQ below (va_Qi (zQi Q) (gAt D dA A (zC dA ad)) A) (zX D dA X (zC dA ad) A) #[.ref (ad 10 1000), .long (Int64.ofInt a1), .int (Int32.ofInt a2)] s 1 6 A) (F0 m 95 ls [])) (b95 v1 (fun v4 σ => ∀ (H : Heap) (locs : List Loc) (ls : Array Slot), va_P D vwC (zC dA ad σ) H → va_D A (zC dA ad σ) → va_S A s.heap H locs → lv_has ls 6 [(0, .ref (ad 10 1000)), (1, .long (Int64.ofInt v1)), (4, .int (Int32.ofInt v4))] → W p l e (gR 6 1 6) s m #[.ref (ad 10 1000), .long (Int64.ofInt a1), .int (Int32.ofInt a2)] below meth c H locs 0 0 (vx_MQ below (va_Qi (zQi Q) (gAt D dA A (zC dA ad)) A) (zX D dA X (zC dA ad) A) #[.ref (ad 10 1000), .long (Int64.ofInt a1), .int (Int32.ofInt a2)] s 1 6 A) (F0 m 95 ls [])) (fun v4 σ h => h)) _ _ _ hP hD hS hl
  have j52 : ∀ (σ : ZS), ∀ (H : Heap) (locs : List Loc) (ls : Array Slot), va_P D vwC (zC dA ad σ) H → va_D A (zC dA ad σ) → va_S A s.heap H locs → lv_has ls 6 [] → wpX10_append_52 σ Q X → W p l e (gR 6 1 6) s m #[.ref (ad 10 1000), .long (Int64.ofInt a1), .int (Int32.ofInt a2)] below meth c H locs 0 0 (vx_MQ below (va_Qi (zQi Q) (gAt D dA A (zC dA ad)) A) (zX D dA X (zC dA ad) A) #[.ref (ad 10 1000), .long (Int64.ofInt a1), .int (Int32.ofInt a2)] s 1 6 A) (F0 m 52 ls []) := by
    intro σ H locs ls hP hD hS hl hw
    unfold wpX10_append_52 at hw
    exact zx_thr (cls := xIAE) (is := 101) (text := "a byte is not 32 .. 126") hx hb hg htr hown (by decide) q731 q167 (by decide +kernel) atIAE (by decide +kernel) hE hK hP hD hS hml hl.1 hnt hlocks dX10_append_52 dX10_append_55 dX10_append_56 dX10_append_58 dX10_append_61 (Nat.le_of_ble_eq_true rfl) (Nat.le_of_ble_eq_true rfl) (Nat.le_of_ble_eq_true rfl) (Nat.le_of_ble_eq_true rfl) (Nat.le_of_ble_eq_true rfl) (Nat.le_of_ble_eq_true rfl) hw
  have b24 : ∀ (v1 v3 : Int) (K24 : Int → ZS → Prop), (∀ (v4 : Int) (σ : ZS), K24 v4 σ → ∀ (H : Heap) (locs : List Loc) (ls : Array Slot), va_P D vwC (zC dA ad σ) H → va_D A (zC dA ad σ) → va_S A s.heap H locs → lv_has ls 6 [(0, .ref (ad 10 1000)), (1, .long (Int64.ofInt v1)), (3, .int (Int32.ofInt v3)), (4, .int (Int32.ofInt v4))] → W p l e (gR 6 1 6) s m #[.ref (ad 10 1000), .long (Int64.ofInt a1), .int (Int32.ofInt a2)] below meth c H locs 0 0 (vx_MQ below (va_Qi (zQi Q) (gAt D dA A (zC dA ad)) A) (zX D dA X (zC dA ad) A) #[.ref (ad 10 1000), .long (Int64.ofInt a1), .int (Int32.ofInt a2)] s 1 6 A) (F0 m 24 ls [])) → ∀ (v4 : Int) (σ : ZS), wpbX10_append_24 K24 v1 v3 v4 σ Q X → ∀ (H : Heap) (locs : List Loc) (ls : Array Slot), va_P D vwC (zC dA ad σ) H → va_D A (zC dA ad σ) → va_S A s.heap H locs → lv_has ls 6 [(0, .ref (ad 10 1000)), (1, .long (Int64.ofInt v1)), (3, .int (Int32.ofInt v3)), (4, .int (Int32.ofInt v4))] → W p l e (gR 6 1 6) s m #[.ref (ad 10 1000), .long (Int64.ofInt a1), .int (Int32.ofInt a2)] below meth c H locs 0 0 (vx_MQ below (va_Qi (zQi Q) (gAt D dA A (zC dA ad)) A) (zX D dA X (zC dA ad) A) #[.ref (ad 10 1000), .long (Int64.ofInt a1), .int (Int32.ofInt a2)] s 1 6 A) (F0 m 24 ls []) := by
    intro v1 v3 K24 hK24
    intro v4 σ hw H locs ls hP hD hS hl
    unfold wpbX10_append_24 at hw
    refine lv_iload hx hb dX10_append_24 (lv_at hl 3 rfl) ?_
    refine lv_iload_n hx hb dX10_append_26 rfl (lv_at hl 2 rfl) ?_
    obtain ⟨o6, hw⟩ := hw
    obtain ⟨o7, hw⟩ := hw
    refine z_icmp_ge (tgt := 68) hx hb o6 o7 dX10_append_27 (by decide) (fun k8 => ?_) (fun k8 => ?_)
    · replace hw := hw.1 k8
      refine lv_aload_n hx hb dX10_append_68 rfl (lv_at hl 0 rfl) ?_
      refine zgC10_1 hx hb hg hown hK hP q607 dX10_append_69 ?_
      refine lv_iload_n hx hb dX10_append_72 rfl (lv_at hl 2 rfl) ?_
      refine z_iadd hx hb dX10_append_73 ?_
      refine lv_sipush (v := Int32.ofInt 480) hx hb dX10_append_74 (by decide) ?_
      obtain ⟨o9, hw⟩ := hw
      refine z_icmp_le (tgt := 90) hx hb o9 (by decide) dX10_append_77 (by decide) (fun k10 => ?_) (fun k10 => ?_)
      · replace hw := hw.1 k10
        refine lv_iload_n hx hb dX10_append_90 rfl (lv_at hl 2 rfl) ?_
        refine lv_iconst (v := Int32.ofInt 1) hx hb dX10_append_91 (by decide) ?_
        refine z_isub hx hb dX10_append_92 ?_
        refine lv_istore (lv' := [(4, .int (Int32.ofInt (v3 - 1))), (0, .ref (ad 10 1000)), (1, .long (Int64.ofInt v1)), (3, .int (Int32.ofInt v3))]) hx hb dX10_append_93 hl (by decide) rfl (fun ls hl => ?_)
        exact j95 v1 (v3 - 1) σ _ _ _ hP hD hS (lv_sub hl [1, 2, 0] rfl) hw
      · replace hw := hw.2 k10
        exact zx_thr (cls := xIOB) (is := 105) (text := "the text is full") hx hb hg htr hown (by decide) q751 q164 (by decide +kernel) atIOB (by decide +kernel) hE hK hP hD hS hml hl.1 hnt hlocks dX10_append_80 dX10_append_83 dX10_append_84 dX10_append_86 dX10_append_89 (Nat.le_of_ble_eq_true rfl) (Nat.le_of_ble_eq_true rfl) (Nat.le_of_ble_eq_true rfl) (Nat.le_of_ble_eq_true rfl) (Nat.le_of_ble_eq_true rfl) (Nat.le_of_ble_eq_true rfl) hw
    · replace hw := hw.2 k8
      refine lv_lload_n hx hb dX10_append_30 rfl (lv_at hl 1 rfl) ?_
      refine lv_iload hx hb dX10_append_31 (lv_at hl 3 rfl) ?_
      refine z_Si (n := 2) (As := [.long (Int64.ofInt v1), .int (Int32.ofInt v4)]) (rest := []) hx hb hml hg hown hK hP hD hS hA (kX10_byteOf l D dA ad v1 v4 σ _ _ hw) q749 q149 q747 q748 (by decide +kernel) ⟨(Nat.le_of_ble_eq_true rfl), (Nat.le_of_ble_eq_true rfl)⟩ rfl hl.1 rfl (Nat.le_of_ble_eq_true rfl) dX10_append_33 ⟨(Nat.le_of_ble_eq_true rfl), (Nat.le_of_ble_eq_true rfl)⟩ (fun x11 σ12 H locs hw hP hD hS => ?_)
      refine lv_istore (lv' := [(5, .int (Int32.ofInt x11)), (0, .ref (ad 10 1000)), (1, .long (Int64.ofInt v1)), (3, .int (Int32.ofInt v3)), (4, .int (Int32.ofInt v4))]) hx hb dX10_append_36 hl (by decide) rfl (fun ls hl => ?_)
      refine lv_iload hx hb dX10_append_38 (lv_at hl 0 rfl) ?_
      refine lv_bipush (v := Int32.ofInt 32) hx hb dX10_append_40 (by decide) ?_
      obtain ⟨o13, hw⟩ := hw
      refine z_icmp_lt (tgt := 52) hx hb o13 (by decide) dX10_append_42 (by decide) (fun k14 => ?_) (fun k14 => ?_)
      · replace hw := hw.1 k14
        exact j52 σ12 _ _ _ hP hD hS (lv_sub hl [] rfl) hw
      · replace hw := hw.2 k14
        refine lv_iload hx hb dX10_append_45 (lv_at hl 0 rfl) ?_
        refine lv_bipush (v := Int32.ofInt 126) hx hb dX10_append_47 (by decide) ?_
        refine z_icmp_le (tgt := 62) hx hb o13 (by decide) dX10_append_49 (by decide) (fun k15 => ?_) (fun k15 => ?_)
        · replace hw := hw.1 k15
          refine lv_iinc (v := Int32.ofInt (v4 + 1)) (lv' := [(4, .int (Int32.ofInt (v4 + 1))), (5, .int (Int32.ofInt x11)), (0, .ref (ad 10 1000)), (1, .long (Int64.ofInt v1)), (3, .int (Int32.ofInt v3))]) hx hb dX10_append_62 hl (k := 4) rfl (Int32.ofInt_add _ _).symm (by decide) rfl (fun ls hl => ?_)
          refine lv_goto (tgt := 24) hx hb dX10_append_65 (by decide) ?_
          exact hK24 (v4 + 1) σ12 hw _ _ _ hP hD hS (lv_sub hl [2, 3, 4, 0] rfl)
        · replace hw := hw.2 k15
          exact j52 σ12 _ _ _ hP hD hS (lv_sub hl [] rfl) hw
  have j24 : ∀ (v1 v3 v4 : Int) (σ : ZS), ∀ (H : Heap) (locs : List Loc) (ls : Array Slot), va_P D vwC (zC dA ad σ) H → va_D A (zC dA ad σ) → va_S A s.heap H locs → lv_has ls 6 [(0, .ref (ad 10 1000)), (1, .long (Int64.ofInt v1)), (3, .int (Int32.ofInt v3)), (4, .int (Int32.ofInt v4))] → wpX10_append_24 v1 v3 v4 σ Q X → W p l e (gR 6 1 6) s m #[.ref (ad 10 1000), .long (Int64.ofInt a1), .int (Int32.ofInt a2)] below meth c H locs 0 0 (vx_MQ below (va_Qi (zQi Q) (gAt D dA A (zC dA ad)) A) (zX D dA X (zC dA ad) A) #[.ref (ad 10 1000), .long (Int64.ofInt a1), .int (Int32.ofInt a2)] s 1 6 A) (F0 m 24 ls []) := by
    intro v1 v3 v4 σ H locs ls hP hD hS hl hw
    exact hw (fun v4 σ => ∀ (H : Heap) (locs : List Loc) (ls : Array Slot), va_P D vwC (zC dA ad σ) H → va_D A (zC dA ad σ) → va_S A s.heap H locs → lv_has ls 6 [(0, .ref (ad 10 1000)), (1, .long (Int64.ofInt v1)), (3, .int (Int32.ofInt v3)), (4, .int (Int32.ofInt v4))] → W p l e (gR 6 1 6) s m #[.ref (ad 10 1000), .long (Int64.ofInt a1), .int (Int32.ofInt a2)] below meth c H locs 0 0 (vx_MQ below (va_Qi (zQi Q) (gAt D dA A (zC dA ad)) A) (zX D dA X (zC dA ad) A) #[.ref (ad 10 1000), .long (Int64.ofInt a1), .int (Int32.ofInt a2)] s 1 6 A) (F0 m 24 ls [])) (b24 v1 v3 (fun v4 σ => ∀ (H : Heap) (locs : List Loc) (ls : Array Slot), va_P D vwC (zC dA ad σ) H → va_D A (zC dA ad σ) → va_S A s.heap H locs → lv_has ls 6 [(0, .ref (ad 10 1000)), (1, .long (Int64.ofInt v1)), (3, .int (Int32.ofInt v3)), (4, .int (Int32.ofInt v4))] → W p l e (gR 6 1 6) s m #[.ref (ad 10 1000), .long (Int64.ofInt a1), .int (Int32.ofInt a2)] below meth c H locs 0 0 (vx_MQ below (va_Qi (zQi Q) (gAt D dA A (zC dA ad)) A) (zX D dA X (zC dA ad) A) #[.ref (ad 10 1000), .long (Int64.ofInt a1), .int (Int32.ofInt a2)] s 1 6 A) (F0 m 24 ls [])) (fun v4 σ h => h)) _ _ _ hP hD hS hl
  have j11 : ∀ (σ : ZS), ∀ (H : Heap) (locs : List Loc) (ls : Array Slot), va_P D vwC (zC dA ad σ) H → va_D A (zC dA ad σ) → va_S A s.heap H locs → lv_has ls 6 [] → wpX10_append_11 σ Q X → W p l e (gR 6 1 6) s m #[.ref (ad 10 1000), .long (Int64.ofInt a1), .int (Int32.ofInt a2)] below meth c H locs 0 0 (vx_MQ below (va_Qi (zQi Q) (gAt D dA A (zC dA ad)) A) (zX D dA X (zC dA ad) A) #[.ref (ad 10 1000), .long (Int64.ofInt a1), .int (Int32.ofInt a2)] s 1 6 A) (F0 m 11 ls []) := by
    intro σ H locs ls hP hD hS hl hw
    unfold wpX10_append_11 at hw
    exact zx_thr (cls := xIAE) (is := 92) (text := "n is not 1 .. 8") hx hb hg htr hown (by decide) q731 q167 (by decide +kernel) atIAE (by decide +kernel) hE hK hP hD hS hml hl.1 hnt hlocks dX10_append_11 dX10_append_14 dX10_append_15 dX10_append_17 dX10_append_20 (Nat.le_of_ble_eq_true rfl) (Nat.le_of_ble_eq_true rfl) (Nat.le_of_ble_eq_true rfl) (Nat.le_of_ble_eq_true rfl) (Nat.le_of_ble_eq_true rfl) (Nat.le_of_ble_eq_true rfl) hw
  unfold wpX10_append at hw
  refine lv_iload_n hx hb dX10_append_0 rfl (lv_at hl 2 rfl) ?_
  refine lv_iconst (v := Int32.ofInt 1) hx hb dX10_append_1 (by decide) ?_
  obtain ⟨o16, hw⟩ := hw
  refine z_icmp_lt (tgt := 11) hx hb o16 (by decide) dX10_append_2 (by decide) (fun k17 => ?_) (fun k17 => ?_)
  · replace hw := hw.1 k17
    exact j11 σ _ _ _ hP hD hS (lv_sub hl [] rfl) hw
  · replace hw := hw.2 k17
    refine lv_iload_n hx hb dX10_append_5 rfl (lv_at hl 2 rfl) ?_
    refine lv_bipush (v := Int32.ofInt 8) hx hb dX10_append_6 (by decide) ?_
    refine z_icmp_le (tgt := 21) hx hb o16 (by decide) dX10_append_8 (by decide) (fun k18 => ?_) (fun k18 => ?_)
    · replace hw := hw.1 k18
      refine lv_iconst (v := Int32.ofInt 0) hx hb dX10_append_21 (by decide) ?_
      refine lv_istore (lv' := [(4, .int (Int32.ofInt 0)), (0, .ref (ad 10 1000)), (1, .long (Int64.ofInt a1)), (3, .int (Int32.ofInt a2))]) hx hb dX10_append_22 hl (by decide) rfl (fun ls hl => ?_)
      exact j24 a1 a2 0 σ _ _ _ hP hD hS (lv_sub hl [1, 2, 3, 0] rfl) hw
    · replace hw := hw.2 k18
      exact j11 σ _ _ _ hP hD hS (lv_sub hl [] rfl) hw
def wpX10_drop (a1 : Int) (σ : ZS) (Q : Int → ZS → Prop) (X : String → ZS → Prop) : Prop := wpX10_isModule a1 σ (fun (x1 : Int) (σ2 : ZS) => (-2147483648 ≤ x1 ∧ x1 ≤ 2147483647) ∧ (¬ x1 = 0 → (0 ≤ a1 ∧ a1 < 3) ∧ wpX6_clear a1 σ2 (fun (σ7 : ZS) => (0 ≤ (zI σ2 a1 0) ∧ (zI σ2 a1 0) ≤ 1) ∧ Q (zI σ2 a1 0) σ7)) ∧ (x1 = 0 → X xIAE σ2))
set_option maxHeartbeats 4000000 in
set_option maxRecDepth 100000 in
theorem kX10_drop (l : Launch) (htr : l.stackTraces = false) (D : va_G) (dA : Nat → ClassId) (ad : Int → Nat → Nat) (tf tc : Nat) (aK aV : Nat → Nat) (a1 : Int) (σ : ZS) (Q : Int → ZS → Prop) (X : String → ZS → Prop) (sz : Nat) (hw : wpX10_drop a1 σ Q X) : vx_Met l yX10_drop (gws yX10_drop cX10_drop 3 (some .boolean)) (gR 6 1 6) (gPreE D dA tf tc aK aV [.ref (ad 10 1000), .int (Int32.ofInt a1)] (zC dA ad σ) sz) (va_Qi (zQi Q) (gAt D dA (va_A (zC dA ad σ) sz) (zC dA ad)) (va_A (zC dA ad σ) sz)) (zX D dA X (zC dA ad) (va_A (zC dA ad σ) sz)) 1 6 (va_A (zC dA ad σ) sz) := by
  refine vx_ofW (cc := cX10_drop) (maxL := 3) (ret := (some .boolean)) (by decide) rfl ?_
  intro p e s m args below meth c s₁ B hml hnt hv
  obtain ⟨rfl, hsz, hP, hK, hD0, hE⟩ := hv
  have hx := B.exec
  have hb := B.bytes
  have hr := B.returns
  have hts := atoms_spec (ws := gws yX10_drop cX10_drop 3 (some .boolean)) B.pre
  have hg : ∀ w ∈ gw, w.before _ s = true := fun w h => hts w (List.mem_cons_of_mem _ h)
  have hown : s.vm.findClass RX10 = some m.cls := findClass_of_methodNamed B.named
  have hlocks := B.notSynchronized
  subst hsz
  have hD := hD0.self (sz := s.heap.size)
  generalize hAe : va_A (zC dA ad σ) s.heap.size = A at hD hE ⊢
  have hA : ∀ q : Nat, s.heap.size ≤ q → A q := fun q h => by rw [← hAe]; exact Or.inr h
  have hS : va_S A s.heap s.heap [] := va_S.rf
  have hl := lv_entry ([.ref (ad 10 1000), .int (Int32.ofInt a1)]) (n := 3) (Nat.le_of_ble_eq_true rfl)
  rw [lg_entry_eq]
  generalize (lg_sl ([.ref (ad 10 1000), .int (Int32.ofInt a1)]) ++ List.replicate (3 - (lg_sl ([.ref (ad 10 1000), .int (Int32.ofInt a1)])).length) Slot.unset).toArray = ls at hl ⊢
  have hl : lv_has ls 3 [(0, .ref (ad 10 1000)), (1, .int (Int32.ofInt a1))] := hl
  have hret : ∀ (v : Int) (σ : ZS) (H : Heap) (locs : List Loc) (ls : Array Slot) (pc : Nat), (0 ≤ v ∧ v ≤ 1) → Q v σ → va_P D vwC (zC dA ad σ) H → va_D A (zC dA ad σ) → va_S A s.heap H locs → decode cX10_drop pc = .ok (.ireturn, 1) → W p l e (gR 6 1 6) s m #[.ref (ad 10 1000), .int (Int32.ofInt a1)] below meth c H locs 0 0 (vx_MQ below (va_Qi (zQi Q) (gAt D dA A (zC dA ad)) A) (zX D dA X (zC dA ad) A) #[.ref (ad 10 1000), .int (Int32.ofInt a1)] s 1 6 A) (F0 m pc ls [.int (Int32.ofInt v)]) := fun v σ H locs ls pc hv hw hP hD hS hd => vx_ret (g_iret hx hb hr (z_nb hv) hlocks hK σ hP hD hS ⟨v, rfl, hw⟩ (Nat.le_of_ble_eq_true rfl) (Nat.le_of_ble_eq_true rfl) hd)
  unfold wpX10_drop at hw
  refine lv_iload_n hx hb dX10_drop_0 rfl (lv_at hl 1 rfl) ?_
  refine z_Si (n := 1) (As := [.int (Int32.ofInt a1)]) (rest := []) hx hb hml hg hown hK hP hD hS hA (kX10_isModule l D dA ad a1 σ _ _ hw) q789 q149 q787 q788 (by decide +kernel) ⟨(Nat.le_of_ble_eq_true rfl), (Nat.le_of_ble_eq_true rfl)⟩ rfl hl.1 rfl (Nat.le_of_ble_eq_true rfl) dX10_drop_1 ⟨(Nat.le_of_ble_eq_true rfl), (Nat.le_of_ble_eq_true rfl)⟩ (fun x1 σ2 H locs hw hP hD hS => ?_)
  obtain ⟨o3, hw⟩ := hw
  refine z_if_ne (tgt := 17) hx hb o3 dX10_drop_4 (by decide) (fun k4 => ?_) (fun k4 => ?_)
  · replace hw := hw.1 k4
    refine lv_aload_n hx hb dX10_drop_17 rfl (lv_at hl 0 rfl) ?_
    refine zgC10_8 hx hb hg hown hK hP q614 dX10_drop_18 ?_
    refine lv_iload_n hx hb dX10_drop_21 rfl (lv_at hl 1 rfl) ?_
    obtain ⟨o5, hw⟩ := hw
    refine zlC10_8 hx hb o5 hK hP dX10_drop_22 ?_
    refine zgCM_0 hx hb hg hown (by clear hw; omega) hK hP q399 dX10_drop_23 ?_
    refine lv_istore_n (lv' := [(2, .int (Int32.ofInt (zI σ2 a1 0))), (0, .ref (ad 10 1000)), (1, .int (Int32.ofInt a1))]) hx hb dX10_drop_26 rfl hl (by decide) rfl (fun ls hl => ?_)
    refine lv_aload_n hx hb dX10_drop_27 rfl (lv_at hl 1 rfl) ?_
    refine zgC10_8 hx hb hg hown hK hP q614 dX10_drop_28 ?_
    refine lv_iload_n hx hb dX10_drop_31 rfl (lv_at hl 2 rfl) ?_
    refine zlC10_8 hx hb o5 hK hP dX10_drop_32 ?_
    refine z_Vv (n := 0) (As := []) (rest := []) hx hb hml hg hown hK hP hD hS hA (kX6_clear l D dA ad a1 σ2 _ _ hw) (zoCM (by clear hw; omega)) rfl q1197 q156 q1251 q1195 q1196 (by decide +kernel) ⟨(Nat.le_of_ble_eq_true rfl), (Nat.le_of_ble_eq_true rfl)⟩ rfl hl.1 rfl (Nat.le_of_ble_eq_true rfl) dX10_drop_33 ⟨(Nat.le_of_ble_eq_true rfl), (Nat.le_of_ble_eq_true rfl)⟩ (fun σ7 H locs hw hP hD hS => ?_)
    refine lv_iload_n hx hb dX10_drop_36 rfl (lv_at hl 0 rfl) ?_
    obtain ⟨o8, hw⟩ := hw
    exact hret (zI σ2 a1 0) σ7 _ _ _ _ o8 hw hP hD hS dX10_drop_37
  · replace hw := hw.2 k4
    exact zx_thr (cls := xIAE) (is := 112) (text := "module is not 0 .. 2") hx hb hg htr hown (by decide) q731 q167 (by decide +kernel) atIAE (by decide +kernel) hE hK hP hD hS hml hl.1 hnt hlocks dX10_drop_7 dX10_drop_10 dX10_drop_11 dX10_drop_13 dX10_drop_16 (Nat.le_of_ble_eq_true rfl) (Nat.le_of_ble_eq_true rfl) (Nat.le_of_ble_eq_true rfl) (Nat.le_of_ble_eq_true rfl) (Nat.le_of_ble_eq_true rfl) (Nat.le_of_ble_eq_true rfl) hw
def wpX10_load_11 (σ : ZS) (Q : Int → ZS → Prop) (X : String → ZS → Prop) : Prop := X xIAE σ
def wpX10_load (a1 : Int) (σ : ZS) (Q : Int → ZS → Prop) (X : String → ZS → Prop) : Prop := (-2147483648 ≤ a1 ∧ a1 ≤ 2147483647) ∧ (a1 < 0 → wpX10_load_11 σ Q X) ∧ (¬ a1 < 0 → (a1 ≤ 255 → (-2147483648 ≤ (zI σ 17 0) ∧ (zI σ 17 0) ≤ 2147483647) ∧ (¬ (zI σ 17 0) = 0 → wpX4_start a1 σ (fun (σ7 : ZS) => Q (zI σ7 18 3) σ7)) ∧ ((zI σ 17 0) = 0 → X xISE σ)) ∧ (¬ a1 ≤ 255 → wpX10_load_11 σ Q X))
set_option maxHeartbeats 4000000 in
set_option maxRecDepth 100000 in
theorem kX10_load (l : Launch) (htr : l.stackTraces = false) (D : va_G) (dA : Nat → ClassId) (ad : Int → Nat → Nat) (tf tc : Nat) (aK aV : Nat → Nat) (a1 : Int) (σ : ZS) (Q : Int → ZS → Prop) (X : String → ZS → Prop) (sz : Nat) (hw : wpX10_load a1 σ Q X) : vx_Met l yX10_load (gws yX10_load cX10_load 2 (some .int)) (gR 6 1 6) (gPreE D dA tf tc aK aV [.ref (ad 10 1000), .int (Int32.ofInt a1)] (zC dA ad σ) sz) (va_Qi (zQi Q) (gAt D dA (va_A (zC dA ad σ) sz) (zC dA ad)) (va_A (zC dA ad σ) sz)) (zX D dA X (zC dA ad) (va_A (zC dA ad σ) sz)) 1 6 (va_A (zC dA ad σ) sz) := by
  refine vx_ofW (cc := cX10_load) (maxL := 2) (ret := (some .int)) (by decide) rfl ?_
  intro p e s m args below meth c s₁ B hml hnt hv
  obtain ⟨rfl, hsz, hP, hK, hD0, hE⟩ := hv
  have hx := B.exec
  have hb := B.bytes
  have hr := B.returns
  have hts := atoms_spec (ws := gws yX10_load cX10_load 2 (some .int)) B.pre
  have hg : ∀ w ∈ gw, w.before _ s = true := fun w h => hts w (List.mem_cons_of_mem _ h)
  have hown : s.vm.findClass RX10 = some m.cls := findClass_of_methodNamed B.named
  have hlocks := B.notSynchronized
  subst hsz
  have hD := hD0.self (sz := s.heap.size)
  generalize hAe : va_A (zC dA ad σ) s.heap.size = A at hD hE ⊢
  have hA : ∀ q : Nat, s.heap.size ≤ q → A q := fun q h => by rw [← hAe]; exact Or.inr h
  have hS : va_S A s.heap s.heap [] := va_S.rf
  have hl := lv_entry ([.ref (ad 10 1000), .int (Int32.ofInt a1)]) (n := 2) (Nat.le_of_ble_eq_true rfl)
  rw [lg_entry_eq]
  generalize (lg_sl ([.ref (ad 10 1000), .int (Int32.ofInt a1)]) ++ List.replicate (2 - (lg_sl ([.ref (ad 10 1000), .int (Int32.ofInt a1)])).length) Slot.unset).toArray = ls at hl ⊢
  have hl : lv_has ls 2 [(0, .ref (ad 10 1000)), (1, .int (Int32.ofInt a1))] := hl
  have hret : ∀ (v : Int) (σ : ZS) (H : Heap) (locs : List Loc) (ls : Array Slot) (pc : Nat), Q v σ → va_P D vwC (zC dA ad σ) H → va_D A (zC dA ad σ) → va_S A s.heap H locs → decode cX10_load pc = .ok (.ireturn, 1) → W p l e (gR 6 1 6) s m #[.ref (ad 10 1000), .int (Int32.ofInt a1)] below meth c H locs 0 0 (vx_MQ below (va_Qi (zQi Q) (gAt D dA A (zC dA ad)) A) (zX D dA X (zC dA ad) A) #[.ref (ad 10 1000), .int (Int32.ofInt a1)] s 1 6 A) (F0 m pc ls [.int (Int32.ofInt v)]) := fun v σ H locs ls pc hw hP hD hS hd => vx_ret (g_iret hx hb hr rfl hlocks hK σ hP hD hS ⟨v, rfl, hw⟩ (Nat.le_of_ble_eq_true rfl) (Nat.le_of_ble_eq_true rfl) hd)
  have j11 : ∀ (σ : ZS), ∀ (H : Heap) (locs : List Loc) (ls : Array Slot), va_P D vwC (zC dA ad σ) H → va_D A (zC dA ad σ) → va_S A s.heap H locs → lv_has ls 2 [] → wpX10_load_11 σ Q X → W p l e (gR 6 1 6) s m #[.ref (ad 10 1000), .int (Int32.ofInt a1)] below meth c H locs 0 0 (vx_MQ below (va_Qi (zQi Q) (gAt D dA A (zC dA ad)) A) (zX D dA X (zC dA ad) A) #[.ref (ad 10 1000), .int (Int32.ofInt a1)] s 1 6 A) (F0 m 11 ls []) := by
    intro σ H locs ls hP hD hS hl hw
    unfold wpX10_load_11 at hw
    exact zx_thr (cls := xIAE) (is := 200) (text := "paragraph is not 0 .. 255") hx hb hg htr hown (by decide) q731 q167 (by decide +kernel) atIAE (by decide +kernel) hE hK hP hD hS hml hl.1 hnt hlocks dX10_load_11 dX10_load_14 dX10_load_15 dX10_load_17 dX10_load_20 (Nat.le_of_ble_eq_true rfl) (Nat.le_of_ble_eq_true rfl) (Nat.le_of_ble_eq_true rfl) (Nat.le_of_ble_eq_true rfl) (Nat.le_of_ble_eq_true rfl) (Nat.le_of_ble_eq_true rfl) hw
  unfold wpX10_load at hw
  refine lv_iload_n hx hb dX10_load_0 rfl (lv_at hl 1 rfl) ?_
  obtain ⟨o1, hw⟩ := hw
  refine z_if_lt (tgt := 11) hx hb o1 dX10_load_1 (by decide) (fun k2 => ?_) (fun k2 => ?_)
  · replace hw := hw.1 k2
    exact j11 σ _ _ _ hP hD hS (lv_sub hl [] rfl) hw
  · replace hw := hw.2 k2
    refine lv_iload_n hx hb dX10_load_4 rfl (lv_at hl 1 rfl) ?_
    refine lv_sipush (v := Int32.ofInt 255) hx hb dX10_load_5 (by decide) ?_
    refine z_icmp_le (tgt := 21) hx hb o1 (by decide) dX10_load_8 (by decide) (fun k3 => ?_) (fun k3 => ?_)
    · replace hw := hw.1 k3
      refine lv_aload_n hx hb dX10_load_21 rfl (lv_at hl 0 rfl) ?_
      refine zgC10_10 hx hb hg hown hK hP q616 dX10_load_22 ?_
      refine zgC17_0 hx hb hg hown hK hP q512 dX10_load_25 ?_
      obtain ⟨o4, hw⟩ := hw
      refine z_if_ne (tgt := 41) hx hb o4 dX10_load_28 (by decide) (fun k5 => ?_) (fun k5 => ?_)
      · replace hw := hw.1 k5
        refine lv_aload_n hx hb dX10_load_41 rfl (lv_at hl 0 rfl) ?_
        refine zgC10_11 hx hb hg hown hK hP q617 dX10_load_42 ?_
        refine lv_aload_n hx hb dX10_load_45 rfl (lv_at hl 0 rfl) ?_
        refine zgC10_10 hx hb hg hown hK hP q616 dX10_load_46 ?_
        refine lv_iload_n hx hb dX10_load_49 rfl (lv_at hl 1 rfl) ?_
        refine z_Vv (n := 2) (As := [.ref (ad 17 1000), .int (Int32.ofInt a1)]) (rest := []) hx hb hml hg hown hK hP hD hS hA (kX4_start l D dA ad a1 σ _ _ hw) (zoC18) rfl q1373 q159 q1370 q1371 q1372 (by decide +kernel) ⟨(Nat.le_of_ble_eq_true rfl), (Nat.le_of_ble_eq_true rfl)⟩ rfl hl.1 rfl (Nat.le_of_ble_eq_true rfl) dX10_load_50 ⟨(Nat.le_of_ble_eq_true rfl), (Nat.le_of_ble_eq_true rfl)⟩ (fun σ7 H locs hw hP hD hS => ?_)
        refine lv_aload_n hx hb dX10_load_53 rfl (lv_at hl 0 rfl) ?_
        refine zgC10_11 hx hb hg hown hK hP q617 dX10_load_54 ?_
        refine zgC18_3 hx hb hg hown hK hP q559 dX10_load_57 ?_
        exact hret (zI σ7 18 3) σ7 _ _ _ _ hw hP hD hS dX10_load_60
      · replace hw := hw.2 k5
        exact zx_thr (cls := xISE) (is := 203) (text := "there is no image") hx hb hg htr hown (by decide) q1264 q178 (by decide +kernel) atISE (by decide +kernel) hE hK hP hD hS hml hl.1 hnt hlocks dX10_load_31 dX10_load_34 dX10_load_35 dX10_load_37 dX10_load_40 (Nat.le_of_ble_eq_true rfl) (Nat.le_of_ble_eq_true rfl) (Nat.le_of_ble_eq_true rfl) (Nat.le_of_ble_eq_true rfl) (Nat.le_of_ble_eq_true rfl) (Nat.le_of_ble_eq_true rfl) hw
    · replace hw := hw.2 k3
      exact j11 σ _ _ _ hP hD hS (lv_sub hl [] rfl) hw
def wpX10_run_12 (σ : ZS) (Q : Int → ZS → Prop) (X : String → ZS → Prop) : Prop := X xIAE σ
def wpX10_run (a1 : Int) (σ : ZS) (Q : Int → ZS → Prop) (X : String → ZS → Prop) : Prop := (-2147483648 ≤ a1 ∧ a1 ≤ 2147483647) ∧ (a1 < 1 → wpX10_run_12 σ Q X) ∧ (¬ a1 < 1 → (a1 ≤ 400 → (-2147483648 ≤ (zI σ 18 7) ∧ (zI σ 18 7) ≤ 2147483647) ∧ ((zI σ 18 7) = 0 → wpX4_go a1 σ (fun (x6 : Int) (σ7 : ZS) => Q x6 σ7)) ∧ (¬ (zI σ 18 7) = 0 → X xISE σ)) ∧ (¬ a1 ≤ 400 → wpX10_run_12 σ Q X))
set_option maxHeartbeats 4000000 in
set_option maxRecDepth 100000 in
theorem kX10_run (l : Launch) (htr : l.stackTraces = false) (D : va_G) (dA : Nat → ClassId) (ad : Int → Nat → Nat) (tf tc : Nat) (aK aV : Nat → Nat) (a1 : Int) (σ : ZS) (Q : Int → ZS → Prop) (X : String → ZS → Prop) (sz : Nat) (hw : wpX10_run a1 σ Q X) : vx_Met l yX10_run (gws yX10_run cX10_run 2 (some .int)) (gR 7 1 6) (gPreE D dA tf tc aK aV [.ref (ad 10 1000), .int (Int32.ofInt a1)] (zC dA ad σ) sz) (va_Qi (zQi Q) (gAt D dA (va_A (zC dA ad σ) sz) (zC dA ad)) (va_A (zC dA ad σ) sz)) (zX D dA X (zC dA ad) (va_A (zC dA ad σ) sz)) 1 6 (va_A (zC dA ad σ) sz) := by
  refine vx_ofW (cc := cX10_run) (maxL := 2) (ret := (some .int)) (by decide) rfl ?_
  intro p e s m args below meth c s₁ B hml hnt hv
  obtain ⟨rfl, hsz, hP, hK, hD0, hE⟩ := hv
  have hx := B.exec
  have hb := B.bytes
  have hr := B.returns
  have hts := atoms_spec (ws := gws yX10_run cX10_run 2 (some .int)) B.pre
  have hg : ∀ w ∈ gw, w.before _ s = true := fun w h => hts w (List.mem_cons_of_mem _ h)
  have hown : s.vm.findClass RX10 = some m.cls := findClass_of_methodNamed B.named
  have hlocks := B.notSynchronized
  subst hsz
  have hD := hD0.self (sz := s.heap.size)
  generalize hAe : va_A (zC dA ad σ) s.heap.size = A at hD hE ⊢
  have hA : ∀ q : Nat, s.heap.size ≤ q → A q := fun q h => by rw [← hAe]; exact Or.inr h
  have hS : va_S A s.heap s.heap [] := va_S.rf
  have hl := lv_entry ([.ref (ad 10 1000), .int (Int32.ofInt a1)]) (n := 2) (Nat.le_of_ble_eq_true rfl)
  rw [lg_entry_eq]
  generalize (lg_sl ([.ref (ad 10 1000), .int (Int32.ofInt a1)]) ++ List.replicate (2 - (lg_sl ([.ref (ad 10 1000), .int (Int32.ofInt a1)])).length) Slot.unset).toArray = ls at hl ⊢
  have hl : lv_has ls 2 [(0, .ref (ad 10 1000)), (1, .int (Int32.ofInt a1))] := hl
  have hret : ∀ (v : Int) (σ : ZS) (H : Heap) (locs : List Loc) (ls : Array Slot) (pc : Nat), Q v σ → va_P D vwC (zC dA ad σ) H → va_D A (zC dA ad σ) → va_S A s.heap H locs → decode cX10_run pc = .ok (.ireturn, 1) → W p l e (gR 7 1 6) s m #[.ref (ad 10 1000), .int (Int32.ofInt a1)] below meth c H locs 0 0 (vx_MQ below (va_Qi (zQi Q) (gAt D dA A (zC dA ad)) A) (zX D dA X (zC dA ad) A) #[.ref (ad 10 1000), .int (Int32.ofInt a1)] s 1 6 A) (F0 m pc ls [.int (Int32.ofInt v)]) := fun v σ H locs ls pc hw hP hD hS hd => vx_ret (g_iret hx hb hr rfl hlocks hK σ hP hD hS ⟨v, rfl, hw⟩ (Nat.le_of_ble_eq_true rfl) (Nat.le_of_ble_eq_true rfl) hd)
  have j12 : ∀ (σ : ZS), ∀ (H : Heap) (locs : List Loc) (ls : Array Slot), va_P D vwC (zC dA ad σ) H → va_D A (zC dA ad σ) → va_S A s.heap H locs → lv_has ls 2 [] → wpX10_run_12 σ Q X → W p l e (gR 7 1 6) s m #[.ref (ad 10 1000), .int (Int32.ofInt a1)] below meth c H locs 0 0 (vx_MQ below (va_Qi (zQi Q) (gAt D dA A (zC dA ad)) A) (zX D dA X (zC dA ad) A) #[.ref (ad 10 1000), .int (Int32.ofInt a1)] s 1 6 A) (F0 m 12 ls []) := by
    intro σ H locs ls hP hD hS hl hw
    unfold wpX10_run_12 at hw
    exact zx_thr (cls := xIAE) (is := 211) (text := "fuel is not 1 .. 400") hx hb hg htr hown (by decide) q731 q167 (by decide +kernel) atIAE (by decide +kernel) hE hK hP hD hS hml hl.1 hnt hlocks dX10_run_12 dX10_run_15 dX10_run_16 dX10_run_18 dX10_run_21 (Nat.le_of_ble_eq_true rfl) (Nat.le_of_ble_eq_true rfl) (Nat.le_of_ble_eq_true rfl) (Nat.le_of_ble_eq_true rfl) (Nat.le_of_ble_eq_true rfl) (Nat.le_of_ble_eq_true rfl) hw
  unfold wpX10_run at hw
  refine lv_iload_n hx hb dX10_run_0 rfl (lv_at hl 1 rfl) ?_
  refine lv_iconst (v := Int32.ofInt 1) hx hb dX10_run_1 (by decide) ?_
  obtain ⟨o1, hw⟩ := hw
  refine z_icmp_lt (tgt := 12) hx hb o1 (by decide) dX10_run_2 (by decide) (fun k2 => ?_) (fun k2 => ?_)
  · replace hw := hw.1 k2
    exact j12 σ _ _ _ hP hD hS (lv_sub hl [] rfl) hw
  · replace hw := hw.2 k2
    refine lv_iload_n hx hb dX10_run_5 rfl (lv_at hl 1 rfl) ?_
    refine lv_sipush (v := Int32.ofInt 400) hx hb dX10_run_6 (by decide) ?_
    refine z_icmp_le (tgt := 22) hx hb o1 (by decide) dX10_run_9 (by decide) (fun k3 => ?_) (fun k3 => ?_)
    · replace hw := hw.1 k3
      refine lv_aload_n hx hb dX10_run_22 rfl (lv_at hl 0 rfl) ?_
      refine zgC10_11 hx hb hg hown hK hP q617 dX10_run_23 ?_
      refine zgC18_7 hx hb hg hown hK hP q567 dX10_run_26 ?_
      obtain ⟨o4, hw⟩ := hw
      refine z_if_eq (tgt := 42) hx hb o4 dX10_run_29 (by decide) (fun k5 => ?_) (fun k5 => ?_)
      · replace hw := hw.1 k5
        refine lv_aload_n hx hb dX10_run_42 rfl (lv_at hl 0 rfl) ?_
        refine zgC10_11 hx hb hg hown hK hP q617 dX10_run_43 ?_
        refine lv_iload_n hx hb dX10_run_46 rfl (lv_at hl 1 rfl) ?_
        refine z_Vi (n := 1) (As := [.int (Int32.ofInt a1)]) (rest := []) hx hb hml hg hown hK hP hD hS hA (kX4_go l D dA ad a1 σ _ _ hw) (zoC18) rfl q1395 q159 q1392 q1393 q1394 (by decide +kernel) ⟨(Nat.le_of_ble_eq_true rfl), (Nat.le_of_ble_eq_true rfl)⟩ rfl hl.1 rfl (Nat.le_of_ble_eq_true rfl) dX10_run_47 ⟨(Nat.le_of_ble_eq_true rfl), (Nat.le_of_ble_eq_true rfl)⟩ (fun x6 σ7 H locs hw hP hD hS => ?_)
        exact hret x6 σ7 _ _ _ _ hw hP hD hS dX10_run_50
      · replace hw := hw.2 k5
        exact zx_thr (cls := xISE) (is := 216) (text := "the machine has halted") hx hb hg htr hown (by decide) q1264 q178 (by decide +kernel) atISE (by decide +kernel) hE hK hP hD hS hml hl.1 hnt hlocks dX10_run_32 dX10_run_35 dX10_run_36 dX10_run_38 dX10_run_41 (Nat.le_of_ble_eq_true rfl) (Nat.le_of_ble_eq_true rfl) (Nat.le_of_ble_eq_true rfl) (Nat.le_of_ble_eq_true rfl) (Nat.le_of_ble_eq_true rfl) (Nat.le_of_ble_eq_true rfl) hw
    · replace hw := hw.2 k3
      exact j12 σ _ _ _ hP hD hS (lv_sub hl [] rfl) hw
def wpX10_code_63 (σ : ZS) (Q : Int → ZS → Prop) (X : String → ZS → Prop) : Prop := X xIOB σ
def wpX10_code_38 (σ : ZS) (Q : Int → ZS → Prop) (X : String → ZS → Prop) : Prop := X xIOB σ
def wpX10_code (a1 a2 a3 : Int) (σ : ZS) (Q : Int → ZS → Prop) (X : String → ZS → Prop) : Prop := wpX10_isModule a1 σ (fun (x1 : Int) (σ2 : ZS) => (-2147483648 ≤ x1 ∧ x1 ≤ 2147483647) ∧ (¬ x1 = 0 → (0 ≤ a1 ∧ a1 < 3) ∧ (-2147483648 ≤ a2 ∧ a2 ≤ 2147483647) ∧ (a2 < 0 → wpX10_code_38 σ2 Q X) ∧ (¬ a2 < 0 → (-2147483648 ≤ (zI σ2 a1 1) ∧ (zI σ2 a1 1) ≤ 2147483647) ∧ (a2 < (zI σ2 a1 1) → (-2147483648 ≤ a3 ∧ a3 ≤ 2147483647) ∧ (a3 < 0 → wpX10_code_63 σ2 Q X) ∧ (¬ a3 < 0 → (0 ≤ a2 ∧ a2 < 24) ∧ (-2147483648 ≤ (zA σ2 a1 4 a2) ∧ (zA σ2 a1 4 a2) ≤ 2147483647) ∧ (a3 < (zA σ2 a1 4 a2) → (0 ≤ ((zA σ2 a1 5 a2) + a3) ∧ ((zA σ2 a1 5 a2) + a3) < 400) ∧ Q (zA σ2 a1 6 ((zA σ2 a1 5 a2) + a3)) σ2) ∧ (¬ a3 < (zA σ2 a1 4 a2) → wpX10_code_63 σ2 Q X))) ∧ (¬ a2 < (zI σ2 a1 1) → wpX10_code_38 σ2 Q X))) ∧ (x1 = 0 → X xIOB σ2))
set_option maxHeartbeats 4000000 in
set_option maxRecDepth 100000 in
theorem kX10_code (l : Launch) (htr : l.stackTraces = false) (D : va_G) (dA : Nat → ClassId) (ad : Int → Nat → Nat) (tf tc : Nat) (aK aV : Nat → Nat) (a1 a2 a3 : Int) (σ : ZS) (Q : Int → ZS → Prop) (X : String → ZS → Prop) (sz : Nat) (hw : wpX10_code a1 a2 a3 σ Q X) : vx_Met l yX10_code (gws yX10_code cX10_code 5 (some .int)) (gR 6 1 6) (gPreE D dA tf tc aK aV [.ref (ad 10 1000), .int (Int32.ofInt a1), .int (Int32.ofInt a2), .int (Int32.ofInt a3)] (zC dA ad σ) sz) (va_Qi (zQi Q) (gAt D dA (va_A (zC dA ad σ) sz) (zC dA ad)) (va_A (zC dA ad σ) sz)) (zX D dA X (zC dA ad) (va_A (zC dA ad σ) sz)) 1 6 (va_A (zC dA ad σ) sz) := by
  refine vx_ofW (cc := cX10_code) (maxL := 5) (ret := (some .int)) (by decide) rfl ?_
  intro p e s m args below meth c s₁ B hml hnt hv
  obtain ⟨rfl, hsz, hP, hK, hD0, hE⟩ := hv
  have hx := B.exec
  have hb := B.bytes
  have hr := B.returns
  have hts := atoms_spec (ws := gws yX10_code cX10_code 5 (some .int)) B.pre
  have hg : ∀ w ∈ gw, w.before _ s = true := fun w h => hts w (List.mem_cons_of_mem _ h)
  have hown : s.vm.findClass RX10 = some m.cls := findClass_of_methodNamed B.named
  have hlocks := B.notSynchronized
  subst hsz
  have hD := hD0.self (sz := s.heap.size)
  generalize hAe : va_A (zC dA ad σ) s.heap.size = A at hD hE ⊢
  have hA : ∀ q : Nat, s.heap.size ≤ q → A q := fun q h => by rw [← hAe]; exact Or.inr h
  have hS : va_S A s.heap s.heap [] := va_S.rf
  have hl := lv_entry ([.ref (ad 10 1000), .int (Int32.ofInt a1), .int (Int32.ofInt a2), .int (Int32.ofInt a3)]) (n := 5) (Nat.le_of_ble_eq_true rfl)
  rw [lg_entry_eq]
  generalize (lg_sl ([.ref (ad 10 1000), .int (Int32.ofInt a1), .int (Int32.ofInt a2), .int (Int32.ofInt a3)]) ++ List.replicate (5 - (lg_sl ([.ref (ad 10 1000), .int (Int32.ofInt a1), .int (Int32.ofInt a2), .int (Int32.ofInt a3)])).length) Slot.unset).toArray = ls at hl ⊢
  have hl : lv_has ls 5 [(0, .ref (ad 10 1000)), (1, .int (Int32.ofInt a1)), (2, .int (Int32.ofInt a2)), (3, .int (Int32.ofInt a3))] := hl
  have hret : ∀ (v : Int) (σ : ZS) (H : Heap) (locs : List Loc) (ls : Array Slot) (pc : Nat), Q v σ → va_P D vwC (zC dA ad σ) H → va_D A (zC dA ad σ) → va_S A s.heap H locs → decode cX10_code pc = .ok (.ireturn, 1) → W p l e (gR 6 1 6) s m #[.ref (ad 10 1000), .int (Int32.ofInt a1), .int (Int32.ofInt a2), .int (Int32.ofInt a3)] below meth c H locs 0 0 (vx_MQ below (va_Qi (zQi Q) (gAt D dA A (zC dA ad)) A) (zX D dA X (zC dA ad) A) #[.ref (ad 10 1000), .int (Int32.ofInt a1), .int (Int32.ofInt a2), .int (Int32.ofInt a3)] s 1 6 A) (F0 m pc ls [.int (Int32.ofInt v)]) := fun v σ H locs ls pc hw hP hD hS hd => vx_ret (g_iret hx hb hr rfl hlocks hK σ hP hD hS ⟨v, rfl, hw⟩ (Nat.le_of_ble_eq_true rfl) (Nat.le_of_ble_eq_true rfl) hd)
  have j63 : ∀ (σ : ZS), ∀ (H : Heap) (locs : List Loc) (ls : Array Slot), va_P D vwC (zC dA ad σ) H → va_D A (zC dA ad σ) → va_S A s.heap H locs → lv_has ls 5 [] → wpX10_code_63 σ Q X → W p l e (gR 6 1 6) s m #[.ref (ad 10 1000), .int (Int32.ofInt a1), .int (Int32.ofInt a2), .int (Int32.ofInt a3)] below meth c H locs 0 0 (vx_MQ below (va_Qi (zQi Q) (gAt D dA A (zC dA ad)) A) (zX D dA X (zC dA ad) A) #[.ref (ad 10 1000), .int (Int32.ofInt a1), .int (Int32.ofInt a2), .int (Int32.ofInt a3)] s 1 6 A) (F0 m 63 ls []) := by
    intro σ H locs ls hP hD hS hl hw
    unfold wpX10_code_63 at hw
    exact zx_thr (cls := xIOB) (is := 233) (text := "there is no such byte") hx hb hg htr hown (by decide) q751 q164 (by decide +kernel) atIOB (by decide +kernel) hE hK hP hD hS hml hl.1 hnt hlocks dX10_code_63 dX10_code_66 dX10_code_67 dX10_code_69 dX10_code_72 (Nat.le_of_ble_eq_true rfl) (Nat.le_of_ble_eq_true rfl) (Nat.le_of_ble_eq_true rfl) (Nat.le_of_ble_eq_true rfl) (Nat.le_of_ble_eq_true rfl) (Nat.le_of_ble_eq_true rfl) hw
  have j38 : ∀ (σ : ZS), ∀ (H : Heap) (locs : List Loc) (ls : Array Slot), va_P D vwC (zC dA ad σ) H → va_D A (zC dA ad σ) → va_S A s.heap H locs → lv_has ls 5 [] → wpX10_code_38 σ Q X → W p l e (gR 6 1 6) s m #[.ref (ad 10 1000), .int (Int32.ofInt a1), .int (Int32.ofInt a2), .int (Int32.ofInt a3)] below meth c H locs 0 0 (vx_MQ below (va_Qi (zQi Q) (gAt D dA A (zC dA ad)) A) (zX D dA X (zC dA ad) A) #[.ref (ad 10 1000), .int (Int32.ofInt a1), .int (Int32.ofInt a2), .int (Int32.ofInt a3)] s 1 6 A) (F0 m 38 ls []) := by
    intro σ H locs ls hP hD hS hl hw
    unfold wpX10_code_38 at hw
    exact zx_thr (cls := xIOB) (is := 227) (text := "there is no such segment") hx hb hg htr hown (by decide) q751 q164 (by decide +kernel) atIOB (by decide +kernel) hE hK hP hD hS hml hl.1 hnt hlocks dX10_code_38 dX10_code_41 dX10_code_42 dX10_code_44 dX10_code_47 (Nat.le_of_ble_eq_true rfl) (Nat.le_of_ble_eq_true rfl) (Nat.le_of_ble_eq_true rfl) (Nat.le_of_ble_eq_true rfl) (Nat.le_of_ble_eq_true rfl) (Nat.le_of_ble_eq_true rfl) hw
  unfold wpX10_code at hw
  refine lv_iload_n hx hb dX10_code_0 rfl (lv_at hl 1 rfl) ?_
  refine z_Si (n := 1) (As := [.int (Int32.ofInt a1)]) (rest := []) hx hb hml hg hown hK hP hD hS hA (kX10_isModule l D dA ad a1 σ _ _ hw) q789 q149 q787 q788 (by decide +kernel) ⟨(Nat.le_of_ble_eq_true rfl), (Nat.le_of_ble_eq_true rfl)⟩ rfl hl.1 rfl (Nat.le_of_ble_eq_true rfl) dX10_code_1 ⟨(Nat.le_of_ble_eq_true rfl), (Nat.le_of_ble_eq_true rfl)⟩ (fun x1 σ2 H locs hw hP hD hS => ?_)
  obtain ⟨o3, hw⟩ := hw
  refine z_if_ne (tgt := 17) hx hb o3 dX10_code_4 (by decide) (fun k4 => ?_) (fun k4 => ?_)
  · replace hw := hw.1 k4
    refine lv_aload_n hx hb dX10_code_17 rfl (lv_at hl 0 rfl) ?_
    refine zgC10_8 hx hb hg hown hK hP q614 dX10_code_18 ?_
    refine lv_iload_n hx hb dX10_code_21 rfl (lv_at hl 1 rfl) ?_
    obtain ⟨o5, hw⟩ := hw
    refine zlC10_8 hx hb o5 hK hP dX10_code_22 ?_
    refine lv_astore (lv' := [(4, .ref (ad a1 1000)), (0, .ref (ad 10 1000)), (1, .int (Int32.ofInt a1)), (2, .int (Int32.ofInt a2)), (3, .int (Int32.ofInt a3))]) hx hb dX10_code_23 hl (by decide) rfl (fun ls hl => ?_)
    refine lv_iload_n hx hb dX10_code_25 rfl (lv_at hl 3 rfl) ?_
    obtain ⟨o6, hw⟩ := hw
    refine z_if_lt (tgt := 38) hx hb o6 dX10_code_26 (by decide) (fun k7 => ?_) (fun k7 => ?_)
    · replace hw := hw.1 k7
      exact j38 σ2 _ _ _ hP hD hS (lv_sub hl [] rfl) hw
    · replace hw := hw.2 k7
      refine lv_iload_n hx hb dX10_code_29 rfl (lv_at hl 3 rfl) ?_
      refine lv_aload hx hb dX10_code_30 (lv_at hl 0 rfl) ?_
      refine zgCM_1 hx hb hg hown (by clear hw; omega) hK hP q403 dX10_code_32 ?_
      obtain ⟨o8, hw⟩ := hw
      refine z_icmp_lt (tgt := 48) hx hb o6 o8 dX10_code_35 (by decide) (fun k9 => ?_) (fun k9 => ?_)
      · replace hw := hw.1 k9
        refine lv_iload_n hx hb dX10_code_48 rfl (lv_at hl 4 rfl) ?_
        obtain ⟨o10, hw⟩ := hw
        refine z_if_lt (tgt := 63) hx hb o10 dX10_code_49 (by decide) (fun k11 => ?_) (fun k11 => ?_)
        · replace hw := hw.1 k11
          exact j63 σ2 _ _ _ hP hD hS (lv_sub hl [] rfl) hw
        · replace hw := hw.2 k11
          refine lv_iload_n hx hb dX10_code_52 rfl (lv_at hl 4 rfl) ?_
          refine lv_aload hx hb dX10_code_53 (lv_at hl 0 rfl) ?_
          refine zgCM_4 hx hb hg hown (by clear hw; omega) hK hP q409 dX10_code_55 ?_
          refine lv_iload_n hx hb dX10_code_58 rfl (lv_at hl 3 rfl) ?_
          obtain ⟨o12, hw⟩ := hw
          refine zlCM_4 hx hb (by clear hw; omega) o12 hK hP dX10_code_59 ?_
          obtain ⟨o13, hw⟩ := hw
          refine z_icmp_lt (tgt := 73) hx hb o10 o13 dX10_code_60 (by decide) (fun k14 => ?_) (fun k14 => ?_)
          · replace hw := hw.1 k14
            refine lv_aload hx hb dX10_code_73 (lv_at hl 0 rfl) ?_
            refine zgCM_6 hx hb hg hown (by clear hw; omega) hK hP q415 dX10_code_75 ?_
            refine lv_aload hx hb dX10_code_78 (lv_at hl 0 rfl) ?_
            refine zgCM_5 hx hb hg hown (by clear hw; omega) hK hP q412 dX10_code_80 ?_
            refine lv_iload_n hx hb dX10_code_83 rfl (lv_at hl 3 rfl) ?_
            refine zlCM_5 hx hb (by clear hw; omega) o12 hK hP dX10_code_84 ?_
            refine lv_iload_n hx hb dX10_code_85 rfl (lv_at hl 4 rfl) ?_
            refine z_iadd hx hb dX10_code_86 ?_
            obtain ⟨o15, hw⟩ := hw
            refine zlCM_6 hx hb (by clear hw; omega) o15 hK hP dX10_code_87 ?_
            exact hret (zA σ2 a1 6 ((zA σ2 a1 5 a2) + a3)) σ2 _ _ _ _ hw hP hD hS dX10_code_88
          · replace hw := hw.2 k14
            exact j63 σ2 _ _ _ hP hD hS (lv_sub hl [] rfl) hw
      · replace hw := hw.2 k9
        exact j38 σ2 _ _ _ hP hD hS (lv_sub hl [] rfl) hw
  · replace hw := hw.2 k4
    exact zx_thr (cls := xIOB) (is := 222) (text := "there is no such module") hx hb hg htr hown (by decide) q751 q164 (by decide +kernel) atIOB (by decide +kernel) hE hK hP hD hS hml hl.1 hnt hlocks dX10_code_7 dX10_code_10 dX10_code_11 dX10_code_13 dX10_code_16 (Nat.le_of_ble_eq_true rfl) (Nat.le_of_ble_eq_true rfl) (Nat.le_of_ble_eq_true rfl) (Nat.le_of_ble_eq_true rfl) (Nat.le_of_ble_eq_true rfl) (Nat.le_of_ble_eq_true rfl) hw
def wpX10_fixup_57 (σ : ZS) (Q : Int → ZS → Prop) (X : String → ZS → Prop) : Prop := X xIOB σ
def wpX10_fixup_9 (σ : ZS) (Q : Int → ZS → Prop) (X : String → ZS → Prop) : Prop := X xIAE σ
def wpX10_fixup (a1 a2 a3 : Int) (σ : ZS) (Q : Int → ZS → Prop) (X : String → ZS → Prop) : Prop := (-2147483648 ≤ a3 ∧ a3 ≤ 2147483647) ∧ (a3 < 0 → wpX10_fixup_9 σ Q X) ∧ (¬ a3 < 0 → (a3 ≤ 3 → wpX10_isModule a1 σ (fun (x4 : Int) (σ5 : ZS) => (-2147483648 ≤ x4 ∧ x4 ≤ 2147483647) ∧ (¬ x4 = 0 → (0 ≤ a1 ∧ a1 < 3) ∧ (-2147483648 ≤ a2 ∧ a2 ≤ 2147483647) ∧ (a2 < 0 → wpX10_fixup_57 σ5 Q X) ∧ (¬ a2 < 0 → (-2147483648 ≤ (zI σ5 a1 7) ∧ (zI σ5 a1 7) ≤ 2147483647) ∧ (a2 < (zI σ5 a1 7) → (a3 = 0 → (0 ≤ a2 ∧ a2 < 200) ∧ Q (zA σ5 a1 8 a2) σ5) ∧ (¬ a3 = 0 → (a3 = 1 → (0 ≤ a2 ∧ a2 < 200) ∧ Q (zA σ5 a1 9 a2) σ5) ∧ (¬ a3 = 1 → (a3 = 2 → (0 ≤ a2 ∧ a2 < 200) ∧ Q (zA σ5 a1 10 a2) σ5) ∧ (¬ a3 = 2 → (0 ≤ a2 ∧ a2 < 200) ∧ Q (zA σ5 a1 11 a2) σ5)))) ∧ (¬ a2 < (zI σ5 a1 7) → wpX10_fixup_57 σ5 Q X))) ∧ (x4 = 0 → X xIOB σ5))) ∧ (¬ a3 ≤ 3 → wpX10_fixup_9 σ Q X))
set_option maxHeartbeats 4000000 in
set_option maxRecDepth 100000 in
theorem kX10_fixup (l : Launch) (htr : l.stackTraces = false) (D : va_G) (dA : Nat → ClassId) (ad : Int → Nat → Nat) (tf tc : Nat) (aK aV : Nat → Nat) (a1 a2 a3 : Int) (σ : ZS) (Q : Int → ZS → Prop) (X : String → ZS → Prop) (sz : Nat) (hw : wpX10_fixup a1 a2 a3 σ Q X) : vx_Met l yX10_fixup (gws yX10_fixup cX10_fixup 5 (some .int)) (gR 6 1 6) (gPreE D dA tf tc aK aV [.ref (ad 10 1000), .int (Int32.ofInt a1), .int (Int32.ofInt a2), .int (Int32.ofInt a3)] (zC dA ad σ) sz) (va_Qi (zQi Q) (gAt D dA (va_A (zC dA ad σ) sz) (zC dA ad)) (va_A (zC dA ad σ) sz)) (zX D dA X (zC dA ad) (va_A (zC dA ad σ) sz)) 1 6 (va_A (zC dA ad σ) sz) := by
  refine vx_ofW (cc := cX10_fixup) (maxL := 5) (ret := (some .int)) (by decide) rfl ?_
  intro p e s m args below meth c s₁ B hml hnt hv
  obtain ⟨rfl, hsz, hP, hK, hD0, hE⟩ := hv
  have hx := B.exec
  have hb := B.bytes
  have hr := B.returns
  have hts := atoms_spec (ws := gws yX10_fixup cX10_fixup 5 (some .int)) B.pre
  have hg : ∀ w ∈ gw, w.before _ s = true := fun w h => hts w (List.mem_cons_of_mem _ h)
  have hown : s.vm.findClass RX10 = some m.cls := findClass_of_methodNamed B.named
  have hlocks := B.notSynchronized
  subst hsz
  have hD := hD0.self (sz := s.heap.size)
  generalize hAe : va_A (zC dA ad σ) s.heap.size = A at hD hE ⊢
  have hA : ∀ q : Nat, s.heap.size ≤ q → A q := fun q h => by rw [← hAe]; exact Or.inr h
  have hS : va_S A s.heap s.heap [] := va_S.rf
  have hl := lv_entry ([.ref (ad 10 1000), .int (Int32.ofInt a1), .int (Int32.ofInt a2), .int (Int32.ofInt a3)]) (n := 5) (Nat.le_of_ble_eq_true rfl)
  rw [lg_entry_eq]
  generalize (lg_sl ([.ref (ad 10 1000), .int (Int32.ofInt a1), .int (Int32.ofInt a2), .int (Int32.ofInt a3)]) ++ List.replicate (5 - (lg_sl ([.ref (ad 10 1000), .int (Int32.ofInt a1), .int (Int32.ofInt a2), .int (Int32.ofInt a3)])).length) Slot.unset).toArray = ls at hl ⊢
  have hl : lv_has ls 5 [(0, .ref (ad 10 1000)), (1, .int (Int32.ofInt a1)), (2, .int (Int32.ofInt a2)), (3, .int (Int32.ofInt a3))] := hl
  have hret : ∀ (v : Int) (σ : ZS) (H : Heap) (locs : List Loc) (ls : Array Slot) (pc : Nat), Q v σ → va_P D vwC (zC dA ad σ) H → va_D A (zC dA ad σ) → va_S A s.heap H locs → decode cX10_fixup pc = .ok (.ireturn, 1) → W p l e (gR 6 1 6) s m #[.ref (ad 10 1000), .int (Int32.ofInt a1), .int (Int32.ofInt a2), .int (Int32.ofInt a3)] below meth c H locs 0 0 (vx_MQ below (va_Qi (zQi Q) (gAt D dA A (zC dA ad)) A) (zX D dA X (zC dA ad) A) #[.ref (ad 10 1000), .int (Int32.ofInt a1), .int (Int32.ofInt a2), .int (Int32.ofInt a3)] s 1 6 A) (F0 m pc ls [.int (Int32.ofInt v)]) := fun v σ H locs ls pc hw hP hD hS hd => vx_ret (g_iret hx hb hr rfl hlocks hK σ hP hD hS ⟨v, rfl, hw⟩ (Nat.le_of_ble_eq_true rfl) (Nat.le_of_ble_eq_true rfl) hd)
  have j57 : ∀ (σ : ZS), ∀ (H : Heap) (locs : List Loc) (ls : Array Slot), va_P D vwC (zC dA ad σ) H → va_D A (zC dA ad σ) → va_S A s.heap H locs → lv_has ls 5 [] → wpX10_fixup_57 σ Q X → W p l e (gR 6 1 6) s m #[.ref (ad 10 1000), .int (Int32.ofInt a1), .int (Int32.ofInt a2), .int (Int32.ofInt a3)] below meth c H locs 0 0 (vx_MQ below (va_Qi (zQi Q) (gAt D dA A (zC dA ad)) A) (zX D dA X (zC dA ad) A) #[.ref (ad 10 1000), .int (Int32.ofInt a1), .int (Int32.ofInt a2), .int (Int32.ofInt a3)] s 1 6 A) (F0 m 57 ls []) := by
    intro σ H locs ls hP hD hS hl hw
    unfold wpX10_fixup_57 at hw
    exact zx_thr (cls := xIOB) (is := 246) (text := "there is no such fixup") hx hb hg htr hown (by decide) q751 q164 (by decide +kernel) atIOB (by decide +kernel) hE hK hP hD hS hml hl.1 hnt hlocks dX10_fixup_57 dX10_fixup_60 dX10_fixup_61 dX10_fixup_63 dX10_fixup_66 (Nat.le_of_ble_eq_true rfl) (Nat.le_of_ble_eq_true rfl) (Nat.le_of_ble_eq_true rfl) (Nat.le_of_ble_eq_true rfl) (Nat.le_of_ble_eq_true rfl) (Nat.le_of_ble_eq_true rfl) hw
  have j9 : ∀ (σ : ZS), ∀ (H : Heap) (locs : List Loc) (ls : Array Slot), va_P D vwC (zC dA ad σ) H → va_D A (zC dA ad σ) → va_S A s.heap H locs → lv_has ls 5 [] → wpX10_fixup_9 σ Q X → W p l e (gR 6 1 6) s m #[.ref (ad 10 1000), .int (Int32.ofInt a1), .int (Int32.ofInt a2), .int (Int32.ofInt a3)] below meth c H locs 0 0 (vx_MQ below (va_Qi (zQi Q) (gAt D dA A (zC dA ad)) A) (zX D dA X (zC dA ad) A) #[.ref (ad 10 1000), .int (Int32.ofInt a1), .int (Int32.ofInt a2), .int (Int32.ofInt a3)] s 1 6 A) (F0 m 9 ls []) := by
    intro σ H locs ls hP hD hS hl hw
    unfold wpX10_fixup_9 at hw
    exact zx_thr (cls := xIAE) (is := 241) (text := "what is not 0 .. 3") hx hb hg htr hown (by decide) q731 q167 (by decide +kernel) atIAE (by decide +kernel) hE hK hP hD hS hml hl.1 hnt hlocks dX10_fixup_9 dX10_fixup_12 dX10_fixup_13 dX10_fixup_15 dX10_fixup_18 (Nat.le_of_ble_eq_true rfl) (Nat.le_of_ble_eq_true rfl) (Nat.le_of_ble_eq_true rfl) (Nat.le_of_ble_eq_true rfl) (Nat.le_of_ble_eq_true rfl) (Nat.le_of_ble_eq_true rfl) hw
  unfold wpX10_fixup at hw
  refine lv_iload_n hx hb dX10_fixup_0 rfl (lv_at hl 3 rfl) ?_
  obtain ⟨o1, hw⟩ := hw
  refine z_if_lt (tgt := 9) hx hb o1 dX10_fixup_1 (by decide) (fun k2 => ?_) (fun k2 => ?_)
  · replace hw := hw.1 k2
    exact j9 σ _ _ _ hP hD hS (lv_sub hl [] rfl) hw
  · replace hw := hw.2 k2
    refine lv_iload_n hx hb dX10_fixup_4 rfl (lv_at hl 3 rfl) ?_
    refine lv_iconst (v := Int32.ofInt 3) hx hb dX10_fixup_5 (by decide) ?_
    refine z_icmp_le (tgt := 19) hx hb o1 (by decide) dX10_fixup_6 (by decide) (fun k3 => ?_) (fun k3 => ?_)
    · replace hw := hw.1 k3
      refine lv_iload_n hx hb dX10_fixup_19 rfl (lv_at hl 1 rfl) ?_
      refine z_Si (n := 1) (As := [.int (Int32.ofInt a1)]) (rest := []) hx hb hml hg hown hK hP hD hS hA (kX10_isModule l D dA ad a1 σ _ _ hw) q789 q149 q787 q788 (by decide +kernel) ⟨(Nat.le_of_ble_eq_true rfl), (Nat.le_of_ble_eq_true rfl)⟩ rfl hl.1 rfl (Nat.le_of_ble_eq_true rfl) dX10_fixup_20 ⟨(Nat.le_of_ble_eq_true rfl), (Nat.le_of_ble_eq_true rfl)⟩ (fun x4 σ5 H locs hw hP hD hS => ?_)
      obtain ⟨o6, hw⟩ := hw
      refine z_if_ne (tgt := 36) hx hb o6 dX10_fixup_23 (by decide) (fun k7 => ?_) (fun k7 => ?_)
      · replace hw := hw.1 k7
        refine lv_aload_n hx hb dX10_fixup_36 rfl (lv_at hl 0 rfl) ?_
        refine zgC10_8 hx hb hg hown hK hP q614 dX10_fixup_37 ?_
        refine lv_iload_n hx hb dX10_fixup_40 rfl (lv_at hl 1 rfl) ?_
        obtain ⟨o8, hw⟩ := hw
        refine zlC10_8 hx hb o8 hK hP dX10_fixup_41 ?_
        refine lv_astore (lv' := [(4, .ref (ad a1 1000)), (0, .ref (ad 10 1000)), (1, .int (Int32.ofInt a1)), (2, .int (Int32.ofInt a2)), (3, .int (Int32.ofInt a3))]) hx hb dX10_fixup_42 hl (by decide) rfl (fun ls hl => ?_)
        refine lv_iload_n hx hb dX10_fixup_44 rfl (lv_at hl 3 rfl) ?_
        obtain ⟨o9, hw⟩ := hw
        refine z_if_lt (tgt := 57) hx hb o9 dX10_fixup_45 (by decide) (fun k10 => ?_) (fun k10 => ?_)
        · replace hw := hw.1 k10
          exact j57 σ5 _ _ _ hP hD hS (lv_sub hl [] rfl) hw
        · replace hw := hw.2 k10
          refine lv_iload_n hx hb dX10_fixup_48 rfl (lv_at hl 3 rfl) ?_
          refine lv_aload hx hb dX10_fixup_49 (lv_at hl 0 rfl) ?_
          refine zgCM_7 hx hb hg hown (by clear hw; omega) hK hP q419 dX10_fixup_51 ?_
          obtain ⟨o11, hw⟩ := hw
          refine z_icmp_lt (tgt := 67) hx hb o9 o11 dX10_fixup_54 (by decide) (fun k12 => ?_) (fun k12 => ?_)
          · replace hw := hw.1 k12
            refine lv_iload_n hx hb dX10_fixup_67 rfl (lv_at hl 4 rfl) ?_
            have t13 := z_ti o1
            by_cases s14 : a3 = 0
            · replace hw := hw.1 s14
              refine lv_tableIn (tgt := 96) hx hb dX10_fixup_68 (by rw [t13, s14]; decide) (by rw [t13, s14]; decide) (by rw [t13, s14]; rfl) (by decide) ?_
              refine lv_aload hx hb dX10_fixup_96 (lv_at hl 0 rfl) ?_
              refine zgCM_8 hx hb hg hown (by clear hw; omega) hK hP q421 dX10_fixup_98 ?_
              refine lv_iload_n hx hb dX10_fixup_101 rfl (lv_at hl 3 rfl) ?_
              obtain ⟨o15, hw⟩ := hw
              refine zlCM_8 hx hb (by clear hw; omega) o15 hK hP dX10_fixup_102 ?_
              exact hret (zA σ5 a1 8 a2) σ5 _ _ _ _ hw hP hD hS dX10_fixup_103
            replace hw := hw.2 s14
            by_cases s16 : a3 = 1
            · replace hw := hw.1 s16
              refine lv_tableIn (tgt := 104) hx hb dX10_fixup_68 (by rw [t13, s16]; decide) (by rw [t13, s16]; decide) (by rw [t13, s16]; rfl) (by decide) ?_
              refine lv_aload hx hb dX10_fixup_104 (lv_at hl 0 rfl) ?_
              refine zgCM_9 hx hb hg hown (by clear hw; omega) hK hP q424 dX10_fixup_106 ?_
              refine lv_iload_n hx hb dX10_fixup_109 rfl (lv_at hl 3 rfl) ?_
              obtain ⟨o17, hw⟩ := hw
              refine zlCM_9 hx hb (by clear hw; omega) o17 hK hP dX10_fixup_110 ?_
              exact hret (zA σ5 a1 9 a2) σ5 _ _ _ _ hw hP hD hS dX10_fixup_111
            replace hw := hw.2 s16
            by_cases s18 : a3 = 2
            · replace hw := hw.1 s18
              refine lv_tableIn (tgt := 112) hx hb dX10_fixup_68 (by rw [t13, s18]; decide) (by rw [t13, s18]; decide) (by rw [t13, s18]; rfl) (by decide) ?_
              refine lv_aload hx hb dX10_fixup_112 (lv_at hl 0 rfl) ?_
              refine zgCM_10 hx hb hg hown (by clear hw; omega) hK hP q427 dX10_fixup_114 ?_
              refine lv_iload_n hx hb dX10_fixup_117 rfl (lv_at hl 3 rfl) ?_
              obtain ⟨o19, hw⟩ := hw
              refine zlCM_10 hx hb (by clear hw; omega) o19 hK hP dX10_fixup_118 ?_
              exact hret (zA σ5 a1 10 a2) σ5 _ _ _ _ hw hP hD hS dX10_fixup_119
            replace hw := hw.2 s18
            refine lv_tableOut (tgt := 120) hx hb dX10_fixup_68 (by rw [t13]; clear hw; omega) (by decide) ?_
            refine lv_aload hx hb dX10_fixup_120 (lv_at hl 0 rfl) ?_
            refine zgCM_11 hx hb hg hown (by clear hw; omega) hK hP q431 dX10_fixup_122 ?_
            refine lv_iload_n hx hb dX10_fixup_125 rfl (lv_at hl 3 rfl) ?_
            obtain ⟨o20, hw⟩ := hw
            refine zlCM_11 hx hb (by clear hw; omega) o20 hK hP dX10_fixup_126 ?_
            exact hret (zA σ5 a1 11 a2) σ5 _ _ _ _ hw hP hD hS dX10_fixup_127
          · replace hw := hw.2 k12
            exact j57 σ5 _ _ _ hP hD hS (lv_sub hl [] rfl) hw
      · replace hw := hw.2 k7
        exact zx_thr (cls := xIOB) (is := 222) (text := "there is no such module") hx hb hg htr hown (by decide) q751 q164 (by decide +kernel) atIOB (by decide +kernel) hE hK hP hD hS hml hl.1 hnt hlocks dX10_fixup_26 dX10_fixup_29 dX10_fixup_30 dX10_fixup_32 dX10_fixup_35 (Nat.le_of_ble_eq_true rfl) (Nat.le_of_ble_eq_true rfl) (Nat.le_of_ble_eq_true rfl) (Nat.le_of_ble_eq_true rfl) (Nat.le_of_ble_eq_true rfl) (Nat.le_of_ble_eq_true rfl) hw
    · replace hw := hw.2 k3
      exact j9 σ _ _ _ hP hD hS (lv_sub hl [] rfl) hw
def wpX10_image_15 (σ : ZS) (Q : Int → ZS → Prop) (X : String → ZS → Prop) : Prop := X xIOB σ
def wpX10_image (a1 : Int) (σ : ZS) (Q : Int → ZS → Prop) (X : String → ZS → Prop) : Prop := (-2147483648 ≤ a1 ∧ a1 ≤ 2147483647) ∧ (a1 < 0 → wpX10_image_15 σ Q X) ∧ (¬ a1 < 0 → (-2147483648 ≤ (zI σ 17 1) ∧ (zI σ 17 1) ≤ 2147483647) ∧ (a1 < (zI σ 17 1) → (0 ≤ a1 ∧ a1 < 1200) ∧ Q (zA σ 17 2 a1) σ) ∧ (¬ a1 < (zI σ 17 1) → wpX10_image_15 σ Q X))
set_option maxHeartbeats 4000000 in
set_option maxRecDepth 100000 in
theorem kX10_image (l : Launch) (htr : l.stackTraces = false) (D : va_G) (dA : Nat → ClassId) (ad : Int → Nat → Nat) (tf tc : Nat) (aK aV : Nat → Nat) (a1 : Int) (σ : ZS) (Q : Int → ZS → Prop) (X : String → ZS → Prop) (sz : Nat) (hw : wpX10_image a1 σ Q X) : vx_Met l yX10_image (gws yX10_image cX10_image 2 (some .int)) (gR 6 1 6) (gPreE D dA tf tc aK aV [.ref (ad 10 1000), .int (Int32.ofInt a1)] (zC dA ad σ) sz) (va_Qi (zQi Q) (gAt D dA (va_A (zC dA ad σ) sz) (zC dA ad)) (va_A (zC dA ad σ) sz)) (zX D dA X (zC dA ad) (va_A (zC dA ad σ) sz)) 1 6 (va_A (zC dA ad σ) sz) := by
  refine vx_ofW (cc := cX10_image) (maxL := 2) (ret := (some .int)) (by decide) rfl ?_
  intro p e s m args below meth c s₁ B hml hnt hv
  obtain ⟨rfl, hsz, hP, hK, hD0, hE⟩ := hv
  have hx := B.exec
  have hb := B.bytes
  have hr := B.returns
  have hts := atoms_spec (ws := gws yX10_image cX10_image 2 (some .int)) B.pre
  have hg : ∀ w ∈ gw, w.before _ s = true := fun w h => hts w (List.mem_cons_of_mem _ h)
  have hown : s.vm.findClass RX10 = some m.cls := findClass_of_methodNamed B.named
  have hlocks := B.notSynchronized
  subst hsz
  have hD := hD0.self (sz := s.heap.size)
  generalize hAe : va_A (zC dA ad σ) s.heap.size = A at hD hE ⊢
  have hA : ∀ q : Nat, s.heap.size ≤ q → A q := fun q h => by rw [← hAe]; exact Or.inr h
  have hS : va_S A s.heap s.heap [] := va_S.rf
  have hl := lv_entry ([.ref (ad 10 1000), .int (Int32.ofInt a1)]) (n := 2) (Nat.le_of_ble_eq_true rfl)
  rw [lg_entry_eq]
  generalize (lg_sl ([.ref (ad 10 1000), .int (Int32.ofInt a1)]) ++ List.replicate (2 - (lg_sl ([.ref (ad 10 1000), .int (Int32.ofInt a1)])).length) Slot.unset).toArray = ls at hl ⊢
  have hl : lv_has ls 2 [(0, .ref (ad 10 1000)), (1, .int (Int32.ofInt a1))] := hl
  have hret : ∀ (v : Int) (σ : ZS) (H : Heap) (locs : List Loc) (ls : Array Slot) (pc : Nat), Q v σ → va_P D vwC (zC dA ad σ) H → va_D A (zC dA ad σ) → va_S A s.heap H locs → decode cX10_image pc = .ok (.ireturn, 1) → W p l e (gR 6 1 6) s m #[.ref (ad 10 1000), .int (Int32.ofInt a1)] below meth c H locs 0 0 (vx_MQ below (va_Qi (zQi Q) (gAt D dA A (zC dA ad)) A) (zX D dA X (zC dA ad) A) #[.ref (ad 10 1000), .int (Int32.ofInt a1)] s 1 6 A) (F0 m pc ls [.int (Int32.ofInt v)]) := fun v σ H locs ls pc hw hP hD hS hd => vx_ret (g_iret hx hb hr rfl hlocks hK σ hP hD hS ⟨v, rfl, hw⟩ (Nat.le_of_ble_eq_true rfl) (Nat.le_of_ble_eq_true rfl) hd)
  have j15 : ∀ (σ : ZS), ∀ (H : Heap) (locs : List Loc) (ls : Array Slot), va_P D vwC (zC dA ad σ) H → va_D A (zC dA ad σ) → va_S A s.heap H locs → lv_has ls 2 [] → wpX10_image_15 σ Q X → W p l e (gR 6 1 6) s m #[.ref (ad 10 1000), .int (Int32.ofInt a1)] below meth c H locs 0 0 (vx_MQ below (va_Qi (zQi Q) (gAt D dA A (zC dA ad)) A) (zX D dA X (zC dA ad) A) #[.ref (ad 10 1000), .int (Int32.ofInt a1)] s 1 6 A) (F0 m 15 ls []) := by
    intro σ H locs ls hP hD hS hl hw
    unfold wpX10_image_15 at hw
    exact zx_thr (cls := xIOB) (is := 233) (text := "there is no such byte") hx hb hg htr hown (by decide) q751 q164 (by decide +kernel) atIOB (by decide +kernel) hE hK hP hD hS hml hl.1 hnt hlocks dX10_image_15 dX10_image_18 dX10_image_19 dX10_image_21 dX10_image_24 (Nat.le_of_ble_eq_true rfl) (Nat.le_of_ble_eq_true rfl) (Nat.le_of_ble_eq_true rfl) (Nat.le_of_ble_eq_true rfl) (Nat.le_of_ble_eq_true rfl) (Nat.le_of_ble_eq_true rfl) hw
  unfold wpX10_image at hw
  refine lv_iload_n hx hb dX10_image_0 rfl (lv_at hl 1 rfl) ?_
  obtain ⟨o1, hw⟩ := hw
  refine z_if_lt (tgt := 15) hx hb o1 dX10_image_1 (by decide) (fun k2 => ?_) (fun k2 => ?_)
  · replace hw := hw.1 k2
    exact j15 σ _ _ _ hP hD hS (lv_sub hl [] rfl) hw
  · replace hw := hw.2 k2
    refine lv_iload_n hx hb dX10_image_4 rfl (lv_at hl 1 rfl) ?_
    refine lv_aload_n hx hb dX10_image_5 rfl (lv_at hl 0 rfl) ?_
    refine zgC10_10 hx hb hg hown hK hP q616 dX10_image_6 ?_
    refine zgC17_1 hx hb hg hown hK hP q515 dX10_image_9 ?_
    obtain ⟨o3, hw⟩ := hw
    refine z_icmp_lt (tgt := 25) hx hb o1 o3 dX10_image_12 (by decide) (fun k4 => ?_) (fun k4 => ?_)
    · replace hw := hw.1 k4
      refine lv_aload_n hx hb dX10_image_25 rfl (lv_at hl 0 rfl) ?_
      refine zgC10_10 hx hb hg hown hK hP q616 dX10_image_26 ?_
      refine zgC17_2 hx hb hg hown hK hP q518 dX10_image_29 ?_
      refine lv_iload_n hx hb dX10_image_32 rfl (lv_at hl 1 rfl) ?_
      obtain ⟨o5, hw⟩ := hw
      refine zlC17_2 hx hb o5 hK hP dX10_image_33 ?_
      exact hret (zA σ 17 2 a1) σ _ _ _ _ hw hP hD hS dX10_image_34
    · replace hw := hw.2 k4
      exact j15 σ _ _ _ hP hD hS (lv_sub hl [] rfl) hw
def wpX10_memory_11 (σ : ZS) (Q : Int → ZS → Prop) (X : String → ZS → Prop) : Prop := X xIAE σ
def wpX10_memory (a1 : Int) (σ : ZS) (Q : Int → ZS → Prop) (X : String → ZS → Prop) : Prop := (-2147483648 ≤ a1 ∧ a1 ≤ 2147483647) ∧ (a1 < 0 → wpX10_memory_11 σ Q X) ∧ (¬ a1 < 0 → (a1 < 4096 → (0 ≤ a1 ∧ a1 < 4096) ∧ Q (zA σ 18 0 a1) σ) ∧ (¬ a1 < 4096 → wpX10_memory_11 σ Q X))
set_option maxHeartbeats 4000000 in
set_option maxRecDepth 100000 in
theorem kX10_memory (l : Launch) (htr : l.stackTraces = false) (D : va_G) (dA : Nat → ClassId) (ad : Int → Nat → Nat) (tf tc : Nat) (aK aV : Nat → Nat) (a1 : Int) (σ : ZS) (Q : Int → ZS → Prop) (X : String → ZS → Prop) (sz : Nat) (hw : wpX10_memory a1 σ Q X) : vx_Met l yX10_memory (gws yX10_memory cX10_memory 2 (some .int)) (gR 6 1 6) (gPreE D dA tf tc aK aV [.ref (ad 10 1000), .int (Int32.ofInt a1)] (zC dA ad σ) sz) (va_Qi (zQi Q) (gAt D dA (va_A (zC dA ad σ) sz) (zC dA ad)) (va_A (zC dA ad σ) sz)) (zX D dA X (zC dA ad) (va_A (zC dA ad σ) sz)) 1 6 (va_A (zC dA ad σ) sz) := by
  refine vx_ofW (cc := cX10_memory) (maxL := 2) (ret := (some .int)) (by decide) rfl ?_
  intro p e s m args below meth c s₁ B hml hnt hv
  obtain ⟨rfl, hsz, hP, hK, hD0, hE⟩ := hv
  have hx := B.exec
  have hb := B.bytes
  have hr := B.returns
  have hts := atoms_spec (ws := gws yX10_memory cX10_memory 2 (some .int)) B.pre
  have hg : ∀ w ∈ gw, w.before _ s = true := fun w h => hts w (List.mem_cons_of_mem _ h)
  have hown : s.vm.findClass RX10 = some m.cls := findClass_of_methodNamed B.named
  have hlocks := B.notSynchronized
  subst hsz
  have hD := hD0.self (sz := s.heap.size)
  generalize hAe : va_A (zC dA ad σ) s.heap.size = A at hD hE ⊢
  have hA : ∀ q : Nat, s.heap.size ≤ q → A q := fun q h => by rw [← hAe]; exact Or.inr h
  have hS : va_S A s.heap s.heap [] := va_S.rf
  have hl := lv_entry ([.ref (ad 10 1000), .int (Int32.ofInt a1)]) (n := 2) (Nat.le_of_ble_eq_true rfl)
  rw [lg_entry_eq]
  generalize (lg_sl ([.ref (ad 10 1000), .int (Int32.ofInt a1)]) ++ List.replicate (2 - (lg_sl ([.ref (ad 10 1000), .int (Int32.ofInt a1)])).length) Slot.unset).toArray = ls at hl ⊢
  have hl : lv_has ls 2 [(0, .ref (ad 10 1000)), (1, .int (Int32.ofInt a1))] := hl
  have hret : ∀ (v : Int) (σ : ZS) (H : Heap) (locs : List Loc) (ls : Array Slot) (pc : Nat), Q v σ → va_P D vwC (zC dA ad σ) H → va_D A (zC dA ad σ) → va_S A s.heap H locs → decode cX10_memory pc = .ok (.ireturn, 1) → W p l e (gR 6 1 6) s m #[.ref (ad 10 1000), .int (Int32.ofInt a1)] below meth c H locs 0 0 (vx_MQ below (va_Qi (zQi Q) (gAt D dA A (zC dA ad)) A) (zX D dA X (zC dA ad) A) #[.ref (ad 10 1000), .int (Int32.ofInt a1)] s 1 6 A) (F0 m pc ls [.int (Int32.ofInt v)]) := fun v σ H locs ls pc hw hP hD hS hd => vx_ret (g_iret hx hb hr rfl hlocks hK σ hP hD hS ⟨v, rfl, hw⟩ (Nat.le_of_ble_eq_true rfl) (Nat.le_of_ble_eq_true rfl) hd)
  have j11 : ∀ (σ : ZS), ∀ (H : Heap) (locs : List Loc) (ls : Array Slot), va_P D vwC (zC dA ad σ) H → va_D A (zC dA ad σ) → va_S A s.heap H locs → lv_has ls 2 [] → wpX10_memory_11 σ Q X → W p l e (gR 6 1 6) s m #[.ref (ad 10 1000), .int (Int32.ofInt a1)] below meth c H locs 0 0 (vx_MQ below (va_Qi (zQi Q) (gAt D dA A (zC dA ad)) A) (zX D dA X (zC dA ad) A) #[.ref (ad 10 1000), .int (Int32.ofInt a1)] s 1 6 A) (F0 m 11 ls []) := by
    intro σ H locs ls hP hD hS hl hw
    unfold wpX10_memory_11 at hw
    exact zx_thrW (cls := xIAE) (is := 264) (text := "address is not 0 .. 4095") hx hb hg htr hown (by decide) q731 q167 (by decide +kernel) atIAE (by decide +kernel) hE hK hP hD hS hml hl.1 hnt hlocks dX10_memory_11 dX10_memory_14 dX10_memory_15 dX10_memory_18 dX10_memory_21 (Nat.le_of_ble_eq_true rfl) (Nat.le_of_ble_eq_true rfl) (Nat.le_of_ble_eq_true rfl) (Nat.le_of_ble_eq_true rfl) (Nat.le_of_ble_eq_true rfl) (Nat.le_of_ble_eq_true rfl) hw
  unfold wpX10_memory at hw
  refine lv_iload_n hx hb dX10_memory_0 rfl (lv_at hl 1 rfl) ?_
  obtain ⟨o1, hw⟩ := hw
  refine z_if_lt (tgt := 11) hx hb o1 dX10_memory_1 (by decide) (fun k2 => ?_) (fun k2 => ?_)
  · replace hw := hw.1 k2
    exact j11 σ _ _ _ hP hD hS (lv_sub hl [] rfl) hw
  · replace hw := hw.2 k2
    refine lv_iload_n hx hb dX10_memory_4 rfl (lv_at hl 1 rfl) ?_
    refine lv_sipush (v := Int32.ofInt 4096) hx hb dX10_memory_5 (by decide) ?_
    refine z_icmp_lt (tgt := 22) hx hb o1 (by decide) dX10_memory_8 (by decide) (fun k3 => ?_) (fun k3 => ?_)
    · replace hw := hw.1 k3
      refine lv_aload_n hx hb dX10_memory_22 rfl (lv_at hl 0 rfl) ?_
      refine zgC10_11 hx hb hg hown hK hP q617 dX10_memory_23 ?_
      refine zgC18_0 hx hb hg hown hK hP q553 dX10_memory_26 ?_
      refine lv_iload_n hx hb dX10_memory_29 rfl (lv_at hl 1 rfl) ?_
      obtain ⟨o4, hw⟩ := hw
      refine zlC18_0 hx hb o4 hK hP dX10_memory_30 ?_
      exact hret (zA σ 18 0 a1) σ _ _ _ _ hw hP hD hS dX10_memory_31
    · replace hw := hw.2 k3
      exact j11 σ _ _ _ hP hD hS (lv_sub hl [] rfl) hw
def wpX10_register_10 (σ : ZS) (Q : Int → ZS → Prop) (X : String → ZS → Prop) : Prop := X xIAE σ
def wpX10_register (a1 : Int) (σ : ZS) (Q : Int → ZS → Prop) (X : String → ZS → Prop) : Prop := (-2147483648 ≤ a1 ∧ a1 ≤ 2147483647) ∧ (a1 < 0 → wpX10_register_10 σ Q X) ∧ (¬ a1 < 0 → (a1 ≤ 15 → (8 ≤ a1 → (12 ≤ a1 → (a1 = 12 → Q (zI σ 18 3) σ) ∧ (¬ a1 = 12 → (a1 = 13 → Q (zI σ 18 4) σ) ∧ (¬ a1 = 13 → (a1 = 14 → Q (zI σ 18 5) σ) ∧ (¬ a1 = 14 → Q (zI σ 18 6) σ)))) ∧ (¬ 12 ≤ a1 → (0 ≤ (a1 - 8) ∧ (a1 - 8) < 4) ∧ Q (zA σ 18 2 (a1 - 8)) σ)) ∧ (¬ 8 ≤ a1 → (0 ≤ a1 ∧ a1 < 8) ∧ Q (zA σ 18 1 a1) σ)) ∧ (¬ a1 ≤ 15 → wpX10_register_10 σ Q X))
set_option maxHeartbeats 4000000 in
set_option maxRecDepth 100000 in
theorem kX10_register (l : Launch) (htr : l.stackTraces = false) (D : va_G) (dA : Nat → ClassId) (ad : Int → Nat → Nat) (tf tc : Nat) (aK aV : Nat → Nat) (a1 : Int) (σ : ZS) (Q : Int → ZS → Prop) (X : String → ZS → Prop) (sz : Nat) (hw : wpX10_register a1 σ Q X) : vx_Met l yX10_register (gws yX10_register cX10_register 2 (some .int)) (gR 6 1 6) (gPreE D dA tf tc aK aV [.ref (ad 10 1000), .int (Int32.ofInt a1)] (zC dA ad σ) sz) (va_Qi (zQi Q) (gAt D dA (va_A (zC dA ad σ) sz) (zC dA ad)) (va_A (zC dA ad σ) sz)) (zX D dA X (zC dA ad) (va_A (zC dA ad σ) sz)) 1 6 (va_A (zC dA ad σ) sz) := by
  refine vx_ofW (cc := cX10_register) (maxL := 2) (ret := (some .int)) (by decide) rfl ?_
  intro p e s m args below meth c s₁ B hml hnt hv
  obtain ⟨rfl, hsz, hP, hK, hD0, hE⟩ := hv
  have hx := B.exec
  have hb := B.bytes
  have hr := B.returns
  have hts := atoms_spec (ws := gws yX10_register cX10_register 2 (some .int)) B.pre
  have hg : ∀ w ∈ gw, w.before _ s = true := fun w h => hts w (List.mem_cons_of_mem _ h)
  have hown : s.vm.findClass RX10 = some m.cls := findClass_of_methodNamed B.named
  have hlocks := B.notSynchronized
  subst hsz
  have hD := hD0.self (sz := s.heap.size)
  generalize hAe : va_A (zC dA ad σ) s.heap.size = A at hD hE ⊢
  have hA : ∀ q : Nat, s.heap.size ≤ q → A q := fun q h => by rw [← hAe]; exact Or.inr h
  have hS : va_S A s.heap s.heap [] := va_S.rf
  have hl := lv_entry ([.ref (ad 10 1000), .int (Int32.ofInt a1)]) (n := 2) (Nat.le_of_ble_eq_true rfl)
  rw [lg_entry_eq]
  generalize (lg_sl ([.ref (ad 10 1000), .int (Int32.ofInt a1)]) ++ List.replicate (2 - (lg_sl ([.ref (ad 10 1000), .int (Int32.ofInt a1)])).length) Slot.unset).toArray = ls at hl ⊢
  have hl : lv_has ls 2 [(0, .ref (ad 10 1000)), (1, .int (Int32.ofInt a1))] := hl
  have hret : ∀ (v : Int) (σ : ZS) (H : Heap) (locs : List Loc) (ls : Array Slot) (pc : Nat), Q v σ → va_P D vwC (zC dA ad σ) H → va_D A (zC dA ad σ) → va_S A s.heap H locs → decode cX10_register pc = .ok (.ireturn, 1) → W p l e (gR 6 1 6) s m #[.ref (ad 10 1000), .int (Int32.ofInt a1)] below meth c H locs 0 0 (vx_MQ below (va_Qi (zQi Q) (gAt D dA A (zC dA ad)) A) (zX D dA X (zC dA ad) A) #[.ref (ad 10 1000), .int (Int32.ofInt a1)] s 1 6 A) (F0 m pc ls [.int (Int32.ofInt v)]) := fun v σ H locs ls pc hw hP hD hS hd => vx_ret (g_iret hx hb hr rfl hlocks hK σ hP hD hS ⟨v, rfl, hw⟩ (Nat.le_of_ble_eq_true rfl) (Nat.le_of_ble_eq_true rfl) hd)
  have j10 : ∀ (σ : ZS), ∀ (H : Heap) (locs : List Loc) (ls : Array Slot), va_P D vwC (zC dA ad σ) H → va_D A (zC dA ad σ) → va_S A s.heap H locs → lv_has ls 2 [] → wpX10_register_10 σ Q X → W p l e (gR 6 1 6) s m #[.ref (ad 10 1000), .int (Int32.ofInt a1)] below meth c H locs 0 0 (vx_MQ below (va_Qi (zQi Q) (gAt D dA A (zC dA ad)) A) (zX D dA X (zC dA ad) A) #[.ref (ad 10 1000), .int (Int32.ofInt a1)] s 1 6 A) (F0 m 10 ls []) := by
    intro σ H locs ls hP hD hS hl hw
    unfold wpX10_register_10 at hw
    exact zx_thrW (cls := xIAE) (is := 269) (text := "register is not 0 .. 15") hx hb hg htr hown (by decide) q731 q167 (by decide +kernel) atIAE (by decide +kernel) hE hK hP hD hS hml hl.1 hnt hlocks dX10_register_10 dX10_register_13 dX10_register_14 dX10_register_17 dX10_register_20 (Nat.le_of_ble_eq_true rfl) (Nat.le_of_ble_eq_true rfl) (Nat.le_of_ble_eq_true rfl) (Nat.le_of_ble_eq_true rfl) (Nat.le_of_ble_eq_true rfl) (Nat.le_of_ble_eq_true rfl) hw
  unfold wpX10_register at hw
  refine lv_iload_n hx hb dX10_register_0 rfl (lv_at hl 1 rfl) ?_
  obtain ⟨o1, hw⟩ := hw
  refine z_if_lt (tgt := 10) hx hb o1 dX10_register_1 (by decide) (fun k2 => ?_) (fun k2 => ?_)
  · replace hw := hw.1 k2
    exact j10 σ _ _ _ hP hD hS (lv_sub hl [] rfl) hw
  · replace hw := hw.2 k2
    refine lv_iload_n hx hb dX10_register_4 rfl (lv_at hl 1 rfl) ?_
    refine lv_bipush (v := Int32.ofInt 15) hx hb dX10_register_5 (by decide) ?_
    refine z_icmp_le (tgt := 21) hx hb o1 (by decide) dX10_register_7 (by decide) (fun k3 => ?_) (fun k3 => ?_)
    · replace hw := hw.1 k3
      refine lv_iload_n hx hb dX10_register_21 rfl (lv_at hl 1 rfl) ?_
      refine lv_bipush (v := Int32.ofInt 8) hx hb dX10_register_22 (by decide) ?_
      refine z_icmp_ge (tgt := 37) hx hb o1 (by decide) dX10_register_24 (by decide) (fun k4 => ?_) (fun k4 => ?_)
      · replace hw := hw.1 k4
        refine lv_iload_n hx hb dX10_register_37 rfl (lv_at hl 1 rfl) ?_
        refine lv_bipush (v := Int32.ofInt 12) hx hb dX10_register_38 (by decide) ?_
        refine z_icmp_ge (tgt := 56) hx hb o1 (by decide) dX10_register_40 (by decide) (fun k5 => ?_) (fun k5 => ?_)
        · replace hw := hw.1 k5
          refine lv_iload_n hx hb dX10_register_56 rfl (lv_at hl 1 rfl) ?_
          have t6 := z_ti o1
          by_cases s7 : a1 = 12
          · replace hw := hw.1 s7
            refine lv_tableIn (tgt := 84) hx hb dX10_register_57 (by rw [t6, s7]; decide) (by rw [t6, s7]; decide) (by rw [t6, s7]; rfl) (by decide) ?_
            refine lv_aload_n hx hb dX10_register_84 rfl (lv_at hl 0 rfl) ?_
            refine zgC10_11 hx hb hg hown hK hP q617 dX10_register_85 ?_
            refine zgC18_3 hx hb hg hown hK hP q559 dX10_register_88 ?_
            exact hret (zI σ 18 3) σ _ _ _ _ hw hP hD hS dX10_register_91
          replace hw := hw.2 s7
          by_cases s8 : a1 = 13
          · replace hw := hw.1 s8
            refine lv_tableIn (tgt := 92) hx hb dX10_register_57 (by rw [t6, s8]; decide) (by rw [t6, s8]; decide) (by rw [t6, s8]; rfl) (by decide) ?_
            refine lv_aload_n hx hb dX10_register_92 rfl (lv_at hl 0 rfl) ?_
            refine zgC10_11 hx hb hg hown hK hP q617 dX10_register_93 ?_
            refine zgC18_4 hx hb hg hown hK hP q561 dX10_register_96 ?_
            exact hret (zI σ 18 4) σ _ _ _ _ hw hP hD hS dX10_register_99
          replace hw := hw.2 s8
          by_cases s9 : a1 = 14
          · replace hw := hw.1 s9
            refine lv_tableIn (tgt := 100) hx hb dX10_register_57 (by rw [t6, s9]; decide) (by rw [t6, s9]; decide) (by rw [t6, s9]; rfl) (by decide) ?_
            refine lv_aload_n hx hb dX10_register_100 rfl (lv_at hl 0 rfl) ?_
            refine zgC10_11 hx hb hg hown hK hP q617 dX10_register_101 ?_
            refine zgC18_5 hx hb hg hown hK hP q563 dX10_register_104 ?_
            exact hret (zI σ 18 5) σ _ _ _ _ hw hP hD hS dX10_register_107
          replace hw := hw.2 s9
          refine lv_tableOut (tgt := 108) hx hb dX10_register_57 (by rw [t6]; clear hw; omega) (by decide) ?_
          refine lv_aload_n hx hb dX10_register_108 rfl (lv_at hl 0 rfl) ?_
          refine zgC10_11 hx hb hg hown hK hP q617 dX10_register_109 ?_
          refine zgC18_6 hx hb hg hown hK hP q565 dX10_register_112 ?_
          exact hret (zI σ 18 6) σ _ _ _ _ hw hP hD hS dX10_register_115
        · replace hw := hw.2 k5
          refine lv_aload_n hx hb dX10_register_43 rfl (lv_at hl 0 rfl) ?_
          refine zgC10_11 hx hb hg hown hK hP q617 dX10_register_44 ?_
          refine zgC18_2 hx hb hg hown hK hP q557 dX10_register_47 ?_
          refine lv_iload_n hx hb dX10_register_50 rfl (lv_at hl 1 rfl) ?_
          refine lv_bipush (v := Int32.ofInt 8) hx hb dX10_register_51 (by decide) ?_
          refine z_isub hx hb dX10_register_53 ?_
          obtain ⟨o10, hw⟩ := hw
          refine zlC18_2 hx hb o10 hK hP dX10_register_54 ?_
          exact hret (zA σ 18 2 (a1 - 8)) σ _ _ _ _ hw hP hD hS dX10_register_55
      · replace hw := hw.2 k4
        refine lv_aload_n hx hb dX10_register_27 rfl (lv_at hl 0 rfl) ?_
        refine zgC10_11 hx hb hg hown hK hP q617 dX10_register_28 ?_
        refine zgC18_1 hx hb hg hown hK hP q555 dX10_register_31 ?_
        refine lv_iload_n hx hb dX10_register_34 rfl (lv_at hl 1 rfl) ?_
        obtain ⟨o11, hw⟩ := hw
        refine zlC18_1 hx hb o11 hK hP dX10_register_35 ?_
        exact hret (zA σ 18 1 a1) σ _ _ _ _ hw hP hD hS dX10_register_36
    · replace hw := hw.2 k3
      exact j10 σ _ _ _ hP hD hS (lv_sub hl [] rfl) hw
def wpX10_trace_21 (σ : ZS) (Q : Int → ZS → Prop) (X : String → ZS → Prop) : Prop := X xIOB σ
def wpX10_trace (a1 : Int) (σ : ZS) (Q : Int → ZS → Prop) (X : String → ZS → Prop) : Prop := (-2147483648 ≤ a1 ∧ a1 ≤ 2147483647) ∧ (a1 < 0 → wpX10_trace_21 σ Q X) ∧ (¬ a1 < 0 → (30 ≤ a1 → wpX10_trace_21 σ Q X) ∧ (¬ 30 ≤ a1 → (-2147483648 ≤ (zI σ 18 9) ∧ (zI σ 18 9) ≤ 2147483647) ∧ (a1 < (zI σ 18 9) → (0 ≤ a1 ∧ a1 < 30) ∧ Q (zA σ 18 10 a1) σ) ∧ (¬ a1 < (zI σ 18 9) → wpX10_trace_21 σ Q X)))
set_option maxHeartbeats 4000000 in
set_option maxRecDepth 100000 in
theorem kX10_trace (l : Launch) (htr : l.stackTraces = false) (D : va_G) (dA : Nat → ClassId) (ad : Int → Nat → Nat) (tf tc : Nat) (aK aV : Nat → Nat) (a1 : Int) (σ : ZS) (Q : Int → ZS → Prop) (X : String → ZS → Prop) (sz : Nat) (hw : wpX10_trace a1 σ Q X) : vx_Met l yX10_trace (gws yX10_trace cX10_trace 2 (some .int)) (gR 6 1 6) (gPreE D dA tf tc aK aV [.ref (ad 10 1000), .int (Int32.ofInt a1)] (zC dA ad σ) sz) (va_Qi (zQi Q) (gAt D dA (va_A (zC dA ad σ) sz) (zC dA ad)) (va_A (zC dA ad σ) sz)) (zX D dA X (zC dA ad) (va_A (zC dA ad σ) sz)) 1 6 (va_A (zC dA ad σ) sz) := by
  refine vx_ofW (cc := cX10_trace) (maxL := 2) (ret := (some .int)) (by decide) rfl ?_
  intro p e s m args below meth c s₁ B hml hnt hv
  obtain ⟨rfl, hsz, hP, hK, hD0, hE⟩ := hv
  have hx := B.exec
  have hb := B.bytes
  have hr := B.returns
  have hts := atoms_spec (ws := gws yX10_trace cX10_trace 2 (some .int)) B.pre
  have hg : ∀ w ∈ gw, w.before _ s = true := fun w h => hts w (List.mem_cons_of_mem _ h)
  have hown : s.vm.findClass RX10 = some m.cls := findClass_of_methodNamed B.named
  have hlocks := B.notSynchronized
  subst hsz
  have hD := hD0.self (sz := s.heap.size)
  generalize hAe : va_A (zC dA ad σ) s.heap.size = A at hD hE ⊢
  have hA : ∀ q : Nat, s.heap.size ≤ q → A q := fun q h => by rw [← hAe]; exact Or.inr h
  have hS : va_S A s.heap s.heap [] := va_S.rf
  have hl := lv_entry ([.ref (ad 10 1000), .int (Int32.ofInt a1)]) (n := 2) (Nat.le_of_ble_eq_true rfl)
  rw [lg_entry_eq]
  generalize (lg_sl ([.ref (ad 10 1000), .int (Int32.ofInt a1)]) ++ List.replicate (2 - (lg_sl ([.ref (ad 10 1000), .int (Int32.ofInt a1)])).length) Slot.unset).toArray = ls at hl ⊢
  have hl : lv_has ls 2 [(0, .ref (ad 10 1000)), (1, .int (Int32.ofInt a1))] := hl
  have hret : ∀ (v : Int) (σ : ZS) (H : Heap) (locs : List Loc) (ls : Array Slot) (pc : Nat), Q v σ → va_P D vwC (zC dA ad σ) H → va_D A (zC dA ad σ) → va_S A s.heap H locs → decode cX10_trace pc = .ok (.ireturn, 1) → W p l e (gR 6 1 6) s m #[.ref (ad 10 1000), .int (Int32.ofInt a1)] below meth c H locs 0 0 (vx_MQ below (va_Qi (zQi Q) (gAt D dA A (zC dA ad)) A) (zX D dA X (zC dA ad) A) #[.ref (ad 10 1000), .int (Int32.ofInt a1)] s 1 6 A) (F0 m pc ls [.int (Int32.ofInt v)]) := fun v σ H locs ls pc hw hP hD hS hd => vx_ret (g_iret hx hb hr rfl hlocks hK σ hP hD hS ⟨v, rfl, hw⟩ (Nat.le_of_ble_eq_true rfl) (Nat.le_of_ble_eq_true rfl) hd)
  have j21 : ∀ (σ : ZS), ∀ (H : Heap) (locs : List Loc) (ls : Array Slot), va_P D vwC (zC dA ad σ) H → va_D A (zC dA ad σ) → va_S A s.heap H locs → lv_has ls 2 [] → wpX10_trace_21 σ Q X → W p l e (gR 6 1 6) s m #[.ref (ad 10 1000), .int (Int32.ofInt a1)] below meth c H locs 0 0 (vx_MQ below (va_Qi (zQi Q) (gAt D dA A (zC dA ad)) A) (zX D dA X (zC dA ad) A) #[.ref (ad 10 1000), .int (Int32.ofInt a1)] s 1 6 A) (F0 m 21 ls []) := by
    intro σ H locs ls hP hD hS hl hw
    unfold wpX10_trace_21 at hw
    exact zx_thrW (cls := xIOB) (is := 289) (text := "there is no such int") hx hb hg htr hown (by decide) q751 q164 (by decide +kernel) atIOB (by decide +kernel) hE hK hP hD hS hml hl.1 hnt hlocks dX10_trace_21 dX10_trace_24 dX10_trace_25 dX10_trace_28 dX10_trace_31 (Nat.le_of_ble_eq_true rfl) (Nat.le_of_ble_eq_true rfl) (Nat.le_of_ble_eq_true rfl) (Nat.le_of_ble_eq_true rfl) (Nat.le_of_ble_eq_true rfl) (Nat.le_of_ble_eq_true rfl) hw
  unfold wpX10_trace at hw
  refine lv_iload_n hx hb dX10_trace_0 rfl (lv_at hl 1 rfl) ?_
  obtain ⟨o1, hw⟩ := hw
  refine z_if_lt (tgt := 21) hx hb o1 dX10_trace_1 (by decide) (fun k2 => ?_) (fun k2 => ?_)
  · replace hw := hw.1 k2
    exact j21 σ _ _ _ hP hD hS (lv_sub hl [] rfl) hw
  · replace hw := hw.2 k2
    refine lv_iload_n hx hb dX10_trace_4 rfl (lv_at hl 1 rfl) ?_
    refine lv_bipush (v := Int32.ofInt 30) hx hb dX10_trace_5 (by decide) ?_
    refine z_icmp_ge (tgt := 21) hx hb o1 (by decide) dX10_trace_7 (by decide) (fun k3 => ?_) (fun k3 => ?_)
    · replace hw := hw.1 k3
      exact j21 σ _ _ _ hP hD hS (lv_sub hl [] rfl) hw
    · replace hw := hw.2 k3
      refine lv_iload_n hx hb dX10_trace_10 rfl (lv_at hl 1 rfl) ?_
      refine lv_aload_n hx hb dX10_trace_11 rfl (lv_at hl 0 rfl) ?_
      refine zgC10_11 hx hb hg hown hK hP q617 dX10_trace_12 ?_
      refine zgC18_9 hx hb hg hown hK hP q571 dX10_trace_15 ?_
      obtain ⟨o4, hw⟩ := hw
      refine z_icmp_lt (tgt := 32) hx hb o1 o4 dX10_trace_18 (by decide) (fun k5 => ?_) (fun k5 => ?_)
      · replace hw := hw.1 k5
        refine lv_aload_n hx hb dX10_trace_32 rfl (lv_at hl 0 rfl) ?_
        refine zgC10_11 hx hb hg hown hK hP q617 dX10_trace_33 ?_
        refine zgC18_10 hx hb hg hown hK hP q573 dX10_trace_36 ?_
        refine lv_iload_n hx hb dX10_trace_39 rfl (lv_at hl 1 rfl) ?_
        obtain ⟨o6, hw⟩ := hw
        refine zlC18_10 hx hb o6 hK hP dX10_trace_40 ?_
        exact hret (zA σ 18 10 a1) σ _ _ _ _ hw hP hD hS dX10_trace_41
      · replace hw := hw.2 k5
        exact j21 σ _ _ _ hP hD hS (lv_sub hl [] rfl) hw
def wpX10_count_166 (s0 : Int) (σ : ZS) (Q : Int → ZS → Prop) (X : String → ZS → Prop) : Prop := Q s0 σ
def wpX10_count_10 (σ : ZS) (Q : Int → ZS → Prop) (X : String → ZS → Prop) : Prop := X xIAE σ
def wpX10_count (a1 : Int) (σ : ZS) (Q : Int → ZS → Prop) (X : String → ZS → Prop) : Prop := (-2147483648 ≤ a1 ∧ a1 ≤ 2147483647) ∧ (a1 < 0 → wpX10_count_10 σ Q X) ∧ (¬ a1 < 0 → (a1 ≤ 13 → (a1 < 11 → (a1 < 8 → (a1 = 0 → Q (zI σ 10 1) σ) ∧ (¬ a1 = 0 → (a1 = 1 → Q (zI σ 10 2) σ) ∧ (¬ a1 = 1 → (a1 = 2 → Q (zI σ 10 3) σ) ∧ (¬ a1 = 2 → (a1 = 3 → Q (zI σ 17 1) σ) ∧ (¬ a1 = 3 → (a1 = 4 → Q (zI σ 17 3) σ) ∧ (¬ a1 = 4 → (a1 = 5 → Q (zI σ 18 8) σ) ∧ (¬ a1 = 5 → (a1 = 6 → Q (zI σ 18 9) σ) ∧ (¬ a1 = 6 → (-2147483648 ≤ (zI σ 18 7) ∧ (zI σ 18 7) ≤ 2147483647) ∧ ((zI σ 18 7) = 0 → wpX10_count_166 0 σ Q X) ∧ (¬ (zI σ 18 7) = 0 → wpX10_count_166 1 σ Q X))))))))) ∧ (¬ a1 < 8 → (0 ≤ (a1 - 8) ∧ (a1 - 8) < 3) ∧ Q (zI σ (a1 - 8) 1) σ)) ∧ (¬ a1 < 11 → (0 ≤ (a1 - 11) ∧ (a1 - 11) < 3) ∧ Q (zI σ (a1 - 11) 7) σ)) ∧ (¬ a1 ≤ 13 → wpX10_count_10 σ Q X))
set_option maxHeartbeats 4000000 in
set_option maxRecDepth 100000 in
theorem kX10_count (l : Launch) (htr : l.stackTraces = false) (D : va_G) (dA : Nat → ClassId) (ad : Int → Nat → Nat) (tf tc : Nat) (aK aV : Nat → Nat) (a1 : Int) (σ : ZS) (Q : Int → ZS → Prop) (X : String → ZS → Prop) (sz : Nat) (hw : wpX10_count a1 σ Q X) : vx_Met l yX10_count (gws yX10_count cX10_count 2 (some .int)) (gR 6 1 6) (gPreE D dA tf tc aK aV [.ref (ad 10 1000), .int (Int32.ofInt a1)] (zC dA ad σ) sz) (va_Qi (zQi Q) (gAt D dA (va_A (zC dA ad σ) sz) (zC dA ad)) (va_A (zC dA ad σ) sz)) (zX D dA X (zC dA ad) (va_A (zC dA ad σ) sz)) 1 6 (va_A (zC dA ad σ) sz) := by
  refine vx_ofW (cc := cX10_count) (maxL := 2) (ret := (some .int)) (by decide) rfl ?_
  intro p e s m args below meth c s₁ B hml hnt hv
  obtain ⟨rfl, hsz, hP, hK, hD0, hE⟩ := hv
  have hx := B.exec
  have hb := B.bytes
  have hr := B.returns
  have hts := atoms_spec (ws := gws yX10_count cX10_count 2 (some .int)) B.pre
  have hg : ∀ w ∈ gw, w.before _ s = true := fun w h => hts w (List.mem_cons_of_mem _ h)
  have hown : s.vm.findClass RX10 = some m.cls := findClass_of_methodNamed B.named
  have hlocks := B.notSynchronized
  subst hsz
  have hD := hD0.self (sz := s.heap.size)
  generalize hAe : va_A (zC dA ad σ) s.heap.size = A at hD hE ⊢
  have hA : ∀ q : Nat, s.heap.size ≤ q → A q := fun q h => by rw [← hAe]; exact Or.inr h
  have hS : va_S A s.heap s.heap [] := va_S.rf
  have hl := lv_entry ([.ref (ad 10 1000), .int (Int32.ofInt a1)]) (n := 2) (Nat.le_of_ble_eq_true rfl)
  rw [lg_entry_eq]
  generalize (lg_sl ([.ref (ad 10 1000), .int (Int32.ofInt a1)]) ++ List.replicate (2 - (lg_sl ([.ref (ad 10 1000), .int (Int32.ofInt a1)])).length) Slot.unset).toArray = ls at hl ⊢
  have hl : lv_has ls 2 [(0, .ref (ad 10 1000)), (1, .int (Int32.ofInt a1))] := hl
  have hret : ∀ (v : Int) (σ : ZS) (H : Heap) (locs : List Loc) (ls : Array Slot) (pc : Nat), Q v σ → va_P D vwC (zC dA ad σ) H → va_D A (zC dA ad σ) → va_S A s.heap H locs → decode cX10_count pc = .ok (.ireturn, 1) → W p l e (gR 6 1 6) s m #[.ref (ad 10 1000), .int (Int32.ofInt a1)] below meth c H locs 0 0 (vx_MQ below (va_Qi (zQi Q) (gAt D dA A (zC dA ad)) A) (zX D dA X (zC dA ad) A) #[.ref (ad 10 1000), .int (Int32.ofInt a1)] s 1 6 A) (F0 m pc ls [.int (Int32.ofInt v)]) := fun v σ H locs ls pc hw hP hD hS hd => vx_ret (g_iret hx hb hr rfl hlocks hK σ hP hD hS ⟨v, rfl, hw⟩ (Nat.le_of_ble_eq_true rfl) (Nat.le_of_ble_eq_true rfl) hd)
  have j166 : ∀ (s0 : Int) (σ : ZS), ∀ (H : Heap) (locs : List Loc) (ls : Array Slot), va_P D vwC (zC dA ad σ) H → va_D A (zC dA ad σ) → va_S A s.heap H locs → lv_has ls 2 [] → wpX10_count_166 s0 σ Q X → W p l e (gR 6 1 6) s m #[.ref (ad 10 1000), .int (Int32.ofInt a1)] below meth c H locs 0 0 (vx_MQ below (va_Qi (zQi Q) (gAt D dA A (zC dA ad)) A) (zX D dA X (zC dA ad) A) #[.ref (ad 10 1000), .int (Int32.ofInt a1)] s 1 6 A) (F0 m 166 ls [.int (Int32.ofInt s0)]) := by
    intro s0 σ H locs ls hP hD hS hl hw
    unfold wpX10_count_166 at hw
    exact hret s0 σ _ _ _ _ hw hP hD hS dX10_count_166
  have j10 : ∀ (σ : ZS), ∀ (H : Heap) (locs : List Loc) (ls : Array Slot), va_P D vwC (zC dA ad σ) H → va_D A (zC dA ad σ) → va_S A s.heap H locs → lv_has ls 2 [] → wpX10_count_10 σ Q X → W p l e (gR 6 1 6) s m #[.ref (ad 10 1000), .int (Int32.ofInt a1)] below meth c H locs 0 0 (vx_MQ below (va_Qi (zQi Q) (gAt D dA A (zC dA ad)) A) (zX D dA X (zC dA ad) A) #[.ref (ad 10 1000), .int (Int32.ofInt a1)] s 1 6 A) (F0 m 10 ls []) := by
    intro σ H locs ls hP hD hS hl hw
    unfold wpX10_count_10 at hw
    exact zx_thrW (cls := xIAE) (is := 294) (text := "what is not 0 .. 13") hx hb hg htr hown (by decide) q731 q167 (by decide +kernel) atIAE (by decide +kernel) hE hK hP hD hS hml hl.1 hnt hlocks dX10_count_10 dX10_count_13 dX10_count_14 dX10_count_17 dX10_count_20 (Nat.le_of_ble_eq_true rfl) (Nat.le_of_ble_eq_true rfl) (Nat.le_of_ble_eq_true rfl) (Nat.le_of_ble_eq_true rfl) (Nat.le_of_ble_eq_true rfl) (Nat.le_of_ble_eq_true rfl) hw
  unfold wpX10_count at hw
  refine lv_iload_n hx hb dX10_count_0 rfl (lv_at hl 1 rfl) ?_
  obtain ⟨o1, hw⟩ := hw
  refine z_if_lt (tgt := 10) hx hb o1 dX10_count_1 (by decide) (fun k2 => ?_) (fun k2 => ?_)
  · replace hw := hw.1 k2
    exact j10 σ _ _ _ hP hD hS (lv_sub hl [] rfl) hw
  · replace hw := hw.2 k2
    refine lv_iload_n hx hb dX10_count_4 rfl (lv_at hl 1 rfl) ?_
    refine lv_bipush (v := Int32.ofInt 13) hx hb dX10_count_5 (by decide) ?_
    refine z_icmp_le (tgt := 21) hx hb o1 (by decide) dX10_count_7 (by decide) (fun k3 => ?_) (fun k3 => ?_)
    · replace hw := hw.1 k3
      refine lv_iload_n hx hb dX10_count_21 rfl (lv_at hl 1 rfl) ?_
      refine lv_bipush (v := Int32.ofInt 11) hx hb dX10_count_22 (by decide) ?_
      refine z_icmp_lt (tgt := 40) hx hb o1 (by decide) dX10_count_24 (by decide) (fun k4 => ?_) (fun k4 => ?_)
      · replace hw := hw.1 k4
        refine lv_iload_n hx hb dX10_count_40 rfl (lv_at hl 1 rfl) ?_
        refine lv_bipush (v := Int32.ofInt 8) hx hb dX10_count_41 (by decide) ?_
        refine z_icmp_lt (tgt := 59) hx hb o1 (by decide) dX10_count_43 (by decide) (fun k5 => ?_) (fun k5 => ?_)
        · replace hw := hw.1 k5
          refine lv_iload_n hx hb dX10_count_59 rfl (lv_at hl 1 rfl) ?_
          have t6 := z_ti o1
          by_cases s7 : a1 = 0
          · replace hw := hw.1 s7
            refine lv_tableIn (tgt := 104) hx hb dX10_count_60 (by rw [t6, s7]; decide) (by rw [t6, s7]; decide) (by rw [t6, s7]; rfl) (by decide) ?_
            refine lv_aload_n hx hb dX10_count_104 rfl (lv_at hl 0 rfl) ?_
            refine zgC10_1 hx hb hg hown hK hP q607 dX10_count_105 ?_
            exact hret (zI σ 10 1) σ _ _ _ _ hw hP hD hS dX10_count_108
          replace hw := hw.2 s7
          by_cases s8 : a1 = 1
          · replace hw := hw.1 s8
            refine lv_tableIn (tgt := 109) hx hb dX10_count_60 (by rw [t6, s8]; decide) (by rw [t6, s8]; decide) (by rw [t6, s8]; rfl) (by decide) ?_
            refine lv_aload_n hx hb dX10_count_109 rfl (lv_at hl 0 rfl) ?_
            refine zgC10_2 hx hb hg hown hK hP q608 dX10_count_110 ?_
            exact hret (zI σ 10 2) σ _ _ _ _ hw hP hD hS dX10_count_113
          replace hw := hw.2 s8
          by_cases s9 : a1 = 2
          · replace hw := hw.1 s9
            refine lv_tableIn (tgt := 114) hx hb dX10_count_60 (by rw [t6, s9]; decide) (by rw [t6, s9]; decide) (by rw [t6, s9]; rfl) (by decide) ?_
            refine lv_aload_n hx hb dX10_count_114 rfl (lv_at hl 0 rfl) ?_
            refine zgC10_3 hx hb hg hown hK hP q609 dX10_count_115 ?_
            exact hret (zI σ 10 3) σ _ _ _ _ hw hP hD hS dX10_count_118
          replace hw := hw.2 s9
          by_cases s10 : a1 = 3
          · replace hw := hw.1 s10
            refine lv_tableIn (tgt := 119) hx hb dX10_count_60 (by rw [t6, s10]; decide) (by rw [t6, s10]; decide) (by rw [t6, s10]; rfl) (by decide) ?_
            refine lv_aload_n hx hb dX10_count_119 rfl (lv_at hl 0 rfl) ?_
            refine zgC10_10 hx hb hg hown hK hP q616 dX10_count_120 ?_
            refine zgC17_1 hx hb hg hown hK hP q515 dX10_count_123 ?_
            exact hret (zI σ 17 1) σ _ _ _ _ hw hP hD hS dX10_count_126
          replace hw := hw.2 s10
          by_cases s11 : a1 = 4
          · replace hw := hw.1 s11
            refine lv_tableIn (tgt := 127) hx hb dX10_count_60 (by rw [t6, s11]; decide) (by rw [t6, s11]; decide) (by rw [t6, s11]; rfl) (by decide) ?_
            refine lv_aload_n hx hb dX10_count_127 rfl (lv_at hl 0 rfl) ?_
            refine zgC10_10 hx hb hg hown hK hP q616 dX10_count_128 ?_
            refine zgC17_3 hx hb hg hown hK hP q522 dX10_count_131 ?_
            exact hret (zI σ 17 3) σ _ _ _ _ hw hP hD hS dX10_count_134
          replace hw := hw.2 s11
          by_cases s12 : a1 = 5
          · replace hw := hw.1 s12
            refine lv_tableIn (tgt := 135) hx hb dX10_count_60 (by rw [t6, s12]; decide) (by rw [t6, s12]; decide) (by rw [t6, s12]; rfl) (by decide) ?_
            refine lv_aload_n hx hb dX10_count_135 rfl (lv_at hl 0 rfl) ?_
            refine zgC10_11 hx hb hg hown hK hP q617 dX10_count_136 ?_
            refine zgC18_8 hx hb hg hown hK hP q569 dX10_count_139 ?_
            exact hret (zI σ 18 8) σ _ _ _ _ hw hP hD hS dX10_count_142
          replace hw := hw.2 s12
          by_cases s13 : a1 = 6
          · replace hw := hw.1 s13
            refine lv_tableIn (tgt := 143) hx hb dX10_count_60 (by rw [t6, s13]; decide) (by rw [t6, s13]; decide) (by rw [t6, s13]; rfl) (by decide) ?_
            refine lv_aload_n hx hb dX10_count_143 rfl (lv_at hl 0 rfl) ?_
            refine zgC10_11 hx hb hg hown hK hP q617 dX10_count_144 ?_
            refine zgC18_9 hx hb hg hown hK hP q571 dX10_count_147 ?_
            exact hret (zI σ 18 9) σ _ _ _ _ hw hP hD hS dX10_count_150
          replace hw := hw.2 s13
          refine lv_tableOut (tgt := 151) hx hb dX10_count_60 (by rw [t6]; clear hw; omega) (by decide) ?_
          refine lv_aload_n hx hb dX10_count_151 rfl (lv_at hl 0 rfl) ?_
          refine zgC10_11 hx hb hg hown hK hP q617 dX10_count_152 ?_
          refine zgC18_7 hx hb hg hown hK hP q567 dX10_count_155 ?_
          obtain ⟨o14, hw⟩ := hw
          refine z_if_eq (tgt := 165) hx hb o14 dX10_count_158 (by decide) (fun k15 => ?_) (fun k15 => ?_)
          · replace hw := hw.1 k15
            refine lv_iconst (v := Int32.ofInt 0) hx hb dX10_count_165 (by decide) ?_
            exact j166 0 σ _ _ _ hP hD hS (lv_sub hl [] rfl) hw
          · replace hw := hw.2 k15
            refine lv_iconst (v := Int32.ofInt 1) hx hb dX10_count_161 (by decide) ?_
            refine lv_goto (tgt := 166) hx hb dX10_count_162 (by decide) ?_
            exact j166 1 σ _ _ _ hP hD hS (lv_sub hl [] rfl) hw
        · replace hw := hw.2 k5
          refine lv_aload_n hx hb dX10_count_46 rfl (lv_at hl 0 rfl) ?_
          refine zgC10_8 hx hb hg hown hK hP q614 dX10_count_47 ?_
          refine lv_iload_n hx hb dX10_count_50 rfl (lv_at hl 1 rfl) ?_
          refine lv_bipush (v := Int32.ofInt 8) hx hb dX10_count_51 (by decide) ?_
          refine z_isub hx hb dX10_count_53 ?_
          obtain ⟨o16, hw⟩ := hw
          refine zlC10_8 hx hb o16 hK hP dX10_count_54 ?_
          refine zgCM_1 hx hb hg hown (by clear hw; omega) hK hP q403 dX10_count_55 ?_
          exact hret (zI σ (a1 - 8) 1) σ _ _ _ _ hw hP hD hS dX10_count_58
      · replace hw := hw.2 k4
        refine lv_aload_n hx hb dX10_count_27 rfl (lv_at hl 0 rfl) ?_
        refine zgC10_8 hx hb hg hown hK hP q614 dX10_count_28 ?_
        refine lv_iload_n hx hb dX10_count_31 rfl (lv_at hl 1 rfl) ?_
        refine lv_bipush (v := Int32.ofInt 11) hx hb dX10_count_32 (by decide) ?_
        refine z_isub hx hb dX10_count_34 ?_
        obtain ⟨o17, hw⟩ := hw
        refine zlC10_8 hx hb o17 hK hP dX10_count_35 ?_
        refine zgCM_7 hx hb hg hown (by clear hw; omega) hK hP q419 dX10_count_36 ?_
        exact hret (zI σ (a1 - 11) 7) σ _ _ _ _ hw hP hD hS dX10_count_39
    · replace hw := hw.2 k3
      exact j10 σ _ _ _ hP hD hS (lv_sub hl [] rfl) hw
