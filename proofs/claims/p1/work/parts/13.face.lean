theorem q149 : Cond.initialized RX10 ∈ gw := gw_in (i := 149) (by decide +kernel) rfl
theorem q164 : Cond.initialized "java/lang/IndexOutOfBoundsException" ∈ gw := gw_in (i := 164) (by decide +kernel) rfl
theorem q167 : Cond.initialized "java/lang/IllegalArgumentException" ∈ gw := gw_in (i := 167) (by decide +kernel) rfl
theorem q178 : Cond.initialized "java/lang/IllegalStateException" ∈ gw := gw_in (i := 178) (by decide +kernel) rfl
theorem q403 : Cond.fieldLink RX10 224 "SegmentBench$ObjectModule" "segments" "I" ∈ gw := gw_in (i := 403) (by decide +kernel) rfl
theorem q419 : Cond.fieldLink RX10 243 "SegmentBench$ObjectModule" "fixups" "I" ∈ gw := gw_in (i := 419) (by decide +kernel) rfl
theorem q512 : Cond.fieldLink RX10 202 "SegmentBench$Image" "there" "Z" ∈ gw := gw_in (i := 512) (by decide +kernel) rfl
theorem q515 : Cond.fieldLink RX10 260 "SegmentBench$Image" "size" "I" ∈ gw := gw_in (i := 515) (by decide +kernel) rfl
theorem q522 : Cond.fieldLink RX10 296 "SegmentBench$Image" "relocations" "I" ∈ gw := gw_in (i := 522) (by decide +kernel) rfl
theorem q553 : Cond.fieldLink RX10 266 "SegmentBench$Machine" "cells" "[I" ∈ gw := gw_in (i := 553) (by decide +kernel) rfl
theorem q555 : Cond.fieldLink RX10 271 "SegmentBench$Machine" "general" "[I" ∈ gw := gw_in (i := 555) (by decide +kernel) rfl
theorem q557 : Cond.fieldLink RX10 274 "SegmentBench$Machine" "segment" "[I" ∈ gw := gw_in (i := 557) (by decide +kernel) rfl
theorem q559 : Cond.fieldLink RX10 208 "SegmentBench$Machine" "ip" "I" ∈ gw := gw_in (i := 559) (by decide +kernel) rfl
theorem q561 : Cond.fieldLink RX10 277 "SegmentBench$Machine" "carry" "I" ∈ gw := gw_in (i := 561) (by decide +kernel) rfl
theorem q563 : Cond.fieldLink RX10 280 "SegmentBench$Machine" "zero" "I" ∈ gw := gw_in (i := 563) (by decide +kernel) rfl
theorem q565 : Cond.fieldLink RX10 283 "SegmentBench$Machine" "sign" "I" ∈ gw := gw_in (i := 565) (by decide +kernel) rfl
theorem q567 : Cond.fieldLink RX10 213 "SegmentBench$Machine" "halted" "Z" ∈ gw := gw_in (i := 567) (by decide +kernel) rfl
theorem q569 : Cond.fieldLink RX10 299 "SegmentBench$Machine" "done" "I" ∈ gw := gw_in (i := 569) (by decide +kernel) rfl
theorem q571 : Cond.fieldLink RX10 286 "SegmentBench$Machine" "ints" "I" ∈ gw := gw_in (i := 571) (by decide +kernel) rfl
theorem q731 : Cond.classLink RX10 90 "java/lang/IllegalArgumentException" ∈ gw := gw_in (i := 731) (by decide +kernel) rfl
theorem q751 : Cond.classLink RX10 103 "java/lang/IndexOutOfBoundsException" ∈ gw := gw_in (i := 751) (by decide +kernel) rfl
theorem q787 : Cond.methodLink RX10 108 yX10_isModule ∈ gw := gw_in (i := 787) (by decide +kernel) rfl
theorem q788 : Cond.static yX10_isModule ∈ gw := gw_in (i := 788) (by decide +kernel) rfl
theorem q789 : Cond.code yX10_isModule cX10_isModule 1 (some .boolean) ∈ gw := gw_in (i := 789) (by decide +kernel) rfl
theorem q1264 : Cond.classLink RX10 167 "java/lang/IllegalStateException" ∈ gw := gw_in (i := 1264) (by decide +kernel) rfl
theorem dX10_memory_0 : decode cX10_memory 0 = .ok (.iload_n 1, 1) := by decide +kernel
theorem dX10_memory_1 : decode cX10_memory 1 = .ok (.ifCond .lt 10, 3) := by decide +kernel
theorem dX10_memory_11 : decode cX10_memory 11 = .ok (.new 90, 3) := by decide +kernel
theorem dX10_memory_14 : decode cX10_memory 14 = .ok (.dup, 1) := by decide +kernel
theorem dX10_memory_15 : decode cX10_memory 15 = .ok (.ldc_w 264, 3) := by decide +kernel
theorem dX10_memory_18 : decode cX10_memory 18 = .ok (.invokespecial 94, 3) := by decide +kernel
theorem dX10_memory_21 : decode cX10_memory 21 = .ok (.athrow, 1) := by decide +kernel
theorem dX10_memory_4 : decode cX10_memory 4 = .ok (.iload_n 1, 1) := by decide +kernel
theorem dX10_memory_5 : decode cX10_memory 5 = .ok (.sipush 4096, 3) := by decide +kernel
theorem dX10_memory_8 : decode cX10_memory 8 = .ok (.if_icmp .lt 14, 3) := by decide +kernel
theorem dX10_memory_22 : decode cX10_memory 22 = .ok (.aload_n 0, 1) := by decide +kernel
theorem dX10_memory_23 : decode cX10_memory 23 = .ok (.getfield 86, 3) := by decide +kernel
theorem dX10_memory_26 : decode cX10_memory 26 = .ok (.getfield 266, 3) := by decide +kernel
theorem dX10_memory_29 : decode cX10_memory 29 = .ok (.iload_n 1, 1) := by decide +kernel
theorem dX10_memory_30 : decode cX10_memory 30 = .ok (.iaload, 1) := by decide +kernel
theorem dX10_memory_31 : decode cX10_memory 31 = .ok (.ireturn, 1) := by decide +kernel
theorem dX10_register_0 : decode cX10_register 0 = .ok (.iload_n 1, 1) := by decide +kernel
theorem dX10_register_1 : decode cX10_register 1 = .ok (.ifCond .lt 9, 3) := by decide +kernel
theorem dX10_register_10 : decode cX10_register 10 = .ok (.new 90, 3) := by decide +kernel
theorem dX10_register_13 : decode cX10_register 13 = .ok (.dup, 1) := by decide +kernel
theorem dX10_register_14 : decode cX10_register 14 = .ok (.ldc_w 269, 3) := by decide +kernel
theorem dX10_register_17 : decode cX10_register 17 = .ok (.invokespecial 94, 3) := by decide +kernel
theorem dX10_register_20 : decode cX10_register 20 = .ok (.athrow, 1) := by decide +kernel
theorem dX10_register_4 : decode cX10_register 4 = .ok (.iload_n 1, 1) := by decide +kernel
theorem dX10_register_5 : decode cX10_register 5 = .ok (.bipush 15, 2) := by decide +kernel
theorem dX10_register_7 : decode cX10_register 7 = .ok (.if_icmp .le 14, 3) := by decide +kernel
theorem dX10_register_21 : decode cX10_register 21 = .ok (.iload_n 1, 1) := by decide +kernel
theorem dX10_register_22 : decode cX10_register 22 = .ok (.bipush 8, 2) := by decide +kernel
theorem dX10_register_24 : decode cX10_register 24 = .ok (.if_icmp .ge 13, 3) := by decide +kernel
theorem dX10_register_27 : decode cX10_register 27 = .ok (.aload_n 0, 1) := by decide +kernel
theorem dX10_register_28 : decode cX10_register 28 = .ok (.getfield 86, 3) := by decide +kernel
theorem dX10_register_31 : decode cX10_register 31 = .ok (.getfield 271, 3) := by decide +kernel
theorem dX10_register_34 : decode cX10_register 34 = .ok (.iload_n 1, 1) := by decide +kernel
theorem dX10_register_35 : decode cX10_register 35 = .ok (.iaload, 1) := by decide +kernel
theorem dX10_register_36 : decode cX10_register 36 = .ok (.ireturn, 1) := by decide +kernel
theorem dX10_register_37 : decode cX10_register 37 = .ok (.iload_n 1, 1) := by decide +kernel
theorem dX10_register_38 : decode cX10_register 38 = .ok (.bipush 12, 2) := by decide +kernel
theorem dX10_register_40 : decode cX10_register 40 = .ok (.if_icmp .ge 16, 3) := by decide +kernel
theorem dX10_register_43 : decode cX10_register 43 = .ok (.aload_n 0, 1) := by decide +kernel
theorem dX10_register_44 : decode cX10_register 44 = .ok (.getfield 86, 3) := by decide +kernel
theorem dX10_register_47 : decode cX10_register 47 = .ok (.getfield 274, 3) := by decide +kernel
theorem dX10_register_50 : decode cX10_register 50 = .ok (.iload_n 1, 1) := by decide +kernel
theorem dX10_register_51 : decode cX10_register 51 = .ok (.bipush 8, 2) := by decide +kernel
theorem dX10_register_53 : decode cX10_register 53 = .ok (.isub, 1) := by decide +kernel
theorem dX10_register_54 : decode cX10_register 54 = .ok (.iaload, 1) := by decide +kernel
theorem dX10_register_55 : decode cX10_register 55 = .ok (.ireturn, 1) := by decide +kernel
theorem dX10_register_56 : decode cX10_register 56 = .ok (.iload_n 1, 1) := by decide +kernel
theorem dX10_register_57 : decode cX10_register 57 = .ok (.tableswitch 51 12 14 #[27, 35, 43], 27) := by decide +kernel
theorem dX10_register_84 : decode cX10_register 84 = .ok (.aload_n 0, 1) := by decide +kernel
theorem dX10_register_85 : decode cX10_register 85 = .ok (.getfield 86, 3) := by decide +kernel
theorem dX10_register_88 : decode cX10_register 88 = .ok (.getfield 208, 3) := by decide +kernel
theorem dX10_register_91 : decode cX10_register 91 = .ok (.ireturn, 1) := by decide +kernel
theorem dX10_register_92 : decode cX10_register 92 = .ok (.aload_n 0, 1) := by decide +kernel
theorem dX10_register_93 : decode cX10_register 93 = .ok (.getfield 86, 3) := by decide +kernel
theorem dX10_register_96 : decode cX10_register 96 = .ok (.getfield 277, 3) := by decide +kernel
theorem dX10_register_99 : decode cX10_register 99 = .ok (.ireturn, 1) := by decide +kernel
theorem dX10_register_100 : decode cX10_register 100 = .ok (.aload_n 0, 1) := by decide +kernel
theorem dX10_register_101 : decode cX10_register 101 = .ok (.getfield 86, 3) := by decide +kernel
theorem dX10_register_104 : decode cX10_register 104 = .ok (.getfield 280, 3) := by decide +kernel
theorem dX10_register_107 : decode cX10_register 107 = .ok (.ireturn, 1) := by decide +kernel
theorem dX10_register_108 : decode cX10_register 108 = .ok (.aload_n 0, 1) := by decide +kernel
theorem dX10_register_109 : decode cX10_register 109 = .ok (.getfield 86, 3) := by decide +kernel
theorem dX10_register_112 : decode cX10_register 112 = .ok (.getfield 283, 3) := by decide +kernel
theorem dX10_register_115 : decode cX10_register 115 = .ok (.ireturn, 1) := by decide +kernel
theorem dX10_count_0 : decode cX10_count 0 = .ok (.iload_n 1, 1) := by decide +kernel
theorem dX10_count_1 : decode cX10_count 1 = .ok (.ifCond .lt 9, 3) := by decide +kernel
theorem dX10_count_10 : decode cX10_count 10 = .ok (.new 90, 3) := by decide +kernel
theorem dX10_count_13 : decode cX10_count 13 = .ok (.dup, 1) := by decide +kernel
theorem dX10_count_14 : decode cX10_count 14 = .ok (.ldc_w 294, 3) := by decide +kernel
theorem dX10_count_17 : decode cX10_count 17 = .ok (.invokespecial 94, 3) := by decide +kernel
theorem dX10_count_20 : decode cX10_count 20 = .ok (.athrow, 1) := by decide +kernel
theorem dX10_count_4 : decode cX10_count 4 = .ok (.iload_n 1, 1) := by decide +kernel
theorem dX10_count_5 : decode cX10_count 5 = .ok (.bipush 13, 2) := by decide +kernel
theorem dX10_count_7 : decode cX10_count 7 = .ok (.if_icmp .le 14, 3) := by decide +kernel
theorem dX10_count_21 : decode cX10_count 21 = .ok (.iload_n 1, 1) := by decide +kernel
theorem dX10_count_22 : decode cX10_count 22 = .ok (.bipush 11, 2) := by decide +kernel
theorem dX10_count_24 : decode cX10_count 24 = .ok (.if_icmp .lt 16, 3) := by decide +kernel
theorem dX10_count_40 : decode cX10_count 40 = .ok (.iload_n 1, 1) := by decide +kernel
theorem dX10_count_41 : decode cX10_count 41 = .ok (.bipush 8, 2) := by decide +kernel
theorem dX10_count_43 : decode cX10_count 43 = .ok (.if_icmp .lt 16, 3) := by decide +kernel
theorem dX10_count_59 : decode cX10_count 59 = .ok (.iload_n 1, 1) := by decide +kernel
theorem dX10_count_60 : decode cX10_count 60 = .ok (.tableswitch 91 0 6 #[44, 49, 54, 59, 67, 75, 83], 44) := by decide +kernel
theorem dX10_count_104 : decode cX10_count 104 = .ok (.aload_n 0, 1) := by decide +kernel
theorem dX10_count_105 : decode cX10_count 105 = .ok (.getfield 13, 3) := by decide +kernel
theorem dX10_count_108 : decode cX10_count 108 = .ok (.ireturn, 1) := by decide +kernel
theorem dX10_count_109 : decode cX10_count 109 = .ok (.aload_n 0, 1) := by decide +kernel
theorem dX10_count_110 : decode cX10_count 110 = .ok (.getfield 17, 3) := by decide +kernel
theorem dX10_count_113 : decode cX10_count 113 = .ok (.ireturn, 1) := by decide +kernel
theorem dX10_count_114 : decode cX10_count 114 = .ok (.aload_n 0, 1) := by decide +kernel
theorem dX10_count_115 : decode cX10_count 115 = .ok (.getfield 20, 3) := by decide +kernel
theorem dX10_count_118 : decode cX10_count 118 = .ok (.ireturn, 1) := by decide +kernel
theorem dX10_count_119 : decode cX10_count 119 = .ok (.aload_n 0, 1) := by decide +kernel
theorem dX10_count_120 : decode cX10_count 120 = .ok (.getfield 79, 3) := by decide +kernel
theorem dX10_count_123 : decode cX10_count 123 = .ok (.getfield 260, 3) := by decide +kernel
theorem dX10_count_126 : decode cX10_count 126 = .ok (.ireturn, 1) := by decide +kernel
theorem dX10_count_127 : decode cX10_count 127 = .ok (.aload_n 0, 1) := by decide +kernel
theorem dX10_count_128 : decode cX10_count 128 = .ok (.getfield 79, 3) := by decide +kernel
theorem dX10_count_131 : decode cX10_count 131 = .ok (.getfield 296, 3) := by decide +kernel
theorem dX10_count_134 : decode cX10_count 134 = .ok (.ireturn, 1) := by decide +kernel
theorem dX10_count_135 : decode cX10_count 135 = .ok (.aload_n 0, 1) := by decide +kernel
theorem dX10_count_136 : decode cX10_count 136 = .ok (.getfield 86, 3) := by decide +kernel
theorem dX10_count_139 : decode cX10_count 139 = .ok (.getfield 299, 3) := by decide +kernel
theorem dX10_count_142 : decode cX10_count 142 = .ok (.ireturn, 1) := by decide +kernel
theorem dX10_count_143 : decode cX10_count 143 = .ok (.aload_n 0, 1) := by decide +kernel
theorem dX10_count_144 : decode cX10_count 144 = .ok (.getfield 86, 3) := by decide +kernel
theorem dX10_count_147 : decode cX10_count 147 = .ok (.getfield 286, 3) := by decide +kernel
theorem dX10_count_150 : decode cX10_count 150 = .ok (.ireturn, 1) := by decide +kernel
theorem dX10_count_151 : decode cX10_count 151 = .ok (.aload_n 0, 1) := by decide +kernel
theorem dX10_count_152 : decode cX10_count 152 = .ok (.getfield 86, 3) := by decide +kernel
theorem dX10_count_155 : decode cX10_count 155 = .ok (.getfield 213, 3) := by decide +kernel
theorem dX10_count_158 : decode cX10_count 158 = .ok (.ifCond .eq 7, 3) := by decide +kernel
theorem dX10_count_161 : decode cX10_count 161 = .ok (.iconst 1, 1) := by decide +kernel
theorem dX10_count_162 : decode cX10_count 162 = .ok (.goto 4, 3) := by decide +kernel
theorem dX10_count_166 : decode cX10_count 166 = .ok (.ireturn, 1) := by decide +kernel
theorem dX10_count_46 : decode cX10_count 46 = .ok (.aload_n 0, 1) := by decide +kernel
theorem dX10_count_47 : decode cX10_count 47 = .ok (.getfield 62, 3) := by decide +kernel
theorem dX10_count_50 : decode cX10_count 50 = .ok (.iload_n 1, 1) := by decide +kernel
theorem dX10_count_51 : decode cX10_count 51 = .ok (.bipush 8, 2) := by decide +kernel
theorem dX10_count_53 : decode cX10_count 53 = .ok (.isub, 1) := by decide +kernel
theorem dX10_count_54 : decode cX10_count 54 = .ok (.aaload, 1) := by decide +kernel
theorem dX10_count_55 : decode cX10_count 55 = .ok (.getfield 224, 3) := by decide +kernel
theorem dX10_count_58 : decode cX10_count 58 = .ok (.ireturn, 1) := by decide +kernel
theorem dX10_count_27 : decode cX10_count 27 = .ok (.aload_n 0, 1) := by decide +kernel
theorem dX10_count_28 : decode cX10_count 28 = .ok (.getfield 62, 3) := by decide +kernel
theorem dX10_count_31 : decode cX10_count 31 = .ok (.iload_n 1, 1) := by decide +kernel
theorem dX10_count_32 : decode cX10_count 32 = .ok (.bipush 11, 2) := by decide +kernel
theorem dX10_count_34 : decode cX10_count 34 = .ok (.isub, 1) := by decide +kernel
theorem dX10_count_35 : decode cX10_count 35 = .ok (.aaload, 1) := by decide +kernel
theorem dX10_count_36 : decode cX10_count 36 = .ok (.getfield 243, 3) := by decide +kernel
theorem dX10_count_39 : decode cX10_count 39 = .ok (.ireturn, 1) := by decide +kernel
theorem dX10_image_0 : decode cX10_image 0 = .ok (.iload_n 1, 1) := by decide +kernel
theorem dX10_image_1 : decode cX10_image 1 = .ok (.ifCond .lt 14, 3) := by decide +kernel
theorem dX10_image_15 : decode cX10_image 15 = .ok (.new 103, 3) := by decide +kernel
theorem dX10_image_18 : decode cX10_image 18 = .ok (.dup, 1) := by decide +kernel
theorem dX10_image_19 : decode cX10_image 19 = .ok (.ldc 233, 2) := by decide +kernel
theorem dX10_image_21 : decode cX10_image 21 = .ok (.invokespecial 107, 3) := by decide +kernel
theorem dX10_image_24 : decode cX10_image 24 = .ok (.athrow, 1) := by decide +kernel
theorem dX10_image_4 : decode cX10_image 4 = .ok (.iload_n 1, 1) := by decide +kernel
theorem dX10_image_5 : decode cX10_image 5 = .ok (.aload_n 0, 1) := by decide +kernel
theorem dX10_image_6 : decode cX10_image 6 = .ok (.getfield 79, 3) := by decide +kernel
theorem dX10_image_9 : decode cX10_image 9 = .ok (.getfield 260, 3) := by decide +kernel
theorem dX10_image_12 : decode cX10_image 12 = .ok (.if_icmp .lt 13, 3) := by decide +kernel
theorem dX10_trace_0 : decode cX10_trace 0 = .ok (.iload_n 1, 1) := by decide +kernel
theorem dX10_trace_1 : decode cX10_trace 1 = .ok (.ifCond .lt 20, 3) := by decide +kernel
theorem dX10_trace_21 : decode cX10_trace 21 = .ok (.new 103, 3) := by decide +kernel
theorem dX10_trace_24 : decode cX10_trace 24 = .ok (.dup, 1) := by decide +kernel
theorem dX10_trace_25 : decode cX10_trace 25 = .ok (.ldc_w 289, 3) := by decide +kernel
theorem dX10_trace_28 : decode cX10_trace 28 = .ok (.invokespecial 107, 3) := by decide +kernel
theorem dX10_trace_31 : decode cX10_trace 31 = .ok (.athrow, 1) := by decide +kernel
theorem dX10_trace_4 : decode cX10_trace 4 = .ok (.iload_n 1, 1) := by decide +kernel
theorem dX10_trace_5 : decode cX10_trace 5 = .ok (.bipush 30, 2) := by decide +kernel
theorem dX10_trace_7 : decode cX10_trace 7 = .ok (.if_icmp .ge 14, 3) := by decide +kernel
theorem dX10_trace_10 : decode cX10_trace 10 = .ok (.iload_n 1, 1) := by decide +kernel
theorem dX10_trace_11 : decode cX10_trace 11 = .ok (.aload_n 0, 1) := by decide +kernel
theorem dX10_trace_12 : decode cX10_trace 12 = .ok (.getfield 86, 3) := by decide +kernel
theorem dX10_trace_15 : decode cX10_trace 15 = .ok (.getfield 286, 3) := by decide +kernel
theorem dX10_trace_18 : decode cX10_trace 18 = .ok (.if_icmp .lt 14, 3) := by decide +kernel
theorem dX10_load_0 : decode cX10_load 0 = .ok (.iload_n 1, 1) := by decide +kernel
theorem dX10_load_1 : decode cX10_load 1 = .ok (.ifCond .lt 10, 3) := by decide +kernel
theorem dX10_load_11 : decode cX10_load 11 = .ok (.new 90, 3) := by decide +kernel
theorem dX10_load_14 : decode cX10_load 14 = .ok (.dup, 1) := by decide +kernel
theorem dX10_load_15 : decode cX10_load 15 = .ok (.ldc 200, 2) := by decide +kernel
theorem dX10_load_17 : decode cX10_load 17 = .ok (.invokespecial 94, 3) := by decide +kernel
theorem dX10_load_20 : decode cX10_load 20 = .ok (.athrow, 1) := by decide +kernel
theorem dX10_load_4 : decode cX10_load 4 = .ok (.iload_n 1, 1) := by decide +kernel
theorem dX10_load_5 : decode cX10_load 5 = .ok (.sipush 255, 3) := by decide +kernel
theorem dX10_load_8 : decode cX10_load 8 = .ok (.if_icmp .le 13, 3) := by decide +kernel
theorem dX10_load_21 : decode cX10_load 21 = .ok (.aload_n 0, 1) := by decide +kernel
theorem dX10_load_22 : decode cX10_load 22 = .ok (.getfield 79, 3) := by decide +kernel
theorem dX10_load_25 : decode cX10_load 25 = .ok (.getfield 202, 3) := by decide +kernel
theorem dX10_load_28 : decode cX10_load 28 = .ok (.ifCond .ne 13, 3) := by decide +kernel
theorem dX10_load_31 : decode cX10_load 31 = .ok (.new 167, 3) := by decide +kernel
theorem dX10_load_34 : decode cX10_load 34 = .ok (.dup, 1) := by decide +kernel
theorem dX10_load_35 : decode cX10_load 35 = .ok (.ldc 203, 2) := by decide +kernel
theorem dX10_load_37 : decode cX10_load 37 = .ok (.invokespecial 171, 3) := by decide +kernel
theorem dX10_load_40 : decode cX10_load 40 = .ok (.athrow, 1) := by decide +kernel
theorem dX10_run_0 : decode cX10_run 0 = .ok (.iload_n 1, 1) := by decide +kernel
theorem dX10_run_1 : decode cX10_run 1 = .ok (.iconst 1, 1) := by decide +kernel
theorem dX10_run_2 : decode cX10_run 2 = .ok (.if_icmp .lt 10, 3) := by decide +kernel
theorem dX10_run_12 : decode cX10_run 12 = .ok (.new 90, 3) := by decide +kernel
theorem dX10_run_15 : decode cX10_run 15 = .ok (.dup, 1) := by decide +kernel
theorem dX10_run_16 : decode cX10_run 16 = .ok (.ldc 211, 2) := by decide +kernel
theorem dX10_run_18 : decode cX10_run 18 = .ok (.invokespecial 94, 3) := by decide +kernel
theorem dX10_run_21 : decode cX10_run 21 = .ok (.athrow, 1) := by decide +kernel
theorem dX10_run_5 : decode cX10_run 5 = .ok (.iload_n 1, 1) := by decide +kernel
theorem dX10_run_6 : decode cX10_run 6 = .ok (.sipush 400, 3) := by decide +kernel
theorem dX10_run_9 : decode cX10_run 9 = .ok (.if_icmp .le 13, 3) := by decide +kernel
theorem dX10_run_22 : decode cX10_run 22 = .ok (.aload_n 0, 1) := by decide +kernel
theorem dX10_run_23 : decode cX10_run 23 = .ok (.getfield 86, 3) := by decide +kernel
theorem dX10_run_26 : decode cX10_run 26 = .ok (.getfield 213, 3) := by decide +kernel
theorem dX10_run_29 : decode cX10_run 29 = .ok (.ifCond .eq 13, 3) := by decide +kernel
theorem dX10_run_32 : decode cX10_run 32 = .ok (.new 167, 3) := by decide +kernel
theorem dX10_run_35 : decode cX10_run 35 = .ok (.dup, 1) := by decide +kernel
theorem dX10_run_36 : decode cX10_run 36 = .ok (.ldc 216, 2) := by decide +kernel
theorem dX10_run_38 : decode cX10_run 38 = .ok (.invokespecial 171, 3) := by decide +kernel
theorem dX10_run_41 : decode cX10_run 41 = .ok (.athrow, 1) := by decide +kernel
theorem dX10_code_0 : decode cX10_code 0 = .ok (.iload_n 1, 1) := by decide +kernel
theorem dX10_code_1 : decode cX10_code 1 = .ok (.invokestatic 108, 3) := by decide +kernel
theorem dX10_code_4 : decode cX10_code 4 = .ok (.ifCond .ne 13, 3) := by decide +kernel
theorem dX10_code_17 : decode cX10_code 17 = .ok (.aload_n 0, 1) := by decide +kernel
theorem dX10_code_18 : decode cX10_code 18 = .ok (.getfield 62, 3) := by decide +kernel
theorem dX10_code_21 : decode cX10_code 21 = .ok (.iload_n 1, 1) := by decide +kernel
theorem dX10_code_22 : decode cX10_code 22 = .ok (.aaload, 1) := by decide +kernel
theorem dX10_code_23 : decode cX10_code 23 = .ok (.astore 4, 2) := by decide +kernel
theorem dX10_code_25 : decode cX10_code 25 = .ok (.iload_n 2, 1) := by decide +kernel
theorem dX10_code_26 : decode cX10_code 26 = .ok (.ifCond .lt 12, 3) := by decide +kernel
theorem dX10_code_38 : decode cX10_code 38 = .ok (.new 103, 3) := by decide +kernel
theorem dX10_code_41 : decode cX10_code 41 = .ok (.dup, 1) := by decide +kernel
theorem dX10_code_42 : decode cX10_code 42 = .ok (.ldc 227, 2) := by decide +kernel
theorem dX10_code_44 : decode cX10_code 44 = .ok (.invokespecial 107, 3) := by decide +kernel
theorem dX10_code_47 : decode cX10_code 47 = .ok (.athrow, 1) := by decide +kernel
theorem dX10_code_29 : decode cX10_code 29 = .ok (.iload_n 2, 1) := by decide +kernel
theorem dX10_code_30 : decode cX10_code 30 = .ok (.aload 4, 2) := by decide +kernel
theorem dX10_code_32 : decode cX10_code 32 = .ok (.getfield 224, 3) := by decide +kernel
theorem dX10_code_35 : decode cX10_code 35 = .ok (.if_icmp .lt 13, 3) := by decide +kernel
theorem dX10_code_7 : decode cX10_code 7 = .ok (.new 103, 3) := by decide +kernel
theorem dX10_code_10 : decode cX10_code 10 = .ok (.dup, 1) := by decide +kernel
theorem dX10_code_11 : decode cX10_code 11 = .ok (.ldc 222, 2) := by decide +kernel
theorem dX10_code_13 : decode cX10_code 13 = .ok (.invokespecial 107, 3) := by decide +kernel
theorem dX10_code_16 : decode cX10_code 16 = .ok (.athrow, 1) := by decide +kernel
theorem dX10_fixup_0 : decode cX10_fixup 0 = .ok (.iload_n 3, 1) := by decide +kernel
theorem dX10_fixup_1 : decode cX10_fixup 1 = .ok (.ifCond .lt 8, 3) := by decide +kernel
theorem dX10_fixup_9 : decode cX10_fixup 9 = .ok (.new 90, 3) := by decide +kernel
theorem dX10_fixup_12 : decode cX10_fixup 12 = .ok (.dup, 1) := by decide +kernel
theorem dX10_fixup_13 : decode cX10_fixup 13 = .ok (.ldc 241, 2) := by decide +kernel
theorem dX10_fixup_15 : decode cX10_fixup 15 = .ok (.invokespecial 94, 3) := by decide +kernel
theorem dX10_fixup_18 : decode cX10_fixup 18 = .ok (.athrow, 1) := by decide +kernel
theorem dX10_fixup_4 : decode cX10_fixup 4 = .ok (.iload_n 3, 1) := by decide +kernel
theorem dX10_fixup_5 : decode cX10_fixup 5 = .ok (.iconst 3, 1) := by decide +kernel
theorem dX10_fixup_6 : decode cX10_fixup 6 = .ok (.if_icmp .le 13, 3) := by decide +kernel
theorem dX10_fixup_19 : decode cX10_fixup 19 = .ok (.iload_n 1, 1) := by decide +kernel
theorem dX10_fixup_20 : decode cX10_fixup 20 = .ok (.invokestatic 108, 3) := by decide +kernel
theorem dX10_fixup_23 : decode cX10_fixup 23 = .ok (.ifCond .ne 13, 3) := by decide +kernel
theorem dX10_fixup_36 : decode cX10_fixup 36 = .ok (.aload_n 0, 1) := by decide +kernel
theorem dX10_fixup_37 : decode cX10_fixup 37 = .ok (.getfield 62, 3) := by decide +kernel
theorem dX10_fixup_40 : decode cX10_fixup 40 = .ok (.iload_n 1, 1) := by decide +kernel
theorem dX10_fixup_41 : decode cX10_fixup 41 = .ok (.aaload, 1) := by decide +kernel
theorem dX10_fixup_42 : decode cX10_fixup 42 = .ok (.astore 4, 2) := by decide +kernel
theorem dX10_fixup_44 : decode cX10_fixup 44 = .ok (.iload_n 2, 1) := by decide +kernel
theorem dX10_fixup_45 : decode cX10_fixup 45 = .ok (.ifCond .lt 12, 3) := by decide +kernel
theorem dX10_fixup_57 : decode cX10_fixup 57 = .ok (.new 103, 3) := by decide +kernel
theorem dX10_fixup_60 : decode cX10_fixup 60 = .ok (.dup, 1) := by decide +kernel
theorem dX10_fixup_61 : decode cX10_fixup 61 = .ok (.ldc 246, 2) := by decide +kernel
theorem dX10_fixup_63 : decode cX10_fixup 63 = .ok (.invokespecial 107, 3) := by decide +kernel
theorem dX10_fixup_66 : decode cX10_fixup 66 = .ok (.athrow, 1) := by decide +kernel
theorem dX10_fixup_48 : decode cX10_fixup 48 = .ok (.iload_n 2, 1) := by decide +kernel
theorem dX10_fixup_49 : decode cX10_fixup 49 = .ok (.aload 4, 2) := by decide +kernel
theorem dX10_fixup_51 : decode cX10_fixup 51 = .ok (.getfield 243, 3) := by decide +kernel
theorem dX10_fixup_54 : decode cX10_fixup 54 = .ok (.if_icmp .lt 13, 3) := by decide +kernel
theorem dX10_fixup_26 : decode cX10_fixup 26 = .ok (.new 103, 3) := by decide +kernel
theorem dX10_fixup_29 : decode cX10_fixup 29 = .ok (.dup, 1) := by decide +kernel
theorem dX10_fixup_30 : decode cX10_fixup 30 = .ok (.ldc 222, 2) := by decide +kernel
theorem dX10_fixup_32 : decode cX10_fixup 32 = .ok (.invokespecial 107, 3) := by decide +kernel
theorem dX10_fixup_35 : decode cX10_fixup 35 = .ok (.athrow, 1) := by decide +kernel
set_option maxHeartbeats 4000000 in
set_option maxRecDepth 100000 in
theorem c_X10_memory (l : Launch) (htr : l.stackTraces = false) (D : va_G) (dA : Nat → ClassId) (h0 : Nat) (ad : Nat → Nat) (x : Int32) (sz : Nat) : vx_Met l yX10_memory (gws yX10_memory cX10_memory 2 (some .int)) (gR 8 1 6) (gPreX D dA [.ref h0, .int x] [(h0, .inr (10, [.ref (ad 0), .int 0, .int (-1), .int (-1), .ref (ad 1), .ref (ad 2), .ref (ad 3), .ref (ad 4), .ref (ad 5), .ref (ad 6), .ref (ad 7), .ref (ad 8)])), (ad 8, .inr (4, [.ref (ad 78), .ref (ad 79), .ref (ad 80), .int 0, .int 0, .int 0, .int 0, .int 1, .int 0, .int 0, .ref (ad 81), .int 0, .int 0, .int 0])), (ad 78, .inl (dA 0, 4096, .inl (fun _ => 0)))] sz) (va_Qi (fun (r : Int32) (_ : Unit) => r = 0 ∧ gIn 0 4095 x) (gAt D dA (va_A [(h0, .inr (10, [.ref (ad 0), .int 0, .int (-1), .int (-1), .ref (ad 1), .ref (ad 2), .ref (ad 3), .ref (ad 4), .ref (ad 5), .ref (ad 6), .ref (ad 7), .ref (ad 8)])), (ad 8, .inr (4, [.ref (ad 78), .ref (ad 79), .ref (ad 80), .int 0, .int 0, .int 0, .int 0, .int 1, .int 0, .int 0, .ref (ad 81), .int 0, .int 0, .int 0])), (ad 78, .inl (dA 0, 4096, .inl (fun _ => 0)))] sz) (fun _ : Unit => [])) (va_A [(h0, .inr (10, [.ref (ad 0), .int 0, .int (-1), .int (-1), .ref (ad 1), .ref (ad 2), .ref (ad 3), .ref (ad 4), .ref (ad 5), .ref (ad 6), .ref (ad 7), .ref (ad 8)])), (ad 8, .inr (4, [.ref (ad 78), .ref (ad 79), .ref (ad 80), .int 0, .int 0, .int 0, .int 0, .int 1, .int 0, .int 0, .ref (ad 81), .int 0, .int 0, .int 0])), (ad 78, .inl (dA 0, 4096, .inl (fun _ => 0)))] sz)) (gX (fun E : String => E = xIAE ∧ ¬ gIn 0 4095 x) (va_A [(h0, .inr (10, [.ref (ad 0), .int 0, .int (-1), .int (-1), .ref (ad 1), .ref (ad 2), .ref (ad 3), .ref (ad 4), .ref (ad 5), .ref (ad 6), .ref (ad 7), .ref (ad 8)])), (ad 8, .inr (4, [.ref (ad 78), .ref (ad 79), .ref (ad 80), .int 0, .int 0, .int 0, .int 0, .int 1, .int 0, .int 0, .ref (ad 81), .int 0, .int 0, .int 0])), (ad 78, .inl (dA 0, 4096, .inl (fun _ => 0)))] sz)) 1 6 (va_A [(h0, .inr (10, [.ref (ad 0), .int 0, .int (-1), .int (-1), .ref (ad 1), .ref (ad 2), .ref (ad 3), .ref (ad 4), .ref (ad 5), .ref (ad 6), .ref (ad 7), .ref (ad 8)])), (ad 8, .inr (4, [.ref (ad 78), .ref (ad 79), .ref (ad 80), .int 0, .int 0, .int 0, .int 0, .int 1, .int 0, .int 0, .ref (ad 81), .int 0, .int 0, .int 0])), (ad 78, .inl (dA 0, 4096, .inl (fun _ => 0)))] sz) := by
  refine vx_ofW (cc := cX10_memory) (maxL := 2) (ret := (some .int)) (by decide) rfl ?_
  intro p e s m args below meth c s₁ B hml hnt hv
  obtain ⟨rfl, hsz, hP, hK, hD0, hZ⟩ := hv
  have hx := B.exec
  have hb := B.bytes
  have hr := B.returns
  have hts := atoms_spec (ws := gws yX10_memory cX10_memory 2 (some .int)) B.pre
  have hg : ∀ w ∈ gw, w.before _ s = true := fun w h => hts w (List.mem_cons_of_mem _ h)
  have hown : s.vm.findClass RX10 = some m.cls := findClass_of_methodNamed B.named
  have hlocks := B.notSynchronized
  subst hsz
  have hD := hD0.self (sz := s.heap.size)
  generalize hAe : va_A [(h0, .inr (10, [.ref (ad 0), .int 0, .int (-1), .int (-1), .ref (ad 1), .ref (ad 2), .ref (ad 3), .ref (ad 4), .ref (ad 5), .ref (ad 6), .ref (ad 7), .ref (ad 8)])), (ad 8, .inr (4, [.ref (ad 78), .ref (ad 79), .ref (ad 80), .int 0, .int 0, .int 0, .int 0, .int 1, .int 0, .int 0, .ref (ad 81), .int 0, .int 0, .int 0])), (ad 78, .inl (dA 0, 4096, .inl (fun _ => 0)))] s.heap.size = A at hZ hD ⊢
  have hA : ∀ q : Nat, s.heap.size ≤ q → A q := fun q h => by rw [← hAe]; exact Or.inr h
  have hS : va_S A s.heap s.heap [] := va_S.rf
  have hP : va_P D vwC [(h0, .inr (10, [.ref (ad 0), .int 0, .int (-1), .int (-1), .ref (ad 1), .ref (ad 2), .ref (ad 3), .ref (ad 4), .ref (ad 5), .ref (ad 6), .ref (ad 7), .ref (ad 8)])), (ad 8, .inr (4, [.ref (ad 78), .ref (ad 79), .ref (ad 80), .int 0, .int 0, .int 0, .int 0, .int 1, .int 0, .int 0, .ref (ad 81), .int 0, .int 0, .int 0])), (ad 78, .inl (dA 0, 4096, .inl (fun _ => 0)))] s.heap := hP
  have hl := lv_entry ([.ref h0, .int x]) (n := 2) (Nat.le_of_ble_eq_true rfl)
  rw [lg_entry_eq]
  generalize (lg_sl ([.ref h0, .int x]) ++ List.replicate (2 - (lg_sl ([.ref h0, .int x])).length) Slot.unset).toArray = ls at hl ⊢
  have hl : lv_has ls 2 [(0, .ref h0), (1, .int x)] := hl
  refine lv_iload_n hx hb dX10_memory_0 rfl (lv_at hl 1 rfl) ?_
  refine lv_if_lt (tgt := 11) hx hb dX10_memory_1 (by decide) (fun k1 => ?_) (fun k1 => ?_)
  · have bk1 := gb_lt_r (k := 0) (by decide) k1
    exact g_thrW (cls := xIAE) (is := 264) (text := "address is not 0 .. 4095") hx hb hg htr hown (by decide) q731 q167 (by decide +kernel) atIAE (by decide +kernel) hZ hS hml hl.1 hnt hlocks dX10_memory_11 dX10_memory_14 dX10_memory_15 dX10_memory_18 dX10_memory_21 (Nat.le_of_ble_eq_true rfl) (Nat.le_of_ble_eq_true rfl) (Nat.le_of_ble_eq_true rfl) (Nat.le_of_ble_eq_true rfl) (Nat.le_of_ble_eq_true rfl) (Nat.le_of_ble_eq_true rfl) ⟨rfl, by unfold gIn; omega⟩
  · refine lv_iload_n hx hb dX10_memory_4 rfl (lv_at hl 1 rfl) ?_
    refine lv_sipush (v := 4096) hx hb dX10_memory_5 (by decide) ?_
    refine lv_icmp_lt (tgt := 22) hx hb dX10_memory_8 (by decide) (fun k2 => ?_) (fun k2 => ?_)
    · refine lv_aload_n hx hb dX10_memory_22 rfl (lv_at hl 0 rfl) ?_
      refine g_get hx hb hg hown hK hP 0 rfl rfl inX10 11 (by decide) q617 rfl dX10_memory_23 ?_
      refine g_get hx hb hg hown hK hP 1 rfl rfl inX4 0 (by decide) q553 rfl dX10_memory_26 ?_
      refine lv_iload_n hx hb dX10_memory_29 rfl (lv_at hl 1 rfl) ?_
      have bk1 := gb_nlt_r (k := 0) (by decide) k1
      have bk2 := gb_lt_r (k := 4096) (by decide) k2
      refine va_iald hx hb hK hP 2 0 rfl rfl (by rw [vp_in_iff]; omega) dX10_memory_30 ?_
      refine g_nrm (y := 0) (by first | rfl | decide) ?_
      have bk1 := gb_nlt_r (k := 0) (by decide) k1
      have bk2 := gb_lt_r (k := 4096) (by decide) k2
      exact vx_ret (g_iret hx hb hr rfl hlocks hK () (hP.sub [] rfl) (hD.sub [] rfl rfl) hS ⟨rfl, by unfold gIn; first | decide | omega⟩ (Nat.le_of_ble_eq_true rfl) (Nat.le_of_ble_eq_true rfl) dX10_memory_31)
    · have bk1 := gb_nlt_r (k := 0) (by decide) k1
      have bk2 := gb_nlt_r (k := 4096) (by decide) k2
      exact g_thrW (cls := xIAE) (is := 264) (text := "address is not 0 .. 4095") hx hb hg htr hown (by decide) q731 q167 (by decide +kernel) atIAE (by decide +kernel) hZ hS hml hl.1 hnt hlocks dX10_memory_11 dX10_memory_14 dX10_memory_15 dX10_memory_18 dX10_memory_21 (Nat.le_of_ble_eq_true rfl) (Nat.le_of_ble_eq_true rfl) (Nat.le_of_ble_eq_true rfl) (Nat.le_of_ble_eq_true rfl) (Nat.le_of_ble_eq_true rfl) (Nat.le_of_ble_eq_true rfl) ⟨rfl, by unfold gIn; omega⟩
theorem g_c0_15 {x : Int32} (h0 : 0 ≤ x.toInt) (h1 : x.toInt ≤ 15) : x = 0 ∨ x = 1 ∨ x = 2 ∨ x = 3 ∨ x = 4 ∨ x = 5 ∨ x = 6 ∨ x = 7 ∨ x = 8 ∨ x = 9 ∨ x = 10 ∨ x = 11 ∨ x = 12 ∨ x = 13 ∨ x = 14 ∨ x = 15 := by
  have h : x.toInt = 0 ∨ x.toInt = 1 ∨ x.toInt = 2 ∨ x.toInt = 3 ∨ x.toInt = 4 ∨ x.toInt = 5 ∨ x.toInt = 6 ∨ x.toInt = 7 ∨ x.toInt = 8 ∨ x.toInt = 9 ∨ x.toInt = 10 ∨ x.toInt = 11 ∨ x.toInt = 12 ∨ x.toInt = 13 ∨ x.toInt = 14 ∨ x.toInt = 15 := by omega
  rcases h with h | h | h | h | h | h | h | h | h | h | h | h | h | h | h | h
  · exact (Or.inl (g_eqI (by decide) h))
  · exact (Or.inr (Or.inl (g_eqI (by decide) h)))
  · exact (Or.inr (Or.inr (Or.inl (g_eqI (by decide) h))))
  · exact (Or.inr (Or.inr (Or.inr (Or.inl (g_eqI (by decide) h)))))
  · exact (Or.inr (Or.inr (Or.inr (Or.inr (Or.inl (g_eqI (by decide) h))))))
  · exact (Or.inr (Or.inr (Or.inr (Or.inr (Or.inr (Or.inl (g_eqI (by decide) h)))))))
  · exact (Or.inr (Or.inr (Or.inr (Or.inr (Or.inr (Or.inr (Or.inl (g_eqI (by decide) h))))))))
  · exact (Or.inr (Or.inr (Or.inr (Or.inr (Or.inr (Or.inr (Or.inr (Or.inl (g_eqI (by decide) h)))))))))
  · exact (Or.inr (Or.inr (Or.inr (Or.inr (Or.inr (Or.inr (Or.inr (Or.inr (Or.inl (g_eqI (by decide) h))))))))))
  · exact (Or.inr (Or.inr (Or.inr (Or.inr (Or.inr (Or.inr (Or.inr (Or.inr (Or.inr (Or.inl (g_eqI (by decide) h)))))))))))
  · exact (Or.inr (Or.inr (Or.inr (Or.inr (Or.inr (Or.inr (Or.inr (Or.inr (Or.inr (Or.inr (Or.inl (g_eqI (by decide) h))))))))))))
  · exact (Or.inr (Or.inr (Or.inr (Or.inr (Or.inr (Or.inr (Or.inr (Or.inr (Or.inr (Or.inr (Or.inr (Or.inl (g_eqI (by decide) h)))))))))))))
  · exact (Or.inr (Or.inr (Or.inr (Or.inr (Or.inr (Or.inr (Or.inr (Or.inr (Or.inr (Or.inr (Or.inr (Or.inr (Or.inl (g_eqI (by decide) h))))))))))))))
  · exact (Or.inr (Or.inr (Or.inr (Or.inr (Or.inr (Or.inr (Or.inr (Or.inr (Or.inr (Or.inr (Or.inr (Or.inr (Or.inr (Or.inl (g_eqI (by decide) h)))))))))))))))
  · exact (Or.inr (Or.inr (Or.inr (Or.inr (Or.inr (Or.inr (Or.inr (Or.inr (Or.inr (Or.inr (Or.inr (Or.inr (Or.inr (Or.inr (Or.inl (g_eqI (by decide) h))))))))))))))))
  · exact (Or.inr (Or.inr (Or.inr (Or.inr (Or.inr (Or.inr (Or.inr (Or.inr (Or.inr (Or.inr (Or.inr (Or.inr (Or.inr (Or.inr (Or.inr (g_eqI (by decide) h))))))))))))))))
theorem g_c0_13 {x : Int32} (h0 : 0 ≤ x.toInt) (h1 : x.toInt ≤ 13) : x = 0 ∨ x = 1 ∨ x = 2 ∨ x = 3 ∨ x = 4 ∨ x = 5 ∨ x = 6 ∨ x = 7 ∨ x = 8 ∨ x = 9 ∨ x = 10 ∨ x = 11 ∨ x = 12 ∨ x = 13 := by
  have h : x.toInt = 0 ∨ x.toInt = 1 ∨ x.toInt = 2 ∨ x.toInt = 3 ∨ x.toInt = 4 ∨ x.toInt = 5 ∨ x.toInt = 6 ∨ x.toInt = 7 ∨ x.toInt = 8 ∨ x.toInt = 9 ∨ x.toInt = 10 ∨ x.toInt = 11 ∨ x.toInt = 12 ∨ x.toInt = 13 := by omega
  rcases h with h | h | h | h | h | h | h | h | h | h | h | h | h | h
  · exact (Or.inl (g_eqI (by decide) h))
  · exact (Or.inr (Or.inl (g_eqI (by decide) h)))
  · exact (Or.inr (Or.inr (Or.inl (g_eqI (by decide) h))))
  · exact (Or.inr (Or.inr (Or.inr (Or.inl (g_eqI (by decide) h)))))
  · exact (Or.inr (Or.inr (Or.inr (Or.inr (Or.inl (g_eqI (by decide) h))))))
  · exact (Or.inr (Or.inr (Or.inr (Or.inr (Or.inr (Or.inl (g_eqI (by decide) h)))))))
  · exact (Or.inr (Or.inr (Or.inr (Or.inr (Or.inr (Or.inr (Or.inl (g_eqI (by decide) h))))))))
  · exact (Or.inr (Or.inr (Or.inr (Or.inr (Or.inr (Or.inr (Or.inr (Or.inl (g_eqI (by decide) h)))))))))
  · exact (Or.inr (Or.inr (Or.inr (Or.inr (Or.inr (Or.inr (Or.inr (Or.inr (Or.inl (g_eqI (by decide) h))))))))))
  · exact (Or.inr (Or.inr (Or.inr (Or.inr (Or.inr (Or.inr (Or.inr (Or.inr (Or.inr (Or.inl (g_eqI (by decide) h)))))))))))
  · exact (Or.inr (Or.inr (Or.inr (Or.inr (Or.inr (Or.inr (Or.inr (Or.inr (Or.inr (Or.inr (Or.inl (g_eqI (by decide) h))))))))))))
  · exact (Or.inr (Or.inr (Or.inr (Or.inr (Or.inr (Or.inr (Or.inr (Or.inr (Or.inr (Or.inr (Or.inr (Or.inl (g_eqI (by decide) h)))))))))))))
  · exact (Or.inr (Or.inr (Or.inr (Or.inr (Or.inr (Or.inr (Or.inr (Or.inr (Or.inr (Or.inr (Or.inr (Or.inr (Or.inl (g_eqI (by decide) h))))))))))))))
  · exact (Or.inr (Or.inr (Or.inr (Or.inr (Or.inr (Or.inr (Or.inr (Or.inr (Or.inr (Or.inr (Or.inr (Or.inr (Or.inr (g_eqI (by decide) h))))))))))))))
theorem g_c1_8 {x : Int32} (h0 : 1 ≤ x.toInt) (h1 : x.toInt ≤ 8) : x = 1 ∨ x = 2 ∨ x = 3 ∨ x = 4 ∨ x = 5 ∨ x = 6 ∨ x = 7 ∨ x = 8 := by
  have h : x.toInt = 1 ∨ x.toInt = 2 ∨ x.toInt = 3 ∨ x.toInt = 4 ∨ x.toInt = 5 ∨ x.toInt = 6 ∨ x.toInt = 7 ∨ x.toInt = 8 := by omega
  rcases h with h | h | h | h | h | h | h | h
  · exact (Or.inl (g_eqI (by decide) h))
  · exact (Or.inr (Or.inl (g_eqI (by decide) h)))
  · exact (Or.inr (Or.inr (Or.inl (g_eqI (by decide) h))))
  · exact (Or.inr (Or.inr (Or.inr (Or.inl (g_eqI (by decide) h)))))
  · exact (Or.inr (Or.inr (Or.inr (Or.inr (Or.inl (g_eqI (by decide) h))))))
  · exact (Or.inr (Or.inr (Or.inr (Or.inr (Or.inr (Or.inl (g_eqI (by decide) h)))))))
  · exact (Or.inr (Or.inr (Or.inr (Or.inr (Or.inr (Or.inr (Or.inl (g_eqI (by decide) h))))))))
  · exact (Or.inr (Or.inr (Or.inr (Or.inr (Or.inr (Or.inr (Or.inr (g_eqI (by decide) h))))))))
set_option maxHeartbeats 4000000 in
set_option maxRecDepth 100000 in
theorem c_X10_register (l : Launch) (htr : l.stackTraces = false) (D : va_G) (dA : Nat → ClassId) (h0 : Nat) (ad : Nat → Nat) (x : Int32) (sz : Nat) : vx_Met l yX10_register (gws yX10_register cX10_register 2 (some .int)) (gR 8 1 6) (gPreX D dA [.ref h0, .int x] [(h0, .inr (10, [.ref (ad 0), .int 0, .int (-1), .int (-1), .ref (ad 1), .ref (ad 2), .ref (ad 3), .ref (ad 4), .ref (ad 5), .ref (ad 6), .ref (ad 7), .ref (ad 8)])), (ad 8, .inr (4, [.ref (ad 78), .ref (ad 79), .ref (ad 80), .int 0, .int 0, .int 0, .int 0, .int 1, .int 0, .int 0, .ref (ad 81), .int 0, .int 0, .int 0])), (ad 79, .inl (dA 0, 8, .inl (fun _ => 0))), (ad 80, .inl (dA 0, 4, .inl (fun _ => 0)))] sz) (va_Qi (fun (r : Int32) (_ : Unit) => r = 0 ∧ gIn 0 15 x) (gAt D dA (va_A [(h0, .inr (10, [.ref (ad 0), .int 0, .int (-1), .int (-1), .ref (ad 1), .ref (ad 2), .ref (ad 3), .ref (ad 4), .ref (ad 5), .ref (ad 6), .ref (ad 7), .ref (ad 8)])), (ad 8, .inr (4, [.ref (ad 78), .ref (ad 79), .ref (ad 80), .int 0, .int 0, .int 0, .int 0, .int 1, .int 0, .int 0, .ref (ad 81), .int 0, .int 0, .int 0])), (ad 79, .inl (dA 0, 8, .inl (fun _ => 0))), (ad 80, .inl (dA 0, 4, .inl (fun _ => 0)))] sz) (fun _ : Unit => [])) (va_A [(h0, .inr (10, [.ref (ad 0), .int 0, .int (-1), .int (-1), .ref (ad 1), .ref (ad 2), .ref (ad 3), .ref (ad 4), .ref (ad 5), .ref (ad 6), .ref (ad 7), .ref (ad 8)])), (ad 8, .inr (4, [.ref (ad 78), .ref (ad 79), .ref (ad 80), .int 0, .int 0, .int 0, .int 0, .int 1, .int 0, .int 0, .ref (ad 81), .int 0, .int 0, .int 0])), (ad 79, .inl (dA 0, 8, .inl (fun _ => 0))), (ad 80, .inl (dA 0, 4, .inl (fun _ => 0)))] sz)) (gX (fun E : String => E = xIAE ∧ ¬ gIn 0 15 x) (va_A [(h0, .inr (10, [.ref (ad 0), .int 0, .int (-1), .int (-1), .ref (ad 1), .ref (ad 2), .ref (ad 3), .ref (ad 4), .ref (ad 5), .ref (ad 6), .ref (ad 7), .ref (ad 8)])), (ad 8, .inr (4, [.ref (ad 78), .ref (ad 79), .ref (ad 80), .int 0, .int 0, .int 0, .int 0, .int 1, .int 0, .int 0, .ref (ad 81), .int 0, .int 0, .int 0])), (ad 79, .inl (dA 0, 8, .inl (fun _ => 0))), (ad 80, .inl (dA 0, 4, .inl (fun _ => 0)))] sz)) 1 6 (va_A [(h0, .inr (10, [.ref (ad 0), .int 0, .int (-1), .int (-1), .ref (ad 1), .ref (ad 2), .ref (ad 3), .ref (ad 4), .ref (ad 5), .ref (ad 6), .ref (ad 7), .ref (ad 8)])), (ad 8, .inr (4, [.ref (ad 78), .ref (ad 79), .ref (ad 80), .int 0, .int 0, .int 0, .int 0, .int 1, .int 0, .int 0, .ref (ad 81), .int 0, .int 0, .int 0])), (ad 79, .inl (dA 0, 8, .inl (fun _ => 0))), (ad 80, .inl (dA 0, 4, .inl (fun _ => 0)))] sz) := by
  refine vx_ofW (cc := cX10_register) (maxL := 2) (ret := (some .int)) (by decide) rfl ?_
  intro p e s m args below meth c s₁ B hml hnt hv
  obtain ⟨rfl, hsz, hP, hK, hD0, hZ⟩ := hv
  have hx := B.exec
  have hb := B.bytes
  have hr := B.returns
  have hts := atoms_spec (ws := gws yX10_register cX10_register 2 (some .int)) B.pre
  have hg : ∀ w ∈ gw, w.before _ s = true := fun w h => hts w (List.mem_cons_of_mem _ h)
  have hown : s.vm.findClass RX10 = some m.cls := findClass_of_methodNamed B.named
  have hlocks := B.notSynchronized
  subst hsz
  have hD := hD0.self (sz := s.heap.size)
  generalize hAe : va_A [(h0, .inr (10, [.ref (ad 0), .int 0, .int (-1), .int (-1), .ref (ad 1), .ref (ad 2), .ref (ad 3), .ref (ad 4), .ref (ad 5), .ref (ad 6), .ref (ad 7), .ref (ad 8)])), (ad 8, .inr (4, [.ref (ad 78), .ref (ad 79), .ref (ad 80), .int 0, .int 0, .int 0, .int 0, .int 1, .int 0, .int 0, .ref (ad 81), .int 0, .int 0, .int 0])), (ad 79, .inl (dA 0, 8, .inl (fun _ => 0))), (ad 80, .inl (dA 0, 4, .inl (fun _ => 0)))] s.heap.size = A at hZ hD ⊢
  have hA : ∀ q : Nat, s.heap.size ≤ q → A q := fun q h => by rw [← hAe]; exact Or.inr h
  have hS : va_S A s.heap s.heap [] := va_S.rf
  have hP : va_P D vwC [(h0, .inr (10, [.ref (ad 0), .int 0, .int (-1), .int (-1), .ref (ad 1), .ref (ad 2), .ref (ad 3), .ref (ad 4), .ref (ad 5), .ref (ad 6), .ref (ad 7), .ref (ad 8)])), (ad 8, .inr (4, [.ref (ad 78), .ref (ad 79), .ref (ad 80), .int 0, .int 0, .int 0, .int 0, .int 1, .int 0, .int 0, .ref (ad 81), .int 0, .int 0, .int 0])), (ad 79, .inl (dA 0, 8, .inl (fun _ => 0))), (ad 80, .inl (dA 0, 4, .inl (fun _ => 0)))] s.heap := hP
  have hl := lv_entry ([.ref h0, .int x]) (n := 2) (Nat.le_of_ble_eq_true rfl)
  rw [lg_entry_eq]
  generalize (lg_sl ([.ref h0, .int x]) ++ List.replicate (2 - (lg_sl ([.ref h0, .int x])).length) Slot.unset).toArray = ls at hl ⊢
  have hl : lv_has ls 2 [(0, .ref h0), (1, .int x)] := hl
  refine lv_iload_n hx hb dX10_register_0 rfl (lv_at hl 1 rfl) ?_
  refine lv_if_lt (tgt := 10) hx hb dX10_register_1 (by decide) (fun k1 => ?_) (fun k1 => ?_)
  · have bk1 := gb_lt_r (k := 0) (by decide) k1
    exact g_thrW (cls := xIAE) (is := 269) (text := "register is not 0 .. 15") hx hb hg htr hown (by decide) q731 q167 (by decide +kernel) atIAE (by decide +kernel) hZ hS hml hl.1 hnt hlocks dX10_register_10 dX10_register_13 dX10_register_14 dX10_register_17 dX10_register_20 (Nat.le_of_ble_eq_true rfl) (Nat.le_of_ble_eq_true rfl) (Nat.le_of_ble_eq_true rfl) (Nat.le_of_ble_eq_true rfl) (Nat.le_of_ble_eq_true rfl) (Nat.le_of_ble_eq_true rfl) ⟨rfl, by unfold gIn; omega⟩
  · refine lv_iload_n hx hb dX10_register_4 rfl (lv_at hl 1 rfl) ?_
    refine lv_bipush (v := 15) hx hb dX10_register_5 (by decide) ?_
    refine lv_icmp_le (tgt := 21) hx hb dX10_register_7 (by decide) (fun k2 => ?_) (fun k2 => ?_)
    · have bk1 := gb_nlt_r (k := 0) (by decide) k1
      have bk2 := gb_le_r (k := 15) (by decide) k2
      rcases g_c0_15 (x := x) (by omega) (by omega) with rfl | rfl | rfl | rfl | rfl | rfl | rfl | rfl | rfl | rfl | rfl | rfl | rfl | rfl | rfl | rfl
      · refine lv_iload_n hx hb dX10_register_21 rfl (lv_at hl 1 rfl) ?_
        refine lv_bipush (v := 8) hx hb dX10_register_22 (by decide) ?_
        refine lv_icmp_ge (tgt := 37) hx hb dX10_register_24 (by decide) (fun h => absurd h (by decide)) (fun _ => ?_)
        refine lv_aload_n hx hb dX10_register_27 rfl (lv_at hl 0 rfl) ?_
        refine g_get hx hb hg hown hK hP 0 rfl rfl inX10 11 (by decide) q617 rfl dX10_register_28 ?_
        refine g_get hx hb hg hown hK hP 1 rfl rfl inX4 1 (by decide) q555 rfl dX10_register_31 ?_
        refine lv_iload_n hx hb dX10_register_34 rfl (lv_at hl 1 rfl) ?_
        refine va_iald hx hb hK hP 2 0 rfl rfl (by unfold vp_in; decide) dX10_register_35 ?_
        refine g_nrm (y := 0) (by first | rfl | decide) ?_
        exact vx_ret (g_iret hx hb hr rfl hlocks hK () (hP.sub [] rfl) (hD.sub [] rfl rfl) hS ⟨rfl, by unfold gIn; first | decide | omega⟩ (Nat.le_of_ble_eq_true rfl) (Nat.le_of_ble_eq_true rfl) dX10_register_36)
      · refine lv_iload_n hx hb dX10_register_21 rfl (lv_at hl 1 rfl) ?_
        refine lv_bipush (v := 8) hx hb dX10_register_22 (by decide) ?_
        refine lv_icmp_ge (tgt := 37) hx hb dX10_register_24 (by decide) (fun h => absurd h (by decide)) (fun _ => ?_)
        refine lv_aload_n hx hb dX10_register_27 rfl (lv_at hl 0 rfl) ?_
        refine g_get hx hb hg hown hK hP 0 rfl rfl inX10 11 (by decide) q617 rfl dX10_register_28 ?_
        refine g_get hx hb hg hown hK hP 1 rfl rfl inX4 1 (by decide) q555 rfl dX10_register_31 ?_
        refine lv_iload_n hx hb dX10_register_34 rfl (lv_at hl 1 rfl) ?_
        refine va_iald hx hb hK hP 2 0 rfl rfl (by unfold vp_in; decide) dX10_register_35 ?_
        refine g_nrm (y := 0) (by first | rfl | decide) ?_
        exact vx_ret (g_iret hx hb hr rfl hlocks hK () (hP.sub [] rfl) (hD.sub [] rfl rfl) hS ⟨rfl, by unfold gIn; first | decide | omega⟩ (Nat.le_of_ble_eq_true rfl) (Nat.le_of_ble_eq_true rfl) dX10_register_36)
      · refine lv_iload_n hx hb dX10_register_21 rfl (lv_at hl 1 rfl) ?_
        refine lv_bipush (v := 8) hx hb dX10_register_22 (by decide) ?_
        refine lv_icmp_ge (tgt := 37) hx hb dX10_register_24 (by decide) (fun h => absurd h (by decide)) (fun _ => ?_)
        refine lv_aload_n hx hb dX10_register_27 rfl (lv_at hl 0 rfl) ?_
        refine g_get hx hb hg hown hK hP 0 rfl rfl inX10 11 (by decide) q617 rfl dX10_register_28 ?_
        refine g_get hx hb hg hown hK hP 1 rfl rfl inX4 1 (by decide) q555 rfl dX10_register_31 ?_
        refine lv_iload_n hx hb dX10_register_34 rfl (lv_at hl 1 rfl) ?_
        refine va_iald hx hb hK hP 2 0 rfl rfl (by unfold vp_in; decide) dX10_register_35 ?_
        refine g_nrm (y := 0) (by first | rfl | decide) ?_
        exact vx_ret (g_iret hx hb hr rfl hlocks hK () (hP.sub [] rfl) (hD.sub [] rfl rfl) hS ⟨rfl, by unfold gIn; first | decide | omega⟩ (Nat.le_of_ble_eq_true rfl) (Nat.le_of_ble_eq_true rfl) dX10_register_36)
      · refine lv_iload_n hx hb dX10_register_21 rfl (lv_at hl 1 rfl) ?_
        refine lv_bipush (v := 8) hx hb dX10_register_22 (by decide) ?_
        refine lv_icmp_ge (tgt := 37) hx hb dX10_register_24 (by decide) (fun h => absurd h (by decide)) (fun _ => ?_)
        refine lv_aload_n hx hb dX10_register_27 rfl (lv_at hl 0 rfl) ?_
        refine g_get hx hb hg hown hK hP 0 rfl rfl inX10 11 (by decide) q617 rfl dX10_register_28 ?_
        refine g_get hx hb hg hown hK hP 1 rfl rfl inX4 1 (by decide) q555 rfl dX10_register_31 ?_
        refine lv_iload_n hx hb dX10_register_34 rfl (lv_at hl 1 rfl) ?_
        refine va_iald hx hb hK hP 2 0 rfl rfl (by unfold vp_in; decide) dX10_register_35 ?_
        refine g_nrm (y := 0) (by first | rfl | decide) ?_
        exact vx_ret (g_iret hx hb hr rfl hlocks hK () (hP.sub [] rfl) (hD.sub [] rfl rfl) hS ⟨rfl, by unfold gIn; first | decide | omega⟩ (Nat.le_of_ble_eq_true rfl) (Nat.le_of_ble_eq_true rfl) dX10_register_36)
      · refine lv_iload_n hx hb dX10_register_21 rfl (lv_at hl 1 rfl) ?_
        refine lv_bipush (v := 8) hx hb dX10_register_22 (by decide) ?_
        refine lv_icmp_ge (tgt := 37) hx hb dX10_register_24 (by decide) (fun h => absurd h (by decide)) (fun _ => ?_)
        refine lv_aload_n hx hb dX10_register_27 rfl (lv_at hl 0 rfl) ?_
        refine g_get hx hb hg hown hK hP 0 rfl rfl inX10 11 (by decide) q617 rfl dX10_register_28 ?_
        refine g_get hx hb hg hown hK hP 1 rfl rfl inX4 1 (by decide) q555 rfl dX10_register_31 ?_
        refine lv_iload_n hx hb dX10_register_34 rfl (lv_at hl 1 rfl) ?_
        refine va_iald hx hb hK hP 2 0 rfl rfl (by unfold vp_in; decide) dX10_register_35 ?_
        refine g_nrm (y := 0) (by first | rfl | decide) ?_
        exact vx_ret (g_iret hx hb hr rfl hlocks hK () (hP.sub [] rfl) (hD.sub [] rfl rfl) hS ⟨rfl, by unfold gIn; first | decide | omega⟩ (Nat.le_of_ble_eq_true rfl) (Nat.le_of_ble_eq_true rfl) dX10_register_36)
      · refine lv_iload_n hx hb dX10_register_21 rfl (lv_at hl 1 rfl) ?_
        refine lv_bipush (v := 8) hx hb dX10_register_22 (by decide) ?_
        refine lv_icmp_ge (tgt := 37) hx hb dX10_register_24 (by decide) (fun h => absurd h (by decide)) (fun _ => ?_)
        refine lv_aload_n hx hb dX10_register_27 rfl (lv_at hl 0 rfl) ?_
        refine g_get hx hb hg hown hK hP 0 rfl rfl inX10 11 (by decide) q617 rfl dX10_register_28 ?_
        refine g_get hx hb hg hown hK hP 1 rfl rfl inX4 1 (by decide) q555 rfl dX10_register_31 ?_
        refine lv_iload_n hx hb dX10_register_34 rfl (lv_at hl 1 rfl) ?_
        refine va_iald hx hb hK hP 2 0 rfl rfl (by unfold vp_in; decide) dX10_register_35 ?_
        refine g_nrm (y := 0) (by first | rfl | decide) ?_
        exact vx_ret (g_iret hx hb hr rfl hlocks hK () (hP.sub [] rfl) (hD.sub [] rfl rfl) hS ⟨rfl, by unfold gIn; first | decide | omega⟩ (Nat.le_of_ble_eq_true rfl) (Nat.le_of_ble_eq_true rfl) dX10_register_36)
      · refine lv_iload_n hx hb dX10_register_21 rfl (lv_at hl 1 rfl) ?_
        refine lv_bipush (v := 8) hx hb dX10_register_22 (by decide) ?_
        refine lv_icmp_ge (tgt := 37) hx hb dX10_register_24 (by decide) (fun h => absurd h (by decide)) (fun _ => ?_)
        refine lv_aload_n hx hb dX10_register_27 rfl (lv_at hl 0 rfl) ?_
        refine g_get hx hb hg hown hK hP 0 rfl rfl inX10 11 (by decide) q617 rfl dX10_register_28 ?_
        refine g_get hx hb hg hown hK hP 1 rfl rfl inX4 1 (by decide) q555 rfl dX10_register_31 ?_
        refine lv_iload_n hx hb dX10_register_34 rfl (lv_at hl 1 rfl) ?_
        refine va_iald hx hb hK hP 2 0 rfl rfl (by unfold vp_in; decide) dX10_register_35 ?_
        refine g_nrm (y := 0) (by first | rfl | decide) ?_
        exact vx_ret (g_iret hx hb hr rfl hlocks hK () (hP.sub [] rfl) (hD.sub [] rfl rfl) hS ⟨rfl, by unfold gIn; first | decide | omega⟩ (Nat.le_of_ble_eq_true rfl) (Nat.le_of_ble_eq_true rfl) dX10_register_36)
      · refine lv_iload_n hx hb dX10_register_21 rfl (lv_at hl 1 rfl) ?_
        refine lv_bipush (v := 8) hx hb dX10_register_22 (by decide) ?_
        refine lv_icmp_ge (tgt := 37) hx hb dX10_register_24 (by decide) (fun h => absurd h (by decide)) (fun _ => ?_)
        refine lv_aload_n hx hb dX10_register_27 rfl (lv_at hl 0 rfl) ?_
        refine g_get hx hb hg hown hK hP 0 rfl rfl inX10 11 (by decide) q617 rfl dX10_register_28 ?_
        refine g_get hx hb hg hown hK hP 1 rfl rfl inX4 1 (by decide) q555 rfl dX10_register_31 ?_
        refine lv_iload_n hx hb dX10_register_34 rfl (lv_at hl 1 rfl) ?_
        refine va_iald hx hb hK hP 2 0 rfl rfl (by unfold vp_in; decide) dX10_register_35 ?_
        refine g_nrm (y := 0) (by first | rfl | decide) ?_
        exact vx_ret (g_iret hx hb hr rfl hlocks hK () (hP.sub [] rfl) (hD.sub [] rfl rfl) hS ⟨rfl, by unfold gIn; first | decide | omega⟩ (Nat.le_of_ble_eq_true rfl) (Nat.le_of_ble_eq_true rfl) dX10_register_36)
      · refine lv_iload_n hx hb dX10_register_21 rfl (lv_at hl 1 rfl) ?_
        refine lv_bipush (v := 8) hx hb dX10_register_22 (by decide) ?_
        refine lv_icmp_ge (tgt := 37) hx hb dX10_register_24 (by decide) (fun _ => ?_) (fun h => absurd (by decide) h)
        refine lv_iload_n hx hb dX10_register_37 rfl (lv_at hl 1 rfl) ?_
        refine lv_bipush (v := 12) hx hb dX10_register_38 (by decide) ?_
        refine lv_icmp_ge (tgt := 56) hx hb dX10_register_40 (by decide) (fun h => absurd h (by decide)) (fun _ => ?_)
        refine lv_aload_n hx hb dX10_register_43 rfl (lv_at hl 0 rfl) ?_
        refine g_get hx hb hg hown hK hP 0 rfl rfl inX10 11 (by decide) q617 rfl dX10_register_44 ?_
        refine g_get hx hb hg hown hK hP 1 rfl rfl inX4 2 (by decide) q557 rfl dX10_register_47 ?_
        refine lv_iload_n hx hb dX10_register_50 rfl (lv_at hl 1 rfl) ?_
        refine lv_bipush (v := 8) hx hb dX10_register_51 (by decide) ?_
        refine lv_isub hx hb dX10_register_53 ?_
        refine g_nrm (y := 0) (by decide) ?_
        refine va_iald hx hb hK hP 3 0 rfl rfl (by unfold vp_in; decide) dX10_register_54 ?_
        refine g_nrm (y := 0) (by first | rfl | decide) ?_
        exact vx_ret (g_iret hx hb hr rfl hlocks hK () (hP.sub [] rfl) (hD.sub [] rfl rfl) hS ⟨rfl, by unfold gIn; first | decide | omega⟩ (Nat.le_of_ble_eq_true rfl) (Nat.le_of_ble_eq_true rfl) dX10_register_55)
      · refine lv_iload_n hx hb dX10_register_21 rfl (lv_at hl 1 rfl) ?_
        refine lv_bipush (v := 8) hx hb dX10_register_22 (by decide) ?_
        refine lv_icmp_ge (tgt := 37) hx hb dX10_register_24 (by decide) (fun _ => ?_) (fun h => absurd (by decide) h)
        refine lv_iload_n hx hb dX10_register_37 rfl (lv_at hl 1 rfl) ?_
        refine lv_bipush (v := 12) hx hb dX10_register_38 (by decide) ?_
        refine lv_icmp_ge (tgt := 56) hx hb dX10_register_40 (by decide) (fun h => absurd h (by decide)) (fun _ => ?_)
        refine lv_aload_n hx hb dX10_register_43 rfl (lv_at hl 0 rfl) ?_
        refine g_get hx hb hg hown hK hP 0 rfl rfl inX10 11 (by decide) q617 rfl dX10_register_44 ?_
        refine g_get hx hb hg hown hK hP 1 rfl rfl inX4 2 (by decide) q557 rfl dX10_register_47 ?_
        refine lv_iload_n hx hb dX10_register_50 rfl (lv_at hl 1 rfl) ?_
        refine lv_bipush (v := 8) hx hb dX10_register_51 (by decide) ?_
        refine lv_isub hx hb dX10_register_53 ?_
        refine g_nrm (y := 1) (by decide) ?_
        refine va_iald hx hb hK hP 3 0 rfl rfl (by unfold vp_in; decide) dX10_register_54 ?_
        refine g_nrm (y := 0) (by first | rfl | decide) ?_
        exact vx_ret (g_iret hx hb hr rfl hlocks hK () (hP.sub [] rfl) (hD.sub [] rfl rfl) hS ⟨rfl, by unfold gIn; first | decide | omega⟩ (Nat.le_of_ble_eq_true rfl) (Nat.le_of_ble_eq_true rfl) dX10_register_55)
      · refine lv_iload_n hx hb dX10_register_21 rfl (lv_at hl 1 rfl) ?_
        refine lv_bipush (v := 8) hx hb dX10_register_22 (by decide) ?_
        refine lv_icmp_ge (tgt := 37) hx hb dX10_register_24 (by decide) (fun _ => ?_) (fun h => absurd (by decide) h)
        refine lv_iload_n hx hb dX10_register_37 rfl (lv_at hl 1 rfl) ?_
        refine lv_bipush (v := 12) hx hb dX10_register_38 (by decide) ?_
        refine lv_icmp_ge (tgt := 56) hx hb dX10_register_40 (by decide) (fun h => absurd h (by decide)) (fun _ => ?_)
        refine lv_aload_n hx hb dX10_register_43 rfl (lv_at hl 0 rfl) ?_
        refine g_get hx hb hg hown hK hP 0 rfl rfl inX10 11 (by decide) q617 rfl dX10_register_44 ?_
        refine g_get hx hb hg hown hK hP 1 rfl rfl inX4 2 (by decide) q557 rfl dX10_register_47 ?_
        refine lv_iload_n hx hb dX10_register_50 rfl (lv_at hl 1 rfl) ?_
        refine lv_bipush (v := 8) hx hb dX10_register_51 (by decide) ?_
        refine lv_isub hx hb dX10_register_53 ?_
        refine g_nrm (y := 2) (by decide) ?_
        refine va_iald hx hb hK hP 3 0 rfl rfl (by unfold vp_in; decide) dX10_register_54 ?_
        refine g_nrm (y := 0) (by first | rfl | decide) ?_
        exact vx_ret (g_iret hx hb hr rfl hlocks hK () (hP.sub [] rfl) (hD.sub [] rfl rfl) hS ⟨rfl, by unfold gIn; first | decide | omega⟩ (Nat.le_of_ble_eq_true rfl) (Nat.le_of_ble_eq_true rfl) dX10_register_55)
      · refine lv_iload_n hx hb dX10_register_21 rfl (lv_at hl 1 rfl) ?_
        refine lv_bipush (v := 8) hx hb dX10_register_22 (by decide) ?_
        refine lv_icmp_ge (tgt := 37) hx hb dX10_register_24 (by decide) (fun _ => ?_) (fun h => absurd (by decide) h)
        refine lv_iload_n hx hb dX10_register_37 rfl (lv_at hl 1 rfl) ?_
        refine lv_bipush (v := 12) hx hb dX10_register_38 (by decide) ?_
        refine lv_icmp_ge (tgt := 56) hx hb dX10_register_40 (by decide) (fun h => absurd h (by decide)) (fun _ => ?_)
        refine lv_aload_n hx hb dX10_register_43 rfl (lv_at hl 0 rfl) ?_
        refine g_get hx hb hg hown hK hP 0 rfl rfl inX10 11 (by decide) q617 rfl dX10_register_44 ?_
        refine g_get hx hb hg hown hK hP 1 rfl rfl inX4 2 (by decide) q557 rfl dX10_register_47 ?_
        refine lv_iload_n hx hb dX10_register_50 rfl (lv_at hl 1 rfl) ?_
        refine lv_bipush (v := 8) hx hb dX10_register_51 (by decide) ?_
        refine lv_isub hx hb dX10_register_53 ?_
        refine g_nrm (y := 3) (by decide) ?_
        refine va_iald hx hb hK hP 3 0 rfl rfl (by unfold vp_in; decide) dX10_register_54 ?_
        refine g_nrm (y := 0) (by first | rfl | decide) ?_
        exact vx_ret (g_iret hx hb hr rfl hlocks hK () (hP.sub [] rfl) (hD.sub [] rfl rfl) hS ⟨rfl, by unfold gIn; first | decide | omega⟩ (Nat.le_of_ble_eq_true rfl) (Nat.le_of_ble_eq_true rfl) dX10_register_55)
      · refine lv_iload_n hx hb dX10_register_21 rfl (lv_at hl 1 rfl) ?_
        refine lv_bipush (v := 8) hx hb dX10_register_22 (by decide) ?_
        refine lv_icmp_ge (tgt := 37) hx hb dX10_register_24 (by decide) (fun _ => ?_) (fun h => absurd (by decide) h)
        refine lv_iload_n hx hb dX10_register_37 rfl (lv_at hl 1 rfl) ?_
        refine lv_bipush (v := 12) hx hb dX10_register_38 (by decide) ?_
        refine lv_icmp_ge (tgt := 56) hx hb dX10_register_40 (by decide) (fun _ => ?_) (fun h => absurd (by decide) h)
        refine lv_iload_n hx hb dX10_register_56 rfl (lv_at hl 1 rfl) ?_
        refine lv_tableIn (tgt := 84) hx hb dX10_register_57 (by decide) (by decide) rfl (by decide) ?_
        refine lv_aload_n hx hb dX10_register_84 rfl (lv_at hl 0 rfl) ?_
        refine g_get hx hb hg hown hK hP 0 rfl rfl inX10 11 (by decide) q617 rfl dX10_register_85 ?_
        refine g_get hx hb hg hown hK hP 1 rfl rfl inX4 3 (by decide) q559 rfl dX10_register_88 ?_
        exact vx_ret (g_iret hx hb hr rfl hlocks hK () (hP.sub [] rfl) (hD.sub [] rfl rfl) hS ⟨rfl, by unfold gIn; first | decide | omega⟩ (Nat.le_of_ble_eq_true rfl) (Nat.le_of_ble_eq_true rfl) dX10_register_91)
      · refine lv_iload_n hx hb dX10_register_21 rfl (lv_at hl 1 rfl) ?_
        refine lv_bipush (v := 8) hx hb dX10_register_22 (by decide) ?_
        refine lv_icmp_ge (tgt := 37) hx hb dX10_register_24 (by decide) (fun _ => ?_) (fun h => absurd (by decide) h)
        refine lv_iload_n hx hb dX10_register_37 rfl (lv_at hl 1 rfl) ?_
        refine lv_bipush (v := 12) hx hb dX10_register_38 (by decide) ?_
        refine lv_icmp_ge (tgt := 56) hx hb dX10_register_40 (by decide) (fun _ => ?_) (fun h => absurd (by decide) h)
        refine lv_iload_n hx hb dX10_register_56 rfl (lv_at hl 1 rfl) ?_
        refine lv_tableIn (tgt := 92) hx hb dX10_register_57 (by decide) (by decide) rfl (by decide) ?_
        refine lv_aload_n hx hb dX10_register_92 rfl (lv_at hl 0 rfl) ?_
        refine g_get hx hb hg hown hK hP 0 rfl rfl inX10 11 (by decide) q617 rfl dX10_register_93 ?_
        refine g_get hx hb hg hown hK hP 1 rfl rfl inX4 4 (by decide) q561 rfl dX10_register_96 ?_
        exact vx_ret (g_iret hx hb hr rfl hlocks hK () (hP.sub [] rfl) (hD.sub [] rfl rfl) hS ⟨rfl, by unfold gIn; first | decide | omega⟩ (Nat.le_of_ble_eq_true rfl) (Nat.le_of_ble_eq_true rfl) dX10_register_99)
      · refine lv_iload_n hx hb dX10_register_21 rfl (lv_at hl 1 rfl) ?_
        refine lv_bipush (v := 8) hx hb dX10_register_22 (by decide) ?_
        refine lv_icmp_ge (tgt := 37) hx hb dX10_register_24 (by decide) (fun _ => ?_) (fun h => absurd (by decide) h)
        refine lv_iload_n hx hb dX10_register_37 rfl (lv_at hl 1 rfl) ?_
        refine lv_bipush (v := 12) hx hb dX10_register_38 (by decide) ?_
        refine lv_icmp_ge (tgt := 56) hx hb dX10_register_40 (by decide) (fun _ => ?_) (fun h => absurd (by decide) h)
        refine lv_iload_n hx hb dX10_register_56 rfl (lv_at hl 1 rfl) ?_
        refine lv_tableIn (tgt := 100) hx hb dX10_register_57 (by decide) (by decide) rfl (by decide) ?_
        refine lv_aload_n hx hb dX10_register_100 rfl (lv_at hl 0 rfl) ?_
        refine g_get hx hb hg hown hK hP 0 rfl rfl inX10 11 (by decide) q617 rfl dX10_register_101 ?_
        refine g_get hx hb hg hown hK hP 1 rfl rfl inX4 5 (by decide) q563 rfl dX10_register_104 ?_
        exact vx_ret (g_iret hx hb hr rfl hlocks hK () (hP.sub [] rfl) (hD.sub [] rfl rfl) hS ⟨rfl, by unfold gIn; first | decide | omega⟩ (Nat.le_of_ble_eq_true rfl) (Nat.le_of_ble_eq_true rfl) dX10_register_107)
      · refine lv_iload_n hx hb dX10_register_21 rfl (lv_at hl 1 rfl) ?_
        refine lv_bipush (v := 8) hx hb dX10_register_22 (by decide) ?_
        refine lv_icmp_ge (tgt := 37) hx hb dX10_register_24 (by decide) (fun _ => ?_) (fun h => absurd (by decide) h)
        refine lv_iload_n hx hb dX10_register_37 rfl (lv_at hl 1 rfl) ?_
        refine lv_bipush (v := 12) hx hb dX10_register_38 (by decide) ?_
        refine lv_icmp_ge (tgt := 56) hx hb dX10_register_40 (by decide) (fun _ => ?_) (fun h => absurd (by decide) h)
        refine lv_iload_n hx hb dX10_register_56 rfl (lv_at hl 1 rfl) ?_
        refine lv_tableOut (tgt := 108) hx hb dX10_register_57 (by decide) (by decide) ?_
        refine lv_aload_n hx hb dX10_register_108 rfl (lv_at hl 0 rfl) ?_
        refine g_get hx hb hg hown hK hP 0 rfl rfl inX10 11 (by decide) q617 rfl dX10_register_109 ?_
        refine g_get hx hb hg hown hK hP 1 rfl rfl inX4 6 (by decide) q565 rfl dX10_register_112 ?_
        exact vx_ret (g_iret hx hb hr rfl hlocks hK () (hP.sub [] rfl) (hD.sub [] rfl rfl) hS ⟨rfl, by unfold gIn; first | decide | omega⟩ (Nat.le_of_ble_eq_true rfl) (Nat.le_of_ble_eq_true rfl) dX10_register_115)
    · have bk1 := gb_nlt_r (k := 0) (by decide) k1
      have bk2 := gb_nle_r (k := 15) (by decide) k2
      exact g_thrW (cls := xIAE) (is := 269) (text := "register is not 0 .. 15") hx hb hg htr hown (by decide) q731 q167 (by decide +kernel) atIAE (by decide +kernel) hZ hS hml hl.1 hnt hlocks dX10_register_10 dX10_register_13 dX10_register_14 dX10_register_17 dX10_register_20 (Nat.le_of_ble_eq_true rfl) (Nat.le_of_ble_eq_true rfl) (Nat.le_of_ble_eq_true rfl) (Nat.le_of_ble_eq_true rfl) (Nat.le_of_ble_eq_true rfl) (Nat.le_of_ble_eq_true rfl) ⟨rfl, by unfold gIn; omega⟩
def cnt (x : Int32) : Int32 := if x = 1 then -1 else if x = 2 then -1 else if x = 7 then 1 else 0
set_option maxHeartbeats 4000000 in
set_option maxRecDepth 100000 in
theorem c_X10_count (l : Launch) (htr : l.stackTraces = false) (D : va_G) (dA : Nat → ClassId) (h0 : Nat) (ad : Nat → Nat) (x : Int32) (sz : Nat) : vx_Met l yX10_count (gws yX10_count cX10_count 2 (some .int)) (gR 8 1 6) (gPreX D dA [.ref h0, .int x] [(h0, .inr (10, [.ref (ad 0), .int 0, .int (-1), .int (-1), .ref (ad 1), .ref (ad 2), .ref (ad 3), .ref (ad 4), .ref (ad 5), .ref (ad 6), .ref (ad 7), .ref (ad 8)])), (ad 8, .inr (4, [.ref (ad 78), .ref (ad 79), .ref (ad 80), .int 0, .int 0, .int 0, .int 0, .int 1, .int 0, .int 0, .ref (ad 81), .int 0, .int 0, .int 0])), (ad 7, .inr (1, [.int 0, .int 0, .ref (ad 76), .int 0, .ref (ad 77), .int 0, .int 0])), (ad 5, .inl (dA 4, 3, .inr (.inr (.inr (.inr (gM (ad 29) (ad 30) (ad 31))))))), (ad 29, .inr (6, [.int 0, .int 0, .ref (ad 32), .ref (ad 33), .ref (ad 34), .ref (ad 35), .ref (ad 36), .int 0, .ref (ad 37), .ref (ad 38), .ref (ad 39), .ref (ad 40), .ref (ad 41), .int 0, .ref (ad 42), .ref (ad 43), .ref (ad 44)])), (ad 30, .inr (6, [.int 0, .int 0, .ref (ad 45), .ref (ad 46), .ref (ad 47), .ref (ad 48), .ref (ad 49), .int 0, .ref (ad 50), .ref (ad 51), .ref (ad 52), .ref (ad 53), .ref (ad 54), .int 0, .ref (ad 55), .ref (ad 56), .ref (ad 57)])), (ad 31, .inr (6, [.int 0, .int 0, .ref (ad 58), .ref (ad 59), .ref (ad 60), .ref (ad 61), .ref (ad 62), .int 0, .ref (ad 63), .ref (ad 64), .ref (ad 65), .ref (ad 66), .ref (ad 67), .int 0, .ref (ad 68), .ref (ad 69), .ref (ad 70)]))] sz) (va_Qi (fun (r : Int32) (_ : Unit) => r = cnt x ∧ gIn 0 13 x) (gAt D dA (va_A [(h0, .inr (10, [.ref (ad 0), .int 0, .int (-1), .int (-1), .ref (ad 1), .ref (ad 2), .ref (ad 3), .ref (ad 4), .ref (ad 5), .ref (ad 6), .ref (ad 7), .ref (ad 8)])), (ad 8, .inr (4, [.ref (ad 78), .ref (ad 79), .ref (ad 80), .int 0, .int 0, .int 0, .int 0, .int 1, .int 0, .int 0, .ref (ad 81), .int 0, .int 0, .int 0])), (ad 7, .inr (1, [.int 0, .int 0, .ref (ad 76), .int 0, .ref (ad 77), .int 0, .int 0])), (ad 5, .inl (dA 4, 3, .inr (.inr (.inr (.inr (gM (ad 29) (ad 30) (ad 31))))))), (ad 29, .inr (6, [.int 0, .int 0, .ref (ad 32), .ref (ad 33), .ref (ad 34), .ref (ad 35), .ref (ad 36), .int 0, .ref (ad 37), .ref (ad 38), .ref (ad 39), .ref (ad 40), .ref (ad 41), .int 0, .ref (ad 42), .ref (ad 43), .ref (ad 44)])), (ad 30, .inr (6, [.int 0, .int 0, .ref (ad 45), .ref (ad 46), .ref (ad 47), .ref (ad 48), .ref (ad 49), .int 0, .ref (ad 50), .ref (ad 51), .ref (ad 52), .ref (ad 53), .ref (ad 54), .int 0, .ref (ad 55), .ref (ad 56), .ref (ad 57)])), (ad 31, .inr (6, [.int 0, .int 0, .ref (ad 58), .ref (ad 59), .ref (ad 60), .ref (ad 61), .ref (ad 62), .int 0, .ref (ad 63), .ref (ad 64), .ref (ad 65), .ref (ad 66), .ref (ad 67), .int 0, .ref (ad 68), .ref (ad 69), .ref (ad 70)]))] sz) (fun _ : Unit => [])) (va_A [(h0, .inr (10, [.ref (ad 0), .int 0, .int (-1), .int (-1), .ref (ad 1), .ref (ad 2), .ref (ad 3), .ref (ad 4), .ref (ad 5), .ref (ad 6), .ref (ad 7), .ref (ad 8)])), (ad 8, .inr (4, [.ref (ad 78), .ref (ad 79), .ref (ad 80), .int 0, .int 0, .int 0, .int 0, .int 1, .int 0, .int 0, .ref (ad 81), .int 0, .int 0, .int 0])), (ad 7, .inr (1, [.int 0, .int 0, .ref (ad 76), .int 0, .ref (ad 77), .int 0, .int 0])), (ad 5, .inl (dA 4, 3, .inr (.inr (.inr (.inr (gM (ad 29) (ad 30) (ad 31))))))), (ad 29, .inr (6, [.int 0, .int 0, .ref (ad 32), .ref (ad 33), .ref (ad 34), .ref (ad 35), .ref (ad 36), .int 0, .ref (ad 37), .ref (ad 38), .ref (ad 39), .ref (ad 40), .ref (ad 41), .int 0, .ref (ad 42), .ref (ad 43), .ref (ad 44)])), (ad 30, .inr (6, [.int 0, .int 0, .ref (ad 45), .ref (ad 46), .ref (ad 47), .ref (ad 48), .ref (ad 49), .int 0, .ref (ad 50), .ref (ad 51), .ref (ad 52), .ref (ad 53), .ref (ad 54), .int 0, .ref (ad 55), .ref (ad 56), .ref (ad 57)])), (ad 31, .inr (6, [.int 0, .int 0, .ref (ad 58), .ref (ad 59), .ref (ad 60), .ref (ad 61), .ref (ad 62), .int 0, .ref (ad 63), .ref (ad 64), .ref (ad 65), .ref (ad 66), .ref (ad 67), .int 0, .ref (ad 68), .ref (ad 69), .ref (ad 70)]))] sz)) (gX (fun E : String => E = xIAE ∧ ¬ gIn 0 13 x) (va_A [(h0, .inr (10, [.ref (ad 0), .int 0, .int (-1), .int (-1), .ref (ad 1), .ref (ad 2), .ref (ad 3), .ref (ad 4), .ref (ad 5), .ref (ad 6), .ref (ad 7), .ref (ad 8)])), (ad 8, .inr (4, [.ref (ad 78), .ref (ad 79), .ref (ad 80), .int 0, .int 0, .int 0, .int 0, .int 1, .int 0, .int 0, .ref (ad 81), .int 0, .int 0, .int 0])), (ad 7, .inr (1, [.int 0, .int 0, .ref (ad 76), .int 0, .ref (ad 77), .int 0, .int 0])), (ad 5, .inl (dA 4, 3, .inr (.inr (.inr (.inr (gM (ad 29) (ad 30) (ad 31))))))), (ad 29, .inr (6, [.int 0, .int 0, .ref (ad 32), .ref (ad 33), .ref (ad 34), .ref (ad 35), .ref (ad 36), .int 0, .ref (ad 37), .ref (ad 38), .ref (ad 39), .ref (ad 40), .ref (ad 41), .int 0, .ref (ad 42), .ref (ad 43), .ref (ad 44)])), (ad 30, .inr (6, [.int 0, .int 0, .ref (ad 45), .ref (ad 46), .ref (ad 47), .ref (ad 48), .ref (ad 49), .int 0, .ref (ad 50), .ref (ad 51), .ref (ad 52), .ref (ad 53), .ref (ad 54), .int 0, .ref (ad 55), .ref (ad 56), .ref (ad 57)])), (ad 31, .inr (6, [.int 0, .int 0, .ref (ad 58), .ref (ad 59), .ref (ad 60), .ref (ad 61), .ref (ad 62), .int 0, .ref (ad 63), .ref (ad 64), .ref (ad 65), .ref (ad 66), .ref (ad 67), .int 0, .ref (ad 68), .ref (ad 69), .ref (ad 70)]))] sz)) 1 6 (va_A [(h0, .inr (10, [.ref (ad 0), .int 0, .int (-1), .int (-1), .ref (ad 1), .ref (ad 2), .ref (ad 3), .ref (ad 4), .ref (ad 5), .ref (ad 6), .ref (ad 7), .ref (ad 8)])), (ad 8, .inr (4, [.ref (ad 78), .ref (ad 79), .ref (ad 80), .int 0, .int 0, .int 0, .int 0, .int 1, .int 0, .int 0, .ref (ad 81), .int 0, .int 0, .int 0])), (ad 7, .inr (1, [.int 0, .int 0, .ref (ad 76), .int 0, .ref (ad 77), .int 0, .int 0])), (ad 5, .inl (dA 4, 3, .inr (.inr (.inr (.inr (gM (ad 29) (ad 30) (ad 31))))))), (ad 29, .inr (6, [.int 0, .int 0, .ref (ad 32), .ref (ad 33), .ref (ad 34), .ref (ad 35), .ref (ad 36), .int 0, .ref (ad 37), .ref (ad 38), .ref (ad 39), .ref (ad 40), .ref (ad 41), .int 0, .ref (ad 42), .ref (ad 43), .ref (ad 44)])), (ad 30, .inr (6, [.int 0, .int 0, .ref (ad 45), .ref (ad 46), .ref (ad 47), .ref (ad 48), .ref (ad 49), .int 0, .ref (ad 50), .ref (ad 51), .ref (ad 52), .ref (ad 53), .ref (ad 54), .int 0, .ref (ad 55), .ref (ad 56), .ref (ad 57)])), (ad 31, .inr (6, [.int 0, .int 0, .ref (ad 58), .ref (ad 59), .ref (ad 60), .ref (ad 61), .ref (ad 62), .int 0, .ref (ad 63), .ref (ad 64), .ref (ad 65), .ref (ad 66), .ref (ad 67), .int 0, .ref (ad 68), .ref (ad 69), .ref (ad 70)]))] sz) := by
  refine vx_ofW (cc := cX10_count) (maxL := 2) (ret := (some .int)) (by decide) rfl ?_
  intro p e s m args below meth c s₁ B hml hnt hv
  obtain ⟨rfl, hsz, hP, hK, hD0, hZ⟩ := hv
  have hx := B.exec
  have hb := B.bytes
  have hr := B.returns
  have hts := atoms_spec (ws := gws yX10_count cX10_count 2 (some .int)) B.pre
  have hg : ∀ w ∈ gw, w.before _ s = true := fun w h => hts w (List.mem_cons_of_mem _ h)
  have hown : s.vm.findClass RX10 = some m.cls := findClass_of_methodNamed B.named
  have hlocks := B.notSynchronized
  subst hsz
  have hD := hD0.self (sz := s.heap.size)
  generalize hAe : va_A [(h0, .inr (10, [.ref (ad 0), .int 0, .int (-1), .int (-1), .ref (ad 1), .ref (ad 2), .ref (ad 3), .ref (ad 4), .ref (ad 5), .ref (ad 6), .ref (ad 7), .ref (ad 8)])), (ad 8, .inr (4, [.ref (ad 78), .ref (ad 79), .ref (ad 80), .int 0, .int 0, .int 0, .int 0, .int 1, .int 0, .int 0, .ref (ad 81), .int 0, .int 0, .int 0])), (ad 7, .inr (1, [.int 0, .int 0, .ref (ad 76), .int 0, .ref (ad 77), .int 0, .int 0])), (ad 5, .inl (dA 4, 3, .inr (.inr (.inr (.inr (gM (ad 29) (ad 30) (ad 31))))))), (ad 29, .inr (6, [.int 0, .int 0, .ref (ad 32), .ref (ad 33), .ref (ad 34), .ref (ad 35), .ref (ad 36), .int 0, .ref (ad 37), .ref (ad 38), .ref (ad 39), .ref (ad 40), .ref (ad 41), .int 0, .ref (ad 42), .ref (ad 43), .ref (ad 44)])), (ad 30, .inr (6, [.int 0, .int 0, .ref (ad 45), .ref (ad 46), .ref (ad 47), .ref (ad 48), .ref (ad 49), .int 0, .ref (ad 50), .ref (ad 51), .ref (ad 52), .ref (ad 53), .ref (ad 54), .int 0, .ref (ad 55), .ref (ad 56), .ref (ad 57)])), (ad 31, .inr (6, [.int 0, .int 0, .ref (ad 58), .ref (ad 59), .ref (ad 60), .ref (ad 61), .ref (ad 62), .int 0, .ref (ad 63), .ref (ad 64), .ref (ad 65), .ref (ad 66), .ref (ad 67), .int 0, .ref (ad 68), .ref (ad 69), .ref (ad 70)]))] s.heap.size = A at hZ hD ⊢
  have hA : ∀ q : Nat, s.heap.size ≤ q → A q := fun q h => by rw [← hAe]; exact Or.inr h
  have hS : va_S A s.heap s.heap [] := va_S.rf
  have hP : va_P D vwC [(h0, .inr (10, [.ref (ad 0), .int 0, .int (-1), .int (-1), .ref (ad 1), .ref (ad 2), .ref (ad 3), .ref (ad 4), .ref (ad 5), .ref (ad 6), .ref (ad 7), .ref (ad 8)])), (ad 8, .inr (4, [.ref (ad 78), .ref (ad 79), .ref (ad 80), .int 0, .int 0, .int 0, .int 0, .int 1, .int 0, .int 0, .ref (ad 81), .int 0, .int 0, .int 0])), (ad 7, .inr (1, [.int 0, .int 0, .ref (ad 76), .int 0, .ref (ad 77), .int 0, .int 0])), (ad 5, .inl (dA 4, 3, .inr (.inr (.inr (.inr (gM (ad 29) (ad 30) (ad 31))))))), (ad 29, .inr (6, [.int 0, .int 0, .ref (ad 32), .ref (ad 33), .ref (ad 34), .ref (ad 35), .ref (ad 36), .int 0, .ref (ad 37), .ref (ad 38), .ref (ad 39), .ref (ad 40), .ref (ad 41), .int 0, .ref (ad 42), .ref (ad 43), .ref (ad 44)])), (ad 30, .inr (6, [.int 0, .int 0, .ref (ad 45), .ref (ad 46), .ref (ad 47), .ref (ad 48), .ref (ad 49), .int 0, .ref (ad 50), .ref (ad 51), .ref (ad 52), .ref (ad 53), .ref (ad 54), .int 0, .ref (ad 55), .ref (ad 56), .ref (ad 57)])), (ad 31, .inr (6, [.int 0, .int 0, .ref (ad 58), .ref (ad 59), .ref (ad 60), .ref (ad 61), .ref (ad 62), .int 0, .ref (ad 63), .ref (ad 64), .ref (ad 65), .ref (ad 66), .ref (ad 67), .int 0, .ref (ad 68), .ref (ad 69), .ref (ad 70)]))] s.heap := hP
  have hl := lv_entry ([.ref h0, .int x]) (n := 2) (Nat.le_of_ble_eq_true rfl)
  rw [lg_entry_eq]
  generalize (lg_sl ([.ref h0, .int x]) ++ List.replicate (2 - (lg_sl ([.ref h0, .int x])).length) Slot.unset).toArray = ls at hl ⊢
  have hl : lv_has ls 2 [(0, .ref h0), (1, .int x)] := hl
  refine lv_iload_n hx hb dX10_count_0 rfl (lv_at hl 1 rfl) ?_
  refine lv_if_lt (tgt := 10) hx hb dX10_count_1 (by decide) (fun k1 => ?_) (fun k1 => ?_)
  · have bk1 := gb_lt_r (k := 0) (by decide) k1
    exact g_thrW (cls := xIAE) (is := 294) (text := "what is not 0 .. 13") hx hb hg htr hown (by decide) q731 q167 (by decide +kernel) atIAE (by decide +kernel) hZ hS hml hl.1 hnt hlocks dX10_count_10 dX10_count_13 dX10_count_14 dX10_count_17 dX10_count_20 (Nat.le_of_ble_eq_true rfl) (Nat.le_of_ble_eq_true rfl) (Nat.le_of_ble_eq_true rfl) (Nat.le_of_ble_eq_true rfl) (Nat.le_of_ble_eq_true rfl) (Nat.le_of_ble_eq_true rfl) ⟨rfl, by unfold gIn; omega⟩
  · refine lv_iload_n hx hb dX10_count_4 rfl (lv_at hl 1 rfl) ?_
    refine lv_bipush (v := 13) hx hb dX10_count_5 (by decide) ?_
    refine lv_icmp_le (tgt := 21) hx hb dX10_count_7 (by decide) (fun k2 => ?_) (fun k2 => ?_)
    · have bk1 := gb_nlt_r (k := 0) (by decide) k1
      have bk2 := gb_le_r (k := 13) (by decide) k2
      rcases g_c0_13 (x := x) (by omega) (by omega) with rfl | rfl | rfl | rfl | rfl | rfl | rfl | rfl | rfl | rfl | rfl | rfl | rfl | rfl
      · refine lv_iload_n hx hb dX10_count_21 rfl (lv_at hl 1 rfl) ?_
        refine lv_bipush (v := 11) hx hb dX10_count_22 (by decide) ?_
        refine lv_icmp_lt (tgt := 40) hx hb dX10_count_24 (by decide) (fun _ => ?_) (fun h => absurd (by decide) h)
        refine lv_iload_n hx hb dX10_count_40 rfl (lv_at hl 1 rfl) ?_
        refine lv_bipush (v := 8) hx hb dX10_count_41 (by decide) ?_
        refine lv_icmp_lt (tgt := 59) hx hb dX10_count_43 (by decide) (fun _ => ?_) (fun h => absurd (by decide) h)
        refine lv_iload_n hx hb dX10_count_59 rfl (lv_at hl 1 rfl) ?_
        refine lv_tableIn (tgt := 104) hx hb dX10_count_60 (by decide) (by decide) rfl (by decide) ?_
        refine lv_aload_n hx hb dX10_count_104 rfl (lv_at hl 0 rfl) ?_
        refine g_get hx hb hg hown hK hP 0 rfl rfl inX10 1 (by decide) q607 rfl dX10_count_105 ?_
        exact vx_ret (g_iret hx hb hr rfl hlocks hK () (hP.sub [] rfl) (hD.sub [] rfl rfl) hS ⟨by decide, by unfold gIn; decide⟩ (Nat.le_of_ble_eq_true rfl) (Nat.le_of_ble_eq_true rfl) dX10_count_108)
      · refine lv_iload_n hx hb dX10_count_21 rfl (lv_at hl 1 rfl) ?_
        refine lv_bipush (v := 11) hx hb dX10_count_22 (by decide) ?_
        refine lv_icmp_lt (tgt := 40) hx hb dX10_count_24 (by decide) (fun _ => ?_) (fun h => absurd (by decide) h)
        refine lv_iload_n hx hb dX10_count_40 rfl (lv_at hl 1 rfl) ?_
        refine lv_bipush (v := 8) hx hb dX10_count_41 (by decide) ?_
        refine lv_icmp_lt (tgt := 59) hx hb dX10_count_43 (by decide) (fun _ => ?_) (fun h => absurd (by decide) h)
        refine lv_iload_n hx hb dX10_count_59 rfl (lv_at hl 1 rfl) ?_
        refine lv_tableIn (tgt := 109) hx hb dX10_count_60 (by decide) (by decide) rfl (by decide) ?_
        refine lv_aload_n hx hb dX10_count_109 rfl (lv_at hl 0 rfl) ?_
        refine g_get hx hb hg hown hK hP 0 rfl rfl inX10 2 (by decide) q608 rfl dX10_count_110 ?_
        exact vx_ret (g_iret hx hb hr rfl hlocks hK () (hP.sub [] rfl) (hD.sub [] rfl rfl) hS ⟨by decide, by unfold gIn; decide⟩ (Nat.le_of_ble_eq_true rfl) (Nat.le_of_ble_eq_true rfl) dX10_count_113)
      · refine lv_iload_n hx hb dX10_count_21 rfl (lv_at hl 1 rfl) ?_
        refine lv_bipush (v := 11) hx hb dX10_count_22 (by decide) ?_
        refine lv_icmp_lt (tgt := 40) hx hb dX10_count_24 (by decide) (fun _ => ?_) (fun h => absurd (by decide) h)
        refine lv_iload_n hx hb dX10_count_40 rfl (lv_at hl 1 rfl) ?_
        refine lv_bipush (v := 8) hx hb dX10_count_41 (by decide) ?_
        refine lv_icmp_lt (tgt := 59) hx hb dX10_count_43 (by decide) (fun _ => ?_) (fun h => absurd (by decide) h)
        refine lv_iload_n hx hb dX10_count_59 rfl (lv_at hl 1 rfl) ?_
        refine lv_tableIn (tgt := 114) hx hb dX10_count_60 (by decide) (by decide) rfl (by decide) ?_
        refine lv_aload_n hx hb dX10_count_114 rfl (lv_at hl 0 rfl) ?_
        refine g_get hx hb hg hown hK hP 0 rfl rfl inX10 3 (by decide) q609 rfl dX10_count_115 ?_
        exact vx_ret (g_iret hx hb hr rfl hlocks hK () (hP.sub [] rfl) (hD.sub [] rfl rfl) hS ⟨by decide, by unfold gIn; decide⟩ (Nat.le_of_ble_eq_true rfl) (Nat.le_of_ble_eq_true rfl) dX10_count_118)
      · refine lv_iload_n hx hb dX10_count_21 rfl (lv_at hl 1 rfl) ?_
        refine lv_bipush (v := 11) hx hb dX10_count_22 (by decide) ?_
        refine lv_icmp_lt (tgt := 40) hx hb dX10_count_24 (by decide) (fun _ => ?_) (fun h => absurd (by decide) h)
        refine lv_iload_n hx hb dX10_count_40 rfl (lv_at hl 1 rfl) ?_
        refine lv_bipush (v := 8) hx hb dX10_count_41 (by decide) ?_
        refine lv_icmp_lt (tgt := 59) hx hb dX10_count_43 (by decide) (fun _ => ?_) (fun h => absurd (by decide) h)
        refine lv_iload_n hx hb dX10_count_59 rfl (lv_at hl 1 rfl) ?_
        refine lv_tableIn (tgt := 119) hx hb dX10_count_60 (by decide) (by decide) rfl (by decide) ?_
        refine lv_aload_n hx hb dX10_count_119 rfl (lv_at hl 0 rfl) ?_
        refine g_get hx hb hg hown hK hP 0 rfl rfl inX10 10 (by decide) q616 rfl dX10_count_120 ?_
        refine g_get hx hb hg hown hK hP 2 rfl rfl inX1 1 (by decide) q515 rfl dX10_count_123 ?_
        exact vx_ret (g_iret hx hb hr rfl hlocks hK () (hP.sub [] rfl) (hD.sub [] rfl rfl) hS ⟨by decide, by unfold gIn; decide⟩ (Nat.le_of_ble_eq_true rfl) (Nat.le_of_ble_eq_true rfl) dX10_count_126)
      · refine lv_iload_n hx hb dX10_count_21 rfl (lv_at hl 1 rfl) ?_
        refine lv_bipush (v := 11) hx hb dX10_count_22 (by decide) ?_
        refine lv_icmp_lt (tgt := 40) hx hb dX10_count_24 (by decide) (fun _ => ?_) (fun h => absurd (by decide) h)
        refine lv_iload_n hx hb dX10_count_40 rfl (lv_at hl 1 rfl) ?_
        refine lv_bipush (v := 8) hx hb dX10_count_41 (by decide) ?_
        refine lv_icmp_lt (tgt := 59) hx hb dX10_count_43 (by decide) (fun _ => ?_) (fun h => absurd (by decide) h)
        refine lv_iload_n hx hb dX10_count_59 rfl (lv_at hl 1 rfl) ?_
        refine lv_tableIn (tgt := 127) hx hb dX10_count_60 (by decide) (by decide) rfl (by decide) ?_
        refine lv_aload_n hx hb dX10_count_127 rfl (lv_at hl 0 rfl) ?_
        refine g_get hx hb hg hown hK hP 0 rfl rfl inX10 10 (by decide) q616 rfl dX10_count_128 ?_
        refine g_get hx hb hg hown hK hP 2 rfl rfl inX1 3 (by decide) q522 rfl dX10_count_131 ?_
        exact vx_ret (g_iret hx hb hr rfl hlocks hK () (hP.sub [] rfl) (hD.sub [] rfl rfl) hS ⟨by decide, by unfold gIn; decide⟩ (Nat.le_of_ble_eq_true rfl) (Nat.le_of_ble_eq_true rfl) dX10_count_134)
      · refine lv_iload_n hx hb dX10_count_21 rfl (lv_at hl 1 rfl) ?_
        refine lv_bipush (v := 11) hx hb dX10_count_22 (by decide) ?_
        refine lv_icmp_lt (tgt := 40) hx hb dX10_count_24 (by decide) (fun _ => ?_) (fun h => absurd (by decide) h)
        refine lv_iload_n hx hb dX10_count_40 rfl (lv_at hl 1 rfl) ?_
        refine lv_bipush (v := 8) hx hb dX10_count_41 (by decide) ?_
        refine lv_icmp_lt (tgt := 59) hx hb dX10_count_43 (by decide) (fun _ => ?_) (fun h => absurd (by decide) h)
        refine lv_iload_n hx hb dX10_count_59 rfl (lv_at hl 1 rfl) ?_
        refine lv_tableIn (tgt := 135) hx hb dX10_count_60 (by decide) (by decide) rfl (by decide) ?_
        refine lv_aload_n hx hb dX10_count_135 rfl (lv_at hl 0 rfl) ?_
        refine g_get hx hb hg hown hK hP 0 rfl rfl inX10 11 (by decide) q617 rfl dX10_count_136 ?_
        refine g_get hx hb hg hown hK hP 1 rfl rfl inX4 8 (by decide) q569 rfl dX10_count_139 ?_
        exact vx_ret (g_iret hx hb hr rfl hlocks hK () (hP.sub [] rfl) (hD.sub [] rfl rfl) hS ⟨by decide, by unfold gIn; decide⟩ (Nat.le_of_ble_eq_true rfl) (Nat.le_of_ble_eq_true rfl) dX10_count_142)
      · refine lv_iload_n hx hb dX10_count_21 rfl (lv_at hl 1 rfl) ?_
        refine lv_bipush (v := 11) hx hb dX10_count_22 (by decide) ?_
        refine lv_icmp_lt (tgt := 40) hx hb dX10_count_24 (by decide) (fun _ => ?_) (fun h => absurd (by decide) h)
        refine lv_iload_n hx hb dX10_count_40 rfl (lv_at hl 1 rfl) ?_
        refine lv_bipush (v := 8) hx hb dX10_count_41 (by decide) ?_
        refine lv_icmp_lt (tgt := 59) hx hb dX10_count_43 (by decide) (fun _ => ?_) (fun h => absurd (by decide) h)
        refine lv_iload_n hx hb dX10_count_59 rfl (lv_at hl 1 rfl) ?_
        refine lv_tableIn (tgt := 143) hx hb dX10_count_60 (by decide) (by decide) rfl (by decide) ?_
        refine lv_aload_n hx hb dX10_count_143 rfl (lv_at hl 0 rfl) ?_
        refine g_get hx hb hg hown hK hP 0 rfl rfl inX10 11 (by decide) q617 rfl dX10_count_144 ?_
        refine g_get hx hb hg hown hK hP 1 rfl rfl inX4 9 (by decide) q571 rfl dX10_count_147 ?_
        exact vx_ret (g_iret hx hb hr rfl hlocks hK () (hP.sub [] rfl) (hD.sub [] rfl rfl) hS ⟨by decide, by unfold gIn; decide⟩ (Nat.le_of_ble_eq_true rfl) (Nat.le_of_ble_eq_true rfl) dX10_count_150)
      · refine lv_iload_n hx hb dX10_count_21 rfl (lv_at hl 1 rfl) ?_
        refine lv_bipush (v := 11) hx hb dX10_count_22 (by decide) ?_
        refine lv_icmp_lt (tgt := 40) hx hb dX10_count_24 (by decide) (fun _ => ?_) (fun h => absurd (by decide) h)
        refine lv_iload_n hx hb dX10_count_40 rfl (lv_at hl 1 rfl) ?_
        refine lv_bipush (v := 8) hx hb dX10_count_41 (by decide) ?_
        refine lv_icmp_lt (tgt := 59) hx hb dX10_count_43 (by decide) (fun _ => ?_) (fun h => absurd (by decide) h)
        refine lv_iload_n hx hb dX10_count_59 rfl (lv_at hl 1 rfl) ?_
        refine lv_tableOut (tgt := 151) hx hb dX10_count_60 (by decide) (by decide) ?_
        refine lv_aload_n hx hb dX10_count_151 rfl (lv_at hl 0 rfl) ?_
        refine g_get hx hb hg hown hK hP 0 rfl rfl inX10 11 (by decide) q617 rfl dX10_count_152 ?_
        refine g_get hx hb hg hown hK hP 1 rfl rfl inX4 7 (by decide) q567 rfl dX10_count_155 ?_
        refine lv_if_eq (tgt := 165) hx hb dX10_count_158 (by decide) (fun h => absurd h (by decide)) (fun _ => ?_)
        refine lv_iconst (v := 1) hx hb dX10_count_161 (by decide) ?_
        refine lv_goto (tgt := 166) hx hb dX10_count_162 (by decide) ?_
        exact vx_ret (g_iret hx hb hr rfl hlocks hK () (hP.sub [] rfl) (hD.sub [] rfl rfl) hS ⟨by decide, by unfold gIn; decide⟩ (Nat.le_of_ble_eq_true rfl) (Nat.le_of_ble_eq_true rfl) dX10_count_166)
      · refine lv_iload_n hx hb dX10_count_21 rfl (lv_at hl 1 rfl) ?_
        refine lv_bipush (v := 11) hx hb dX10_count_22 (by decide) ?_
        refine lv_icmp_lt (tgt := 40) hx hb dX10_count_24 (by decide) (fun _ => ?_) (fun h => absurd (by decide) h)
        refine lv_iload_n hx hb dX10_count_40 rfl (lv_at hl 1 rfl) ?_
        refine lv_bipush (v := 8) hx hb dX10_count_41 (by decide) ?_
        refine lv_icmp_lt (tgt := 59) hx hb dX10_count_43 (by decide) (fun h => absurd h (by decide)) (fun _ => ?_)
        refine lv_aload_n hx hb dX10_count_46 rfl (lv_at hl 0 rfl) ?_
        refine g_get hx hb hg hown hK hP 0 rfl rfl inX10 8 (by decide) q614 rfl dX10_count_47 ?_
        refine lv_iload_n hx hb dX10_count_50 rfl (lv_at hl 1 rfl) ?_
        refine lv_bipush (v := 8) hx hb dX10_count_51 (by decide) ?_
        refine lv_isub hx hb dX10_count_53 ?_
        refine g_nrm (y := 0) (by decide) ?_
        refine va_aldq hx hb hK hP 3 4 rfl rfl (by unfold vp_in; decide) dX10_count_54 ?_
        refine g_topv (gM_0 _ _ _) ?_
        refine g_get hx hb hg hown hK hP 4 rfl rfl inX6 1 (by decide) q403 rfl dX10_count_55 ?_
        exact vx_ret (g_iret hx hb hr rfl hlocks hK () (hP.sub [] rfl) (hD.sub [] rfl rfl) hS ⟨by decide, by unfold gIn; decide⟩ (Nat.le_of_ble_eq_true rfl) (Nat.le_of_ble_eq_true rfl) dX10_count_58)
      · refine lv_iload_n hx hb dX10_count_21 rfl (lv_at hl 1 rfl) ?_
        refine lv_bipush (v := 11) hx hb dX10_count_22 (by decide) ?_
        refine lv_icmp_lt (tgt := 40) hx hb dX10_count_24 (by decide) (fun _ => ?_) (fun h => absurd (by decide) h)
        refine lv_iload_n hx hb dX10_count_40 rfl (lv_at hl 1 rfl) ?_
        refine lv_bipush (v := 8) hx hb dX10_count_41 (by decide) ?_
        refine lv_icmp_lt (tgt := 59) hx hb dX10_count_43 (by decide) (fun h => absurd h (by decide)) (fun _ => ?_)
        refine lv_aload_n hx hb dX10_count_46 rfl (lv_at hl 0 rfl) ?_
        refine g_get hx hb hg hown hK hP 0 rfl rfl inX10 8 (by decide) q614 rfl dX10_count_47 ?_
        refine lv_iload_n hx hb dX10_count_50 rfl (lv_at hl 1 rfl) ?_
        refine lv_bipush (v := 8) hx hb dX10_count_51 (by decide) ?_
        refine lv_isub hx hb dX10_count_53 ?_
        refine g_nrm (y := 1) (by decide) ?_
        refine va_aldq hx hb hK hP 3 4 rfl rfl (by unfold vp_in; decide) dX10_count_54 ?_
        refine g_topv (gM_1 _ _ _) ?_
        refine g_get hx hb hg hown hK hP 5 rfl rfl inX6 1 (by decide) q403 rfl dX10_count_55 ?_
        exact vx_ret (g_iret hx hb hr rfl hlocks hK () (hP.sub [] rfl) (hD.sub [] rfl rfl) hS ⟨by decide, by unfold gIn; decide⟩ (Nat.le_of_ble_eq_true rfl) (Nat.le_of_ble_eq_true rfl) dX10_count_58)
      · refine lv_iload_n hx hb dX10_count_21 rfl (lv_at hl 1 rfl) ?_
        refine lv_bipush (v := 11) hx hb dX10_count_22 (by decide) ?_
        refine lv_icmp_lt (tgt := 40) hx hb dX10_count_24 (by decide) (fun _ => ?_) (fun h => absurd (by decide) h)
        refine lv_iload_n hx hb dX10_count_40 rfl (lv_at hl 1 rfl) ?_
        refine lv_bipush (v := 8) hx hb dX10_count_41 (by decide) ?_
        refine lv_icmp_lt (tgt := 59) hx hb dX10_count_43 (by decide) (fun h => absurd h (by decide)) (fun _ => ?_)
        refine lv_aload_n hx hb dX10_count_46 rfl (lv_at hl 0 rfl) ?_
        refine g_get hx hb hg hown hK hP 0 rfl rfl inX10 8 (by decide) q614 rfl dX10_count_47 ?_
        refine lv_iload_n hx hb dX10_count_50 rfl (lv_at hl 1 rfl) ?_
        refine lv_bipush (v := 8) hx hb dX10_count_51 (by decide) ?_
        refine lv_isub hx hb dX10_count_53 ?_
        refine g_nrm (y := 2) (by decide) ?_
        refine va_aldq hx hb hK hP 3 4 rfl rfl (by unfold vp_in; decide) dX10_count_54 ?_
        refine g_topv (gM_2 _ _ _) ?_
        refine g_get hx hb hg hown hK hP 6 rfl rfl inX6 1 (by decide) q403 rfl dX10_count_55 ?_
        exact vx_ret (g_iret hx hb hr rfl hlocks hK () (hP.sub [] rfl) (hD.sub [] rfl rfl) hS ⟨by decide, by unfold gIn; decide⟩ (Nat.le_of_ble_eq_true rfl) (Nat.le_of_ble_eq_true rfl) dX10_count_58)
      · refine lv_iload_n hx hb dX10_count_21 rfl (lv_at hl 1 rfl) ?_
        refine lv_bipush (v := 11) hx hb dX10_count_22 (by decide) ?_
        refine lv_icmp_lt (tgt := 40) hx hb dX10_count_24 (by decide) (fun h => absurd h (by decide)) (fun _ => ?_)
        refine lv_aload_n hx hb dX10_count_27 rfl (lv_at hl 0 rfl) ?_
        refine g_get hx hb hg hown hK hP 0 rfl rfl inX10 8 (by decide) q614 rfl dX10_count_28 ?_
        refine lv_iload_n hx hb dX10_count_31 rfl (lv_at hl 1 rfl) ?_
        refine lv_bipush (v := 11) hx hb dX10_count_32 (by decide) ?_
        refine lv_isub hx hb dX10_count_34 ?_
        refine g_nrm (y := 0) (by decide) ?_
        refine va_aldq hx hb hK hP 3 4 rfl rfl (by unfold vp_in; decide) dX10_count_35 ?_
        refine g_topv (gM_0 _ _ _) ?_
        refine g_get hx hb hg hown hK hP 4 rfl rfl inX6 7 (by decide) q419 rfl dX10_count_36 ?_
        exact vx_ret (g_iret hx hb hr rfl hlocks hK () (hP.sub [] rfl) (hD.sub [] rfl rfl) hS ⟨by decide, by unfold gIn; decide⟩ (Nat.le_of_ble_eq_true rfl) (Nat.le_of_ble_eq_true rfl) dX10_count_39)
      · refine lv_iload_n hx hb dX10_count_21 rfl (lv_at hl 1 rfl) ?_
        refine lv_bipush (v := 11) hx hb dX10_count_22 (by decide) ?_
        refine lv_icmp_lt (tgt := 40) hx hb dX10_count_24 (by decide) (fun h => absurd h (by decide)) (fun _ => ?_)
        refine lv_aload_n hx hb dX10_count_27 rfl (lv_at hl 0 rfl) ?_
        refine g_get hx hb hg hown hK hP 0 rfl rfl inX10 8 (by decide) q614 rfl dX10_count_28 ?_
        refine lv_iload_n hx hb dX10_count_31 rfl (lv_at hl 1 rfl) ?_
        refine lv_bipush (v := 11) hx hb dX10_count_32 (by decide) ?_
        refine lv_isub hx hb dX10_count_34 ?_
        refine g_nrm (y := 1) (by decide) ?_
        refine va_aldq hx hb hK hP 3 4 rfl rfl (by unfold vp_in; decide) dX10_count_35 ?_
        refine g_topv (gM_1 _ _ _) ?_
        refine g_get hx hb hg hown hK hP 5 rfl rfl inX6 7 (by decide) q419 rfl dX10_count_36 ?_
        exact vx_ret (g_iret hx hb hr rfl hlocks hK () (hP.sub [] rfl) (hD.sub [] rfl rfl) hS ⟨by decide, by unfold gIn; decide⟩ (Nat.le_of_ble_eq_true rfl) (Nat.le_of_ble_eq_true rfl) dX10_count_39)
      · refine lv_iload_n hx hb dX10_count_21 rfl (lv_at hl 1 rfl) ?_
        refine lv_bipush (v := 11) hx hb dX10_count_22 (by decide) ?_
        refine lv_icmp_lt (tgt := 40) hx hb dX10_count_24 (by decide) (fun h => absurd h (by decide)) (fun _ => ?_)
        refine lv_aload_n hx hb dX10_count_27 rfl (lv_at hl 0 rfl) ?_
        refine g_get hx hb hg hown hK hP 0 rfl rfl inX10 8 (by decide) q614 rfl dX10_count_28 ?_
        refine lv_iload_n hx hb dX10_count_31 rfl (lv_at hl 1 rfl) ?_
        refine lv_bipush (v := 11) hx hb dX10_count_32 (by decide) ?_
        refine lv_isub hx hb dX10_count_34 ?_
        refine g_nrm (y := 2) (by decide) ?_
        refine va_aldq hx hb hK hP 3 4 rfl rfl (by unfold vp_in; decide) dX10_count_35 ?_
        refine g_topv (gM_2 _ _ _) ?_
        refine g_get hx hb hg hown hK hP 6 rfl rfl inX6 7 (by decide) q419 rfl dX10_count_36 ?_
        exact vx_ret (g_iret hx hb hr rfl hlocks hK () (hP.sub [] rfl) (hD.sub [] rfl rfl) hS ⟨by decide, by unfold gIn; decide⟩ (Nat.le_of_ble_eq_true rfl) (Nat.le_of_ble_eq_true rfl) dX10_count_39)
    · have bk1 := gb_nlt_r (k := 0) (by decide) k1
      have bk2 := gb_nle_r (k := 13) (by decide) k2
      exact g_thrW (cls := xIAE) (is := 294) (text := "what is not 0 .. 13") hx hb hg htr hown (by decide) q731 q167 (by decide +kernel) atIAE (by decide +kernel) hZ hS hml hl.1 hnt hlocks dX10_count_10 dX10_count_13 dX10_count_14 dX10_count_17 dX10_count_20 (Nat.le_of_ble_eq_true rfl) (Nat.le_of_ble_eq_true rfl) (Nat.le_of_ble_eq_true rfl) (Nat.le_of_ble_eq_true rfl) (Nat.le_of_ble_eq_true rfl) (Nat.le_of_ble_eq_true rfl) ⟨rfl, by unfold gIn; omega⟩
set_option maxHeartbeats 4000000 in
set_option maxRecDepth 100000 in
theorem c_X10_image (l : Launch) (htr : l.stackTraces = false) (D : va_G) (dA : Nat → ClassId) (h0 : Nat) (ad : Nat → Nat) (x : Int32) (sz : Nat) : vx_Met l yX10_image (gws yX10_image cX10_image 2 (some .int)) (gR 8 1 6) (gPreX D dA [.ref h0, .int x] [(h0, .inr (10, [.ref (ad 0), .int 0, .int (-1), .int (-1), .ref (ad 1), .ref (ad 2), .ref (ad 3), .ref (ad 4), .ref (ad 5), .ref (ad 6), .ref (ad 7), .ref (ad 8)])), (ad 7, .inr (1, [.int 0, .int 0, .ref (ad 76), .int 0, .ref (ad 77), .int 0, .int 0]))] sz) (va_Qi (fun (r : Int32) (_ : Unit) => False) (gAt D dA (va_A [(h0, .inr (10, [.ref (ad 0), .int 0, .int (-1), .int (-1), .ref (ad 1), .ref (ad 2), .ref (ad 3), .ref (ad 4), .ref (ad 5), .ref (ad 6), .ref (ad 7), .ref (ad 8)])), (ad 7, .inr (1, [.int 0, .int 0, .ref (ad 76), .int 0, .ref (ad 77), .int 0, .int 0]))] sz) (fun _ : Unit => [])) (va_A [(h0, .inr (10, [.ref (ad 0), .int 0, .int (-1), .int (-1), .ref (ad 1), .ref (ad 2), .ref (ad 3), .ref (ad 4), .ref (ad 5), .ref (ad 6), .ref (ad 7), .ref (ad 8)])), (ad 7, .inr (1, [.int 0, .int 0, .ref (ad 76), .int 0, .ref (ad 77), .int 0, .int 0]))] sz)) (gX (fun E : String => E = xIOB) (va_A [(h0, .inr (10, [.ref (ad 0), .int 0, .int (-1), .int (-1), .ref (ad 1), .ref (ad 2), .ref (ad 3), .ref (ad 4), .ref (ad 5), .ref (ad 6), .ref (ad 7), .ref (ad 8)])), (ad 7, .inr (1, [.int 0, .int 0, .ref (ad 76), .int 0, .ref (ad 77), .int 0, .int 0]))] sz)) 1 6 (va_A [(h0, .inr (10, [.ref (ad 0), .int 0, .int (-1), .int (-1), .ref (ad 1), .ref (ad 2), .ref (ad 3), .ref (ad 4), .ref (ad 5), .ref (ad 6), .ref (ad 7), .ref (ad 8)])), (ad 7, .inr (1, [.int 0, .int 0, .ref (ad 76), .int 0, .ref (ad 77), .int 0, .int 0]))] sz) := by
  refine vx_ofW (cc := cX10_image) (maxL := 2) (ret := (some .int)) (by decide) rfl ?_
  intro p e s m args below meth c s₁ B hml hnt hv
  obtain ⟨rfl, hsz, hP, hK, hD0, hZ⟩ := hv
  have hx := B.exec
  have hb := B.bytes
  have hr := B.returns
  have hts := atoms_spec (ws := gws yX10_image cX10_image 2 (some .int)) B.pre
  have hg : ∀ w ∈ gw, w.before _ s = true := fun w h => hts w (List.mem_cons_of_mem _ h)
  have hown : s.vm.findClass RX10 = some m.cls := findClass_of_methodNamed B.named
  have hlocks := B.notSynchronized
  subst hsz
  have hD := hD0.self (sz := s.heap.size)
  generalize hAe : va_A [(h0, .inr (10, [.ref (ad 0), .int 0, .int (-1), .int (-1), .ref (ad 1), .ref (ad 2), .ref (ad 3), .ref (ad 4), .ref (ad 5), .ref (ad 6), .ref (ad 7), .ref (ad 8)])), (ad 7, .inr (1, [.int 0, .int 0, .ref (ad 76), .int 0, .ref (ad 77), .int 0, .int 0]))] s.heap.size = A at hZ hD ⊢
  have hA : ∀ q : Nat, s.heap.size ≤ q → A q := fun q h => by rw [← hAe]; exact Or.inr h
  have hS : va_S A s.heap s.heap [] := va_S.rf
  have hP : va_P D vwC [(h0, .inr (10, [.ref (ad 0), .int 0, .int (-1), .int (-1), .ref (ad 1), .ref (ad 2), .ref (ad 3), .ref (ad 4), .ref (ad 5), .ref (ad 6), .ref (ad 7), .ref (ad 8)])), (ad 7, .inr (1, [.int 0, .int 0, .ref (ad 76), .int 0, .ref (ad 77), .int 0, .int 0]))] s.heap := hP
  have hl := lv_entry ([.ref h0, .int x]) (n := 2) (Nat.le_of_ble_eq_true rfl)
  rw [lg_entry_eq]
  generalize (lg_sl ([.ref h0, .int x]) ++ List.replicate (2 - (lg_sl ([.ref h0, .int x])).length) Slot.unset).toArray = ls at hl ⊢
  have hl : lv_has ls 2 [(0, .ref h0), (1, .int x)] := hl
  refine lv_iload_n hx hb dX10_image_0 rfl (lv_at hl 1 rfl) ?_
  refine lv_if_lt (tgt := 15) hx hb dX10_image_1 (by decide) (fun k1 => ?_) (fun k1 => ?_)
  · exact g_thr (cls := xIOB) (is := 233) (text := "there is no such byte") hx hb hg htr hown (by decide) q751 q164 (by decide +kernel) atIOB (by decide +kernel) hZ hS hml hl.1 hnt hlocks dX10_image_15 dX10_image_18 dX10_image_19 dX10_image_21 dX10_image_24 (Nat.le_of_ble_eq_true rfl) (Nat.le_of_ble_eq_true rfl) (Nat.le_of_ble_eq_true rfl) (Nat.le_of_ble_eq_true rfl) (Nat.le_of_ble_eq_true rfl) (Nat.le_of_ble_eq_true rfl) rfl
  · refine lv_iload_n hx hb dX10_image_4 rfl (lv_at hl 1 rfl) ?_
    refine lv_aload_n hx hb dX10_image_5 rfl (lv_at hl 0 rfl) ?_
    refine g_get hx hb hg hown hK hP 0 rfl rfl inX10 10 (by decide) q616 rfl dX10_image_6 ?_
    refine g_get hx hb hg hown hK hP 1 rfl rfl inX1 1 (by decide) q515 rfl dX10_image_9 ?_
    have bk1 := gb_nlt_r (k := 0) (by decide) k1
    refine lv_icmp_lt (tgt := 25) hx hb dX10_image_12 (by decide) (fun h => absurd (gb_lt_r (k := 0) (by decide) h) (by omega)) (fun _ => ?_)
    exact g_thr (cls := xIOB) (is := 233) (text := "there is no such byte") hx hb hg htr hown (by decide) q751 q164 (by decide +kernel) atIOB (by decide +kernel) hZ hS hml hl.1 hnt hlocks dX10_image_15 dX10_image_18 dX10_image_19 dX10_image_21 dX10_image_24 (Nat.le_of_ble_eq_true rfl) (Nat.le_of_ble_eq_true rfl) (Nat.le_of_ble_eq_true rfl) (Nat.le_of_ble_eq_true rfl) (Nat.le_of_ble_eq_true rfl) (Nat.le_of_ble_eq_true rfl) rfl
set_option maxHeartbeats 4000000 in
set_option maxRecDepth 100000 in
theorem c_X10_trace (l : Launch) (htr : l.stackTraces = false) (D : va_G) (dA : Nat → ClassId) (h0 : Nat) (ad : Nat → Nat) (x : Int32) (sz : Nat) : vx_Met l yX10_trace (gws yX10_trace cX10_trace 2 (some .int)) (gR 8 1 6) (gPreX D dA [.ref h0, .int x] [(h0, .inr (10, [.ref (ad 0), .int 0, .int (-1), .int (-1), .ref (ad 1), .ref (ad 2), .ref (ad 3), .ref (ad 4), .ref (ad 5), .ref (ad 6), .ref (ad 7), .ref (ad 8)])), (ad 8, .inr (4, [.ref (ad 78), .ref (ad 79), .ref (ad 80), .int 0, .int 0, .int 0, .int 0, .int 1, .int 0, .int 0, .ref (ad 81), .int 0, .int 0, .int 0]))] sz) (va_Qi (fun (r : Int32) (_ : Unit) => False) (gAt D dA (va_A [(h0, .inr (10, [.ref (ad 0), .int 0, .int (-1), .int (-1), .ref (ad 1), .ref (ad 2), .ref (ad 3), .ref (ad 4), .ref (ad 5), .ref (ad 6), .ref (ad 7), .ref (ad 8)])), (ad 8, .inr (4, [.ref (ad 78), .ref (ad 79), .ref (ad 80), .int 0, .int 0, .int 0, .int 0, .int 1, .int 0, .int 0, .ref (ad 81), .int 0, .int 0, .int 0]))] sz) (fun _ : Unit => [])) (va_A [(h0, .inr (10, [.ref (ad 0), .int 0, .int (-1), .int (-1), .ref (ad 1), .ref (ad 2), .ref (ad 3), .ref (ad 4), .ref (ad 5), .ref (ad 6), .ref (ad 7), .ref (ad 8)])), (ad 8, .inr (4, [.ref (ad 78), .ref (ad 79), .ref (ad 80), .int 0, .int 0, .int 0, .int 0, .int 1, .int 0, .int 0, .ref (ad 81), .int 0, .int 0, .int 0]))] sz)) (gX (fun E : String => E = xIOB) (va_A [(h0, .inr (10, [.ref (ad 0), .int 0, .int (-1), .int (-1), .ref (ad 1), .ref (ad 2), .ref (ad 3), .ref (ad 4), .ref (ad 5), .ref (ad 6), .ref (ad 7), .ref (ad 8)])), (ad 8, .inr (4, [.ref (ad 78), .ref (ad 79), .ref (ad 80), .int 0, .int 0, .int 0, .int 0, .int 1, .int 0, .int 0, .ref (ad 81), .int 0, .int 0, .int 0]))] sz)) 1 6 (va_A [(h0, .inr (10, [.ref (ad 0), .int 0, .int (-1), .int (-1), .ref (ad 1), .ref (ad 2), .ref (ad 3), .ref (ad 4), .ref (ad 5), .ref (ad 6), .ref (ad 7), .ref (ad 8)])), (ad 8, .inr (4, [.ref (ad 78), .ref (ad 79), .ref (ad 80), .int 0, .int 0, .int 0, .int 0, .int 1, .int 0, .int 0, .ref (ad 81), .int 0, .int 0, .int 0]))] sz) := by
  refine vx_ofW (cc := cX10_trace) (maxL := 2) (ret := (some .int)) (by decide) rfl ?_
  intro p e s m args below meth c s₁ B hml hnt hv
  obtain ⟨rfl, hsz, hP, hK, hD0, hZ⟩ := hv
  have hx := B.exec
  have hb := B.bytes
  have hr := B.returns
  have hts := atoms_spec (ws := gws yX10_trace cX10_trace 2 (some .int)) B.pre
  have hg : ∀ w ∈ gw, w.before _ s = true := fun w h => hts w (List.mem_cons_of_mem _ h)
  have hown : s.vm.findClass RX10 = some m.cls := findClass_of_methodNamed B.named
  have hlocks := B.notSynchronized
  subst hsz
  have hD := hD0.self (sz := s.heap.size)
  generalize hAe : va_A [(h0, .inr (10, [.ref (ad 0), .int 0, .int (-1), .int (-1), .ref (ad 1), .ref (ad 2), .ref (ad 3), .ref (ad 4), .ref (ad 5), .ref (ad 6), .ref (ad 7), .ref (ad 8)])), (ad 8, .inr (4, [.ref (ad 78), .ref (ad 79), .ref (ad 80), .int 0, .int 0, .int 0, .int 0, .int 1, .int 0, .int 0, .ref (ad 81), .int 0, .int 0, .int 0]))] s.heap.size = A at hZ hD ⊢
  have hA : ∀ q : Nat, s.heap.size ≤ q → A q := fun q h => by rw [← hAe]; exact Or.inr h
  have hS : va_S A s.heap s.heap [] := va_S.rf
  have hP : va_P D vwC [(h0, .inr (10, [.ref (ad 0), .int 0, .int (-1), .int (-1), .ref (ad 1), .ref (ad 2), .ref (ad 3), .ref (ad 4), .ref (ad 5), .ref (ad 6), .ref (ad 7), .ref (ad 8)])), (ad 8, .inr (4, [.ref (ad 78), .ref (ad 79), .ref (ad 80), .int 0, .int 0, .int 0, .int 0, .int 1, .int 0, .int 0, .ref (ad 81), .int 0, .int 0, .int 0]))] s.heap := hP
  have hl := lv_entry ([.ref h0, .int x]) (n := 2) (Nat.le_of_ble_eq_true rfl)
  rw [lg_entry_eq]
  generalize (lg_sl ([.ref h0, .int x]) ++ List.replicate (2 - (lg_sl ([.ref h0, .int x])).length) Slot.unset).toArray = ls at hl ⊢
  have hl : lv_has ls 2 [(0, .ref h0), (1, .int x)] := hl
  refine lv_iload_n hx hb dX10_trace_0 rfl (lv_at hl 1 rfl) ?_
  refine lv_if_lt (tgt := 21) hx hb dX10_trace_1 (by decide) (fun k1 => ?_) (fun k1 => ?_)
  · exact g_thrW (cls := xIOB) (is := 289) (text := "there is no such int") hx hb hg htr hown (by decide) q751 q164 (by decide +kernel) atIOB (by decide +kernel) hZ hS hml hl.1 hnt hlocks dX10_trace_21 dX10_trace_24 dX10_trace_25 dX10_trace_28 dX10_trace_31 (Nat.le_of_ble_eq_true rfl) (Nat.le_of_ble_eq_true rfl) (Nat.le_of_ble_eq_true rfl) (Nat.le_of_ble_eq_true rfl) (Nat.le_of_ble_eq_true rfl) (Nat.le_of_ble_eq_true rfl) rfl
  · refine lv_iload_n hx hb dX10_trace_4 rfl (lv_at hl 1 rfl) ?_
    refine lv_bipush (v := 30) hx hb dX10_trace_5 (by decide) ?_
    refine lv_icmp_ge (tgt := 21) hx hb dX10_trace_7 (by decide) (fun k2 => ?_) (fun k2 => ?_)
    · exact g_thrW (cls := xIOB) (is := 289) (text := "there is no such int") hx hb hg htr hown (by decide) q751 q164 (by decide +kernel) atIOB (by decide +kernel) hZ hS hml hl.1 hnt hlocks dX10_trace_21 dX10_trace_24 dX10_trace_25 dX10_trace_28 dX10_trace_31 (Nat.le_of_ble_eq_true rfl) (Nat.le_of_ble_eq_true rfl) (Nat.le_of_ble_eq_true rfl) (Nat.le_of_ble_eq_true rfl) (Nat.le_of_ble_eq_true rfl) (Nat.le_of_ble_eq_true rfl) rfl
    · refine lv_iload_n hx hb dX10_trace_10 rfl (lv_at hl 1 rfl) ?_
      refine lv_aload_n hx hb dX10_trace_11 rfl (lv_at hl 0 rfl) ?_
      refine g_get hx hb hg hown hK hP 0 rfl rfl inX10 11 (by decide) q617 rfl dX10_trace_12 ?_
      refine g_get hx hb hg hown hK hP 1 rfl rfl inX4 9 (by decide) q571 rfl dX10_trace_15 ?_
      have bk1 := gb_nlt_r (k := 0) (by decide) k1
      have bk2 := gb_nle_l (k := 30) (by decide) k2
      refine lv_icmp_lt (tgt := 32) hx hb dX10_trace_18 (by decide) (fun h => absurd (gb_lt_r (k := 0) (by decide) h) (by omega)) (fun _ => ?_)
      exact g_thrW (cls := xIOB) (is := 289) (text := "there is no such int") hx hb hg htr hown (by decide) q751 q164 (by decide +kernel) atIOB (by decide +kernel) hZ hS hml hl.1 hnt hlocks dX10_trace_21 dX10_trace_24 dX10_trace_25 dX10_trace_28 dX10_trace_31 (Nat.le_of_ble_eq_true rfl) (Nat.le_of_ble_eq_true rfl) (Nat.le_of_ble_eq_true rfl) (Nat.le_of_ble_eq_true rfl) (Nat.le_of_ble_eq_true rfl) (Nat.le_of_ble_eq_true rfl) rfl
set_option maxHeartbeats 4000000 in
set_option maxRecDepth 100000 in
theorem c_X10_load (l : Launch) (htr : l.stackTraces = false) (D : va_G) (dA : Nat → ClassId) (h0 : Nat) (ad : Nat → Nat) (x : Int32) (sz : Nat) : vx_Met l yX10_load (gws yX10_load cX10_load 2 (some .int)) (gR 8 1 6) (gPreX D dA [.ref h0, .int x] [(h0, .inr (10, [.ref (ad 0), .int 0, .int (-1), .int (-1), .ref (ad 1), .ref (ad 2), .ref (ad 3), .ref (ad 4), .ref (ad 5), .ref (ad 6), .ref (ad 7), .ref (ad 8)])), (ad 7, .inr (1, [.int 0, .int 0, .ref (ad 76), .int 0, .ref (ad 77), .int 0, .int 0]))] sz) (va_Qi (fun (r : Int32) (_ : Unit) => False) (gAt D dA (va_A [(h0, .inr (10, [.ref (ad 0), .int 0, .int (-1), .int (-1), .ref (ad 1), .ref (ad 2), .ref (ad 3), .ref (ad 4), .ref (ad 5), .ref (ad 6), .ref (ad 7), .ref (ad 8)])), (ad 7, .inr (1, [.int 0, .int 0, .ref (ad 76), .int 0, .ref (ad 77), .int 0, .int 0]))] sz) (fun _ : Unit => [])) (va_A [(h0, .inr (10, [.ref (ad 0), .int 0, .int (-1), .int (-1), .ref (ad 1), .ref (ad 2), .ref (ad 3), .ref (ad 4), .ref (ad 5), .ref (ad 6), .ref (ad 7), .ref (ad 8)])), (ad 7, .inr (1, [.int 0, .int 0, .ref (ad 76), .int 0, .ref (ad 77), .int 0, .int 0]))] sz)) (gX (fun E : String => (E = xIAE ∧ ¬ gIn 0 255 x) ∨ (E = xISE ∧ gIn 0 255 x)) (va_A [(h0, .inr (10, [.ref (ad 0), .int 0, .int (-1), .int (-1), .ref (ad 1), .ref (ad 2), .ref (ad 3), .ref (ad 4), .ref (ad 5), .ref (ad 6), .ref (ad 7), .ref (ad 8)])), (ad 7, .inr (1, [.int 0, .int 0, .ref (ad 76), .int 0, .ref (ad 77), .int 0, .int 0]))] sz)) 1 6 (va_A [(h0, .inr (10, [.ref (ad 0), .int 0, .int (-1), .int (-1), .ref (ad 1), .ref (ad 2), .ref (ad 3), .ref (ad 4), .ref (ad 5), .ref (ad 6), .ref (ad 7), .ref (ad 8)])), (ad 7, .inr (1, [.int 0, .int 0, .ref (ad 76), .int 0, .ref (ad 77), .int 0, .int 0]))] sz) := by
  refine vx_ofW (cc := cX10_load) (maxL := 2) (ret := (some .int)) (by decide) rfl ?_
  intro p e s m args below meth c s₁ B hml hnt hv
  obtain ⟨rfl, hsz, hP, hK, hD0, hZ⟩ := hv
  have hx := B.exec
  have hb := B.bytes
  have hr := B.returns
  have hts := atoms_spec (ws := gws yX10_load cX10_load 2 (some .int)) B.pre
  have hg : ∀ w ∈ gw, w.before _ s = true := fun w h => hts w (List.mem_cons_of_mem _ h)
  have hown : s.vm.findClass RX10 = some m.cls := findClass_of_methodNamed B.named
  have hlocks := B.notSynchronized
  subst hsz
  have hD := hD0.self (sz := s.heap.size)
  generalize hAe : va_A [(h0, .inr (10, [.ref (ad 0), .int 0, .int (-1), .int (-1), .ref (ad 1), .ref (ad 2), .ref (ad 3), .ref (ad 4), .ref (ad 5), .ref (ad 6), .ref (ad 7), .ref (ad 8)])), (ad 7, .inr (1, [.int 0, .int 0, .ref (ad 76), .int 0, .ref (ad 77), .int 0, .int 0]))] s.heap.size = A at hZ hD ⊢
  have hA : ∀ q : Nat, s.heap.size ≤ q → A q := fun q h => by rw [← hAe]; exact Or.inr h
  have hS : va_S A s.heap s.heap [] := va_S.rf
  have hP : va_P D vwC [(h0, .inr (10, [.ref (ad 0), .int 0, .int (-1), .int (-1), .ref (ad 1), .ref (ad 2), .ref (ad 3), .ref (ad 4), .ref (ad 5), .ref (ad 6), .ref (ad 7), .ref (ad 8)])), (ad 7, .inr (1, [.int 0, .int 0, .ref (ad 76), .int 0, .ref (ad 77), .int 0, .int 0]))] s.heap := hP
  have hl := lv_entry ([.ref h0, .int x]) (n := 2) (Nat.le_of_ble_eq_true rfl)
  rw [lg_entry_eq]
  generalize (lg_sl ([.ref h0, .int x]) ++ List.replicate (2 - (lg_sl ([.ref h0, .int x])).length) Slot.unset).toArray = ls at hl ⊢
  have hl : lv_has ls 2 [(0, .ref h0), (1, .int x)] := hl
  refine lv_iload_n hx hb dX10_load_0 rfl (lv_at hl 1 rfl) ?_
  refine lv_if_lt (tgt := 11) hx hb dX10_load_1 (by decide) (fun k1 => ?_) (fun k1 => ?_)
  · have bk1 := gb_lt_r (k := 0) (by decide) k1
    exact g_thr (cls := xIAE) (is := 200) (text := "paragraph is not 0 .. 255") hx hb hg htr hown (by decide) q731 q167 (by decide +kernel) atIAE (by decide +kernel) hZ hS hml hl.1 hnt hlocks dX10_load_11 dX10_load_14 dX10_load_15 dX10_load_17 dX10_load_20 (Nat.le_of_ble_eq_true rfl) (Nat.le_of_ble_eq_true rfl) (Nat.le_of_ble_eq_true rfl) (Nat.le_of_ble_eq_true rfl) (Nat.le_of_ble_eq_true rfl) (Nat.le_of_ble_eq_true rfl) (Or.inl ⟨rfl, by unfold gIn; omega⟩)
  · refine lv_iload_n hx hb dX10_load_4 rfl (lv_at hl 1 rfl) ?_
    refine lv_sipush (v := 255) hx hb dX10_load_5 (by decide) ?_
    refine lv_icmp_le (tgt := 21) hx hb dX10_load_8 (by decide) (fun k2 => ?_) (fun k2 => ?_)
    · refine lv_aload_n hx hb dX10_load_21 rfl (lv_at hl 0 rfl) ?_
      refine g_get hx hb hg hown hK hP 0 rfl rfl inX10 10 (by decide) q616 rfl dX10_load_22 ?_
      refine g_get hx hb hg hown hK hP 1 rfl rfl inX1 0 (by decide) q512 rfl dX10_load_25 ?_
      refine lv_if_ne (tgt := 41) hx hb dX10_load_28 (by decide) (fun h => absurd (by decide) h) (fun _ => ?_)
      have bk1 := gb_nlt_r (k := 0) (by decide) k1
      have bk2 := gb_le_r (k := 255) (by decide) k2
      exact g_thr (cls := xISE) (is := 203) (text := "there is no image") hx hb hg htr hown (by decide) q1264 q178 (by decide +kernel) atISE (by decide +kernel) hZ hS hml hl.1 hnt hlocks dX10_load_31 dX10_load_34 dX10_load_35 dX10_load_37 dX10_load_40 (Nat.le_of_ble_eq_true rfl) (Nat.le_of_ble_eq_true rfl) (Nat.le_of_ble_eq_true rfl) (Nat.le_of_ble_eq_true rfl) (Nat.le_of_ble_eq_true rfl) (Nat.le_of_ble_eq_true rfl) (Or.inr ⟨rfl, by unfold gIn; omega⟩)
    · have bk1 := gb_nlt_r (k := 0) (by decide) k1
      have bk2 := gb_nle_r (k := 255) (by decide) k2
      exact g_thr (cls := xIAE) (is := 200) (text := "paragraph is not 0 .. 255") hx hb hg htr hown (by decide) q731 q167 (by decide +kernel) atIAE (by decide +kernel) hZ hS hml hl.1 hnt hlocks dX10_load_11 dX10_load_14 dX10_load_15 dX10_load_17 dX10_load_20 (Nat.le_of_ble_eq_true rfl) (Nat.le_of_ble_eq_true rfl) (Nat.le_of_ble_eq_true rfl) (Nat.le_of_ble_eq_true rfl) (Nat.le_of_ble_eq_true rfl) (Nat.le_of_ble_eq_true rfl) (Or.inl ⟨rfl, by unfold gIn; omega⟩)
set_option maxHeartbeats 4000000 in
set_option maxRecDepth 100000 in
theorem c_X10_run (l : Launch) (htr : l.stackTraces = false) (D : va_G) (dA : Nat → ClassId) (h0 : Nat) (ad : Nat → Nat) (x : Int32) (sz : Nat) : vx_Met l yX10_run (gws yX10_run cX10_run 2 (some .int)) (gR 8 1 6) (gPreX D dA [.ref h0, .int x] [(h0, .inr (10, [.ref (ad 0), .int 0, .int (-1), .int (-1), .ref (ad 1), .ref (ad 2), .ref (ad 3), .ref (ad 4), .ref (ad 5), .ref (ad 6), .ref (ad 7), .ref (ad 8)])), (ad 8, .inr (4, [.ref (ad 78), .ref (ad 79), .ref (ad 80), .int 0, .int 0, .int 0, .int 0, .int 1, .int 0, .int 0, .ref (ad 81), .int 0, .int 0, .int 0]))] sz) (va_Qi (fun (r : Int32) (_ : Unit) => False) (gAt D dA (va_A [(h0, .inr (10, [.ref (ad 0), .int 0, .int (-1), .int (-1), .ref (ad 1), .ref (ad 2), .ref (ad 3), .ref (ad 4), .ref (ad 5), .ref (ad 6), .ref (ad 7), .ref (ad 8)])), (ad 8, .inr (4, [.ref (ad 78), .ref (ad 79), .ref (ad 80), .int 0, .int 0, .int 0, .int 0, .int 1, .int 0, .int 0, .ref (ad 81), .int 0, .int 0, .int 0]))] sz) (fun _ : Unit => [])) (va_A [(h0, .inr (10, [.ref (ad 0), .int 0, .int (-1), .int (-1), .ref (ad 1), .ref (ad 2), .ref (ad 3), .ref (ad 4), .ref (ad 5), .ref (ad 6), .ref (ad 7), .ref (ad 8)])), (ad 8, .inr (4, [.ref (ad 78), .ref (ad 79), .ref (ad 80), .int 0, .int 0, .int 0, .int 0, .int 1, .int 0, .int 0, .ref (ad 81), .int 0, .int 0, .int 0]))] sz)) (gX (fun E : String => (E = xIAE ∧ ¬ gIn 1 400 x) ∨ (E = xISE ∧ gIn 1 400 x)) (va_A [(h0, .inr (10, [.ref (ad 0), .int 0, .int (-1), .int (-1), .ref (ad 1), .ref (ad 2), .ref (ad 3), .ref (ad 4), .ref (ad 5), .ref (ad 6), .ref (ad 7), .ref (ad 8)])), (ad 8, .inr (4, [.ref (ad 78), .ref (ad 79), .ref (ad 80), .int 0, .int 0, .int 0, .int 0, .int 1, .int 0, .int 0, .ref (ad 81), .int 0, .int 0, .int 0]))] sz)) 1 6 (va_A [(h0, .inr (10, [.ref (ad 0), .int 0, .int (-1), .int (-1), .ref (ad 1), .ref (ad 2), .ref (ad 3), .ref (ad 4), .ref (ad 5), .ref (ad 6), .ref (ad 7), .ref (ad 8)])), (ad 8, .inr (4, [.ref (ad 78), .ref (ad 79), .ref (ad 80), .int 0, .int 0, .int 0, .int 0, .int 1, .int 0, .int 0, .ref (ad 81), .int 0, .int 0, .int 0]))] sz) := by
  refine vx_ofW (cc := cX10_run) (maxL := 2) (ret := (some .int)) (by decide) rfl ?_
  intro p e s m args below meth c s₁ B hml hnt hv
  obtain ⟨rfl, hsz, hP, hK, hD0, hZ⟩ := hv
  have hx := B.exec
  have hb := B.bytes
  have hr := B.returns
  have hts := atoms_spec (ws := gws yX10_run cX10_run 2 (some .int)) B.pre
  have hg : ∀ w ∈ gw, w.before _ s = true := fun w h => hts w (List.mem_cons_of_mem _ h)
  have hown : s.vm.findClass RX10 = some m.cls := findClass_of_methodNamed B.named
  have hlocks := B.notSynchronized
  subst hsz
  have hD := hD0.self (sz := s.heap.size)
  generalize hAe : va_A [(h0, .inr (10, [.ref (ad 0), .int 0, .int (-1), .int (-1), .ref (ad 1), .ref (ad 2), .ref (ad 3), .ref (ad 4), .ref (ad 5), .ref (ad 6), .ref (ad 7), .ref (ad 8)])), (ad 8, .inr (4, [.ref (ad 78), .ref (ad 79), .ref (ad 80), .int 0, .int 0, .int 0, .int 0, .int 1, .int 0, .int 0, .ref (ad 81), .int 0, .int 0, .int 0]))] s.heap.size = A at hZ hD ⊢
  have hA : ∀ q : Nat, s.heap.size ≤ q → A q := fun q h => by rw [← hAe]; exact Or.inr h
  have hS : va_S A s.heap s.heap [] := va_S.rf
  have hP : va_P D vwC [(h0, .inr (10, [.ref (ad 0), .int 0, .int (-1), .int (-1), .ref (ad 1), .ref (ad 2), .ref (ad 3), .ref (ad 4), .ref (ad 5), .ref (ad 6), .ref (ad 7), .ref (ad 8)])), (ad 8, .inr (4, [.ref (ad 78), .ref (ad 79), .ref (ad 80), .int 0, .int 0, .int 0, .int 0, .int 1, .int 0, .int 0, .ref (ad 81), .int 0, .int 0, .int 0]))] s.heap := hP
  have hl := lv_entry ([.ref h0, .int x]) (n := 2) (Nat.le_of_ble_eq_true rfl)
  rw [lg_entry_eq]
  generalize (lg_sl ([.ref h0, .int x]) ++ List.replicate (2 - (lg_sl ([.ref h0, .int x])).length) Slot.unset).toArray = ls at hl ⊢
  have hl : lv_has ls 2 [(0, .ref h0), (1, .int x)] := hl
  refine lv_iload_n hx hb dX10_run_0 rfl (lv_at hl 1 rfl) ?_
  refine lv_iconst (v := 1) hx hb dX10_run_1 (by decide) ?_
  refine lv_icmp_lt (tgt := 12) hx hb dX10_run_2 (by decide) (fun k1 => ?_) (fun k1 => ?_)
  · have bk1 := gb_lt_r (k := 1) (by decide) k1
    exact g_thr (cls := xIAE) (is := 211) (text := "fuel is not 1 .. 400") hx hb hg htr hown (by decide) q731 q167 (by decide +kernel) atIAE (by decide +kernel) hZ hS hml hl.1 hnt hlocks dX10_run_12 dX10_run_15 dX10_run_16 dX10_run_18 dX10_run_21 (Nat.le_of_ble_eq_true rfl) (Nat.le_of_ble_eq_true rfl) (Nat.le_of_ble_eq_true rfl) (Nat.le_of_ble_eq_true rfl) (Nat.le_of_ble_eq_true rfl) (Nat.le_of_ble_eq_true rfl) (Or.inl ⟨rfl, by unfold gIn; omega⟩)
  · refine lv_iload_n hx hb dX10_run_5 rfl (lv_at hl 1 rfl) ?_
    refine lv_sipush (v := 400) hx hb dX10_run_6 (by decide) ?_
    refine lv_icmp_le (tgt := 22) hx hb dX10_run_9 (by decide) (fun k2 => ?_) (fun k2 => ?_)
    · refine lv_aload_n hx hb dX10_run_22 rfl (lv_at hl 0 rfl) ?_
      refine g_get hx hb hg hown hK hP 0 rfl rfl inX10 11 (by decide) q617 rfl dX10_run_23 ?_
      refine g_get hx hb hg hown hK hP 1 rfl rfl inX4 7 (by decide) q567 rfl dX10_run_26 ?_
      refine lv_if_eq (tgt := 42) hx hb dX10_run_29 (by decide) (fun h => absurd h (by decide)) (fun _ => ?_)
      have bk1 := gb_nlt_r (k := 1) (by decide) k1
      have bk2 := gb_le_r (k := 400) (by decide) k2
      exact g_thr (cls := xISE) (is := 216) (text := "the machine has halted") hx hb hg htr hown (by decide) q1264 q178 (by decide +kernel) atISE (by decide +kernel) hZ hS hml hl.1 hnt hlocks dX10_run_32 dX10_run_35 dX10_run_36 dX10_run_38 dX10_run_41 (Nat.le_of_ble_eq_true rfl) (Nat.le_of_ble_eq_true rfl) (Nat.le_of_ble_eq_true rfl) (Nat.le_of_ble_eq_true rfl) (Nat.le_of_ble_eq_true rfl) (Nat.le_of_ble_eq_true rfl) (Or.inr ⟨rfl, by unfold gIn; omega⟩)
    · have bk1 := gb_nlt_r (k := 1) (by decide) k1
      have bk2 := gb_nle_r (k := 400) (by decide) k2
      exact g_thr (cls := xIAE) (is := 211) (text := "fuel is not 1 .. 400") hx hb hg htr hown (by decide) q731 q167 (by decide +kernel) atIAE (by decide +kernel) hZ hS hml hl.1 hnt hlocks dX10_run_12 dX10_run_15 dX10_run_16 dX10_run_18 dX10_run_21 (Nat.le_of_ble_eq_true rfl) (Nat.le_of_ble_eq_true rfl) (Nat.le_of_ble_eq_true rfl) (Nat.le_of_ble_eq_true rfl) (Nat.le_of_ble_eq_true rfl) (Nat.le_of_ble_eq_true rfl) (Or.inl ⟨rfl, by unfold gIn; omega⟩)
set_option maxHeartbeats 4000000 in
set_option maxRecDepth 100000 in
theorem c_X10_code (l : Launch) (htr : l.stackTraces = false) (D : va_G) (dA : Nat → ClassId) (h0 : Nat) (ad : Nat → Nat) (x : Int32) (y : Int32) (z : Int32) (sz : Nat) : vx_Met l yX10_code (gws yX10_code cX10_code 5 (some .int)) (gR 8 1 6) (gPreX D dA [.ref h0, .int x, .int y, .int z] [(h0, .inr (10, [.ref (ad 0), .int 0, .int (-1), .int (-1), .ref (ad 1), .ref (ad 2), .ref (ad 3), .ref (ad 4), .ref (ad 5), .ref (ad 6), .ref (ad 7), .ref (ad 8)])), (ad 5, .inl (dA 4, 3, .inr (.inr (.inr (.inr (gM (ad 29) (ad 30) (ad 31))))))), (ad 29, .inr (6, [.int 0, .int 0, .ref (ad 32), .ref (ad 33), .ref (ad 34), .ref (ad 35), .ref (ad 36), .int 0, .ref (ad 37), .ref (ad 38), .ref (ad 39), .ref (ad 40), .ref (ad 41), .int 0, .ref (ad 42), .ref (ad 43), .ref (ad 44)])), (ad 30, .inr (6, [.int 0, .int 0, .ref (ad 45), .ref (ad 46), .ref (ad 47), .ref (ad 48), .ref (ad 49), .int 0, .ref (ad 50), .ref (ad 51), .ref (ad 52), .ref (ad 53), .ref (ad 54), .int 0, .ref (ad 55), .ref (ad 56), .ref (ad 57)])), (ad 31, .inr (6, [.int 0, .int 0, .ref (ad 58), .ref (ad 59), .ref (ad 60), .ref (ad 61), .ref (ad 62), .int 0, .ref (ad 63), .ref (ad 64), .ref (ad 65), .ref (ad 66), .ref (ad 67), .int 0, .ref (ad 68), .ref (ad 69), .ref (ad 70)]))] sz) (va_Qi (fun (r : Int32) (_ : Unit) => False) (gAt D dA (va_A [(h0, .inr (10, [.ref (ad 0), .int 0, .int (-1), .int (-1), .ref (ad 1), .ref (ad 2), .ref (ad 3), .ref (ad 4), .ref (ad 5), .ref (ad 6), .ref (ad 7), .ref (ad 8)])), (ad 5, .inl (dA 4, 3, .inr (.inr (.inr (.inr (gM (ad 29) (ad 30) (ad 31))))))), (ad 29, .inr (6, [.int 0, .int 0, .ref (ad 32), .ref (ad 33), .ref (ad 34), .ref (ad 35), .ref (ad 36), .int 0, .ref (ad 37), .ref (ad 38), .ref (ad 39), .ref (ad 40), .ref (ad 41), .int 0, .ref (ad 42), .ref (ad 43), .ref (ad 44)])), (ad 30, .inr (6, [.int 0, .int 0, .ref (ad 45), .ref (ad 46), .ref (ad 47), .ref (ad 48), .ref (ad 49), .int 0, .ref (ad 50), .ref (ad 51), .ref (ad 52), .ref (ad 53), .ref (ad 54), .int 0, .ref (ad 55), .ref (ad 56), .ref (ad 57)])), (ad 31, .inr (6, [.int 0, .int 0, .ref (ad 58), .ref (ad 59), .ref (ad 60), .ref (ad 61), .ref (ad 62), .int 0, .ref (ad 63), .ref (ad 64), .ref (ad 65), .ref (ad 66), .ref (ad 67), .int 0, .ref (ad 68), .ref (ad 69), .ref (ad 70)]))] sz) (fun _ : Unit => [])) (va_A [(h0, .inr (10, [.ref (ad 0), .int 0, .int (-1), .int (-1), .ref (ad 1), .ref (ad 2), .ref (ad 3), .ref (ad 4), .ref (ad 5), .ref (ad 6), .ref (ad 7), .ref (ad 8)])), (ad 5, .inl (dA 4, 3, .inr (.inr (.inr (.inr (gM (ad 29) (ad 30) (ad 31))))))), (ad 29, .inr (6, [.int 0, .int 0, .ref (ad 32), .ref (ad 33), .ref (ad 34), .ref (ad 35), .ref (ad 36), .int 0, .ref (ad 37), .ref (ad 38), .ref (ad 39), .ref (ad 40), .ref (ad 41), .int 0, .ref (ad 42), .ref (ad 43), .ref (ad 44)])), (ad 30, .inr (6, [.int 0, .int 0, .ref (ad 45), .ref (ad 46), .ref (ad 47), .ref (ad 48), .ref (ad 49), .int 0, .ref (ad 50), .ref (ad 51), .ref (ad 52), .ref (ad 53), .ref (ad 54), .int 0, .ref (ad 55), .ref (ad 56), .ref (ad 57)])), (ad 31, .inr (6, [.int 0, .int 0, .ref (ad 58), .ref (ad 59), .ref (ad 60), .ref (ad 61), .ref (ad 62), .int 0, .ref (ad 63), .ref (ad 64), .ref (ad 65), .ref (ad 66), .ref (ad 67), .int 0, .ref (ad 68), .ref (ad 69), .ref (ad 70)]))] sz)) (gX (fun E : String => E = xIOB) (va_A [(h0, .inr (10, [.ref (ad 0), .int 0, .int (-1), .int (-1), .ref (ad 1), .ref (ad 2), .ref (ad 3), .ref (ad 4), .ref (ad 5), .ref (ad 6), .ref (ad 7), .ref (ad 8)])), (ad 5, .inl (dA 4, 3, .inr (.inr (.inr (.inr (gM (ad 29) (ad 30) (ad 31))))))), (ad 29, .inr (6, [.int 0, .int 0, .ref (ad 32), .ref (ad 33), .ref (ad 34), .ref (ad 35), .ref (ad 36), .int 0, .ref (ad 37), .ref (ad 38), .ref (ad 39), .ref (ad 40), .ref (ad 41), .int 0, .ref (ad 42), .ref (ad 43), .ref (ad 44)])), (ad 30, .inr (6, [.int 0, .int 0, .ref (ad 45), .ref (ad 46), .ref (ad 47), .ref (ad 48), .ref (ad 49), .int 0, .ref (ad 50), .ref (ad 51), .ref (ad 52), .ref (ad 53), .ref (ad 54), .int 0, .ref (ad 55), .ref (ad 56), .ref (ad 57)])), (ad 31, .inr (6, [.int 0, .int 0, .ref (ad 58), .ref (ad 59), .ref (ad 60), .ref (ad 61), .ref (ad 62), .int 0, .ref (ad 63), .ref (ad 64), .ref (ad 65), .ref (ad 66), .ref (ad 67), .int 0, .ref (ad 68), .ref (ad 69), .ref (ad 70)]))] sz)) 1 6 (va_A [(h0, .inr (10, [.ref (ad 0), .int 0, .int (-1), .int (-1), .ref (ad 1), .ref (ad 2), .ref (ad 3), .ref (ad 4), .ref (ad 5), .ref (ad 6), .ref (ad 7), .ref (ad 8)])), (ad 5, .inl (dA 4, 3, .inr (.inr (.inr (.inr (gM (ad 29) (ad 30) (ad 31))))))), (ad 29, .inr (6, [.int 0, .int 0, .ref (ad 32), .ref (ad 33), .ref (ad 34), .ref (ad 35), .ref (ad 36), .int 0, .ref (ad 37), .ref (ad 38), .ref (ad 39), .ref (ad 40), .ref (ad 41), .int 0, .ref (ad 42), .ref (ad 43), .ref (ad 44)])), (ad 30, .inr (6, [.int 0, .int 0, .ref (ad 45), .ref (ad 46), .ref (ad 47), .ref (ad 48), .ref (ad 49), .int 0, .ref (ad 50), .ref (ad 51), .ref (ad 52), .ref (ad 53), .ref (ad 54), .int 0, .ref (ad 55), .ref (ad 56), .ref (ad 57)])), (ad 31, .inr (6, [.int 0, .int 0, .ref (ad 58), .ref (ad 59), .ref (ad 60), .ref (ad 61), .ref (ad 62), .int 0, .ref (ad 63), .ref (ad 64), .ref (ad 65), .ref (ad 66), .ref (ad 67), .int 0, .ref (ad 68), .ref (ad 69), .ref (ad 70)]))] sz) := by
  refine vx_ofW (cc := cX10_code) (maxL := 5) (ret := (some .int)) (by decide) rfl ?_
  intro p e s m args below meth c s₁ B hml hnt hv
  obtain ⟨rfl, hsz, hP, hK, hD0, hZ⟩ := hv
  have hx := B.exec
  have hb := B.bytes
  have hr := B.returns
  have hts := atoms_spec (ws := gws yX10_code cX10_code 5 (some .int)) B.pre
  have hg : ∀ w ∈ gw, w.before _ s = true := fun w h => hts w (List.mem_cons_of_mem _ h)
  have hown : s.vm.findClass RX10 = some m.cls := findClass_of_methodNamed B.named
  have hlocks := B.notSynchronized
  subst hsz
  have hD := hD0.self (sz := s.heap.size)
  generalize hAe : va_A [(h0, .inr (10, [.ref (ad 0), .int 0, .int (-1), .int (-1), .ref (ad 1), .ref (ad 2), .ref (ad 3), .ref (ad 4), .ref (ad 5), .ref (ad 6), .ref (ad 7), .ref (ad 8)])), (ad 5, .inl (dA 4, 3, .inr (.inr (.inr (.inr (gM (ad 29) (ad 30) (ad 31))))))), (ad 29, .inr (6, [.int 0, .int 0, .ref (ad 32), .ref (ad 33), .ref (ad 34), .ref (ad 35), .ref (ad 36), .int 0, .ref (ad 37), .ref (ad 38), .ref (ad 39), .ref (ad 40), .ref (ad 41), .int 0, .ref (ad 42), .ref (ad 43), .ref (ad 44)])), (ad 30, .inr (6, [.int 0, .int 0, .ref (ad 45), .ref (ad 46), .ref (ad 47), .ref (ad 48), .ref (ad 49), .int 0, .ref (ad 50), .ref (ad 51), .ref (ad 52), .ref (ad 53), .ref (ad 54), .int 0, .ref (ad 55), .ref (ad 56), .ref (ad 57)])), (ad 31, .inr (6, [.int 0, .int 0, .ref (ad 58), .ref (ad 59), .ref (ad 60), .ref (ad 61), .ref (ad 62), .int 0, .ref (ad 63), .ref (ad 64), .ref (ad 65), .ref (ad 66), .ref (ad 67), .int 0, .ref (ad 68), .ref (ad 69), .ref (ad 70)]))] s.heap.size = A at hZ hD ⊢
  have hA : ∀ q : Nat, s.heap.size ≤ q → A q := fun q h => by rw [← hAe]; exact Or.inr h
  have hS : va_S A s.heap s.heap [] := va_S.rf
  have hP : va_P D vwC [(h0, .inr (10, [.ref (ad 0), .int 0, .int (-1), .int (-1), .ref (ad 1), .ref (ad 2), .ref (ad 3), .ref (ad 4), .ref (ad 5), .ref (ad 6), .ref (ad 7), .ref (ad 8)])), (ad 5, .inl (dA 4, 3, .inr (.inr (.inr (.inr (gM (ad 29) (ad 30) (ad 31))))))), (ad 29, .inr (6, [.int 0, .int 0, .ref (ad 32), .ref (ad 33), .ref (ad 34), .ref (ad 35), .ref (ad 36), .int 0, .ref (ad 37), .ref (ad 38), .ref (ad 39), .ref (ad 40), .ref (ad 41), .int 0, .ref (ad 42), .ref (ad 43), .ref (ad 44)])), (ad 30, .inr (6, [.int 0, .int 0, .ref (ad 45), .ref (ad 46), .ref (ad 47), .ref (ad 48), .ref (ad 49), .int 0, .ref (ad 50), .ref (ad 51), .ref (ad 52), .ref (ad 53), .ref (ad 54), .int 0, .ref (ad 55), .ref (ad 56), .ref (ad 57)])), (ad 31, .inr (6, [.int 0, .int 0, .ref (ad 58), .ref (ad 59), .ref (ad 60), .ref (ad 61), .ref (ad 62), .int 0, .ref (ad 63), .ref (ad 64), .ref (ad 65), .ref (ad 66), .ref (ad 67), .int 0, .ref (ad 68), .ref (ad 69), .ref (ad 70)]))] s.heap := hP
  have hl := lv_entry ([.ref h0, .int x, .int y, .int z]) (n := 5) (Nat.le_of_ble_eq_true rfl)
  rw [lg_entry_eq]
  generalize (lg_sl ([.ref h0, .int x, .int y, .int z]) ++ List.replicate (5 - (lg_sl ([.ref h0, .int x, .int y, .int z])).length) Slot.unset).toArray = ls at hl ⊢
  have hl : lv_has ls 5 [(0, .ref h0), (1, .int x), (2, .int y), (3, .int z)] := hl
  refine lv_iload_n hx hb dX10_code_0 rfl (lv_at hl 1 rfl) ?_
  refine g_Si (n := 1) (As := [.int x]) (rest := []) (wr := [(h0, .inr (10, [.ref (ad 0), .int 0, .int (-1), .int (-1), .ref (ad 1), .ref (ad 2), .ref (ad 3), .ref (ad 4), .ref (ad 5), .ref (ad 6), .ref (ad 7), .ref (ad 8)])), (ad 5, .inl (dA 4, 3, .inr (.inr (.inr (.inr (gM (ad 29) (ad 30) (ad 31))))))), (ad 29, .inr (6, [.int 0, .int 0, .ref (ad 32), .ref (ad 33), .ref (ad 34), .ref (ad 35), .ref (ad 36), .int 0, .ref (ad 37), .ref (ad 38), .ref (ad 39), .ref (ad 40), .ref (ad 41), .int 0, .ref (ad 42), .ref (ad 43), .ref (ad 44)])), (ad 30, .inr (6, [.int 0, .int 0, .ref (ad 45), .ref (ad 46), .ref (ad 47), .ref (ad 48), .ref (ad 49), .int 0, .ref (ad 50), .ref (ad 51), .ref (ad 52), .ref (ad 53), .ref (ad 54), .int 0, .ref (ad 55), .ref (ad 56), .ref (ad 57)])), (ad 31, .inr (6, [.int 0, .int 0, .ref (ad 58), .ref (ad 59), .ref (ad 60), .ref (ad 61), .ref (ad 62), .int 0, .ref (ad 63), .ref (ad 64), .ref (ad 65), .ref (ad 66), .ref (ad 67), .int 0, .ref (ad 68), .ref (ad 69), .ref (ad 70)]))]) hx hb hml hg hown hK hP hD hS hA (c_X10_isModule l D dA x _) [] [0, 1, 2, 3, 4] rfl (by decide) rfl (by decide) (by decide) q789 q149 q787 q788 (by decide +kernel) ⟨(Nat.le_of_ble_eq_true rfl), (Nat.le_of_ble_eq_true rfl)⟩ rfl hl.1 rfl (Nat.le_of_ble_eq_true rfl) dX10_code_1 ⟨(Nat.le_of_ble_eq_true rfl), (Nat.le_of_ble_eq_true rfl)⟩ (fun r2 u1 H locs w3 hP hD hS => ?_)
  refine W.widen (k := 0) (n := 0) (Nat.le_of_ble_eq_true rfl) (Nat.le_of_ble_eq_true rfl) ?_
  have hP : va_P D vwC [(h0, .inr (10, [.ref (ad 0), .int 0, .int (-1), .int (-1), .ref (ad 1), .ref (ad 2), .ref (ad 3), .ref (ad 4), .ref (ad 5), .ref (ad 6), .ref (ad 7), .ref (ad 8)])), (ad 5, .inl (dA 4, 3, .inr (.inr (.inr (.inr (gM (ad 29) (ad 30) (ad 31))))))), (ad 29, .inr (6, [.int 0, .int 0, .ref (ad 32), .ref (ad 33), .ref (ad 34), .ref (ad 35), .ref (ad 36), .int 0, .ref (ad 37), .ref (ad 38), .ref (ad 39), .ref (ad 40), .ref (ad 41), .int 0, .ref (ad 42), .ref (ad 43), .ref (ad 44)])), (ad 30, .inr (6, [.int 0, .int 0, .ref (ad 45), .ref (ad 46), .ref (ad 47), .ref (ad 48), .ref (ad 49), .int 0, .ref (ad 50), .ref (ad 51), .ref (ad 52), .ref (ad 53), .ref (ad 54), .int 0, .ref (ad 55), .ref (ad 56), .ref (ad 57)])), (ad 31, .inr (6, [.int 0, .int 0, .ref (ad 58), .ref (ad 59), .ref (ad 60), .ref (ad 61), .ref (ad 62), .int 0, .ref (ad 63), .ref (ad 64), .ref (ad 65), .ref (ad 66), .ref (ad 67), .int 0, .ref (ad 68), .ref (ad 69), .ref (ad 70)]))] H := hP
  have hD : va_D A [(h0, .inr (10, [.ref (ad 0), .int 0, .int (-1), .int (-1), .ref (ad 1), .ref (ad 2), .ref (ad 3), .ref (ad 4), .ref (ad 5), .ref (ad 6), .ref (ad 7), .ref (ad 8)])), (ad 5, .inl (dA 4, 3, .inr (.inr (.inr (.inr (gM (ad 29) (ad 30) (ad 31))))))), (ad 29, .inr (6, [.int 0, .int 0, .ref (ad 32), .ref (ad 33), .ref (ad 34), .ref (ad 35), .ref (ad 36), .int 0, .ref (ad 37), .ref (ad 38), .ref (ad 39), .ref (ad 40), .ref (ad 41), .int 0, .ref (ad 42), .ref (ad 43), .ref (ad 44)])), (ad 30, .inr (6, [.int 0, .int 0, .ref (ad 45), .ref (ad 46), .ref (ad 47), .ref (ad 48), .ref (ad 49), .int 0, .ref (ad 50), .ref (ad 51), .ref (ad 52), .ref (ad 53), .ref (ad 54), .int 0, .ref (ad 55), .ref (ad 56), .ref (ad 57)])), (ad 31, .inr (6, [.int 0, .int 0, .ref (ad 58), .ref (ad 59), .ref (ad 60), .ref (ad 61), .ref (ad 62), .int 0, .ref (ad 63), .ref (ad 64), .ref (ad 65), .ref (ad 66), .ref (ad 67), .int 0, .ref (ad 68), .ref (ad 69), .ref (ad 70)]))] := hD
  rcases w3 with ⟨rfl, rfl⟩ | ⟨rfl, rfl⟩ | ⟨rfl, rfl⟩ | ⟨rfl, hnm⟩
  · refine lv_if_ne (tgt := 17) hx hb dX10_code_4 (by decide) (fun _ => ?_) (fun h => absurd h (by decide))
    refine lv_aload_n hx hb dX10_code_17 rfl (lv_at hl 0 rfl) ?_
    refine g_get hx hb hg hown hK hP 0 rfl rfl inX10 8 (by decide) q614 rfl dX10_code_18 ?_
    refine lv_iload_n hx hb dX10_code_21 rfl (lv_at hl 1 rfl) ?_
    refine va_aldq hx hb hK hP 1 4 rfl rfl (by unfold vp_in; decide) dX10_code_22 ?_
    refine g_topv (gM_0 _ _ _) ?_
    refine lv_astore (lv' := [(4, .ref (ad 29)), (0, .ref h0), (1, .int 0), (2, .int y), (3, .int z)]) hx hb dX10_code_23 hl (by decide) rfl (fun ls hl => ?_)
    refine lv_iload_n hx hb dX10_code_25 rfl (lv_at hl 3 rfl) ?_
    refine lv_if_lt (tgt := 38) hx hb dX10_code_26 (by decide) (fun k4 => ?_) (fun k4 => ?_)
    · exact g_thr (cls := xIOB) (is := 227) (text := "there is no such segment") hx hb hg htr hown (by decide) q751 q164 (by decide +kernel) atIOB (by decide +kernel) hZ hS hml hl.1 hnt hlocks dX10_code_38 dX10_code_41 dX10_code_42 dX10_code_44 dX10_code_47 (Nat.le_of_ble_eq_true rfl) (Nat.le_of_ble_eq_true rfl) (Nat.le_of_ble_eq_true rfl) (Nat.le_of_ble_eq_true rfl) (Nat.le_of_ble_eq_true rfl) (Nat.le_of_ble_eq_true rfl) rfl
    · refine lv_iload_n hx hb dX10_code_29 rfl (lv_at hl 3 rfl) ?_
      refine lv_aload hx hb dX10_code_30 (lv_at hl 0 rfl) ?_
      refine g_get hx hb hg hown hK hP 2 rfl rfl inX6 1 (by decide) q403 rfl dX10_code_32 ?_
      have bk4 := gb_nlt_r (k := 0) (by decide) k4
      refine lv_icmp_lt (tgt := 48) hx hb dX10_code_35 (by decide) (fun h => absurd (gb_lt_r (k := 0) (by decide) h) (by omega)) (fun _ => ?_)
      exact g_thr (cls := xIOB) (is := 227) (text := "there is no such segment") hx hb hg htr hown (by decide) q751 q164 (by decide +kernel) atIOB (by decide +kernel) hZ hS hml hl.1 hnt hlocks dX10_code_38 dX10_code_41 dX10_code_42 dX10_code_44 dX10_code_47 (Nat.le_of_ble_eq_true rfl) (Nat.le_of_ble_eq_true rfl) (Nat.le_of_ble_eq_true rfl) (Nat.le_of_ble_eq_true rfl) (Nat.le_of_ble_eq_true rfl) (Nat.le_of_ble_eq_true rfl) rfl
  · refine lv_if_ne (tgt := 17) hx hb dX10_code_4 (by decide) (fun _ => ?_) (fun h => absurd h (by decide))
    refine lv_aload_n hx hb dX10_code_17 rfl (lv_at hl 0 rfl) ?_
    refine g_get hx hb hg hown hK hP 0 rfl rfl inX10 8 (by decide) q614 rfl dX10_code_18 ?_
    refine lv_iload_n hx hb dX10_code_21 rfl (lv_at hl 1 rfl) ?_
    refine va_aldq hx hb hK hP 1 4 rfl rfl (by unfold vp_in; decide) dX10_code_22 ?_
    refine g_topv (gM_1 _ _ _) ?_
    refine lv_astore (lv' := [(4, .ref (ad 30)), (0, .ref h0), (1, .int 1), (2, .int y), (3, .int z)]) hx hb dX10_code_23 hl (by decide) rfl (fun ls hl => ?_)
    refine lv_iload_n hx hb dX10_code_25 rfl (lv_at hl 3 rfl) ?_
    refine lv_if_lt (tgt := 38) hx hb dX10_code_26 (by decide) (fun k5 => ?_) (fun k5 => ?_)
    · exact g_thr (cls := xIOB) (is := 227) (text := "there is no such segment") hx hb hg htr hown (by decide) q751 q164 (by decide +kernel) atIOB (by decide +kernel) hZ hS hml hl.1 hnt hlocks dX10_code_38 dX10_code_41 dX10_code_42 dX10_code_44 dX10_code_47 (Nat.le_of_ble_eq_true rfl) (Nat.le_of_ble_eq_true rfl) (Nat.le_of_ble_eq_true rfl) (Nat.le_of_ble_eq_true rfl) (Nat.le_of_ble_eq_true rfl) (Nat.le_of_ble_eq_true rfl) rfl
    · refine lv_iload_n hx hb dX10_code_29 rfl (lv_at hl 3 rfl) ?_
      refine lv_aload hx hb dX10_code_30 (lv_at hl 0 rfl) ?_
      refine g_get hx hb hg hown hK hP 3 rfl rfl inX6 1 (by decide) q403 rfl dX10_code_32 ?_
      have bk5 := gb_nlt_r (k := 0) (by decide) k5
      refine lv_icmp_lt (tgt := 48) hx hb dX10_code_35 (by decide) (fun h => absurd (gb_lt_r (k := 0) (by decide) h) (by omega)) (fun _ => ?_)
      exact g_thr (cls := xIOB) (is := 227) (text := "there is no such segment") hx hb hg htr hown (by decide) q751 q164 (by decide +kernel) atIOB (by decide +kernel) hZ hS hml hl.1 hnt hlocks dX10_code_38 dX10_code_41 dX10_code_42 dX10_code_44 dX10_code_47 (Nat.le_of_ble_eq_true rfl) (Nat.le_of_ble_eq_true rfl) (Nat.le_of_ble_eq_true rfl) (Nat.le_of_ble_eq_true rfl) (Nat.le_of_ble_eq_true rfl) (Nat.le_of_ble_eq_true rfl) rfl
  · refine lv_if_ne (tgt := 17) hx hb dX10_code_4 (by decide) (fun _ => ?_) (fun h => absurd h (by decide))
    refine lv_aload_n hx hb dX10_code_17 rfl (lv_at hl 0 rfl) ?_
    refine g_get hx hb hg hown hK hP 0 rfl rfl inX10 8 (by decide) q614 rfl dX10_code_18 ?_
    refine lv_iload_n hx hb dX10_code_21 rfl (lv_at hl 1 rfl) ?_
    refine va_aldq hx hb hK hP 1 4 rfl rfl (by unfold vp_in; decide) dX10_code_22 ?_
    refine g_topv (gM_2 _ _ _) ?_
    refine lv_astore (lv' := [(4, .ref (ad 31)), (0, .ref h0), (1, .int 2), (2, .int y), (3, .int z)]) hx hb dX10_code_23 hl (by decide) rfl (fun ls hl => ?_)
    refine lv_iload_n hx hb dX10_code_25 rfl (lv_at hl 3 rfl) ?_
    refine lv_if_lt (tgt := 38) hx hb dX10_code_26 (by decide) (fun k6 => ?_) (fun k6 => ?_)
    · exact g_thr (cls := xIOB) (is := 227) (text := "there is no such segment") hx hb hg htr hown (by decide) q751 q164 (by decide +kernel) atIOB (by decide +kernel) hZ hS hml hl.1 hnt hlocks dX10_code_38 dX10_code_41 dX10_code_42 dX10_code_44 dX10_code_47 (Nat.le_of_ble_eq_true rfl) (Nat.le_of_ble_eq_true rfl) (Nat.le_of_ble_eq_true rfl) (Nat.le_of_ble_eq_true rfl) (Nat.le_of_ble_eq_true rfl) (Nat.le_of_ble_eq_true rfl) rfl
    · refine lv_iload_n hx hb dX10_code_29 rfl (lv_at hl 3 rfl) ?_
      refine lv_aload hx hb dX10_code_30 (lv_at hl 0 rfl) ?_
      refine g_get hx hb hg hown hK hP 4 rfl rfl inX6 1 (by decide) q403 rfl dX10_code_32 ?_
      have bk6 := gb_nlt_r (k := 0) (by decide) k6
      refine lv_icmp_lt (tgt := 48) hx hb dX10_code_35 (by decide) (fun h => absurd (gb_lt_r (k := 0) (by decide) h) (by omega)) (fun _ => ?_)
      exact g_thr (cls := xIOB) (is := 227) (text := "there is no such segment") hx hb hg htr hown (by decide) q751 q164 (by decide +kernel) atIOB (by decide +kernel) hZ hS hml hl.1 hnt hlocks dX10_code_38 dX10_code_41 dX10_code_42 dX10_code_44 dX10_code_47 (Nat.le_of_ble_eq_true rfl) (Nat.le_of_ble_eq_true rfl) (Nat.le_of_ble_eq_true rfl) (Nat.le_of_ble_eq_true rfl) (Nat.le_of_ble_eq_true rfl) (Nat.le_of_ble_eq_true rfl) rfl
  · refine lv_if_ne (tgt := 17) hx hb dX10_code_4 (by decide) (fun h => absurd (by decide) h) (fun _ => ?_)
    exact g_thr (cls := xIOB) (is := 222) (text := "there is no such module") hx hb hg htr hown (by decide) q751 q164 (by decide +kernel) atIOB (by decide +kernel) hZ hS hml hl.1 hnt hlocks dX10_code_7 dX10_code_10 dX10_code_11 dX10_code_13 dX10_code_16 (Nat.le_of_ble_eq_true rfl) (Nat.le_of_ble_eq_true rfl) (Nat.le_of_ble_eq_true rfl) (Nat.le_of_ble_eq_true rfl) (Nat.le_of_ble_eq_true rfl) (Nat.le_of_ble_eq_true rfl) rfl
set_option maxHeartbeats 4000000 in
set_option maxRecDepth 100000 in
theorem c_X10_fixup (l : Launch) (htr : l.stackTraces = false) (D : va_G) (dA : Nat → ClassId) (h0 : Nat) (ad : Nat → Nat) (x : Int32) (y : Int32) (z : Int32) (sz : Nat) : vx_Met l yX10_fixup (gws yX10_fixup cX10_fixup 5 (some .int)) (gR 8 1 6) (gPreX D dA [.ref h0, .int x, .int y, .int z] [(h0, .inr (10, [.ref (ad 0), .int 0, .int (-1), .int (-1), .ref (ad 1), .ref (ad 2), .ref (ad 3), .ref (ad 4), .ref (ad 5), .ref (ad 6), .ref (ad 7), .ref (ad 8)])), (ad 5, .inl (dA 4, 3, .inr (.inr (.inr (.inr (gM (ad 29) (ad 30) (ad 31))))))), (ad 29, .inr (6, [.int 0, .int 0, .ref (ad 32), .ref (ad 33), .ref (ad 34), .ref (ad 35), .ref (ad 36), .int 0, .ref (ad 37), .ref (ad 38), .ref (ad 39), .ref (ad 40), .ref (ad 41), .int 0, .ref (ad 42), .ref (ad 43), .ref (ad 44)])), (ad 30, .inr (6, [.int 0, .int 0, .ref (ad 45), .ref (ad 46), .ref (ad 47), .ref (ad 48), .ref (ad 49), .int 0, .ref (ad 50), .ref (ad 51), .ref (ad 52), .ref (ad 53), .ref (ad 54), .int 0, .ref (ad 55), .ref (ad 56), .ref (ad 57)])), (ad 31, .inr (6, [.int 0, .int 0, .ref (ad 58), .ref (ad 59), .ref (ad 60), .ref (ad 61), .ref (ad 62), .int 0, .ref (ad 63), .ref (ad 64), .ref (ad 65), .ref (ad 66), .ref (ad 67), .int 0, .ref (ad 68), .ref (ad 69), .ref (ad 70)]))] sz) (va_Qi (fun (r : Int32) (_ : Unit) => False) (gAt D dA (va_A [(h0, .inr (10, [.ref (ad 0), .int 0, .int (-1), .int (-1), .ref (ad 1), .ref (ad 2), .ref (ad 3), .ref (ad 4), .ref (ad 5), .ref (ad 6), .ref (ad 7), .ref (ad 8)])), (ad 5, .inl (dA 4, 3, .inr (.inr (.inr (.inr (gM (ad 29) (ad 30) (ad 31))))))), (ad 29, .inr (6, [.int 0, .int 0, .ref (ad 32), .ref (ad 33), .ref (ad 34), .ref (ad 35), .ref (ad 36), .int 0, .ref (ad 37), .ref (ad 38), .ref (ad 39), .ref (ad 40), .ref (ad 41), .int 0, .ref (ad 42), .ref (ad 43), .ref (ad 44)])), (ad 30, .inr (6, [.int 0, .int 0, .ref (ad 45), .ref (ad 46), .ref (ad 47), .ref (ad 48), .ref (ad 49), .int 0, .ref (ad 50), .ref (ad 51), .ref (ad 52), .ref (ad 53), .ref (ad 54), .int 0, .ref (ad 55), .ref (ad 56), .ref (ad 57)])), (ad 31, .inr (6, [.int 0, .int 0, .ref (ad 58), .ref (ad 59), .ref (ad 60), .ref (ad 61), .ref (ad 62), .int 0, .ref (ad 63), .ref (ad 64), .ref (ad 65), .ref (ad 66), .ref (ad 67), .int 0, .ref (ad 68), .ref (ad 69), .ref (ad 70)]))] sz) (fun _ : Unit => [])) (va_A [(h0, .inr (10, [.ref (ad 0), .int 0, .int (-1), .int (-1), .ref (ad 1), .ref (ad 2), .ref (ad 3), .ref (ad 4), .ref (ad 5), .ref (ad 6), .ref (ad 7), .ref (ad 8)])), (ad 5, .inl (dA 4, 3, .inr (.inr (.inr (.inr (gM (ad 29) (ad 30) (ad 31))))))), (ad 29, .inr (6, [.int 0, .int 0, .ref (ad 32), .ref (ad 33), .ref (ad 34), .ref (ad 35), .ref (ad 36), .int 0, .ref (ad 37), .ref (ad 38), .ref (ad 39), .ref (ad 40), .ref (ad 41), .int 0, .ref (ad 42), .ref (ad 43), .ref (ad 44)])), (ad 30, .inr (6, [.int 0, .int 0, .ref (ad 45), .ref (ad 46), .ref (ad 47), .ref (ad 48), .ref (ad 49), .int 0, .ref (ad 50), .ref (ad 51), .ref (ad 52), .ref (ad 53), .ref (ad 54), .int 0, .ref (ad 55), .ref (ad 56), .ref (ad 57)])), (ad 31, .inr (6, [.int 0, .int 0, .ref (ad 58), .ref (ad 59), .ref (ad 60), .ref (ad 61), .ref (ad 62), .int 0, .ref (ad 63), .ref (ad 64), .ref (ad 65), .ref (ad 66), .ref (ad 67), .int 0, .ref (ad 68), .ref (ad 69), .ref (ad 70)]))] sz)) (gX (fun E : String => (E = xIAE ∧ ¬ gIn 0 3 z) ∨ (E = xIOB ∧ gIn 0 3 z)) (va_A [(h0, .inr (10, [.ref (ad 0), .int 0, .int (-1), .int (-1), .ref (ad 1), .ref (ad 2), .ref (ad 3), .ref (ad 4), .ref (ad 5), .ref (ad 6), .ref (ad 7), .ref (ad 8)])), (ad 5, .inl (dA 4, 3, .inr (.inr (.inr (.inr (gM (ad 29) (ad 30) (ad 31))))))), (ad 29, .inr (6, [.int 0, .int 0, .ref (ad 32), .ref (ad 33), .ref (ad 34), .ref (ad 35), .ref (ad 36), .int 0, .ref (ad 37), .ref (ad 38), .ref (ad 39), .ref (ad 40), .ref (ad 41), .int 0, .ref (ad 42), .ref (ad 43), .ref (ad 44)])), (ad 30, .inr (6, [.int 0, .int 0, .ref (ad 45), .ref (ad 46), .ref (ad 47), .ref (ad 48), .ref (ad 49), .int 0, .ref (ad 50), .ref (ad 51), .ref (ad 52), .ref (ad 53), .ref (ad 54), .int 0, .ref (ad 55), .ref (ad 56), .ref (ad 57)])), (ad 31, .inr (6, [.int 0, .int 0, .ref (ad 58), .ref (ad 59), .ref (ad 60), .ref (ad 61), .ref (ad 62), .int 0, .ref (ad 63), .ref (ad 64), .ref (ad 65), .ref (ad 66), .ref (ad 67), .int 0, .ref (ad 68), .ref (ad 69), .ref (ad 70)]))] sz)) 1 6 (va_A [(h0, .inr (10, [.ref (ad 0), .int 0, .int (-1), .int (-1), .ref (ad 1), .ref (ad 2), .ref (ad 3), .ref (ad 4), .ref (ad 5), .ref (ad 6), .ref (ad 7), .ref (ad 8)])), (ad 5, .inl (dA 4, 3, .inr (.inr (.inr (.inr (gM (ad 29) (ad 30) (ad 31))))))), (ad 29, .inr (6, [.int 0, .int 0, .ref (ad 32), .ref (ad 33), .ref (ad 34), .ref (ad 35), .ref (ad 36), .int 0, .ref (ad 37), .ref (ad 38), .ref (ad 39), .ref (ad 40), .ref (ad 41), .int 0, .ref (ad 42), .ref (ad 43), .ref (ad 44)])), (ad 30, .inr (6, [.int 0, .int 0, .ref (ad 45), .ref (ad 46), .ref (ad 47), .ref (ad 48), .ref (ad 49), .int 0, .ref (ad 50), .ref (ad 51), .ref (ad 52), .ref (ad 53), .ref (ad 54), .int 0, .ref (ad 55), .ref (ad 56), .ref (ad 57)])), (ad 31, .inr (6, [.int 0, .int 0, .ref (ad 58), .ref (ad 59), .ref (ad 60), .ref (ad 61), .ref (ad 62), .int 0, .ref (ad 63), .ref (ad 64), .ref (ad 65), .ref (ad 66), .ref (ad 67), .int 0, .ref (ad 68), .ref (ad 69), .ref (ad 70)]))] sz) := by
  refine vx_ofW (cc := cX10_fixup) (maxL := 5) (ret := (some .int)) (by decide) rfl ?_
  intro p e s m args below meth c s₁ B hml hnt hv
  obtain ⟨rfl, hsz, hP, hK, hD0, hZ⟩ := hv
  have hx := B.exec
  have hb := B.bytes
  have hr := B.returns
  have hts := atoms_spec (ws := gws yX10_fixup cX10_fixup 5 (some .int)) B.pre
  have hg : ∀ w ∈ gw, w.before _ s = true := fun w h => hts w (List.mem_cons_of_mem _ h)
  have hown : s.vm.findClass RX10 = some m.cls := findClass_of_methodNamed B.named
  have hlocks := B.notSynchronized
  subst hsz
  have hD := hD0.self (sz := s.heap.size)
  generalize hAe : va_A [(h0, .inr (10, [.ref (ad 0), .int 0, .int (-1), .int (-1), .ref (ad 1), .ref (ad 2), .ref (ad 3), .ref (ad 4), .ref (ad 5), .ref (ad 6), .ref (ad 7), .ref (ad 8)])), (ad 5, .inl (dA 4, 3, .inr (.inr (.inr (.inr (gM (ad 29) (ad 30) (ad 31))))))), (ad 29, .inr (6, [.int 0, .int 0, .ref (ad 32), .ref (ad 33), .ref (ad 34), .ref (ad 35), .ref (ad 36), .int 0, .ref (ad 37), .ref (ad 38), .ref (ad 39), .ref (ad 40), .ref (ad 41), .int 0, .ref (ad 42), .ref (ad 43), .ref (ad 44)])), (ad 30, .inr (6, [.int 0, .int 0, .ref (ad 45), .ref (ad 46), .ref (ad 47), .ref (ad 48), .ref (ad 49), .int 0, .ref (ad 50), .ref (ad 51), .ref (ad 52), .ref (ad 53), .ref (ad 54), .int 0, .ref (ad 55), .ref (ad 56), .ref (ad 57)])), (ad 31, .inr (6, [.int 0, .int 0, .ref (ad 58), .ref (ad 59), .ref (ad 60), .ref (ad 61), .ref (ad 62), .int 0, .ref (ad 63), .ref (ad 64), .ref (ad 65), .ref (ad 66), .ref (ad 67), .int 0, .ref (ad 68), .ref (ad 69), .ref (ad 70)]))] s.heap.size = A at hZ hD ⊢
  have hA : ∀ q : Nat, s.heap.size ≤ q → A q := fun q h => by rw [← hAe]; exact Or.inr h
  have hS : va_S A s.heap s.heap [] := va_S.rf
  have hP : va_P D vwC [(h0, .inr (10, [.ref (ad 0), .int 0, .int (-1), .int (-1), .ref (ad 1), .ref (ad 2), .ref (ad 3), .ref (ad 4), .ref (ad 5), .ref (ad 6), .ref (ad 7), .ref (ad 8)])), (ad 5, .inl (dA 4, 3, .inr (.inr (.inr (.inr (gM (ad 29) (ad 30) (ad 31))))))), (ad 29, .inr (6, [.int 0, .int 0, .ref (ad 32), .ref (ad 33), .ref (ad 34), .ref (ad 35), .ref (ad 36), .int 0, .ref (ad 37), .ref (ad 38), .ref (ad 39), .ref (ad 40), .ref (ad 41), .int 0, .ref (ad 42), .ref (ad 43), .ref (ad 44)])), (ad 30, .inr (6, [.int 0, .int 0, .ref (ad 45), .ref (ad 46), .ref (ad 47), .ref (ad 48), .ref (ad 49), .int 0, .ref (ad 50), .ref (ad 51), .ref (ad 52), .ref (ad 53), .ref (ad 54), .int 0, .ref (ad 55), .ref (ad 56), .ref (ad 57)])), (ad 31, .inr (6, [.int 0, .int 0, .ref (ad 58), .ref (ad 59), .ref (ad 60), .ref (ad 61), .ref (ad 62), .int 0, .ref (ad 63), .ref (ad 64), .ref (ad 65), .ref (ad 66), .ref (ad 67), .int 0, .ref (ad 68), .ref (ad 69), .ref (ad 70)]))] s.heap := hP
  have hl := lv_entry ([.ref h0, .int x, .int y, .int z]) (n := 5) (Nat.le_of_ble_eq_true rfl)
  rw [lg_entry_eq]
  generalize (lg_sl ([.ref h0, .int x, .int y, .int z]) ++ List.replicate (5 - (lg_sl ([.ref h0, .int x, .int y, .int z])).length) Slot.unset).toArray = ls at hl ⊢
  have hl : lv_has ls 5 [(0, .ref h0), (1, .int x), (2, .int y), (3, .int z)] := hl
  refine lv_iload_n hx hb dX10_fixup_0 rfl (lv_at hl 3 rfl) ?_
  refine lv_if_lt (tgt := 9) hx hb dX10_fixup_1 (by decide) (fun k1 => ?_) (fun k1 => ?_)
  · have bk1 := gb_lt_r (k := 0) (by decide) k1
    exact g_thr (cls := xIAE) (is := 241) (text := "what is not 0 .. 3") hx hb hg htr hown (by decide) q731 q167 (by decide +kernel) atIAE (by decide +kernel) hZ hS hml hl.1 hnt hlocks dX10_fixup_9 dX10_fixup_12 dX10_fixup_13 dX10_fixup_15 dX10_fixup_18 (Nat.le_of_ble_eq_true rfl) (Nat.le_of_ble_eq_true rfl) (Nat.le_of_ble_eq_true rfl) (Nat.le_of_ble_eq_true rfl) (Nat.le_of_ble_eq_true rfl) (Nat.le_of_ble_eq_true rfl) (Or.inl ⟨rfl, by unfold gIn; omega⟩)
  · refine lv_iload_n hx hb dX10_fixup_4 rfl (lv_at hl 3 rfl) ?_
    refine lv_iconst (v := 3) hx hb dX10_fixup_5 (by decide) ?_
    refine lv_icmp_le (tgt := 19) hx hb dX10_fixup_6 (by decide) (fun k2 => ?_) (fun k2 => ?_)
    · refine lv_iload_n hx hb dX10_fixup_19 rfl (lv_at hl 1 rfl) ?_
      refine g_Si (n := 1) (As := [.int x]) (rest := []) (wr := [(h0, .inr (10, [.ref (ad 0), .int 0, .int (-1), .int (-1), .ref (ad 1), .ref (ad 2), .ref (ad 3), .ref (ad 4), .ref (ad 5), .ref (ad 6), .ref (ad 7), .ref (ad 8)])), (ad 5, .inl (dA 4, 3, .inr (.inr (.inr (.inr (gM (ad 29) (ad 30) (ad 31))))))), (ad 29, .inr (6, [.int 0, .int 0, .ref (ad 32), .ref (ad 33), .ref (ad 34), .ref (ad 35), .ref (ad 36), .int 0, .ref (ad 37), .ref (ad 38), .ref (ad 39), .ref (ad 40), .ref (ad 41), .int 0, .ref (ad 42), .ref (ad 43), .ref (ad 44)])), (ad 30, .inr (6, [.int 0, .int 0, .ref (ad 45), .ref (ad 46), .ref (ad 47), .ref (ad 48), .ref (ad 49), .int 0, .ref (ad 50), .ref (ad 51), .ref (ad 52), .ref (ad 53), .ref (ad 54), .int 0, .ref (ad 55), .ref (ad 56), .ref (ad 57)])), (ad 31, .inr (6, [.int 0, .int 0, .ref (ad 58), .ref (ad 59), .ref (ad 60), .ref (ad 61), .ref (ad 62), .int 0, .ref (ad 63), .ref (ad 64), .ref (ad 65), .ref (ad 66), .ref (ad 67), .int 0, .ref (ad 68), .ref (ad 69), .ref (ad 70)]))]) hx hb hml hg hown hK hP hD hS hA (c_X10_isModule l D dA x _) [] [0, 1, 2, 3, 4] rfl (by decide) rfl (by decide) (by decide) q789 q149 q787 q788 (by decide +kernel) ⟨(Nat.le_of_ble_eq_true rfl), (Nat.le_of_ble_eq_true rfl)⟩ rfl hl.1 rfl (Nat.le_of_ble_eq_true rfl) dX10_fixup_20 ⟨(Nat.le_of_ble_eq_true rfl), (Nat.le_of_ble_eq_true rfl)⟩ (fun r4 u3 H locs w5 hP hD hS => ?_)
      refine W.widen (k := 0) (n := 0) (Nat.le_of_ble_eq_true rfl) (Nat.le_of_ble_eq_true rfl) ?_
      have hP : va_P D vwC [(h0, .inr (10, [.ref (ad 0), .int 0, .int (-1), .int (-1), .ref (ad 1), .ref (ad 2), .ref (ad 3), .ref (ad 4), .ref (ad 5), .ref (ad 6), .ref (ad 7), .ref (ad 8)])), (ad 5, .inl (dA 4, 3, .inr (.inr (.inr (.inr (gM (ad 29) (ad 30) (ad 31))))))), (ad 29, .inr (6, [.int 0, .int 0, .ref (ad 32), .ref (ad 33), .ref (ad 34), .ref (ad 35), .ref (ad 36), .int 0, .ref (ad 37), .ref (ad 38), .ref (ad 39), .ref (ad 40), .ref (ad 41), .int 0, .ref (ad 42), .ref (ad 43), .ref (ad 44)])), (ad 30, .inr (6, [.int 0, .int 0, .ref (ad 45), .ref (ad 46), .ref (ad 47), .ref (ad 48), .ref (ad 49), .int 0, .ref (ad 50), .ref (ad 51), .ref (ad 52), .ref (ad 53), .ref (ad 54), .int 0, .ref (ad 55), .ref (ad 56), .ref (ad 57)])), (ad 31, .inr (6, [.int 0, .int 0, .ref (ad 58), .ref (ad 59), .ref (ad 60), .ref (ad 61), .ref (ad 62), .int 0, .ref (ad 63), .ref (ad 64), .ref (ad 65), .ref (ad 66), .ref (ad 67), .int 0, .ref (ad 68), .ref (ad 69), .ref (ad 70)]))] H := hP
      have hD : va_D A [(h0, .inr (10, [.ref (ad 0), .int 0, .int (-1), .int (-1), .ref (ad 1), .ref (ad 2), .ref (ad 3), .ref (ad 4), .ref (ad 5), .ref (ad 6), .ref (ad 7), .ref (ad 8)])), (ad 5, .inl (dA 4, 3, .inr (.inr (.inr (.inr (gM (ad 29) (ad 30) (ad 31))))))), (ad 29, .inr (6, [.int 0, .int 0, .ref (ad 32), .ref (ad 33), .ref (ad 34), .ref (ad 35), .ref (ad 36), .int 0, .ref (ad 37), .ref (ad 38), .ref (ad 39), .ref (ad 40), .ref (ad 41), .int 0, .ref (ad 42), .ref (ad 43), .ref (ad 44)])), (ad 30, .inr (6, [.int 0, .int 0, .ref (ad 45), .ref (ad 46), .ref (ad 47), .ref (ad 48), .ref (ad 49), .int 0, .ref (ad 50), .ref (ad 51), .ref (ad 52), .ref (ad 53), .ref (ad 54), .int 0, .ref (ad 55), .ref (ad 56), .ref (ad 57)])), (ad 31, .inr (6, [.int 0, .int 0, .ref (ad 58), .ref (ad 59), .ref (ad 60), .ref (ad 61), .ref (ad 62), .int 0, .ref (ad 63), .ref (ad 64), .ref (ad 65), .ref (ad 66), .ref (ad 67), .int 0, .ref (ad 68), .ref (ad 69), .ref (ad 70)]))] := hD
      rcases w5 with ⟨rfl, rfl⟩ | ⟨rfl, rfl⟩ | ⟨rfl, rfl⟩ | ⟨rfl, hnm⟩
      · refine lv_if_ne (tgt := 36) hx hb dX10_fixup_23 (by decide) (fun _ => ?_) (fun h => absurd h (by decide))
        refine lv_aload_n hx hb dX10_fixup_36 rfl (lv_at hl 0 rfl) ?_
        refine g_get hx hb hg hown hK hP 0 rfl rfl inX10 8 (by decide) q614 rfl dX10_fixup_37 ?_
        refine lv_iload_n hx hb dX10_fixup_40 rfl (lv_at hl 1 rfl) ?_
        refine va_aldq hx hb hK hP 1 4 rfl rfl (by unfold vp_in; decide) dX10_fixup_41 ?_
        refine g_topv (gM_0 _ _ _) ?_
        refine lv_astore (lv' := [(4, .ref (ad 29)), (0, .ref h0), (1, .int 0), (2, .int y), (3, .int z)]) hx hb dX10_fixup_42 hl (by decide) rfl (fun ls hl => ?_)
        refine lv_iload_n hx hb dX10_fixup_44 rfl (lv_at hl 3 rfl) ?_
        refine lv_if_lt (tgt := 57) hx hb dX10_fixup_45 (by decide) (fun k6 => ?_) (fun k6 => ?_)
        · have bk1 := gb_nlt_r (k := 0) (by decide) k1
          have bk2 := gb_le_r (k := 3) (by decide) k2
          exact g_thr (cls := xIOB) (is := 246) (text := "there is no such fixup") hx hb hg htr hown (by decide) q751 q164 (by decide +kernel) atIOB (by decide +kernel) hZ hS hml hl.1 hnt hlocks dX10_fixup_57 dX10_fixup_60 dX10_fixup_61 dX10_fixup_63 dX10_fixup_66 (Nat.le_of_ble_eq_true rfl) (Nat.le_of_ble_eq_true rfl) (Nat.le_of_ble_eq_true rfl) (Nat.le_of_ble_eq_true rfl) (Nat.le_of_ble_eq_true rfl) (Nat.le_of_ble_eq_true rfl) (Or.inr ⟨rfl, by unfold gIn; omega⟩)
        · refine lv_iload_n hx hb dX10_fixup_48 rfl (lv_at hl 3 rfl) ?_
          refine lv_aload hx hb dX10_fixup_49 (lv_at hl 0 rfl) ?_
          refine g_get hx hb hg hown hK hP 2 rfl rfl inX6 7 (by decide) q419 rfl dX10_fixup_51 ?_
          have bk6 := gb_nlt_r (k := 0) (by decide) k6
          refine lv_icmp_lt (tgt := 67) hx hb dX10_fixup_54 (by decide) (fun h => absurd (gb_lt_r (k := 0) (by decide) h) (by omega)) (fun _ => ?_)
          have bk1 := gb_nlt_r (k := 0) (by decide) k1
          have bk2 := gb_le_r (k := 3) (by decide) k2
          exact g_thr (cls := xIOB) (is := 246) (text := "there is no such fixup") hx hb hg htr hown (by decide) q751 q164 (by decide +kernel) atIOB (by decide +kernel) hZ hS hml hl.1 hnt hlocks dX10_fixup_57 dX10_fixup_60 dX10_fixup_61 dX10_fixup_63 dX10_fixup_66 (Nat.le_of_ble_eq_true rfl) (Nat.le_of_ble_eq_true rfl) (Nat.le_of_ble_eq_true rfl) (Nat.le_of_ble_eq_true rfl) (Nat.le_of_ble_eq_true rfl) (Nat.le_of_ble_eq_true rfl) (Or.inr ⟨rfl, by unfold gIn; omega⟩)
      · refine lv_if_ne (tgt := 36) hx hb dX10_fixup_23 (by decide) (fun _ => ?_) (fun h => absurd h (by decide))
        refine lv_aload_n hx hb dX10_fixup_36 rfl (lv_at hl 0 rfl) ?_
        refine g_get hx hb hg hown hK hP 0 rfl rfl inX10 8 (by decide) q614 rfl dX10_fixup_37 ?_
        refine lv_iload_n hx hb dX10_fixup_40 rfl (lv_at hl 1 rfl) ?_
        refine va_aldq hx hb hK hP 1 4 rfl rfl (by unfold vp_in; decide) dX10_fixup_41 ?_
        refine g_topv (gM_1 _ _ _) ?_
        refine lv_astore (lv' := [(4, .ref (ad 30)), (0, .ref h0), (1, .int 1), (2, .int y), (3, .int z)]) hx hb dX10_fixup_42 hl (by decide) rfl (fun ls hl => ?_)
        refine lv_iload_n hx hb dX10_fixup_44 rfl (lv_at hl 3 rfl) ?_
        refine lv_if_lt (tgt := 57) hx hb dX10_fixup_45 (by decide) (fun k7 => ?_) (fun k7 => ?_)
        · have bk1 := gb_nlt_r (k := 0) (by decide) k1
          have bk2 := gb_le_r (k := 3) (by decide) k2
          exact g_thr (cls := xIOB) (is := 246) (text := "there is no such fixup") hx hb hg htr hown (by decide) q751 q164 (by decide +kernel) atIOB (by decide +kernel) hZ hS hml hl.1 hnt hlocks dX10_fixup_57 dX10_fixup_60 dX10_fixup_61 dX10_fixup_63 dX10_fixup_66 (Nat.le_of_ble_eq_true rfl) (Nat.le_of_ble_eq_true rfl) (Nat.le_of_ble_eq_true rfl) (Nat.le_of_ble_eq_true rfl) (Nat.le_of_ble_eq_true rfl) (Nat.le_of_ble_eq_true rfl) (Or.inr ⟨rfl, by unfold gIn; omega⟩)
        · refine lv_iload_n hx hb dX10_fixup_48 rfl (lv_at hl 3 rfl) ?_
          refine lv_aload hx hb dX10_fixup_49 (lv_at hl 0 rfl) ?_
          refine g_get hx hb hg hown hK hP 3 rfl rfl inX6 7 (by decide) q419 rfl dX10_fixup_51 ?_
          have bk7 := gb_nlt_r (k := 0) (by decide) k7
          refine lv_icmp_lt (tgt := 67) hx hb dX10_fixup_54 (by decide) (fun h => absurd (gb_lt_r (k := 0) (by decide) h) (by omega)) (fun _ => ?_)
          have bk1 := gb_nlt_r (k := 0) (by decide) k1
          have bk2 := gb_le_r (k := 3) (by decide) k2
          exact g_thr (cls := xIOB) (is := 246) (text := "there is no such fixup") hx hb hg htr hown (by decide) q751 q164 (by decide +kernel) atIOB (by decide +kernel) hZ hS hml hl.1 hnt hlocks dX10_fixup_57 dX10_fixup_60 dX10_fixup_61 dX10_fixup_63 dX10_fixup_66 (Nat.le_of_ble_eq_true rfl) (Nat.le_of_ble_eq_true rfl) (Nat.le_of_ble_eq_true rfl) (Nat.le_of_ble_eq_true rfl) (Nat.le_of_ble_eq_true rfl) (Nat.le_of_ble_eq_true rfl) (Or.inr ⟨rfl, by unfold gIn; omega⟩)
      · refine lv_if_ne (tgt := 36) hx hb dX10_fixup_23 (by decide) (fun _ => ?_) (fun h => absurd h (by decide))
        refine lv_aload_n hx hb dX10_fixup_36 rfl (lv_at hl 0 rfl) ?_
        refine g_get hx hb hg hown hK hP 0 rfl rfl inX10 8 (by decide) q614 rfl dX10_fixup_37 ?_
        refine lv_iload_n hx hb dX10_fixup_40 rfl (lv_at hl 1 rfl) ?_
        refine va_aldq hx hb hK hP 1 4 rfl rfl (by unfold vp_in; decide) dX10_fixup_41 ?_
        refine g_topv (gM_2 _ _ _) ?_
        refine lv_astore (lv' := [(4, .ref (ad 31)), (0, .ref h0), (1, .int 2), (2, .int y), (3, .int z)]) hx hb dX10_fixup_42 hl (by decide) rfl (fun ls hl => ?_)
        refine lv_iload_n hx hb dX10_fixup_44 rfl (lv_at hl 3 rfl) ?_
        refine lv_if_lt (tgt := 57) hx hb dX10_fixup_45 (by decide) (fun k8 => ?_) (fun k8 => ?_)
        · have bk1 := gb_nlt_r (k := 0) (by decide) k1
          have bk2 := gb_le_r (k := 3) (by decide) k2
          exact g_thr (cls := xIOB) (is := 246) (text := "there is no such fixup") hx hb hg htr hown (by decide) q751 q164 (by decide +kernel) atIOB (by decide +kernel) hZ hS hml hl.1 hnt hlocks dX10_fixup_57 dX10_fixup_60 dX10_fixup_61 dX10_fixup_63 dX10_fixup_66 (Nat.le_of_ble_eq_true rfl) (Nat.le_of_ble_eq_true rfl) (Nat.le_of_ble_eq_true rfl) (Nat.le_of_ble_eq_true rfl) (Nat.le_of_ble_eq_true rfl) (Nat.le_of_ble_eq_true rfl) (Or.inr ⟨rfl, by unfold gIn; omega⟩)
        · refine lv_iload_n hx hb dX10_fixup_48 rfl (lv_at hl 3 rfl) ?_
          refine lv_aload hx hb dX10_fixup_49 (lv_at hl 0 rfl) ?_
          refine g_get hx hb hg hown hK hP 4 rfl rfl inX6 7 (by decide) q419 rfl dX10_fixup_51 ?_
          have bk8 := gb_nlt_r (k := 0) (by decide) k8
          refine lv_icmp_lt (tgt := 67) hx hb dX10_fixup_54 (by decide) (fun h => absurd (gb_lt_r (k := 0) (by decide) h) (by omega)) (fun _ => ?_)
          have bk1 := gb_nlt_r (k := 0) (by decide) k1
          have bk2 := gb_le_r (k := 3) (by decide) k2
          exact g_thr (cls := xIOB) (is := 246) (text := "there is no such fixup") hx hb hg htr hown (by decide) q751 q164 (by decide +kernel) atIOB (by decide +kernel) hZ hS hml hl.1 hnt hlocks dX10_fixup_57 dX10_fixup_60 dX10_fixup_61 dX10_fixup_63 dX10_fixup_66 (Nat.le_of_ble_eq_true rfl) (Nat.le_of_ble_eq_true rfl) (Nat.le_of_ble_eq_true rfl) (Nat.le_of_ble_eq_true rfl) (Nat.le_of_ble_eq_true rfl) (Nat.le_of_ble_eq_true rfl) (Or.inr ⟨rfl, by unfold gIn; omega⟩)
      · refine lv_if_ne (tgt := 36) hx hb dX10_fixup_23 (by decide) (fun h => absurd (by decide) h) (fun _ => ?_)
        have bk1 := gb_nlt_r (k := 0) (by decide) k1
        have bk2 := gb_le_r (k := 3) (by decide) k2
        exact g_thr (cls := xIOB) (is := 222) (text := "there is no such module") hx hb hg htr hown (by decide) q751 q164 (by decide +kernel) atIOB (by decide +kernel) hZ hS hml hl.1 hnt hlocks dX10_fixup_26 dX10_fixup_29 dX10_fixup_30 dX10_fixup_32 dX10_fixup_35 (Nat.le_of_ble_eq_true rfl) (Nat.le_of_ble_eq_true rfl) (Nat.le_of_ble_eq_true rfl) (Nat.le_of_ble_eq_true rfl) (Nat.le_of_ble_eq_true rfl) (Nat.le_of_ble_eq_true rfl) (Or.inr ⟨rfl, by unfold gIn; omega⟩)
    · have bk1 := gb_nlt_r (k := 0) (by decide) k1
      have bk2 := gb_nle_r (k := 3) (by decide) k2
      exact g_thr (cls := xIAE) (is := 241) (text := "what is not 0 .. 3") hx hb hg htr hown (by decide) q731 q167 (by decide +kernel) atIAE (by decide +kernel) hZ hS hml hl.1 hnt hlocks dX10_fixup_9 dX10_fixup_12 dX10_fixup_13 dX10_fixup_15 dX10_fixup_18 (Nat.le_of_ble_eq_true rfl) (Nat.le_of_ble_eq_true rfl) (Nat.le_of_ble_eq_true rfl) (Nat.le_of_ble_eq_true rfl) (Nat.le_of_ble_eq_true rfl) (Nat.le_of_ble_eq_true rfl) (Or.inl ⟨rfl, by unfold gIn; omega⟩)
