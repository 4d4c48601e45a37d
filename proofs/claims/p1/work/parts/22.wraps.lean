theorem q646 : Cond.classLink RL 13 "java/lang/IllegalArgumentException" ∈ gw := gw_in (i := 646) (by decide +kernel) rfl
theorem q647 : Cond.classLink RL 15 "java/lang/IndexOutOfBoundsException" ∈ gw := gw_in (i := 647) (by decide +kernel) rfl
theorem q727 : Cond.methodLink RL 7 yX10_append ∈ gw := gw_in (i := 727) (by decide +kernel) rfl
theorem q728 : Cond.instanceMethod yX10_append ∈ gw := gw_in (i := 728) (by decide +kernel) rfl
theorem q729 : Cond.selects RX10 yX10_append yX10_append ∈ gw := gw_in (i := 729) (by decide +kernel) rfl
theorem q730 : Cond.code yX10_append cX10_append 6 (some .int) ∈ gw := gw_in (i := 730) (by decide +kernel) rfl
theorem q733 : Cond.castable "java/lang/IllegalArgumentException" "java/lang/IllegalArgumentException" ∈ gw := gw_in (i := 733) (by decide +kernel) rfl
theorem q753 : Cond.castable "java/lang/IndexOutOfBoundsException" "java/lang/IndexOutOfBoundsException" ∈ gw := gw_in (i := 753) (by decide +kernel) rfl
theorem q783 : Cond.methodLink RL 17 yX10_assemble ∈ gw := gw_in (i := 783) (by decide +kernel) rfl
theorem q784 : Cond.instanceMethod yX10_assemble ∈ gw := gw_in (i := 784) (by decide +kernel) rfl
theorem q785 : Cond.selects RX10 yX10_assemble yX10_assemble ∈ gw := gw_in (i := 785) (by decide +kernel) rfl
theorem q786 : Cond.code yX10_assemble cX10_assemble 6 (some .int) ∈ gw := gw_in (i := 786) (by decide +kernel) rfl
theorem q1247 : Cond.methodLink RL 27 yX10_drop ∈ gw := gw_in (i := 1247) (by decide +kernel) rfl
theorem q1248 : Cond.instanceMethod yX10_drop ∈ gw := gw_in (i := 1248) (by decide +kernel) rfl
theorem q1249 : Cond.selects RX10 yX10_drop yX10_drop ∈ gw := gw_in (i := 1249) (by decide +kernel) rfl
theorem q1250 : Cond.code yX10_drop cX10_drop 3 (some .boolean) ∈ gw := gw_in (i := 1250) (by decide +kernel) rfl
theorem q1255 : Cond.classLink RL 35 "java/lang/IllegalStateException" ∈ gw := gw_in (i := 1255) (by decide +kernel) rfl
theorem q1256 : Cond.methodLink RL 31 yX10_link ∈ gw := gw_in (i := 1256) (by decide +kernel) rfl
theorem q1257 : Cond.instanceMethod yX10_link ∈ gw := gw_in (i := 1257) (by decide +kernel) rfl
theorem q1258 : Cond.selects RX10 yX10_link yX10_link ∈ gw := gw_in (i := 1258) (by decide +kernel) rfl
theorem q1259 : Cond.code yX10_link cX10_link 5 (some .int) ∈ gw := gw_in (i := 1259) (by decide +kernel) rfl
theorem q1266 : Cond.castable "java/lang/IllegalStateException" "java/lang/IllegalStateException" ∈ gw := gw_in (i := 1266) (by decide +kernel) rfl
theorem q1364 : Cond.methodLink RL 37 yX10_load ∈ gw := gw_in (i := 1364) (by decide +kernel) rfl
theorem q1365 : Cond.instanceMethod yX10_load ∈ gw := gw_in (i := 1365) (by decide +kernel) rfl
theorem q1366 : Cond.selects RX10 yX10_load yX10_load ∈ gw := gw_in (i := 1366) (by decide +kernel) rfl
theorem q1367 : Cond.code yX10_load cX10_load 2 (some .int) ∈ gw := gw_in (i := 1367) (by decide +kernel) rfl
theorem q1386 : Cond.methodLink RL 40 yX10_run ∈ gw := gw_in (i := 1386) (by decide +kernel) rfl
theorem q1387 : Cond.instanceMethod yX10_run ∈ gw := gw_in (i := 1387) (by decide +kernel) rfl
theorem q1388 : Cond.selects RX10 yX10_run yX10_run ∈ gw := gw_in (i := 1388) (by decide +kernel) rfl
theorem q1389 : Cond.code yX10_run cX10_run 2 (some .int) ∈ gw := gw_in (i := 1389) (by decide +kernel) rfl
theorem q1506 : Cond.methodLink RL 43 yX10_code ∈ gw := gw_in (i := 1506) (by decide +kernel) rfl
theorem q1507 : Cond.instanceMethod yX10_code ∈ gw := gw_in (i := 1507) (by decide +kernel) rfl
theorem q1508 : Cond.selects RX10 yX10_code yX10_code ∈ gw := gw_in (i := 1508) (by decide +kernel) rfl
theorem q1509 : Cond.code yX10_code cX10_code 5 (some .int) ∈ gw := gw_in (i := 1509) (by decide +kernel) rfl
theorem q1516 : Cond.methodLink RL 47 yX10_fixup ∈ gw := gw_in (i := 1516) (by decide +kernel) rfl
theorem q1517 : Cond.instanceMethod yX10_fixup ∈ gw := gw_in (i := 1517) (by decide +kernel) rfl
theorem q1518 : Cond.selects RX10 yX10_fixup yX10_fixup ∈ gw := gw_in (i := 1518) (by decide +kernel) rfl
theorem q1519 : Cond.code yX10_fixup cX10_fixup 5 (some .int) ∈ gw := gw_in (i := 1519) (by decide +kernel) rfl
theorem q1525 : Cond.methodLink RL 50 yX10_image ∈ gw := gw_in (i := 1525) (by decide +kernel) rfl
theorem q1526 : Cond.instanceMethod yX10_image ∈ gw := gw_in (i := 1526) (by decide +kernel) rfl
theorem q1527 : Cond.selects RX10 yX10_image yX10_image ∈ gw := gw_in (i := 1527) (by decide +kernel) rfl
theorem q1528 : Cond.code yX10_image cX10_image 2 (some .int) ∈ gw := gw_in (i := 1528) (by decide +kernel) rfl
theorem q1532 : Cond.methodLink RL 53 yX10_memory ∈ gw := gw_in (i := 1532) (by decide +kernel) rfl
theorem q1533 : Cond.instanceMethod yX10_memory ∈ gw := gw_in (i := 1533) (by decide +kernel) rfl
theorem q1534 : Cond.selects RX10 yX10_memory yX10_memory ∈ gw := gw_in (i := 1534) (by decide +kernel) rfl
theorem q1535 : Cond.code yX10_memory cX10_memory 2 (some .int) ∈ gw := gw_in (i := 1535) (by decide +kernel) rfl
theorem q1540 : Cond.methodLink RL 56 yX10_register ∈ gw := gw_in (i := 1540) (by decide +kernel) rfl
theorem q1541 : Cond.instanceMethod yX10_register ∈ gw := gw_in (i := 1541) (by decide +kernel) rfl
theorem q1542 : Cond.selects RX10 yX10_register yX10_register ∈ gw := gw_in (i := 1542) (by decide +kernel) rfl
theorem q1543 : Cond.code yX10_register cX10_register 2 (some .int) ∈ gw := gw_in (i := 1543) (by decide +kernel) rfl
theorem q1548 : Cond.methodLink RL 59 yX10_trace ∈ gw := gw_in (i := 1548) (by decide +kernel) rfl
theorem q1549 : Cond.instanceMethod yX10_trace ∈ gw := gw_in (i := 1549) (by decide +kernel) rfl
theorem q1550 : Cond.selects RX10 yX10_trace yX10_trace ∈ gw := gw_in (i := 1550) (by decide +kernel) rfl
theorem q1551 : Cond.code yX10_trace cX10_trace 2 (some .int) ∈ gw := gw_in (i := 1551) (by decide +kernel) rfl
theorem q1556 : Cond.methodLink RL 62 yX10_count ∈ gw := gw_in (i := 1556) (by decide +kernel) rfl
theorem q1557 : Cond.instanceMethod yX10_count ∈ gw := gw_in (i := 1557) (by decide +kernel) rfl
theorem q1558 : Cond.selects RX10 yX10_count yX10_count ∈ gw := gw_in (i := 1558) (by decide +kernel) rfl
theorem q1559 : Cond.code yX10_count cX10_count 2 (some .int) ∈ gw := gw_in (i := 1559) (by decide +kernel) rfl
theorem dL_memory_0 : decode cL_memory 0 = .ok (.aload_n 2, 1) := by decide +kernel
theorem dL_memory_1 : decode cL_memory 1 = .ok (.iconst 0, 1) := by decide +kernel
theorem dL_memory_2 : decode cL_memory 2 = .ok (.aload_n 0, 1) := by decide +kernel
theorem dL_memory_3 : decode cL_memory 3 = .ok (.iload_n 1, 1) := by decide +kernel
theorem dL_memory_4 : decode cL_memory 4 = .ok (.invokevirtual 53, 3) := by decide +kernel
theorem dL_memory_12 : decode cL_memory 12 = .ok (.astore_n 3, 1) := by decide +kernel
theorem dL_memory_13 : decode cL_memory 13 = .ok (.iconst 1, 1) := by decide +kernel
theorem dL_memory_14 : decode cL_memory 14 = .ok (.ireturn, 1) := by decide +kernel
theorem dL_memory_7 : decode cL_memory 7 = .ok (.i2l, 1) := by decide +kernel
theorem dL_memory_8 : decode cL_memory 8 = .ok (.lastore, 1) := by decide +kernel
theorem dL_memory_9 : decode cL_memory 9 = .ok (.goto 6, 3) := by decide +kernel
theorem dL_memory_15 : decode cL_memory 15 = .ok (.iconst 0, 1) := by decide +kernel
theorem dL_memory_16 : decode cL_memory 16 = .ok (.ireturn, 1) := by decide +kernel
theorem dL_register_0 : decode cL_register 0 = .ok (.aload_n 2, 1) := by decide +kernel
theorem dL_register_1 : decode cL_register 1 = .ok (.iconst 0, 1) := by decide +kernel
theorem dL_register_2 : decode cL_register 2 = .ok (.aload_n 0, 1) := by decide +kernel
theorem dL_register_3 : decode cL_register 3 = .ok (.iload_n 1, 1) := by decide +kernel
theorem dL_register_4 : decode cL_register 4 = .ok (.invokevirtual 56, 3) := by decide +kernel
theorem dL_register_12 : decode cL_register 12 = .ok (.astore_n 3, 1) := by decide +kernel
theorem dL_register_13 : decode cL_register 13 = .ok (.iconst 1, 1) := by decide +kernel
theorem dL_register_14 : decode cL_register 14 = .ok (.ireturn, 1) := by decide +kernel
theorem dL_register_7 : decode cL_register 7 = .ok (.i2l, 1) := by decide +kernel
theorem dL_register_8 : decode cL_register 8 = .ok (.lastore, 1) := by decide +kernel
theorem dL_register_9 : decode cL_register 9 = .ok (.goto 6, 3) := by decide +kernel
theorem dL_register_15 : decode cL_register 15 = .ok (.iconst 0, 1) := by decide +kernel
theorem dL_register_16 : decode cL_register 16 = .ok (.ireturn, 1) := by decide +kernel
theorem dL_count_0 : decode cL_count 0 = .ok (.aload_n 2, 1) := by decide +kernel
theorem dL_count_1 : decode cL_count 1 = .ok (.iconst 0, 1) := by decide +kernel
theorem dL_count_2 : decode cL_count 2 = .ok (.aload_n 0, 1) := by decide +kernel
theorem dL_count_3 : decode cL_count 3 = .ok (.iload_n 1, 1) := by decide +kernel
theorem dL_count_4 : decode cL_count 4 = .ok (.invokevirtual 62, 3) := by decide +kernel
theorem dL_count_12 : decode cL_count 12 = .ok (.astore_n 3, 1) := by decide +kernel
theorem dL_count_13 : decode cL_count 13 = .ok (.iconst 1, 1) := by decide +kernel
theorem dL_count_14 : decode cL_count 14 = .ok (.ireturn, 1) := by decide +kernel
theorem dL_count_7 : decode cL_count 7 = .ok (.i2l, 1) := by decide +kernel
theorem dL_count_8 : decode cL_count 8 = .ok (.lastore, 1) := by decide +kernel
theorem dL_count_9 : decode cL_count 9 = .ok (.goto 6, 3) := by decide +kernel
theorem dL_count_15 : decode cL_count 15 = .ok (.iconst 0, 1) := by decide +kernel
theorem dL_count_16 : decode cL_count 16 = .ok (.ireturn, 1) := by decide +kernel
theorem dL_assemble_0 : decode cL_assemble 0 = .ok (.aload_n 2, 1) := by decide +kernel
theorem dL_assemble_1 : decode cL_assemble 1 = .ok (.iconst 0, 1) := by decide +kernel
theorem dL_assemble_2 : decode cL_assemble 2 = .ok (.aload_n 0, 1) := by decide +kernel
theorem dL_assemble_3 : decode cL_assemble 3 = .ok (.iload_n 1, 1) := by decide +kernel
theorem dL_assemble_4 : decode cL_assemble 4 = .ok (.invokevirtual 17, 3) := by decide +kernel
theorem dL_assemble_12 : decode cL_assemble 12 = .ok (.astore_n 3, 1) := by decide +kernel
theorem dL_assemble_13 : decode cL_assemble 13 = .ok (.iconst 1, 1) := by decide +kernel
theorem dL_assemble_14 : decode cL_assemble 14 = .ok (.ireturn, 1) := by decide +kernel
theorem dL_assemble_7 : decode cL_assemble 7 = .ok (.i2l, 1) := by decide +kernel
theorem dL_assemble_8 : decode cL_assemble 8 = .ok (.lastore, 1) := by decide +kernel
theorem dL_assemble_9 : decode cL_assemble 9 = .ok (.goto 18, 3) := by decide +kernel
theorem dL_assemble_27 : decode cL_assemble 27 = .ok (.iconst 0, 1) := by decide +kernel
theorem dL_assemble_28 : decode cL_assemble 28 = .ok (.ireturn, 1) := by decide +kernel
theorem dL_drop_0 : decode cL_drop 0 = .ok (.aload_n 2, 1) := by decide +kernel
theorem dL_drop_1 : decode cL_drop 1 = .ok (.iconst 0, 1) := by decide +kernel
theorem dL_drop_2 : decode cL_drop 2 = .ok (.aload_n 0, 1) := by decide +kernel
theorem dL_drop_3 : decode cL_drop 3 = .ok (.iload_n 1, 1) := by decide +kernel
theorem dL_drop_4 : decode cL_drop 4 = .ok (.invokevirtual 27, 3) := by decide +kernel
theorem dL_drop_19 : decode cL_drop 19 = .ok (.astore_n 3, 1) := by decide +kernel
theorem dL_drop_20 : decode cL_drop 20 = .ok (.iconst 1, 1) := by decide +kernel
theorem dL_drop_21 : decode cL_drop 21 = .ok (.ireturn, 1) := by decide +kernel
theorem dL_drop_7 : decode cL_drop 7 = .ok (.ifCond .eq 7, 3) := by decide +kernel
theorem dL_drop_14 : decode cL_drop 14 = .ok (.lconst 0, 1) := by decide +kernel
theorem dL_drop_15 : decode cL_drop 15 = .ok (.lastore, 1) := by decide +kernel
theorem dL_drop_16 : decode cL_drop 16 = .ok (.goto 6, 3) := by decide +kernel
theorem dL_drop_22 : decode cL_drop 22 = .ok (.iconst 0, 1) := by decide +kernel
theorem dL_drop_23 : decode cL_drop 23 = .ok (.ireturn, 1) := by decide +kernel
theorem dL_append_0 : decode cL_append 0 = .ok (.aload 4, 2) := by decide +kernel
theorem dL_append_2 : decode cL_append 2 = .ok (.iconst 0, 1) := by decide +kernel
theorem dL_append_3 : decode cL_append 3 = .ok (.aload_n 0, 1) := by decide +kernel
theorem dL_append_4 : decode cL_append 4 = .ok (.lload_n 1, 1) := by decide +kernel
theorem dL_append_5 : decode cL_append 5 = .ok (.iload_n 3, 1) := by decide +kernel
theorem dL_append_6 : decode cL_append 6 = .ok (.invokevirtual 7, 3) := by decide +kernel
theorem dL_append_14 : decode cL_append 14 = .ok (.astore 5, 2) := by decide +kernel
theorem dL_append_16 : decode cL_append 16 = .ok (.iconst 1, 1) := by decide +kernel
theorem dL_append_17 : decode cL_append 17 = .ok (.ireturn, 1) := by decide +kernel
theorem dL_append_9 : decode cL_append 9 = .ok (.i2l, 1) := by decide +kernel
theorem dL_append_10 : decode cL_append 10 = .ok (.lastore, 1) := by decide +kernel
theorem dL_append_11 : decode cL_append 11 = .ok (.goto 11, 3) := by decide +kernel
theorem dL_append_22 : decode cL_append 22 = .ok (.iconst 0, 1) := by decide +kernel
theorem dL_append_23 : decode cL_append 23 = .ok (.ireturn, 1) := by decide +kernel
theorem dL_image_0 : decode cL_image 0 = .ok (.aload_n 2, 1) := by decide +kernel
theorem dL_image_1 : decode cL_image 1 = .ok (.iconst 0, 1) := by decide +kernel
theorem dL_image_2 : decode cL_image 2 = .ok (.aload_n 0, 1) := by decide +kernel
theorem dL_image_3 : decode cL_image 3 = .ok (.iload_n 1, 1) := by decide +kernel
theorem dL_image_4 : decode cL_image 4 = .ok (.invokevirtual 50, 3) := by decide +kernel
theorem dL_image_12 : decode cL_image 12 = .ok (.astore_n 3, 1) := by decide +kernel
theorem dL_image_13 : decode cL_image 13 = .ok (.iconst 1, 1) := by decide +kernel
theorem dL_image_14 : decode cL_image 14 = .ok (.ireturn, 1) := by decide +kernel
theorem dL_trace_0 : decode cL_trace 0 = .ok (.aload_n 2, 1) := by decide +kernel
theorem dL_trace_1 : decode cL_trace 1 = .ok (.iconst 0, 1) := by decide +kernel
theorem dL_trace_2 : decode cL_trace 2 = .ok (.aload_n 0, 1) := by decide +kernel
theorem dL_trace_3 : decode cL_trace 3 = .ok (.iload_n 1, 1) := by decide +kernel
theorem dL_trace_4 : decode cL_trace 4 = .ok (.invokevirtual 59, 3) := by decide +kernel
theorem dL_trace_12 : decode cL_trace 12 = .ok (.astore_n 3, 1) := by decide +kernel
theorem dL_trace_13 : decode cL_trace 13 = .ok (.iconst 1, 1) := by decide +kernel
theorem dL_trace_14 : decode cL_trace 14 = .ok (.ireturn, 1) := by decide +kernel
theorem dL_link_0 : decode cL_link 0 = .ok (.aload_n 1, 1) := by decide +kernel
theorem dL_link_1 : decode cL_link 1 = .ok (.iconst 0, 1) := by decide +kernel
theorem dL_link_2 : decode cL_link 2 = .ok (.aload_n 0, 1) := by decide +kernel
theorem dL_link_3 : decode cL_link 3 = .ok (.invokevirtual 31, 3) := by decide +kernel
theorem dL_link_11 : decode cL_link 11 = .ok (.astore_n 2, 1) := by decide +kernel
theorem dL_link_12 : decode cL_link 12 = .ok (.iconst 1, 1) := by decide +kernel
theorem dL_link_13 : decode cL_link 13 = .ok (.ireturn, 1) := by decide +kernel
theorem dL_code_0 : decode cL_code 0 = .ok (.aload 4, 2) := by decide +kernel
theorem dL_code_2 : decode cL_code 2 = .ok (.iconst 0, 1) := by decide +kernel
theorem dL_code_3 : decode cL_code 3 = .ok (.aload_n 0, 1) := by decide +kernel
theorem dL_code_4 : decode cL_code 4 = .ok (.iload_n 1, 1) := by decide +kernel
theorem dL_code_5 : decode cL_code 5 = .ok (.iload_n 2, 1) := by decide +kernel
theorem dL_code_6 : decode cL_code 6 = .ok (.iload_n 3, 1) := by decide +kernel
theorem dL_code_7 : decode cL_code 7 = .ok (.invokevirtual 43, 3) := by decide +kernel
theorem dL_code_15 : decode cL_code 15 = .ok (.astore 5, 2) := by decide +kernel
theorem dL_code_17 : decode cL_code 17 = .ok (.iconst 1, 1) := by decide +kernel
theorem dL_code_18 : decode cL_code 18 = .ok (.ireturn, 1) := by decide +kernel
theorem dL_fixup_0 : decode cL_fixup 0 = .ok (.aload 4, 2) := by decide +kernel
theorem dL_fixup_2 : decode cL_fixup 2 = .ok (.iconst 0, 1) := by decide +kernel
theorem dL_fixup_3 : decode cL_fixup 3 = .ok (.aload_n 0, 1) := by decide +kernel
theorem dL_fixup_4 : decode cL_fixup 4 = .ok (.iload_n 1, 1) := by decide +kernel
theorem dL_fixup_5 : decode cL_fixup 5 = .ok (.iload_n 2, 1) := by decide +kernel
theorem dL_fixup_6 : decode cL_fixup 6 = .ok (.iload_n 3, 1) := by decide +kernel
theorem dL_fixup_7 : decode cL_fixup 7 = .ok (.invokevirtual 47, 3) := by decide +kernel
theorem dL_fixup_15 : decode cL_fixup 15 = .ok (.astore 5, 2) := by decide +kernel
theorem dL_fixup_17 : decode cL_fixup 17 = .ok (.iconst 1, 1) := by decide +kernel
theorem dL_fixup_18 : decode cL_fixup 18 = .ok (.ireturn, 1) := by decide +kernel
theorem dL_fixup_19 : decode cL_fixup 19 = .ok (.astore 5, 2) := by decide +kernel
theorem dL_fixup_21 : decode cL_fixup 21 = .ok (.iconst 2, 1) := by decide +kernel
theorem dL_fixup_22 : decode cL_fixup 22 = .ok (.ireturn, 1) := by decide +kernel
theorem dL_load_0 : decode cL_load 0 = .ok (.aload_n 2, 1) := by decide +kernel
theorem dL_load_1 : decode cL_load 1 = .ok (.iconst 0, 1) := by decide +kernel
theorem dL_load_2 : decode cL_load 2 = .ok (.aload_n 0, 1) := by decide +kernel
theorem dL_load_3 : decode cL_load 3 = .ok (.iload_n 1, 1) := by decide +kernel
theorem dL_load_4 : decode cL_load 4 = .ok (.invokevirtual 37, 3) := by decide +kernel
theorem dL_load_12 : decode cL_load 12 = .ok (.astore_n 3, 1) := by decide +kernel
theorem dL_load_13 : decode cL_load 13 = .ok (.iconst 1, 1) := by decide +kernel
theorem dL_load_14 : decode cL_load 14 = .ok (.ireturn, 1) := by decide +kernel
theorem dL_load_15 : decode cL_load 15 = .ok (.astore_n 3, 1) := by decide +kernel
theorem dL_load_16 : decode cL_load 16 = .ok (.iconst 2, 1) := by decide +kernel
theorem dL_load_17 : decode cL_load 17 = .ok (.ireturn, 1) := by decide +kernel
theorem dL_run_0 : decode cL_run 0 = .ok (.aload_n 2, 1) := by decide +kernel
theorem dL_run_1 : decode cL_run 1 = .ok (.iconst 0, 1) := by decide +kernel
theorem dL_run_2 : decode cL_run 2 = .ok (.aload_n 0, 1) := by decide +kernel
theorem dL_run_3 : decode cL_run 3 = .ok (.iload_n 1, 1) := by decide +kernel
theorem dL_run_4 : decode cL_run 4 = .ok (.invokevirtual 40, 3) := by decide +kernel
theorem dL_run_12 : decode cL_run 12 = .ok (.astore_n 3, 1) := by decide +kernel
theorem dL_run_13 : decode cL_run 13 = .ok (.iconst 1, 1) := by decide +kernel
theorem dL_run_14 : decode cL_run 14 = .ok (.ireturn, 1) := by decide +kernel
theorem dL_run_15 : decode cL_run 15 = .ok (.astore_n 3, 1) := by decide +kernel
theorem dL_run_16 : decode cL_run 16 = .ok (.iconst 2, 1) := by decide +kernel
theorem dL_run_17 : decode cL_run 17 = .ok (.ireturn, 1) := by decide +kernel
theorem g_z0 : (0 : Int32).toNatClampNeg = 0 := by decide
theorem g_o0 (g : Nat → Int64) (v : Int64) : vp_updL g (0 : Int32).toNatClampNeg v 0 = v := by rw [g_z0]; exact pk_uLs
theorem g_cmp0 {x y : Int64} (h : x = y) : lg_cmp x y = 0 := by
  subst h
  unfold lg_cmp
  rw [if_neg (by rw [gt_iff_lt, Int64.lt_iff_toInt_lt]; omega), if_pos rfl]
set_option maxHeartbeats 4000000 in
set_option maxRecDepth 100000 in
theorem w_memory (l : Launch) (htr : l.stackTraces = false) (D : va_G) (dA : Nat → ClassId) (h0 : Nat) (ad : Nat → Nat) (o : Nat) (g0 : Nat → Int64) (x : Int32) (sz : Nat) : Met l yL_memory (gwsW yL_memory cL_memory 4 (some .int) [(0, 9, 12, 13)]) (gR 9 1 6) (gPreW D dA [.ref h0, .int x, .ref o] [(h0, .inr (10, [.ref (ad 0), .int 0, .int (-1), .int (-1), .ref (ad 1), .ref (ad 2), .ref (ad 3), .ref (ad 4), .ref (ad 5), .ref (ad 6), .ref (ad 7), .ref (ad 8)])), (ad 8, .inr (4, [.ref (ad 78), .ref (ad 79), .ref (ad 80), .int 0, .int 0, .int 0, .int 0, .int 1, .int 0, .int 0, .ref (ad 81), .int 0, .int 0, .int 0])), (ad 78, .inl (dA 0, 4096, .inl (fun _ => 0))), (o, .inl (dA 1, 1, .inr (.inl g0)))] sz) (va_Qi (fun (k : Int32) (g : Nat → Int64) => (k = 0 ∧ ∃ r : Int32, g 0 = r.toInt64 ∧ (r = 0 ∧ gIn 0 4095 x)) ∨ (k = 1 ∧ ¬ gIn 0 4095 x)) (gAt D dA (va_A [(h0, .inr (10, [.ref (ad 0), .int 0, .int (-1), .int (-1), .ref (ad 1), .ref (ad 2), .ref (ad 3), .ref (ad 4), .ref (ad 5), .ref (ad 6), .ref (ad 7), .ref (ad 8)])), (ad 8, .inr (4, [.ref (ad 78), .ref (ad 79), .ref (ad 80), .int 0, .int 0, .int 0, .int 0, .int 1, .int 0, .int 0, .ref (ad 81), .int 0, .int 0, .int 0])), (ad 78, .inl (dA 0, 4096, .inl (fun _ => 0))), (o, .inl (dA 1, 1, .inr (.inl g0)))] sz) (fun g : Nat → Int64 => [(o, .inl (dA 1, 1, .inr (.inl g)))])) (va_A [(h0, .inr (10, [.ref (ad 0), .int 0, .int (-1), .int (-1), .ref (ad 1), .ref (ad 2), .ref (ad 3), .ref (ad 4), .ref (ad 5), .ref (ad 6), .ref (ad 7), .ref (ad 8)])), (ad 8, .inr (4, [.ref (ad 78), .ref (ad 79), .ref (ad 80), .int 0, .int 0, .int 0, .int 0, .int 1, .int 0, .int 0, .ref (ad 81), .int 0, .int 0, .int 0])), (ad 78, .inl (dA 0, 4096, .inl (fun _ => 0))), (o, .inl (dA 1, 1, .inr (.inl g0)))] sz)) 1 6 (va_A [(h0, .inr (10, [.ref (ad 0), .int 0, .int (-1), .int (-1), .ref (ad 1), .ref (ad 2), .ref (ad 3), .ref (ad 4), .ref (ad 5), .ref (ad 6), .ref (ad 7), .ref (ad 8)])), (ad 8, .inr (4, [.ref (ad 78), .ref (ad 79), .ref (ad 80), .int 0, .int 0, .int 0, .int 0, .int 1, .int 0, .int 0, .ref (ad 81), .int 0, .int 0, .int 0])), (ad 78, .inl (dA 0, 4096, .inl (fun _ => 0))), (o, .inl (dA 1, 1, .inr (.inl g0)))] sz) := by
  refine va_MetW (cc := cL_memory) (maxL := 4) (ret := (some .int)) (hh := [(0, 9, 12, 13)]) (by decide) rfl ?_
  intro p e s m args below meth c s₁ B hml hv
  obtain ⟨rfl, hsz, hP, hK, hD0, hZ, hN⟩ := hv
  have hx := B.exec
  have hb := B.bytes
  have hr := B.returns
  have hts := atoms_spec (ws := gwsW yL_memory cL_memory 4 (some .int) [(0, 9, 12, 13)]) B.pre
  have hg : ∀ w ∈ gw, w.before _ s = true := fun w h => hts w (List.mem_cons_of_mem _ h)
  have htab := vx_table (x := yL_memory) B (hts _ List.mem_cons_self)
  have hown : s.vm.findClass RL = some m.cls := findClass_of_methodNamed B.named
  have hlocks := B.notSynchronized
  subst hsz
  have hD := hD0.self (sz := s.heap.size)
  generalize hAe : va_A [(h0, .inr (10, [.ref (ad 0), .int 0, .int (-1), .int (-1), .ref (ad 1), .ref (ad 2), .ref (ad 3), .ref (ad 4), .ref (ad 5), .ref (ad 6), .ref (ad 7), .ref (ad 8)])), (ad 8, .inr (4, [.ref (ad 78), .ref (ad 79), .ref (ad 80), .int 0, .int 0, .int 0, .int 0, .int 1, .int 0, .int 0, .ref (ad 81), .int 0, .int 0, .int 0])), (ad 78, .inl (dA 0, 4096, .inl (fun _ => 0))), (o, .inl (dA 1, 1, .inr (.inl g0)))] s.heap.size = A at hZ hD ⊢
  have hA : ∀ q : Nat, s.heap.size ≤ q → A q := fun q h => by rw [← hAe]; exact Or.inr h
  have hS : va_S A s.heap s.heap [] := va_S.rf
  have hP : va_P D vwC [(h0, .inr (10, [.ref (ad 0), .int 0, .int (-1), .int (-1), .ref (ad 1), .ref (ad 2), .ref (ad 3), .ref (ad 4), .ref (ad 5), .ref (ad 6), .ref (ad 7), .ref (ad 8)])), (ad 8, .inr (4, [.ref (ad 78), .ref (ad 79), .ref (ad 80), .int 0, .int 0, .int 0, .int 0, .int 1, .int 0, .int 0, .ref (ad 81), .int 0, .int 0, .int 0])), (ad 78, .inl (dA 0, 4096, .inl (fun _ => 0))), (o, .inl (dA 1, 1, .inr (.inl g0)))] s.heap := hP
  have hl := lv_entry ([.ref h0, .int x, .ref o]) (n := 4) (Nat.le_of_ble_eq_true rfl)
  rw [lg_entry_eq]
  generalize (lg_sl ([.ref h0, .int x, .ref o]) ++ List.replicate (4 - (lg_sl ([.ref h0, .int x, .ref o])).length) Slot.unset).toArray = ls at hl ⊢
  have hl : lv_has ls 4 [(0, .ref h0), (1, .int x), (2, .ref o)] := hl
  refine lv_aload_n hx hb dL_memory_0 rfl (lv_at hl 2 rfl) ?_
  refine lv_iconst (v := 0) hx hb dL_memory_1 (by decide) ?_
  refine lv_aload_n hx hb dL_memory_2 rfl (lv_at hl 0 rfl) ?_
  refine lv_iload_n hx hb dL_memory_3 rfl (lv_at hl 1 rfl) ?_
  refine g_Vx (n := 1) (As := [.int x]) (rest := [.int 0, .ref o]) (wr := [(o, .inl (dA 1, 1, .inr (.inl g0)))]) hx hb hml hg hown hZ hK hP hD hS hA (c_X10_memory l htr D dA h0 ad x _) [0, 1, 2] [3] rfl (by decide) rfl (by decide) (by decide) 0 rfl rfl q1535 q149 q1532 q1533 q1534 (by decide +kernel) ⟨(Nat.le_of_ble_eq_true rfl), (Nat.le_of_ble_eq_true rfl)⟩ rfl hl.1 rfl (Nat.le_of_ble_eq_true rfl) dL_memory_4 ⟨(Nat.le_of_ble_eq_true rfl), (Nat.le_of_ble_eq_true rfl)⟩ (fun E ce q9 H locs hpx hP hD hS hce hcv hcl => ?_) (fun r H locs hpo hP hD hS => ?_)
  · refine vx_widen (k := 1) (n := 6) (Nat.le_of_ble_eq_true rfl) (Nat.le_of_ble_eq_true rfl) ?_
    obtain ⟨rfl, hq⟩ := hpx
    refine vx_catch (own := RL) (name := xIAE) hown [] ⟨0, 9, 12, 13⟩ [] (htab.trans rfl) (fun z hz => by cases hz) rfl (by decide) (hg _ q646) (hg _ q733) hce hcv hcl ?_
    refine lv_astore_n (lv' := [(3, .ref q9), (0, .ref h0), (1, .int x), (2, .ref o)]) hx hb dL_memory_12 rfl hl (by decide) rfl (fun ls hl => ?_)
    refine lv_iconst (v := 1) hx hb dL_memory_13 (by decide) ?_
    exact g_iret hx hb hr rfl hlocks hK g0 hP hD hS (Or.inr ⟨rfl, hq⟩) (Nat.le_of_ble_eq_true rfl) (Nat.le_of_ble_eq_true rfl) dL_memory_14
  · refine W.widen (k := 1) (n := 6) (Nat.le_of_ble_eq_true rfl) (Nat.le_of_ble_eq_true rfl) ?_
    refine lv_i2l (v := r.toInt64) hx hb dL_memory_7 rfl ?_
    refine va_last hx hb hK hP hD hS 0 1 rfl rfl (by unfold vp_in; decide) dL_memory_8 (fun H locs hP hD hS => ?_)
    have hP : va_P D vwC [(o, .inl (dA 1, 1, .inr (.inl (vp_updL g0 (0 : Int32).toNatClampNeg r.toInt64))))] H := hP
    have hD : va_D A [(o, .inl (dA 1, 1, .inr (.inl (vp_updL g0 (0 : Int32).toNatClampNeg r.toInt64))))] := hD
    refine lv_goto (tgt := 15) hx hb dL_memory_9 (by decide) ?_
    refine lv_iconst (v := 0) hx hb dL_memory_15 (by decide) ?_
    exact g_iret hx hb hr rfl hlocks hK (vp_updL g0 (0 : Int32).toNatClampNeg r.toInt64) hP hD hS (Or.inl ⟨rfl, r, g_o0 _ _, hpo⟩) (Nat.le_of_ble_eq_true rfl) (Nat.le_of_ble_eq_true rfl) dL_memory_16
set_option maxHeartbeats 4000000 in
set_option maxRecDepth 100000 in
theorem w_register (l : Launch) (htr : l.stackTraces = false) (D : va_G) (dA : Nat → ClassId) (h0 : Nat) (ad : Nat → Nat) (o : Nat) (g0 : Nat → Int64) (x : Int32) (sz : Nat) : Met l yL_register (gwsW yL_register cL_register 4 (some .int) [(0, 9, 12, 13)]) (gR 9 1 6) (gPreW D dA [.ref h0, .int x, .ref o] [(h0, .inr (10, [.ref (ad 0), .int 0, .int (-1), .int (-1), .ref (ad 1), .ref (ad 2), .ref (ad 3), .ref (ad 4), .ref (ad 5), .ref (ad 6), .ref (ad 7), .ref (ad 8)])), (ad 8, .inr (4, [.ref (ad 78), .ref (ad 79), .ref (ad 80), .int 0, .int 0, .int 0, .int 0, .int 1, .int 0, .int 0, .ref (ad 81), .int 0, .int 0, .int 0])), (ad 79, .inl (dA 0, 8, .inl (fun _ => 0))), (ad 80, .inl (dA 0, 4, .inl (fun _ => 0))), (o, .inl (dA 1, 1, .inr (.inl g0)))] sz) (va_Qi (fun (k : Int32) (g : Nat → Int64) => (k = 0 ∧ ∃ r : Int32, g 0 = r.toInt64 ∧ (r = 0 ∧ gIn 0 15 x)) ∨ (k = 1 ∧ ¬ gIn 0 15 x)) (gAt D dA (va_A [(h0, .inr (10, [.ref (ad 0), .int 0, .int (-1), .int (-1), .ref (ad 1), .ref (ad 2), .ref (ad 3), .ref (ad 4), .ref (ad 5), .ref (ad 6), .ref (ad 7), .ref (ad 8)])), (ad 8, .inr (4, [.ref (ad 78), .ref (ad 79), .ref (ad 80), .int 0, .int 0, .int 0, .int 0, .int 1, .int 0, .int 0, .ref (ad 81), .int 0, .int 0, .int 0])), (ad 79, .inl (dA 0, 8, .inl (fun _ => 0))), (ad 80, .inl (dA 0, 4, .inl (fun _ => 0))), (o, .inl (dA 1, 1, .inr (.inl g0)))] sz) (fun g : Nat → Int64 => [(o, .inl (dA 1, 1, .inr (.inl g)))])) (va_A [(h0, .inr (10, [.ref (ad 0), .int 0, .int (-1), .int (-1), .ref (ad 1), .ref (ad 2), .ref (ad 3), .ref (ad 4), .ref (ad 5), .ref (ad 6), .ref (ad 7), .ref (ad 8)])), (ad 8, .inr (4, [.ref (ad 78), .ref (ad 79), .ref (ad 80), .int 0, .int 0, .int 0, .int 0, .int 1, .int 0, .int 0, .ref (ad 81), .int 0, .int 0, .int 0])), (ad 79, .inl (dA 0, 8, .inl (fun _ => 0))), (ad 80, .inl (dA 0, 4, .inl (fun _ => 0))), (o, .inl (dA 1, 1, .inr (.inl g0)))] sz)) 1 6 (va_A [(h0, .inr (10, [.ref (ad 0), .int 0, .int (-1), .int (-1), .ref (ad 1), .ref (ad 2), .ref (ad 3), .ref (ad 4), .ref (ad 5), .ref (ad 6), .ref (ad 7), .ref (ad 8)])), (ad 8, .inr (4, [.ref (ad 78), .ref (ad 79), .ref (ad 80), .int 0, .int 0, .int 0, .int 0, .int 1, .int 0, .int 0, .ref (ad 81), .int 0, .int 0, .int 0])), (ad 79, .inl (dA 0, 8, .inl (fun _ => 0))), (ad 80, .inl (dA 0, 4, .inl (fun _ => 0))), (o, .inl (dA 1, 1, .inr (.inl g0)))] sz) := by
  refine va_MetW (cc := cL_register) (maxL := 4) (ret := (some .int)) (hh := [(0, 9, 12, 13)]) (by decide) rfl ?_
  intro p e s m args below meth c s₁ B hml hv
  obtain ⟨rfl, hsz, hP, hK, hD0, hZ, hN⟩ := hv
  have hx := B.exec
  have hb := B.bytes
  have hr := B.returns
  have hts := atoms_spec (ws := gwsW yL_register cL_register 4 (some .int) [(0, 9, 12, 13)]) B.pre
  have hg : ∀ w ∈ gw, w.before _ s = true := fun w h => hts w (List.mem_cons_of_mem _ h)
  have htab := vx_table (x := yL_register) B (hts _ List.mem_cons_self)
  have hown : s.vm.findClass RL = some m.cls := findClass_of_methodNamed B.named
  have hlocks := B.notSynchronized
  subst hsz
  have hD := hD0.self (sz := s.heap.size)
  generalize hAe : va_A [(h0, .inr (10, [.ref (ad 0), .int 0, .int (-1), .int (-1), .ref (ad 1), .ref (ad 2), .ref (ad 3), .ref (ad 4), .ref (ad 5), .ref (ad 6), .ref (ad 7), .ref (ad 8)])), (ad 8, .inr (4, [.ref (ad 78), .ref (ad 79), .ref (ad 80), .int 0, .int 0, .int 0, .int 0, .int 1, .int 0, .int 0, .ref (ad 81), .int 0, .int 0, .int 0])), (ad 79, .inl (dA 0, 8, .inl (fun _ => 0))), (ad 80, .inl (dA 0, 4, .inl (fun _ => 0))), (o, .inl (dA 1, 1, .inr (.inl g0)))] s.heap.size = A at hZ hD ⊢
  have hA : ∀ q : Nat, s.heap.size ≤ q → A q := fun q h => by rw [← hAe]; exact Or.inr h
  have hS : va_S A s.heap s.heap [] := va_S.rf
  have hP : va_P D vwC [(h0, .inr (10, [.ref (ad 0), .int 0, .int (-1), .int (-1), .ref (ad 1), .ref (ad 2), .ref (ad 3), .ref (ad 4), .ref (ad 5), .ref (ad 6), .ref (ad 7), .ref (ad 8)])), (ad 8, .inr (4, [.ref (ad 78), .ref (ad 79), .ref (ad 80), .int 0, .int 0, .int 0, .int 0, .int 1, .int 0, .int 0, .ref (ad 81), .int 0, .int 0, .int 0])), (ad 79, .inl (dA 0, 8, .inl (fun _ => 0))), (ad 80, .inl (dA 0, 4, .inl (fun _ => 0))), (o, .inl (dA 1, 1, .inr (.inl g0)))] s.heap := hP
  have hl := lv_entry ([.ref h0, .int x, .ref o]) (n := 4) (Nat.le_of_ble_eq_true rfl)
  rw [lg_entry_eq]
  generalize (lg_sl ([.ref h0, .int x, .ref o]) ++ List.replicate (4 - (lg_sl ([.ref h0, .int x, .ref o])).length) Slot.unset).toArray = ls at hl ⊢
  have hl : lv_has ls 4 [(0, .ref h0), (1, .int x), (2, .ref o)] := hl
  refine lv_aload_n hx hb dL_register_0 rfl (lv_at hl 2 rfl) ?_
  refine lv_iconst (v := 0) hx hb dL_register_1 (by decide) ?_
  refine lv_aload_n hx hb dL_register_2 rfl (lv_at hl 0 rfl) ?_
  refine lv_iload_n hx hb dL_register_3 rfl (lv_at hl 1 rfl) ?_
  refine g_Vx (n := 1) (As := [.int x]) (rest := [.int 0, .ref o]) (wr := [(o, .inl (dA 1, 1, .inr (.inl g0)))]) hx hb hml hg hown hZ hK hP hD hS hA (c_X10_register l htr D dA h0 ad x _) [0, 1, 2, 3] [4] rfl (by decide) rfl (by decide) (by decide) 0 rfl rfl q1543 q149 q1540 q1541 q1542 (by decide +kernel) ⟨(Nat.le_of_ble_eq_true rfl), (Nat.le_of_ble_eq_true rfl)⟩ rfl hl.1 rfl (Nat.le_of_ble_eq_true rfl) dL_register_4 ⟨(Nat.le_of_ble_eq_true rfl), (Nat.le_of_ble_eq_true rfl)⟩ (fun E ce q9 H locs hpx hP hD hS hce hcv hcl => ?_) (fun r H locs hpo hP hD hS => ?_)
  · refine vx_widen (k := 1) (n := 6) (Nat.le_of_ble_eq_true rfl) (Nat.le_of_ble_eq_true rfl) ?_
    obtain ⟨rfl, hq⟩ := hpx
    refine vx_catch (own := RL) (name := xIAE) hown [] ⟨0, 9, 12, 13⟩ [] (htab.trans rfl) (fun z hz => by cases hz) rfl (by decide) (hg _ q646) (hg _ q733) hce hcv hcl ?_
    refine lv_astore_n (lv' := [(3, .ref q9), (0, .ref h0), (1, .int x), (2, .ref o)]) hx hb dL_register_12 rfl hl (by decide) rfl (fun ls hl => ?_)
    refine lv_iconst (v := 1) hx hb dL_register_13 (by decide) ?_
    exact g_iret hx hb hr rfl hlocks hK g0 hP hD hS (Or.inr ⟨rfl, hq⟩) (Nat.le_of_ble_eq_true rfl) (Nat.le_of_ble_eq_true rfl) dL_register_14
  · refine W.widen (k := 1) (n := 6) (Nat.le_of_ble_eq_true rfl) (Nat.le_of_ble_eq_true rfl) ?_
    refine lv_i2l (v := r.toInt64) hx hb dL_register_7 rfl ?_
    refine va_last hx hb hK hP hD hS 0 1 rfl rfl (by unfold vp_in; decide) dL_register_8 (fun H locs hP hD hS => ?_)
    have hP : va_P D vwC [(o, .inl (dA 1, 1, .inr (.inl (vp_updL g0 (0 : Int32).toNatClampNeg r.toInt64))))] H := hP
    have hD : va_D A [(o, .inl (dA 1, 1, .inr (.inl (vp_updL g0 (0 : Int32).toNatClampNeg r.toInt64))))] := hD
    refine lv_goto (tgt := 15) hx hb dL_register_9 (by decide) ?_
    refine lv_iconst (v := 0) hx hb dL_register_15 (by decide) ?_
    exact g_iret hx hb hr rfl hlocks hK (vp_updL g0 (0 : Int32).toNatClampNeg r.toInt64) hP hD hS (Or.inl ⟨rfl, r, g_o0 _ _, hpo⟩) (Nat.le_of_ble_eq_true rfl) (Nat.le_of_ble_eq_true rfl) dL_register_16
set_option maxHeartbeats 4000000 in
set_option maxRecDepth 100000 in
theorem w_count (l : Launch) (htr : l.stackTraces = false) (D : va_G) (dA : Nat → ClassId) (h0 : Nat) (ad : Nat → Nat) (o : Nat) (g0 : Nat → Int64) (x : Int32) (sz : Nat) : Met l yL_count (gwsW yL_count cL_count 4 (some .int) [(0, 9, 12, 13)]) (gR 9 1 6) (gPreW D dA [.ref h0, .int x, .ref o] [(h0, .inr (10, [.ref (ad 0), .int 0, .int (-1), .int (-1), .ref (ad 1), .ref (ad 2), .ref (ad 3), .ref (ad 4), .ref (ad 5), .ref (ad 6), .ref (ad 7), .ref (ad 8)])), (ad 8, .inr (4, [.ref (ad 78), .ref (ad 79), .ref (ad 80), .int 0, .int 0, .int 0, .int 0, .int 1, .int 0, .int 0, .ref (ad 81), .int 0, .int 0, .int 0])), (ad 7, .inr (1, [.int 0, .int 0, .ref (ad 76), .int 0, .ref (ad 77), .int 0, .int 0])), (ad 5, .inl (dA 4, 3, .inr (.inr (.inr (.inr (gM (ad 29) (ad 30) (ad 31))))))), (ad 29, .inr (6, [.int 0, .int 0, .ref (ad 32), .ref (ad 33), .ref (ad 34), .ref (ad 35), .ref (ad 36), .int 0, .ref (ad 37), .ref (ad 38), .ref (ad 39), .ref (ad 40), .ref (ad 41), .int 0, .ref (ad 42), .ref (ad 43), .ref (ad 44)])), (ad 30, .inr (6, [.int 0, .int 0, .ref (ad 45), .ref (ad 46), .ref (ad 47), .ref (ad 48), .ref (ad 49), .int 0, .ref (ad 50), .ref (ad 51), .ref (ad 52), .ref (ad 53), .ref (ad 54), .int 0, .ref (ad 55), .ref (ad 56), .ref (ad 57)])), (ad 31, .inr (6, [.int 0, .int 0, .ref (ad 58), .ref (ad 59), .ref (ad 60), .ref (ad 61), .ref (ad 62), .int 0, .ref (ad 63), .ref (ad 64), .ref (ad 65), .ref (ad 66), .ref (ad 67), .int 0, .ref (ad 68), .ref (ad 69), .ref (ad 70)])), (o, .inl (dA 1, 1, .inr (.inl g0)))] sz) (va_Qi (fun (k : Int32) (g : Nat → Int64) => (k = 0 ∧ ∃ r : Int32, g 0 = r.toInt64 ∧ (r = cnt x ∧ gIn 0 13 x)) ∨ (k = 1 ∧ ¬ gIn 0 13 x)) (gAt D dA (va_A [(h0, .inr (10, [.ref (ad 0), .int 0, .int (-1), .int (-1), .ref (ad 1), .ref (ad 2), .ref (ad 3), .ref (ad 4), .ref (ad 5), .ref (ad 6), .ref (ad 7), .ref (ad 8)])), (ad 8, .inr (4, [.ref (ad 78), .ref (ad 79), .ref (ad 80), .int 0, .int 0, .int 0, .int 0, .int 1, .int 0, .int 0, .ref (ad 81), .int 0, .int 0, .int 0])), (ad 7, .inr (1, [.int 0, .int 0, .ref (ad 76), .int 0, .ref (ad 77), .int 0, .int 0])), (ad 5, .inl (dA 4, 3, .inr (.inr (.inr (.inr (gM (ad 29) (ad 30) (ad 31))))))), (ad 29, .inr (6, [.int 0, .int 0, .ref (ad 32), .ref (ad 33), .ref (ad 34), .ref (ad 35), .ref (ad 36), .int 0, .ref (ad 37), .ref (ad 38), .ref (ad 39), .ref (ad 40), .ref (ad 41), .int 0, .ref (ad 42), .ref (ad 43), .ref (ad 44)])), (ad 30, .inr (6, [.int 0, .int 0, .ref (ad 45), .ref (ad 46), .ref (ad 47), .ref (ad 48), .ref (ad 49), .int 0, .ref (ad 50), .ref (ad 51), .ref (ad 52), .ref (ad 53), .ref (ad 54), .int 0, .ref (ad 55), .ref (ad 56), .ref (ad 57)])), (ad 31, .inr (6, [.int 0, .int 0, .ref (ad 58), .ref (ad 59), .ref (ad 60), .ref (ad 61), .ref (ad 62), .int 0, .ref (ad 63), .ref (ad 64), .ref (ad 65), .ref (ad 66), .ref (ad 67), .int 0, .ref (ad 68), .ref (ad 69), .ref (ad 70)])), (o, .inl (dA 1, 1, .inr (.inl g0)))] sz) (fun g : Nat → Int64 => [(o, .inl (dA 1, 1, .inr (.inl g)))])) (va_A [(h0, .inr (10, [.ref (ad 0), .int 0, .int (-1), .int (-1), .ref (ad 1), .ref (ad 2), .ref (ad 3), .ref (ad 4), .ref (ad 5), .ref (ad 6), .ref (ad 7), .ref (ad 8)])), (ad 8, .inr (4, [.ref (ad 78), .ref (ad 79), .ref (ad 80), .int 0, .int 0, .int 0, .int 0, .int 1, .int 0, .int 0, .ref (ad 81), .int 0, .int 0, .int 0])), (ad 7, .inr (1, [.int 0, .int 0, .ref (ad 76), .int 0, .ref (ad 77), .int 0, .int 0])), (ad 5, .inl (dA 4, 3, .inr (.inr (.inr (.inr (gM (ad 29) (ad 30) (ad 31))))))), (ad 29, .inr (6, [.int 0, .int 0, .ref (ad 32), .ref (ad 33), .ref (ad 34), .ref (ad 35), .ref (ad 36), .int 0, .ref (ad 37), .ref (ad 38), .ref (ad 39), .ref (ad 40), .ref (ad 41), .int 0, .ref (ad 42), .ref (ad 43), .ref (ad 44)])), (ad 30, .inr (6, [.int 0, .int 0, .ref (ad 45), .ref (ad 46), .ref (ad 47), .ref (ad 48), .ref (ad 49), .int 0, .ref (ad 50), .ref (ad 51), .ref (ad 52), .ref (ad 53), .ref (ad 54), .int 0, .ref (ad 55), .ref (ad 56), .ref (ad 57)])), (ad 31, .inr (6, [.int 0, .int 0, .ref (ad 58), .ref (ad 59), .ref (ad 60), .ref (ad 61), .ref (ad 62), .int 0, .ref (ad 63), .ref (ad 64), .ref (ad 65), .ref (ad 66), .ref (ad 67), .int 0, .ref (ad 68), .ref (ad 69), .ref (ad 70)])), (o, .inl (dA 1, 1, .inr (.inl g0)))] sz)) 1 6 (va_A [(h0, .inr (10, [.ref (ad 0), .int 0, .int (-1), .int (-1), .ref (ad 1), .ref (ad 2), .ref (ad 3), .ref (ad 4), .ref (ad 5), .ref (ad 6), .ref (ad 7), .ref (ad 8)])), (ad 8, .inr (4, [.ref (ad 78), .ref (ad 79), .ref (ad 80), .int 0, .int 0, .int 0, .int 0, .int 1, .int 0, .int 0, .ref (ad 81), .int 0, .int 0, .int 0])), (ad 7, .inr (1, [.int 0, .int 0, .ref (ad 76), .int 0, .ref (ad 77), .int 0, .int 0])), (ad 5, .inl (dA 4, 3, .inr (.inr (.inr (.inr (gM (ad 29) (ad 30) (ad 31))))))), (ad 29, .inr (6, [.int 0, .int 0, .ref (ad 32), .ref (ad 33), .ref (ad 34), .ref (ad 35), .ref (ad 36), .int 0, .ref (ad 37), .ref (ad 38), .ref (ad 39), .ref (ad 40), .ref (ad 41), .int 0, .ref (ad 42), .ref (ad 43), .ref (ad 44)])), (ad 30, .inr (6, [.int 0, .int 0, .ref (ad 45), .ref (ad 46), .ref (ad 47), .ref (ad 48), .ref (ad 49), .int 0, .ref (ad 50), .ref (ad 51), .ref (ad 52), .ref (ad 53), .ref (ad 54), .int 0, .ref (ad 55), .ref (ad 56), .ref (ad 57)])), (ad 31, .inr (6, [.int 0, .int 0, .ref (ad 58), .ref (ad 59), .ref (ad 60), .ref (ad 61), .ref (ad 62), .int 0, .ref (ad 63), .ref (ad 64), .ref (ad 65), .ref (ad 66), .ref (ad 67), .int 0, .ref (ad 68), .ref (ad 69), .ref (ad 70)])), (o, .inl (dA 1, 1, .inr (.inl g0)))] sz) := by
  refine va_MetW (cc := cL_count) (maxL := 4) (ret := (some .int)) (hh := [(0, 9, 12, 13)]) (by decide) rfl ?_
  intro p e s m args below meth c s₁ B hml hv
  obtain ⟨rfl, hsz, hP, hK, hD0, hZ, hN⟩ := hv
  have hx := B.exec
  have hb := B.bytes
  have hr := B.returns
  have hts := atoms_spec (ws := gwsW yL_count cL_count 4 (some .int) [(0, 9, 12, 13)]) B.pre
  have hg : ∀ w ∈ gw, w.before _ s = true := fun w h => hts w (List.mem_cons_of_mem _ h)
  have htab := vx_table (x := yL_count) B (hts _ List.mem_cons_self)
  have hown : s.vm.findClass RL = some m.cls := findClass_of_methodNamed B.named
  have hlocks := B.notSynchronized
  subst hsz
  have hD := hD0.self (sz := s.heap.size)
  generalize hAe : va_A [(h0, .inr (10, [.ref (ad 0), .int 0, .int (-1), .int (-1), .ref (ad 1), .ref (ad 2), .ref (ad 3), .ref (ad 4), .ref (ad 5), .ref (ad 6), .ref (ad 7), .ref (ad 8)])), (ad 8, .inr (4, [.ref (ad 78), .ref (ad 79), .ref (ad 80), .int 0, .int 0, .int 0, .int 0, .int 1, .int 0, .int 0, .ref (ad 81), .int 0, .int 0, .int 0])), (ad 7, .inr (1, [.int 0, .int 0, .ref (ad 76), .int 0, .ref (ad 77), .int 0, .int 0])), (ad 5, .inl (dA 4, 3, .inr (.inr (.inr (.inr (gM (ad 29) (ad 30) (ad 31))))))), (ad 29, .inr (6, [.int 0, .int 0, .ref (ad 32), .ref (ad 33), .ref (ad 34), .ref (ad 35), .ref (ad 36), .int 0, .ref (ad 37), .ref (ad 38), .ref (ad 39), .ref (ad 40), .ref (ad 41), .int 0, .ref (ad 42), .ref (ad 43), .ref (ad 44)])), (ad 30, .inr (6, [.int 0, .int 0, .ref (ad 45), .ref (ad 46), .ref (ad 47), .ref (ad 48), .ref (ad 49), .int 0, .ref (ad 50), .ref (ad 51), .ref (ad 52), .ref (ad 53), .ref (ad 54), .int 0, .ref (ad 55), .ref (ad 56), .ref (ad 57)])), (ad 31, .inr (6, [.int 0, .int 0, .ref (ad 58), .ref (ad 59), .ref (ad 60), .ref (ad 61), .ref (ad 62), .int 0, .ref (ad 63), .ref (ad 64), .ref (ad 65), .ref (ad 66), .ref (ad 67), .int 0, .ref (ad 68), .ref (ad 69), .ref (ad 70)])), (o, .inl (dA 1, 1, .inr (.inl g0)))] s.heap.size = A at hZ hD ⊢
  have hA : ∀ q : Nat, s.heap.size ≤ q → A q := fun q h => by rw [← hAe]; exact Or.inr h
  have hS : va_S A s.heap s.heap [] := va_S.rf
  have hP : va_P D vwC [(h0, .inr (10, [.ref (ad 0), .int 0, .int (-1), .int (-1), .ref (ad 1), .ref (ad 2), .ref (ad 3), .ref (ad 4), .ref (ad 5), .ref (ad 6), .ref (ad 7), .ref (ad 8)])), (ad 8, .inr (4, [.ref (ad 78), .ref (ad 79), .ref (ad 80), .int 0, .int 0, .int 0, .int 0, .int 1, .int 0, .int 0, .ref (ad 81), .int 0, .int 0, .int 0])), (ad 7, .inr (1, [.int 0, .int 0, .ref (ad 76), .int 0, .ref (ad 77), .int 0, .int 0])), (ad 5, .inl (dA 4, 3, .inr (.inr (.inr (.inr (gM (ad 29) (ad 30) (ad 31))))))), (ad 29, .inr (6, [.int 0, .int 0, .ref (ad 32), .ref (ad 33), .ref (ad 34), .ref (ad 35), .ref (ad 36), .int 0, .ref (ad 37), .ref (ad 38), .ref (ad 39), .ref (ad 40), .ref (ad 41), .int 0, .ref (ad 42), .ref (ad 43), .ref (ad 44)])), (ad 30, .inr (6, [.int 0, .int 0, .ref (ad 45), .ref (ad 46), .ref (ad 47), .ref (ad 48), .ref (ad 49), .int 0, .ref (ad 50), .ref (ad 51), .ref (ad 52), .ref (ad 53), .ref (ad 54), .int 0, .ref (ad 55), .ref (ad 56), .ref (ad 57)])), (ad 31, .inr (6, [.int 0, .int 0, .ref (ad 58), .ref (ad 59), .ref (ad 60), .ref (ad 61), .ref (ad 62), .int 0, .ref (ad 63), .ref (ad 64), .ref (ad 65), .ref (ad 66), .ref (ad 67), .int 0, .ref (ad 68), .ref (ad 69), .ref (ad 70)])), (o, .inl (dA 1, 1, .inr (.inl g0)))] s.heap := hP
  have hl := lv_entry ([.ref h0, .int x, .ref o]) (n := 4) (Nat.le_of_ble_eq_true rfl)
  rw [lg_entry_eq]
  generalize (lg_sl ([.ref h0, .int x, .ref o]) ++ List.replicate (4 - (lg_sl ([.ref h0, .int x, .ref o])).length) Slot.unset).toArray = ls at hl ⊢
  have hl : lv_has ls 4 [(0, .ref h0), (1, .int x), (2, .ref o)] := hl
  refine lv_aload_n hx hb dL_count_0 rfl (lv_at hl 2 rfl) ?_
  refine lv_iconst (v := 0) hx hb dL_count_1 (by decide) ?_
  refine lv_aload_n hx hb dL_count_2 rfl (lv_at hl 0 rfl) ?_
  refine lv_iload_n hx hb dL_count_3 rfl (lv_at hl 1 rfl) ?_
  refine g_Vx (n := 1) (As := [.int x]) (rest := [.int 0, .ref o]) (wr := [(o, .inl (dA 1, 1, .inr (.inl g0)))]) hx hb hml hg hown hZ hK hP hD hS hA (c_X10_count l htr D dA h0 ad x _) [0, 1, 2, 3, 4, 5, 6] [7] rfl (by decide) rfl (by decide) (by decide) 0 rfl rfl q1559 q149 q1556 q1557 q1558 (by decide +kernel) ⟨(Nat.le_of_ble_eq_true rfl), (Nat.le_of_ble_eq_true rfl)⟩ rfl hl.1 rfl (Nat.le_of_ble_eq_true rfl) dL_count_4 ⟨(Nat.le_of_ble_eq_true rfl), (Nat.le_of_ble_eq_true rfl)⟩ (fun E ce q9 H locs hpx hP hD hS hce hcv hcl => ?_) (fun r H locs hpo hP hD hS => ?_)
  · refine vx_widen (k := 1) (n := 6) (Nat.le_of_ble_eq_true rfl) (Nat.le_of_ble_eq_true rfl) ?_
    obtain ⟨rfl, hq⟩ := hpx
    refine vx_catch (own := RL) (name := xIAE) hown [] ⟨0, 9, 12, 13⟩ [] (htab.trans rfl) (fun z hz => by cases hz) rfl (by decide) (hg _ q646) (hg _ q733) hce hcv hcl ?_
    refine lv_astore_n (lv' := [(3, .ref q9), (0, .ref h0), (1, .int x), (2, .ref o)]) hx hb dL_count_12 rfl hl (by decide) rfl (fun ls hl => ?_)
    refine lv_iconst (v := 1) hx hb dL_count_13 (by decide) ?_
    exact g_iret hx hb hr rfl hlocks hK g0 hP hD hS (Or.inr ⟨rfl, hq⟩) (Nat.le_of_ble_eq_true rfl) (Nat.le_of_ble_eq_true rfl) dL_count_14
  · refine W.widen (k := 1) (n := 6) (Nat.le_of_ble_eq_true rfl) (Nat.le_of_ble_eq_true rfl) ?_
    refine lv_i2l (v := r.toInt64) hx hb dL_count_7 rfl ?_
    refine va_last hx hb hK hP hD hS 0 1 rfl rfl (by unfold vp_in; decide) dL_count_8 (fun H locs hP hD hS => ?_)
    have hP : va_P D vwC [(o, .inl (dA 1, 1, .inr (.inl (vp_updL g0 (0 : Int32).toNatClampNeg r.toInt64))))] H := hP
    have hD : va_D A [(o, .inl (dA 1, 1, .inr (.inl (vp_updL g0 (0 : Int32).toNatClampNeg r.toInt64))))] := hD
    refine lv_goto (tgt := 15) hx hb dL_count_9 (by decide) ?_
    refine lv_iconst (v := 0) hx hb dL_count_15 (by decide) ?_
    exact g_iret hx hb hr rfl hlocks hK (vp_updL g0 (0 : Int32).toNatClampNeg r.toInt64) hP hD hS (Or.inl ⟨rfl, r, g_o0 _ _, hpo⟩) (Nat.le_of_ble_eq_true rfl) (Nat.le_of_ble_eq_true rfl) dL_count_16
set_option maxHeartbeats 4000000 in
set_option maxRecDepth 100000 in
theorem w_assemble (l : Launch) (htr : l.stackTraces = false) (D : va_G) (dA : Nat → ClassId) (h0 : Nat) (ad : Nat → Nat) (o : Nat) (g0 : Nat → Int64) (x : Int32) (sz : Nat) : Met l yL_assemble (gwsW yL_assemble cL_assemble 4 (some .int) [(0, 9, 12, 13), (0, 9, 15, 21), (0, 9, 18, 23), (0, 9, 21, 15), (0, 9, 24, 25)]) (gR 10 1 6) (gPreW D dA [.ref h0, .int x, .ref o] [(h0, .inr (10, [.ref (ad 0), .int 0, .int (-1), .int (-1), .ref (ad 1), .ref (ad 2), .ref (ad 3), .ref (ad 4), .ref (ad 5), .ref (ad 6), .ref (ad 7), .ref (ad 8)])), (ad 2, .inr (9, [.ref (ad 14), .ref (ad 15), .ref (ad 16), .int 0, .ref (ad 1)])), (ad 1, .inr (5, [.ref (ad 9), .ref (ad 10), .ref (ad 11), .ref (ad 12), .ref (ad 13), .int 0, .int (-1)])), (ad 14, .inl (dA 0, 481, .inl (fun _ => 0))), (ad 15, .inl (dA 0, 481, .inl (fun _ => 0))), (ad 16, .inl (dA 0, 481, .inl (fun _ => 0))), (ad 3, .inr (8, [.ref (ad 2), .ref (ad 17), .ref (ad 18), .ref (ad 19), .int 0, .int 0])), (ad 17, .inr (0, [.ref (ad 20), .ref (ad 21), .ref (ad 22), .ref (ad 23), .ref (ad 24), .ref (ad 25), .ref (ad 26), .int 0])), (ad 4, .inr (2, [.ref (ad 17), .ref (ad 1), .ref (ad 27), .ref (ad 28), .int 0, .int (-1)])), (ad 28, .inl (dA 0, 60, .inl (fun _ => 0))), (ad 5, .inl (dA 4, 3, .inr (.inr (.inr (.inr (gM (ad 29) (ad 30) (ad 31))))))), (ad 29, .inr (6, [.int 0, .int 0, .ref (ad 32), .ref (ad 33), .ref (ad 34), .ref (ad 35), .ref (ad 36), .int 0, .ref (ad 37), .ref (ad 38), .ref (ad 39), .ref (ad 40), .ref (ad 41), .int 0, .ref (ad 42), .ref (ad 43), .ref (ad 44)])), (ad 30, .inr (6, [.int 0, .int 0, .ref (ad 45), .ref (ad 46), .ref (ad 47), .ref (ad 48), .ref (ad 49), .int 0, .ref (ad 50), .ref (ad 51), .ref (ad 52), .ref (ad 53), .ref (ad 54), .int 0, .ref (ad 55), .ref (ad 56), .ref (ad 57)])), (ad 31, .inr (6, [.int 0, .int 0, .ref (ad 58), .ref (ad 59), .ref (ad 60), .ref (ad 61), .ref (ad 62), .int 0, .ref (ad 63), .ref (ad 64), .ref (ad 65), .ref (ad 66), .ref (ad 67), .int 0, .ref (ad 68), .ref (ad 69), .ref (ad 70)])), (ad 36, .inl (dA 0, 400, .inl (fun _ => 0))), (ad 49, .inl (dA 0, 400, .inl (fun _ => 0))), (ad 62, .inl (dA 0, 400, .inl (fun _ => 0))), (o, .inl (dA 1, 1, .inr (.inl g0)))] sz) (va_Qi (fun (k : Int32) (g : Nat → Int64) => (k = 0 ∧ ∃ r : Int32, g 0 = r.toInt64 ∧ (r = 0 ∧ gIn 0 2 x)) ∨ (k = 1 ∧ ¬ gIn 0 2 x)) (gAt D dA (va_A [(h0, .inr (10, [.ref (ad 0), .int 0, .int (-1), .int (-1), .ref (ad 1), .ref (ad 2), .ref (ad 3), .ref (ad 4), .ref (ad 5), .ref (ad 6), .ref (ad 7), .ref (ad 8)])), (ad 2, .inr (9, [.ref (ad 14), .ref (ad 15), .ref (ad 16), .int 0, .ref (ad 1)])), (ad 1, .inr (5, [.ref (ad 9), .ref (ad 10), .ref (ad 11), .ref (ad 12), .ref (ad 13), .int 0, .int (-1)])), (ad 14, .inl (dA 0, 481, .inl (fun _ => 0))), (ad 15, .inl (dA 0, 481, .inl (fun _ => 0))), (ad 16, .inl (dA 0, 481, .inl (fun _ => 0))), (ad 3, .inr (8, [.ref (ad 2), .ref (ad 17), .ref (ad 18), .ref (ad 19), .int 0, .int 0])), (ad 17, .inr (0, [.ref (ad 20), .ref (ad 21), .ref (ad 22), .ref (ad 23), .ref (ad 24), .ref (ad 25), .ref (ad 26), .int 0])), (ad 4, .inr (2, [.ref (ad 17), .ref (ad 1), .ref (ad 27), .ref (ad 28), .int 0, .int (-1)])), (ad 28, .inl (dA 0, 60, .inl (fun _ => 0))), (ad 5, .inl (dA 4, 3, .inr (.inr (.inr (.inr (gM (ad 29) (ad 30) (ad 31))))))), (ad 29, .inr (6, [.int 0, .int 0, .ref (ad 32), .ref (ad 33), .ref (ad 34), .ref (ad 35), .ref (ad 36), .int 0, .ref (ad 37), .ref (ad 38), .ref (ad 39), .ref (ad 40), .ref (ad 41), .int 0, .ref (ad 42), .ref (ad 43), .ref (ad 44)])), (ad 30, .inr (6, [.int 0, .int 0, .ref (ad 45), .ref (ad 46), .ref (ad 47), .ref (ad 48), .ref (ad 49), .int 0, .ref (ad 50), .ref (ad 51), .ref (ad 52), .ref (ad 53), .ref (ad 54), .int 0, .ref (ad 55), .ref (ad 56), .ref (ad 57)])), (ad 31, .inr (6, [.int 0, .int 0, .ref (ad 58), .ref (ad 59), .ref (ad 60), .ref (ad 61), .ref (ad 62), .int 0, .ref (ad 63), .ref (ad 64), .ref (ad 65), .ref (ad 66), .ref (ad 67), .int 0, .ref (ad 68), .ref (ad 69), .ref (ad 70)])), (ad 36, .inl (dA 0, 400, .inl (fun _ => 0))), (ad 49, .inl (dA 0, 400, .inl (fun _ => 0))), (ad 62, .inl (dA 0, 400, .inl (fun _ => 0))), (o, .inl (dA 1, 1, .inr (.inl g0)))] sz) (fun g : Nat → Int64 => [(o, .inl (dA 1, 1, .inr (.inl g)))])) (va_A [(h0, .inr (10, [.ref (ad 0), .int 0, .int (-1), .int (-1), .ref (ad 1), .ref (ad 2), .ref (ad 3), .ref (ad 4), .ref (ad 5), .ref (ad 6), .ref (ad 7), .ref (ad 8)])), (ad 2, .inr (9, [.ref (ad 14), .ref (ad 15), .ref (ad 16), .int 0, .ref (ad 1)])), (ad 1, .inr (5, [.ref (ad 9), .ref (ad 10), .ref (ad 11), .ref (ad 12), .ref (ad 13), .int 0, .int (-1)])), (ad 14, .inl (dA 0, 481, .inl (fun _ => 0))), (ad 15, .inl (dA 0, 481, .inl (fun _ => 0))), (ad 16, .inl (dA 0, 481, .inl (fun _ => 0))), (ad 3, .inr (8, [.ref (ad 2), .ref (ad 17), .ref (ad 18), .ref (ad 19), .int 0, .int 0])), (ad 17, .inr (0, [.ref (ad 20), .ref (ad 21), .ref (ad 22), .ref (ad 23), .ref (ad 24), .ref (ad 25), .ref (ad 26), .int 0])), (ad 4, .inr (2, [.ref (ad 17), .ref (ad 1), .ref (ad 27), .ref (ad 28), .int 0, .int (-1)])), (ad 28, .inl (dA 0, 60, .inl (fun _ => 0))), (ad 5, .inl (dA 4, 3, .inr (.inr (.inr (.inr (gM (ad 29) (ad 30) (ad 31))))))), (ad 29, .inr (6, [.int 0, .int 0, .ref (ad 32), .ref (ad 33), .ref (ad 34), .ref (ad 35), .ref (ad 36), .int 0, .ref (ad 37), .ref (ad 38), .ref (ad 39), .ref (ad 40), .ref (ad 41), .int 0, .ref (ad 42), .ref (ad 43), .ref (ad 44)])), (ad 30, .inr (6, [.int 0, .int 0, .ref (ad 45), .ref (ad 46), .ref (ad 47), .ref (ad 48), .ref (ad 49), .int 0, .ref (ad 50), .ref (ad 51), .ref (ad 52), .ref (ad 53), .ref (ad 54), .int 0, .ref (ad 55), .ref (ad 56), .ref (ad 57)])), (ad 31, .inr (6, [.int 0, .int 0, .ref (ad 58), .ref (ad 59), .ref (ad 60), .ref (ad 61), .ref (ad 62), .int 0, .ref (ad 63), .ref (ad 64), .ref (ad 65), .ref (ad 66), .ref (ad 67), .int 0, .ref (ad 68), .ref (ad 69), .ref (ad 70)])), (ad 36, .inl (dA 0, 400, .inl (fun _ => 0))), (ad 49, .inl (dA 0, 400, .inl (fun _ => 0))), (ad 62, .inl (dA 0, 400, .inl (fun _ => 0))), (o, .inl (dA 1, 1, .inr (.inl g0)))] sz)) 1 6 (va_A [(h0, .inr (10, [.ref (ad 0), .int 0, .int (-1), .int (-1), .ref (ad 1), .ref (ad 2), .ref (ad 3), .ref (ad 4), .ref (ad 5), .ref (ad 6), .ref (ad 7), .ref (ad 8)])), (ad 2, .inr (9, [.ref (ad 14), .ref (ad 15), .ref (ad 16), .int 0, .ref (ad 1)])), (ad 1, .inr (5, [.ref (ad 9), .ref (ad 10), .ref (ad 11), .ref (ad 12), .ref (ad 13), .int 0, .int (-1)])), (ad 14, .inl (dA 0, 481, .inl (fun _ => 0))), (ad 15, .inl (dA 0, 481, .inl (fun _ => 0))), (ad 16, .inl (dA 0, 481, .inl (fun _ => 0))), (ad 3, .inr (8, [.ref (ad 2), .ref (ad 17), .ref (ad 18), .ref (ad 19), .int 0, .int 0])), (ad 17, .inr (0, [.ref (ad 20), .ref (ad 21), .ref (ad 22), .ref (ad 23), .ref (ad 24), .ref (ad 25), .ref (ad 26), .int 0])), (ad 4, .inr (2, [.ref (ad 17), .ref (ad 1), .ref (ad 27), .ref (ad 28), .int 0, .int (-1)])), (ad 28, .inl (dA 0, 60, .inl (fun _ => 0))), (ad 5, .inl (dA 4, 3, .inr (.inr (.inr (.inr (gM (ad 29) (ad 30) (ad 31))))))), (ad 29, .inr (6, [.int 0, .int 0, .ref (ad 32), .ref (ad 33), .ref (ad 34), .ref (ad 35), .ref (ad 36), .int 0, .ref (ad 37), .ref (ad 38), .ref (ad 39), .ref (ad 40), .ref (ad 41), .int 0, .ref (ad 42), .ref (ad 43), .ref (ad 44)])), (ad 30, .inr (6, [.int 0, .int 0, .ref (ad 45), .ref (ad 46), .ref (ad 47), .ref (ad 48), .ref (ad 49), .int 0, .ref (ad 50), .ref (ad 51), .ref (ad 52), .ref (ad 53), .ref (ad 54), .int 0, .ref (ad 55), .ref (ad 56), .ref (ad 57)])), (ad 31, .inr (6, [.int 0, .int 0, .ref (ad 58), .ref (ad 59), .ref (ad 60), .ref (ad 61), .ref (ad 62), .int 0, .ref (ad 63), .ref (ad 64), .ref (ad 65), .ref (ad 66), .ref (ad 67), .int 0, .ref (ad 68), .ref (ad 69), .ref (ad 70)])), (ad 36, .inl (dA 0, 400, .inl (fun _ => 0))), (ad 49, .inl (dA 0, 400, .inl (fun _ => 0))), (ad 62, .inl (dA 0, 400, .inl (fun _ => 0))), (o, .inl (dA 1, 1, .inr (.inl g0)))] sz) := by
  refine va_MetW (cc := cL_assemble) (maxL := 4) (ret := (some .int)) (hh := [(0, 9, 12, 13), (0, 9, 15, 21), (0, 9, 18, 23), (0, 9, 21, 15), (0, 9, 24, 25)]) (by decide) rfl ?_
  intro p e s m args below meth c s₁ B hml hv
  obtain ⟨rfl, hsz, hP, hK, hD0, hZ, hN⟩ := hv
  have hx := B.exec
  have hb := B.bytes
  have hr := B.returns
  have hts := atoms_spec (ws := gwsW yL_assemble cL_assemble 4 (some .int) [(0, 9, 12, 13), (0, 9, 15, 21), (0, 9, 18, 23), (0, 9, 21, 15), (0, 9, 24, 25)]) B.pre
  have hg : ∀ w ∈ gw, w.before _ s = true := fun w h => hts w (List.mem_cons_of_mem _ h)
  have htab := vx_table (x := yL_assemble) B (hts _ List.mem_cons_self)
  have hown : s.vm.findClass RL = some m.cls := findClass_of_methodNamed B.named
  have hlocks := B.notSynchronized
  subst hsz
  have hD := hD0.self (sz := s.heap.size)
  generalize hAe : va_A [(h0, .inr (10, [.ref (ad 0), .int 0, .int (-1), .int (-1), .ref (ad 1), .ref (ad 2), .ref (ad 3), .ref (ad 4), .ref (ad 5), .ref (ad 6), .ref (ad 7), .ref (ad 8)])), (ad 2, .inr (9, [.ref (ad 14), .ref (ad 15), .ref (ad 16), .int 0, .ref (ad 1)])), (ad 1, .inr (5, [.ref (ad 9), .ref (ad 10), .ref (ad 11), .ref (ad 12), .ref (ad 13), .int 0, .int (-1)])), (ad 14, .inl (dA 0, 481, .inl (fun _ => 0))), (ad 15, .inl (dA 0, 481, .inl (fun _ => 0))), (ad 16, .inl (dA 0, 481, .inl (fun _ => 0))), (ad 3, .inr (8, [.ref (ad 2), .ref (ad 17), .ref (ad 18), .ref (ad 19), .int 0, .int 0])), (ad 17, .inr (0, [.ref (ad 20), .ref (ad 21), .ref (ad 22), .ref (ad 23), .ref (ad 24), .ref (ad 25), .ref (ad 26), .int 0])), (ad 4, .inr (2, [.ref (ad 17), .ref (ad 1), .ref (ad 27), .ref (ad 28), .int 0, .int (-1)])), (ad 28, .inl (dA 0, 60, .inl (fun _ => 0))), (ad 5, .inl (dA 4, 3, .inr (.inr (.inr (.inr (gM (ad 29) (ad 30) (ad 31))))))), (ad 29, .inr (6, [.int 0, .int 0, .ref (ad 32), .ref (ad 33), .ref (ad 34), .ref (ad 35), .ref (ad 36), .int 0, .ref (ad 37), .ref (ad 38), .ref (ad 39), .ref (ad 40), .ref (ad 41), .int 0, .ref (ad 42), .ref (ad 43), .ref (ad 44)])), (ad 30, .inr (6, [.int 0, .int 0, .ref (ad 45), .ref (ad 46), .ref (ad 47), .ref (ad 48), .ref (ad 49), .int 0, .ref (ad 50), .ref (ad 51), .ref (ad 52), .ref (ad 53), .ref (ad 54), .int 0, .ref (ad 55), .ref (ad 56), .ref (ad 57)])), (ad 31, .inr (6, [.int 0, .int 0, .ref (ad 58), .ref (ad 59), .ref (ad 60), .ref (ad 61), .ref (ad 62), .int 0, .ref (ad 63), .ref (ad 64), .ref (ad 65), .ref (ad 66), .ref (ad 67), .int 0, .ref (ad 68), .ref (ad 69), .ref (ad 70)])), (ad 36, .inl (dA 0, 400, .inl (fun _ => 0))), (ad 49, .inl (dA 0, 400, .inl (fun _ => 0))), (ad 62, .inl (dA 0, 400, .inl (fun _ => 0))), (o, .inl (dA 1, 1, .inr (.inl g0)))] s.heap.size = A at hZ hD ⊢
  have hA : ∀ q : Nat, s.heap.size ≤ q → A q := fun q h => by rw [← hAe]; exact Or.inr h
  have hS : va_S A s.heap s.heap [] := va_S.rf
  have hP : va_P D vwC [(h0, .inr (10, [.ref (ad 0), .int 0, .int (-1), .int (-1), .ref (ad 1), .ref (ad 2), .ref (ad 3), .ref (ad 4), .ref (ad 5), .ref (ad 6), .ref (ad 7), .ref (ad 8)])), (ad 2, .inr (9, [.ref (ad 14), .ref (ad 15), .ref (ad 16), .int 0, .ref (ad 1)])), (ad 1, .inr (5, [.ref (ad 9), .ref (ad 10), .ref (ad 11), .ref (ad 12), .ref (ad 13), .int 0, .int (-1)])), (ad 14, .inl (dA 0, 481, .inl (fun _ => 0))), (ad 15, .inl (dA 0, 481, .inl (fun _ => 0))), (ad 16, .inl (dA 0, 481, .inl (fun _ => 0))), (ad 3, .inr (8, [.ref (ad 2), .ref (ad 17), .ref (ad 18), .ref (ad 19), .int 0, .int 0])), (ad 17, .inr (0, [.ref (ad 20), .ref (ad 21), .ref (ad 22), .ref (ad 23), .ref (ad 24), .ref (ad 25), .ref (ad 26), .int 0])), (ad 4, .inr (2, [.ref (ad 17), .ref (ad 1), .ref (ad 27), .ref (ad 28), .int 0, .int (-1)])), (ad 28, .inl (dA 0, 60, .inl (fun _ => 0))), (ad 5, .inl (dA 4, 3, .inr (.inr (.inr (.inr (gM (ad 29) (ad 30) (ad 31))))))), (ad 29, .inr (6, [.int 0, .int 0, .ref (ad 32), .ref (ad 33), .ref (ad 34), .ref (ad 35), .ref (ad 36), .int 0, .ref (ad 37), .ref (ad 38), .ref (ad 39), .ref (ad 40), .ref (ad 41), .int 0, .ref (ad 42), .ref (ad 43), .ref (ad 44)])), (ad 30, .inr (6, [.int 0, .int 0, .ref (ad 45), .ref (ad 46), .ref (ad 47), .ref (ad 48), .ref (ad 49), .int 0, .ref (ad 50), .ref (ad 51), .ref (ad 52), .ref (ad 53), .ref (ad 54), .int 0, .ref (ad 55), .ref (ad 56), .ref (ad 57)])), (ad 31, .inr (6, [.int 0, .int 0, .ref (ad 58), .ref (ad 59), .ref (ad 60), .ref (ad 61), .ref (ad 62), .int 0, .ref (ad 63), .ref (ad 64), .ref (ad 65), .ref (ad 66), .ref (ad 67), .int 0, .ref (ad 68), .ref (ad 69), .ref (ad 70)])), (ad 36, .inl (dA 0, 400, .inl (fun _ => 0))), (ad 49, .inl (dA 0, 400, .inl (fun _ => 0))), (ad 62, .inl (dA 0, 400, .inl (fun _ => 0))), (o, .inl (dA 1, 1, .inr (.inl g0)))] s.heap := hP
  have hl := lv_entry ([.ref h0, .int x, .ref o]) (n := 4) (Nat.le_of_ble_eq_true rfl)
  rw [lg_entry_eq]
  generalize (lg_sl ([.ref h0, .int x, .ref o]) ++ List.replicate (4 - (lg_sl ([.ref h0, .int x, .ref o])).length) Slot.unset).toArray = ls at hl ⊢
  have hl : lv_has ls 4 [(0, .ref h0), (1, .int x), (2, .ref o)] := hl
  refine lv_aload_n hx hb dL_assemble_0 rfl (lv_at hl 2 rfl) ?_
  refine lv_iconst (v := 0) hx hb dL_assemble_1 (by decide) ?_
  refine lv_aload_n hx hb dL_assemble_2 rfl (lv_at hl 0 rfl) ?_
  refine lv_iload_n hx hb dL_assemble_3 rfl (lv_at hl 1 rfl) ?_
  refine g_Vx (n := 1) (As := [.int x]) (rest := [.int 0, .ref o]) (wr := [(o, .inl (dA 1, 1, .inr (.inl g0)))]) hx hb hml hg hown hZ hK hP hD hS hA (c_X10_assemble l htr D dA h0 ad x _) [0, 1, 2, 3, 4, 5, 6, 7, 8, 9, 10, 11, 12, 13, 14, 15, 16] [17] rfl (by decide) rfl (by decide) (by decide) 0 rfl rfl q786 q149 q783 q784 q785 (by decide +kernel) ⟨(Nat.le_of_ble_eq_true rfl), (Nat.le_of_ble_eq_true rfl)⟩ rfl hl.1 rfl (Nat.le_of_ble_eq_true rfl) dL_assemble_4 ⟨(Nat.le_of_ble_eq_true rfl), (Nat.le_of_ble_eq_true rfl)⟩ (fun E ce q9 H locs hpx hP hD hS hce hcv hcl => ?_) (fun r H locs hpo hP hD hS => ?_)
  · refine vx_widen (k := 1) (n := 6) (Nat.le_of_ble_eq_true rfl) (Nat.le_of_ble_eq_true rfl) ?_
    obtain ⟨rfl, hq⟩ := hpx
    refine vx_catch (own := RL) (name := xIAE) hown [] ⟨0, 9, 12, 13⟩ [⟨0, 9, 15, 21⟩, ⟨0, 9, 18, 23⟩, ⟨0, 9, 21, 15⟩, ⟨0, 9, 24, 25⟩] (htab.trans rfl) (fun z hz => by cases hz) rfl (by decide) (hg _ q646) (hg _ q733) hce hcv hcl ?_
    refine lv_astore_n (lv' := [(3, .ref q9), (0, .ref h0), (1, .int x), (2, .ref o)]) hx hb dL_assemble_12 rfl hl (by decide) rfl (fun ls hl => ?_)
    refine lv_iconst (v := 1) hx hb dL_assemble_13 (by decide) ?_
    exact g_iret hx hb hr rfl hlocks hK g0 hP hD hS (Or.inr ⟨rfl, hq⟩) (Nat.le_of_ble_eq_true rfl) (Nat.le_of_ble_eq_true rfl) dL_assemble_14
  · refine W.widen (k := 1) (n := 6) (Nat.le_of_ble_eq_true rfl) (Nat.le_of_ble_eq_true rfl) ?_
    refine lv_i2l (v := r.toInt64) hx hb dL_assemble_7 rfl ?_
    refine va_last hx hb hK hP hD hS 0 1 rfl rfl (by unfold vp_in; decide) dL_assemble_8 (fun H locs hP hD hS => ?_)
    have hP : va_P D vwC [(o, .inl (dA 1, 1, .inr (.inl (vp_updL g0 (0 : Int32).toNatClampNeg r.toInt64))))] H := hP
    have hD : va_D A [(o, .inl (dA 1, 1, .inr (.inl (vp_updL g0 (0 : Int32).toNatClampNeg r.toInt64))))] := hD
    refine lv_goto (tgt := 27) hx hb dL_assemble_9 (by decide) ?_
    refine lv_iconst (v := 0) hx hb dL_assemble_27 (by decide) ?_
    exact g_iret hx hb hr rfl hlocks hK (vp_updL g0 (0 : Int32).toNatClampNeg r.toInt64) hP hD hS (Or.inl ⟨rfl, r, g_o0 _ _, hpo⟩) (Nat.le_of_ble_eq_true rfl) (Nat.le_of_ble_eq_true rfl) dL_assemble_28
set_option maxHeartbeats 4000000 in
set_option maxRecDepth 100000 in
theorem w_drop (l : Launch) (htr : l.stackTraces = false) (D : va_G) (dA : Nat → ClassId) (h0 : Nat) (ad : Nat → Nat) (o : Nat) (g0 : Nat → Int64) (x : Int32) (sz : Nat) : Met l yL_drop (gwsW yL_drop cL_drop 4 (some .int) [(0, 16, 19, 13)]) (gR 9 1 6) (gPreW D dA [.ref h0, .int x, .ref o] [(h0, .inr (10, [.ref (ad 0), .int 0, .int (-1), .int (-1), .ref (ad 1), .ref (ad 2), .ref (ad 3), .ref (ad 4), .ref (ad 5), .ref (ad 6), .ref (ad 7), .ref (ad 8)])), (ad 5, .inl (dA 4, 3, .inr (.inr (.inr (.inr (gM (ad 29) (ad 30) (ad 31))))))), (ad 29, .inr (6, [.int 0, .int 0, .ref (ad 32), .ref (ad 33), .ref (ad 34), .ref (ad 35), .ref (ad 36), .int 0, .ref (ad 37), .ref (ad 38), .ref (ad 39), .ref (ad 40), .ref (ad 41), .int 0, .ref (ad 42), .ref (ad 43), .ref (ad 44)])), (ad 30, .inr (6, [.int 0, .int 0, .ref (ad 45), .ref (ad 46), .ref (ad 47), .ref (ad 48), .ref (ad 49), .int 0, .ref (ad 50), .ref (ad 51), .ref (ad 52), .ref (ad 53), .ref (ad 54), .int 0, .ref (ad 55), .ref (ad 56), .ref (ad 57)])), (ad 31, .inr (6, [.int 0, .int 0, .ref (ad 58), .ref (ad 59), .ref (ad 60), .ref (ad 61), .ref (ad 62), .int 0, .ref (ad 63), .ref (ad 64), .ref (ad 65), .ref (ad 66), .ref (ad 67), .int 0, .ref (ad 68), .ref (ad 69), .ref (ad 70)])), (ad 36, .inl (dA 0, 400, .inl (fun _ => 0))), (ad 49, .inl (dA 0, 400, .inl (fun _ => 0))), (ad 62, .inl (dA 0, 400, .inl (fun _ => 0))), (o, .inl (dA 1, 1, .inr (.inl g0)))] sz) (va_Qi (fun (k : Int32) (g : Nat → Int64) => (k = 0 ∧ ∃ r : Int32, g 0 = r.toInt64 ∧ (r = 0 ∧ gIn 0 2 x)) ∨ (k = 1 ∧ ¬ gIn 0 2 x)) (gAt D dA (va_A [(h0, .inr (10, [.ref (ad 0), .int 0, .int (-1), .int (-1), .ref (ad 1), .ref (ad 2), .ref (ad 3), .ref (ad 4), .ref (ad 5), .ref (ad 6), .ref (ad 7), .ref (ad 8)])), (ad 5, .inl (dA 4, 3, .inr (.inr (.inr (.inr (gM (ad 29) (ad 30) (ad 31))))))), (ad 29, .inr (6, [.int 0, .int 0, .ref (ad 32), .ref (ad 33), .ref (ad 34), .ref (ad 35), .ref (ad 36), .int 0, .ref (ad 37), .ref (ad 38), .ref (ad 39), .ref (ad 40), .ref (ad 41), .int 0, .ref (ad 42), .ref (ad 43), .ref (ad 44)])), (ad 30, .inr (6, [.int 0, .int 0, .ref (ad 45), .ref (ad 46), .ref (ad 47), .ref (ad 48), .ref (ad 49), .int 0, .ref (ad 50), .ref (ad 51), .ref (ad 52), .ref (ad 53), .ref (ad 54), .int 0, .ref (ad 55), .ref (ad 56), .ref (ad 57)])), (ad 31, .inr (6, [.int 0, .int 0, .ref (ad 58), .ref (ad 59), .ref (ad 60), .ref (ad 61), .ref (ad 62), .int 0, .ref (ad 63), .ref (ad 64), .ref (ad 65), .ref (ad 66), .ref (ad 67), .int 0, .ref (ad 68), .ref (ad 69), .ref (ad 70)])), (ad 36, .inl (dA 0, 400, .inl (fun _ => 0))), (ad 49, .inl (dA 0, 400, .inl (fun _ => 0))), (ad 62, .inl (dA 0, 400, .inl (fun _ => 0))), (o, .inl (dA 1, 1, .inr (.inl g0)))] sz) (fun g : Nat → Int64 => [(o, .inl (dA 1, 1, .inr (.inl g)))])) (va_A [(h0, .inr (10, [.ref (ad 0), .int 0, .int (-1), .int (-1), .ref (ad 1), .ref (ad 2), .ref (ad 3), .ref (ad 4), .ref (ad 5), .ref (ad 6), .ref (ad 7), .ref (ad 8)])), (ad 5, .inl (dA 4, 3, .inr (.inr (.inr (.inr (gM (ad 29) (ad 30) (ad 31))))))), (ad 29, .inr (6, [.int 0, .int 0, .ref (ad 32), .ref (ad 33), .ref (ad 34), .ref (ad 35), .ref (ad 36), .int 0, .ref (ad 37), .ref (ad 38), .ref (ad 39), .ref (ad 40), .ref (ad 41), .int 0, .ref (ad 42), .ref (ad 43), .ref (ad 44)])), (ad 30, .inr (6, [.int 0, .int 0, .ref (ad 45), .ref (ad 46), .ref (ad 47), .ref (ad 48), .ref (ad 49), .int 0, .ref (ad 50), .ref (ad 51), .ref (ad 52), .ref (ad 53), .ref (ad 54), .int 0, .ref (ad 55), .ref (ad 56), .ref (ad 57)])), (ad 31, .inr (6, [.int 0, .int 0, .ref (ad 58), .ref (ad 59), .ref (ad 60), .ref (ad 61), .ref (ad 62), .int 0, .ref (ad 63), .ref (ad 64), .ref (ad 65), .ref (ad 66), .ref (ad 67), .int 0, .ref (ad 68), .ref (ad 69), .ref (ad 70)])), (ad 36, .inl (dA 0, 400, .inl (fun _ => 0))), (ad 49, .inl (dA 0, 400, .inl (fun _ => 0))), (ad 62, .inl (dA 0, 400, .inl (fun _ => 0))), (o, .inl (dA 1, 1, .inr (.inl g0)))] sz)) 1 6 (va_A [(h0, .inr (10, [.ref (ad 0), .int 0, .int (-1), .int (-1), .ref (ad 1), .ref (ad 2), .ref (ad 3), .ref (ad 4), .ref (ad 5), .ref (ad 6), .ref (ad 7), .ref (ad 8)])), (ad 5, .inl (dA 4, 3, .inr (.inr (.inr (.inr (gM (ad 29) (ad 30) (ad 31))))))), (ad 29, .inr (6, [.int 0, .int 0, .ref (ad 32), .ref (ad 33), .ref (ad 34), .ref (ad 35), .ref (ad 36), .int 0, .ref (ad 37), .ref (ad 38), .ref (ad 39), .ref (ad 40), .ref (ad 41), .int 0, .ref (ad 42), .ref (ad 43), .ref (ad 44)])), (ad 30, .inr (6, [.int 0, .int 0, .ref (ad 45), .ref (ad 46), .ref (ad 47), .ref (ad 48), .ref (ad 49), .int 0, .ref (ad 50), .ref (ad 51), .ref (ad 52), .ref (ad 53), .ref (ad 54), .int 0, .ref (ad 55), .ref (ad 56), .ref (ad 57)])), (ad 31, .inr (6, [.int 0, .int 0, .ref (ad 58), .ref (ad 59), .ref (ad 60), .ref (ad 61), .ref (ad 62), .int 0, .ref (ad 63), .ref (ad 64), .ref (ad 65), .ref (ad 66), .ref (ad 67), .int 0, .ref (ad 68), .ref (ad 69), .ref (ad 70)])), (ad 36, .inl (dA 0, 400, .inl (fun _ => 0))), (ad 49, .inl (dA 0, 400, .inl (fun _ => 0))), (ad 62, .inl (dA 0, 400, .inl (fun _ => 0))), (o, .inl (dA 1, 1, .inr (.inl g0)))] sz) := by
  refine va_MetW (cc := cL_drop) (maxL := 4) (ret := (some .int)) (hh := [(0, 16, 19, 13)]) (by decide) rfl ?_
  intro p e s m args below meth c s₁ B hml hv
  obtain ⟨rfl, hsz, hP, hK, hD0, hZ, hN⟩ := hv
  have hx := B.exec
  have hb := B.bytes
  have hr := B.returns
  have hts := atoms_spec (ws := gwsW yL_drop cL_drop 4 (some .int) [(0, 16, 19, 13)]) B.pre
  have hg : ∀ w ∈ gw, w.before _ s = true := fun w h => hts w (List.mem_cons_of_mem _ h)
  have htab := vx_table (x := yL_drop) B (hts _ List.mem_cons_self)
  have hown : s.vm.findClass RL = some m.cls := findClass_of_methodNamed B.named
  have hlocks := B.notSynchronized
  subst hsz
  have hD := hD0.self (sz := s.heap.size)
  generalize hAe : va_A [(h0, .inr (10, [.ref (ad 0), .int 0, .int (-1), .int (-1), .ref (ad 1), .ref (ad 2), .ref (ad 3), .ref (ad 4), .ref (ad 5), .ref (ad 6), .ref (ad 7), .ref (ad 8)])), (ad 5, .inl (dA 4, 3, .inr (.inr (.inr (.inr (gM (ad 29) (ad 30) (ad 31))))))), (ad 29, .inr (6, [.int 0, .int 0, .ref (ad 32), .ref (ad 33), .ref (ad 34), .ref (ad 35), .ref (ad 36), .int 0, .ref (ad 37), .ref (ad 38), .ref (ad 39), .ref (ad 40), .ref (ad 41), .int 0, .ref (ad 42), .ref (ad 43), .ref (ad 44)])), (ad 30, .inr (6, [.int 0, .int 0, .ref (ad 45), .ref (ad 46), .ref (ad 47), .ref (ad 48), .ref (ad 49), .int 0, .ref (ad 50), .ref (ad 51), .ref (ad 52), .ref (ad 53), .ref (ad 54), .int 0, .ref (ad 55), .ref (ad 56), .ref (ad 57)])), (ad 31, .inr (6, [.int 0, .int 0, .ref (ad 58), .ref (ad 59), .ref (ad 60), .ref (ad 61), .ref (ad 62), .int 0, .ref (ad 63), .ref (ad 64), .ref (ad 65), .ref (ad 66), .ref (ad 67), .int 0, .ref (ad 68), .ref (ad 69), .ref (ad 70)])), (ad 36, .inl (dA 0, 400, .inl (fun _ => 0))), (ad 49, .inl (dA 0, 400, .inl (fun _ => 0))), (ad 62, .inl (dA 0, 400, .inl (fun _ => 0))), (o, .inl (dA 1, 1, .inr (.inl g0)))] s.heap.size = A at hZ hD ⊢
  have hA : ∀ q : Nat, s.heap.size ≤ q → A q := fun q h => by rw [← hAe]; exact Or.inr h
  have hS : va_S A s.heap s.heap [] := va_S.rf
  have hP : va_P D vwC [(h0, .inr (10, [.ref (ad 0), .int 0, .int (-1), .int (-1), .ref (ad 1), .ref (ad 2), .ref (ad 3), .ref (ad 4), .ref (ad 5), .ref (ad 6), .ref (ad 7), .ref (ad 8)])), (ad 5, .inl (dA 4, 3, .inr (.inr (.inr (.inr (gM (ad 29) (ad 30) (ad 31))))))), (ad 29, .inr (6, [.int 0, .int 0, .ref (ad 32), .ref (ad 33), .ref (ad 34), .ref (ad 35), .ref (ad 36), .int 0, .ref (ad 37), .ref (ad 38), .ref (ad 39), .ref (ad 40), .ref (ad 41), .int 0, .ref (ad 42), .ref (ad 43), .ref (ad 44)])), (ad 30, .inr (6, [.int 0, .int 0, .ref (ad 45), .ref (ad 46), .ref (ad 47), .ref (ad 48), .ref (ad 49), .int 0, .ref (ad 50), .ref (ad 51), .ref (ad 52), .ref (ad 53), .ref (ad 54), .int 0, .ref (ad 55), .ref (ad 56), .ref (ad 57)])), (ad 31, .inr (6, [.int 0, .int 0, .ref (ad 58), .ref (ad 59), .ref (ad 60), .ref (ad 61), .ref (ad 62), .int 0, .ref (ad 63), .ref (ad 64), .ref (ad 65), .ref (ad 66), .ref (ad 67), .int 0, .ref (ad 68), .ref (ad 69), .ref (ad 70)])), (ad 36, .inl (dA 0, 400, .inl (fun _ => 0))), (ad 49, .inl (dA 0, 400, .inl (fun _ => 0))), (ad 62, .inl (dA 0, 400, .inl (fun _ => 0))), (o, .inl (dA 1, 1, .inr (.inl g0)))] s.heap := hP
  have hl := lv_entry ([.ref h0, .int x, .ref o]) (n := 4) (Nat.le_of_ble_eq_true rfl)
  rw [lg_entry_eq]
  generalize (lg_sl ([.ref h0, .int x, .ref o]) ++ List.replicate (4 - (lg_sl ([.ref h0, .int x, .ref o])).length) Slot.unset).toArray = ls at hl ⊢
  have hl : lv_has ls 4 [(0, .ref h0), (1, .int x), (2, .ref o)] := hl
  refine lv_aload_n hx hb dL_drop_0 rfl (lv_at hl 2 rfl) ?_
  refine lv_iconst (v := 0) hx hb dL_drop_1 (by decide) ?_
  refine lv_aload_n hx hb dL_drop_2 rfl (lv_at hl 0 rfl) ?_
  refine lv_iload_n hx hb dL_drop_3 rfl (lv_at hl 1 rfl) ?_
  refine g_Vx (n := 1) (As := [.int x]) (rest := [.int 0, .ref o]) (wr := [(o, .inl (dA 1, 1, .inr (.inl g0)))]) hx hb hml hg hown hZ hK hP hD hS hA (c_X10_drop l htr D dA h0 ad x _) [0, 1, 2, 3, 4, 5, 6, 7] [8] rfl (by decide) rfl (by decide) (by decide) 0 rfl rfl q1250 q149 q1247 q1248 q1249 (by decide +kernel) ⟨(Nat.le_of_ble_eq_true rfl), (Nat.le_of_ble_eq_true rfl)⟩ rfl hl.1 rfl (Nat.le_of_ble_eq_true rfl) dL_drop_4 ⟨(Nat.le_of_ble_eq_true rfl), (Nat.le_of_ble_eq_true rfl)⟩ (fun E ce q9 H locs hpx hP hD hS hce hcv hcl => ?_) (fun r H locs hpo hP hD hS => ?_)
  · refine vx_widen (k := 1) (n := 6) (Nat.le_of_ble_eq_true rfl) (Nat.le_of_ble_eq_true rfl) ?_
    obtain ⟨rfl, hq⟩ := hpx
    refine vx_catch (own := RL) (name := xIAE) hown [] ⟨0, 16, 19, 13⟩ [] (htab.trans rfl) (fun z hz => by cases hz) rfl (by decide) (hg _ q646) (hg _ q733) hce hcv hcl ?_
    refine lv_astore_n (lv' := [(3, .ref q9), (0, .ref h0), (1, .int x), (2, .ref o)]) hx hb dL_drop_19 rfl hl (by decide) rfl (fun ls hl => ?_)
    refine lv_iconst (v := 1) hx hb dL_drop_20 (by decide) ?_
    exact g_iret hx hb hr rfl hlocks hK g0 hP hD hS (Or.inr ⟨rfl, hq⟩) (Nat.le_of_ble_eq_true rfl) (Nat.le_of_ble_eq_true rfl) dL_drop_21
  · refine W.widen (k := 1) (n := 6) (Nat.le_of_ble_eq_true rfl) (Nat.le_of_ble_eq_true rfl) ?_
    obtain ⟨rfl, hq⟩ := hpo
    refine lv_if_eq (tgt := 14) hx hb dL_drop_7 (by decide) (fun _ => ?_) (fun h => absurd (by decide) h)
    refine lv_lconst (v := 0) hx hb dL_drop_14 (by decide) ?_
    refine va_last hx hb hK hP hD hS 0 1 rfl rfl (by unfold vp_in; decide) dL_drop_15 (fun H locs hP hD hS => ?_)
    have hP : va_P D vwC [(o, .inl (dA 1, 1, .inr (.inl (vp_updL g0 (0 : Int32).toNatClampNeg 0))))] H := hP
    have hD : va_D A [(o, .inl (dA 1, 1, .inr (.inl (vp_updL g0 (0 : Int32).toNatClampNeg 0))))] := hD
    refine lv_goto (tgt := 22) hx hb dL_drop_16 (by decide) ?_
    refine lv_iconst (v := 0) hx hb dL_drop_22 (by decide) ?_
    exact g_iret hx hb hr rfl hlocks hK (vp_updL g0 (0 : Int32).toNatClampNeg 0) hP hD hS (Or.inl ⟨rfl, 0, by rw [g_o0]; rfl, rfl, hq⟩) (Nat.le_of_ble_eq_true rfl) (Nat.le_of_ble_eq_true rfl) dL_drop_23
set_option maxHeartbeats 4000000 in
set_option maxRecDepth 100000 in
theorem w_append (l : Launch) (htr : l.stackTraces = false) (D : va_G) (dA : Nat → ClassId) (h0 : Nat) (ad : Nat → Nat) (o : Nat) (g0 : Nat → Int64) (v : Int64) (n : Int32) (sz : Nat) : Met l yL_append (gwsW yL_append cL_append 6 (some .int) [(0, 11, 14, 13), (0, 11, 18, 15)]) (gR 9 1 6) (gPreW D dA [.ref h0, .long v, .int n, .ref o] [(h0, .inr (10, [.ref (ad 0), .int 0, .int (-1), .int (-1), .ref (ad 1), .ref (ad 2), .ref (ad 3), .ref (ad 4), .ref (ad 5), .ref (ad 6), .ref (ad 7), .ref (ad 8)])), (ad 0, .inl (dA 2, 480, .inl (fun _ => 0))), (o, .inl (dA 1, 1, .inr (.inl g0)))] sz) (va_Qi (fun (k : Int32) (g : Nat → Int64) => (k = 0 ∧ ∃ r : Int32, g 0 = r.toInt64 ∧ (r = n ∧ gIn 1 8 n ∧ apL (bC v) (apI n))) ∨ (k = 1 ∧ ¬ (gIn 1 8 n ∧ apL (bC v) (apI n)))) (gAt D dA (va_A [(h0, .inr (10, [.ref (ad 0), .int 0, .int (-1), .int (-1), .ref (ad 1), .ref (ad 2), .ref (ad 3), .ref (ad 4), .ref (ad 5), .ref (ad 6), .ref (ad 7), .ref (ad 8)])), (ad 0, .inl (dA 2, 480, .inl (fun _ => 0))), (o, .inl (dA 1, 1, .inr (.inl g0)))] sz) (fun g : Nat → Int64 => [(o, .inl (dA 1, 1, .inr (.inl g)))])) (va_A [(h0, .inr (10, [.ref (ad 0), .int 0, .int (-1), .int (-1), .ref (ad 1), .ref (ad 2), .ref (ad 3), .ref (ad 4), .ref (ad 5), .ref (ad 6), .ref (ad 7), .ref (ad 8)])), (ad 0, .inl (dA 2, 480, .inl (fun _ => 0))), (o, .inl (dA 1, 1, .inr (.inl g0)))] sz)) 1 6 (va_A [(h0, .inr (10, [.ref (ad 0), .int 0, .int (-1), .int (-1), .ref (ad 1), .ref (ad 2), .ref (ad 3), .ref (ad 4), .ref (ad 5), .ref (ad 6), .ref (ad 7), .ref (ad 8)])), (ad 0, .inl (dA 2, 480, .inl (fun _ => 0))), (o, .inl (dA 1, 1, .inr (.inl g0)))] sz) := by
  refine va_MetW (cc := cL_append) (maxL := 6) (ret := (some .int)) (hh := [(0, 11, 14, 13), (0, 11, 18, 15)]) (by decide) rfl ?_
  intro p e s m args below meth c s₁ B hml hv
  obtain ⟨rfl, hsz, hP, hK, hD0, hZ, hN⟩ := hv
  have hx := B.exec
  have hb := B.bytes
  have hr := B.returns
  have hts := atoms_spec (ws := gwsW yL_append cL_append 6 (some .int) [(0, 11, 14, 13), (0, 11, 18, 15)]) B.pre
  have hg : ∀ w ∈ gw, w.before _ s = true := fun w h => hts w (List.mem_cons_of_mem _ h)
  have htab := vx_table (x := yL_append) B (hts _ List.mem_cons_self)
  have hown : s.vm.findClass RL = some m.cls := findClass_of_methodNamed B.named
  have hlocks := B.notSynchronized
  subst hsz
  have hD := hD0.self (sz := s.heap.size)
  generalize hAe : va_A [(h0, .inr (10, [.ref (ad 0), .int 0, .int (-1), .int (-1), .ref (ad 1), .ref (ad 2), .ref (ad 3), .ref (ad 4), .ref (ad 5), .ref (ad 6), .ref (ad 7), .ref (ad 8)])), (ad 0, .inl (dA 2, 480, .inl (fun _ => 0))), (o, .inl (dA 1, 1, .inr (.inl g0)))] s.heap.size = A at hZ hD ⊢
  have hA : ∀ q : Nat, s.heap.size ≤ q → A q := fun q h => by rw [← hAe]; exact Or.inr h
  have hS : va_S A s.heap s.heap [] := va_S.rf
  have hP : va_P D vwC [(h0, .inr (10, [.ref (ad 0), .int 0, .int (-1), .int (-1), .ref (ad 1), .ref (ad 2), .ref (ad 3), .ref (ad 4), .ref (ad 5), .ref (ad 6), .ref (ad 7), .ref (ad 8)])), (ad 0, .inl (dA 2, 480, .inl (fun _ => 0))), (o, .inl (dA 1, 1, .inr (.inl g0)))] s.heap := hP
  have hl := lv_entry ([.ref h0, .long v, .int n, .ref o]) (n := 6) (Nat.le_of_ble_eq_true rfl)
  rw [lg_entry_eq]
  generalize (lg_sl ([.ref h0, .long v, .int n, .ref o]) ++ List.replicate (6 - (lg_sl ([.ref h0, .long v, .int n, .ref o])).length) Slot.unset).toArray = ls at hl ⊢
  have hl : lv_has ls 6 [(0, .ref h0), (1, .long v), (3, .int n), (4, .ref o)] := hl
  refine lv_aload hx hb dL_append_0 (lv_at hl 3 rfl) ?_
  refine lv_iconst (v := 0) hx hb dL_append_2 (by decide) ?_
  refine lv_aload_n hx hb dL_append_3 rfl (lv_at hl 0 rfl) ?_
  refine lv_lload_n hx hb dL_append_4 rfl (lv_at hl 1 rfl) ?_
  refine lv_iload_n hx hb dL_append_5 rfl (lv_at hl 2 rfl) ?_
  refine g_Vx (n := 2) (As := [.long v, .int n]) (rest := [.int 0, .ref o]) (wr := [(o, .inl (dA 1, 1, .inr (.inl g0)))]) hx hb hml hg hown hZ hK hP hD hS hA (c_X10_append l htr D dA h0 ad v n _) [0, 1] [2] rfl (by decide) rfl (by decide) (by decide) 0 rfl rfl q730 q149 q727 q728 q729 (by decide +kernel) ⟨(Nat.le_of_ble_eq_true rfl), (Nat.le_of_ble_eq_true rfl)⟩ rfl hl.1 rfl (Nat.le_of_ble_eq_true rfl) dL_append_6 ⟨(Nat.le_of_ble_eq_true rfl), (Nat.le_of_ble_eq_true rfl)⟩ (fun E ce q9 H locs hpx hP hD hS hce hcv hcl => ?_) (fun r H locs hpo hP hD hS => ?_)
  · refine vx_widen (k := 1) (n := 6) (Nat.le_of_ble_eq_true rfl) (Nat.le_of_ble_eq_true rfl) ?_
    obtain ⟨rfl, hq⟩ := hpx
    refine vx_catch (own := RL) (name := xIAE) hown [] ⟨0, 11, 14, 13⟩ [⟨0, 11, 18, 15⟩] (htab.trans rfl) (fun z hz => by cases hz) rfl (by decide) (hg _ q646) (hg _ q733) hce hcv hcl ?_
    refine lv_astore (lv' := [(5, .ref q9), (0, .ref h0), (1, .long v), (3, .int n), (4, .ref o)]) hx hb dL_append_14 hl (by decide) rfl (fun ls hl => ?_)
    refine lv_iconst (v := 1) hx hb dL_append_16 (by decide) ?_
    exact g_iret hx hb hr rfl hlocks hK g0 hP hD hS (Or.inr ⟨rfl, hq⟩) (Nat.le_of_ble_eq_true rfl) (Nat.le_of_ble_eq_true rfl) dL_append_17
  · refine W.widen (k := 1) (n := 6) (Nat.le_of_ble_eq_true rfl) (Nat.le_of_ble_eq_true rfl) ?_
    refine lv_i2l (v := r.toInt64) hx hb dL_append_9 rfl ?_
    refine va_last hx hb hK hP hD hS 0 1 rfl rfl (by unfold vp_in; decide) dL_append_10 (fun H locs hP hD hS => ?_)
    have hP : va_P D vwC [(o, .inl (dA 1, 1, .inr (.inl (vp_updL g0 (0 : Int32).toNatClampNeg r.toInt64))))] H := hP
    have hD : va_D A [(o, .inl (dA 1, 1, .inr (.inl (vp_updL g0 (0 : Int32).toNatClampNeg r.toInt64))))] := hD
    refine lv_goto (tgt := 22) hx hb dL_append_11 (by decide) ?_
    refine lv_iconst (v := 0) hx hb dL_append_22 (by decide) ?_
    exact g_iret hx hb hr rfl hlocks hK (vp_updL g0 (0 : Int32).toNatClampNeg r.toInt64) hP hD hS (Or.inl ⟨rfl, r, g_o0 _ _, hpo⟩) (Nat.le_of_ble_eq_true rfl) (Nat.le_of_ble_eq_true rfl) dL_append_23
set_option maxHeartbeats 4000000 in
set_option maxRecDepth 100000 in
theorem w_image (l : Launch) (htr : l.stackTraces = false) (D : va_G) (dA : Nat → ClassId) (h0 : Nat) (ad : Nat → Nat) (o : Nat) (g0 : Nat → Int64) (x : Int32) (sz : Nat) : Met l yL_image (gwsW yL_image cL_image 4 (some .int) [(0, 9, 12, 15)]) (gR 9 1 6) (gPreW D dA [.ref h0, .int x, .ref o] [(h0, .inr (10, [.ref (ad 0), .int 0, .int (-1), .int (-1), .ref (ad 1), .ref (ad 2), .ref (ad 3), .ref (ad 4), .ref (ad 5), .ref (ad 6), .ref (ad 7), .ref (ad 8)])), (ad 7, .inr (1, [.int 0, .int 0, .ref (ad 76), .int 0, .ref (ad 77), .int 0, .int 0])), (o, .inl (dA 1, 1, .inr (.inl g0)))] sz) (va_Qi (fun (k : Int32) (g : Nat → Int64) => k = 1) (gAt D dA (va_A [(h0, .inr (10, [.ref (ad 0), .int 0, .int (-1), .int (-1), .ref (ad 1), .ref (ad 2), .ref (ad 3), .ref (ad 4), .ref (ad 5), .ref (ad 6), .ref (ad 7), .ref (ad 8)])), (ad 7, .inr (1, [.int 0, .int 0, .ref (ad 76), .int 0, .ref (ad 77), .int 0, .int 0])), (o, .inl (dA 1, 1, .inr (.inl g0)))] sz) (fun g : Nat → Int64 => [(o, .inl (dA 1, 1, .inr (.inl g)))])) (va_A [(h0, .inr (10, [.ref (ad 0), .int 0, .int (-1), .int (-1), .ref (ad 1), .ref (ad 2), .ref (ad 3), .ref (ad 4), .ref (ad 5), .ref (ad 6), .ref (ad 7), .ref (ad 8)])), (ad 7, .inr (1, [.int 0, .int 0, .ref (ad 76), .int 0, .ref (ad 77), .int 0, .int 0])), (o, .inl (dA 1, 1, .inr (.inl g0)))] sz)) 1 6 (va_A [(h0, .inr (10, [.ref (ad 0), .int 0, .int (-1), .int (-1), .ref (ad 1), .ref (ad 2), .ref (ad 3), .ref (ad 4), .ref (ad 5), .ref (ad 6), .ref (ad 7), .ref (ad 8)])), (ad 7, .inr (1, [.int 0, .int 0, .ref (ad 76), .int 0, .ref (ad 77), .int 0, .int 0])), (o, .inl (dA 1, 1, .inr (.inl g0)))] sz) := by
  refine va_MetW (cc := cL_image) (maxL := 4) (ret := (some .int)) (hh := [(0, 9, 12, 15)]) (by decide) rfl ?_
  intro p e s m args below meth c s₁ B hml hv
  obtain ⟨rfl, hsz, hP, hK, hD0, hZ, hN⟩ := hv
  have hx := B.exec
  have hb := B.bytes
  have hr := B.returns
  have hts := atoms_spec (ws := gwsW yL_image cL_image 4 (some .int) [(0, 9, 12, 15)]) B.pre
  have hg : ∀ w ∈ gw, w.before _ s = true := fun w h => hts w (List.mem_cons_of_mem _ h)
  have htab := vx_table (x := yL_image) B (hts _ List.mem_cons_self)
  have hown : s.vm.findClass RL = some m.cls := findClass_of_methodNamed B.named
  have hlocks := B.notSynchronized
  subst hsz
  have hD := hD0.self (sz := s.heap.size)
  generalize hAe : va_A [(h0, .inr (10, [.ref (ad 0), .int 0, .int (-1), .int (-1), .ref (ad 1), .ref (ad 2), .ref (ad 3), .ref (ad 4), .ref (ad 5), .ref (ad 6), .ref (ad 7), .ref (ad 8)])), (ad 7, .inr (1, [.int 0, .int 0, .ref (ad 76), .int 0, .ref (ad 77), .int 0, .int 0])), (o, .inl (dA 1, 1, .inr (.inl g0)))] s.heap.size = A at hZ hD ⊢
  have hA : ∀ q : Nat, s.heap.size ≤ q → A q := fun q h => by rw [← hAe]; exact Or.inr h
  have hS : va_S A s.heap s.heap [] := va_S.rf
  have hP : va_P D vwC [(h0, .inr (10, [.ref (ad 0), .int 0, .int (-1), .int (-1), .ref (ad 1), .ref (ad 2), .ref (ad 3), .ref (ad 4), .ref (ad 5), .ref (ad 6), .ref (ad 7), .ref (ad 8)])), (ad 7, .inr (1, [.int 0, .int 0, .ref (ad 76), .int 0, .ref (ad 77), .int 0, .int 0])), (o, .inl (dA 1, 1, .inr (.inl g0)))] s.heap := hP
  have hl := lv_entry ([.ref h0, .int x, .ref o]) (n := 4) (Nat.le_of_ble_eq_true rfl)
  rw [lg_entry_eq]
  generalize (lg_sl ([.ref h0, .int x, .ref o]) ++ List.replicate (4 - (lg_sl ([.ref h0, .int x, .ref o])).length) Slot.unset).toArray = ls at hl ⊢
  have hl : lv_has ls 4 [(0, .ref h0), (1, .int x), (2, .ref o)] := hl
  refine lv_aload_n hx hb dL_image_0 rfl (lv_at hl 2 rfl) ?_
  refine lv_iconst (v := 0) hx hb dL_image_1 (by decide) ?_
  refine lv_aload_n hx hb dL_image_2 rfl (lv_at hl 0 rfl) ?_
  refine lv_iload_n hx hb dL_image_3 rfl (lv_at hl 1 rfl) ?_
  refine g_Vx (n := 1) (As := [.int x]) (rest := [.int 0, .ref o]) (wr := [(o, .inl (dA 1, 1, .inr (.inl g0)))]) hx hb hml hg hown hZ hK hP hD hS hA (c_X10_image l htr D dA h0 ad x _) [0, 1] [2] rfl (by decide) rfl (by decide) (by decide) 0 rfl rfl q1528 q149 q1525 q1526 q1527 (by decide +kernel) ⟨(Nat.le_of_ble_eq_true rfl), (Nat.le_of_ble_eq_true rfl)⟩ rfl hl.1 rfl (Nat.le_of_ble_eq_true rfl) dL_image_4 ⟨(Nat.le_of_ble_eq_true rfl), (Nat.le_of_ble_eq_true rfl)⟩ (fun E ce q9 H locs hpx hP hD hS hce hcv hcl => ?_) (fun r H locs hpo hP hD hS => ?_)
  · refine vx_widen (k := 1) (n := 6) (Nat.le_of_ble_eq_true rfl) (Nat.le_of_ble_eq_true rfl) ?_
    obtain rfl := hpx
    refine vx_catch (own := RL) (name := xIOB) hown [] ⟨0, 9, 12, 15⟩ [] (htab.trans rfl) (fun z hz => by cases hz) rfl (by decide) (hg _ q647) (hg _ q753) hce hcv hcl ?_
    refine lv_astore_n (lv' := [(3, .ref q9), (0, .ref h0), (1, .int x), (2, .ref o)]) hx hb dL_image_12 rfl hl (by decide) rfl (fun ls hl => ?_)
    refine lv_iconst (v := 1) hx hb dL_image_13 (by decide) ?_
    exact g_iret hx hb hr rfl hlocks hK g0 hP hD hS rfl (Nat.le_of_ble_eq_true rfl) (Nat.le_of_ble_eq_true rfl) dL_image_14
  · exact hpo.elim
set_option maxHeartbeats 4000000 in
set_option maxRecDepth 100000 in
theorem w_trace (l : Launch) (htr : l.stackTraces = false) (D : va_G) (dA : Nat → ClassId) (h0 : Nat) (ad : Nat → Nat) (o : Nat) (g0 : Nat → Int64) (x : Int32) (sz : Nat) : Met l yL_trace (gwsW yL_trace cL_trace 4 (some .int) [(0, 9, 12, 15)]) (gR 9 1 6) (gPreW D dA [.ref h0, .int x, .ref o] [(h0, .inr (10, [.ref (ad 0), .int 0, .int (-1), .int (-1), .ref (ad 1), .ref (ad 2), .ref (ad 3), .ref (ad 4), .ref (ad 5), .ref (ad 6), .ref (ad 7), .ref (ad 8)])), (ad 8, .inr (4, [.ref (ad 78), .ref (ad 79), .ref (ad 80), .int 0, .int 0, .int 0, .int 0, .int 1, .int 0, .int 0, .ref (ad 81), .int 0, .int 0, .int 0])), (o, .inl (dA 1, 1, .inr (.inl g0)))] sz) (va_Qi (fun (k : Int32) (g : Nat → Int64) => k = 1) (gAt D dA (va_A [(h0, .inr (10, [.ref (ad 0), .int 0, .int (-1), .int (-1), .ref (ad 1), .ref (ad 2), .ref (ad 3), .ref (ad 4), .ref (ad 5), .ref (ad 6), .ref (ad 7), .ref (ad 8)])), (ad 8, .inr (4, [.ref (ad 78), .ref (ad 79), .ref (ad 80), .int 0, .int 0, .int 0, .int 0, .int 1, .int 0, .int 0, .ref (ad 81), .int 0, .int 0, .int 0])), (o, .inl (dA 1, 1, .inr (.inl g0)))] sz) (fun g : Nat → Int64 => [(o, .inl (dA 1, 1, .inr (.inl g)))])) (va_A [(h0, .inr (10, [.ref (ad 0), .int 0, .int (-1), .int (-1), .ref (ad 1), .ref (ad 2), .ref (ad 3), .ref (ad 4), .ref (ad 5), .ref (ad 6), .ref (ad 7), .ref (ad 8)])), (ad 8, .inr (4, [.ref (ad 78), .ref (ad 79), .ref (ad 80), .int 0, .int 0, .int 0, .int 0, .int 1, .int 0, .int 0, .ref (ad 81), .int 0, .int 0, .int 0])), (o, .inl (dA 1, 1, .inr (.inl g0)))] sz)) 1 6 (va_A [(h0, .inr (10, [.ref (ad 0), .int 0, .int (-1), .int (-1), .ref (ad 1), .ref (ad 2), .ref (ad 3), .ref (ad 4), .ref (ad 5), .ref (ad 6), .ref (ad 7), .ref (ad 8)])), (ad 8, .inr (4, [.ref (ad 78), .ref (ad 79), .ref (ad 80), .int 0, .int 0, .int 0, .int 0, .int 1, .int 0, .int 0, .ref (ad 81), .int 0, .int 0, .int 0])), (o, .inl (dA 1, 1, .inr (.inl g0)))] sz) := by
  refine va_MetW (cc := cL_trace) (maxL := 4) (ret := (some .int)) (hh := [(0, 9, 12, 15)]) (by decide) rfl ?_
  intro p e s m args below meth c s₁ B hml hv
  obtain ⟨rfl, hsz, hP, hK, hD0, hZ, hN⟩ := hv
  have hx := B.exec
  have hb := B.bytes
  have hr := B.returns
  have hts := atoms_spec (ws := gwsW yL_trace cL_trace 4 (some .int) [(0, 9, 12, 15)]) B.pre
  have hg : ∀ w ∈ gw, w.before _ s = true := fun w h => hts w (List.mem_cons_of_mem _ h)
  have htab := vx_table (x := yL_trace) B (hts _ List.mem_cons_self)
  have hown : s.vm.findClass RL = some m.cls := findClass_of_methodNamed B.named
  have hlocks := B.notSynchronized
  subst hsz
  have hD := hD0.self (sz := s.heap.size)
  generalize hAe : va_A [(h0, .inr (10, [.ref (ad 0), .int 0, .int (-1), .int (-1), .ref (ad 1), .ref (ad 2), .ref (ad 3), .ref (ad 4), .ref (ad 5), .ref (ad 6), .ref (ad 7), .ref (ad 8)])), (ad 8, .inr (4, [.ref (ad 78), .ref (ad 79), .ref (ad 80), .int 0, .int 0, .int 0, .int 0, .int 1, .int 0, .int 0, .ref (ad 81), .int 0, .int 0, .int 0])), (o, .inl (dA 1, 1, .inr (.inl g0)))] s.heap.size = A at hZ hD ⊢
  have hA : ∀ q : Nat, s.heap.size ≤ q → A q := fun q h => by rw [← hAe]; exact Or.inr h
  have hS : va_S A s.heap s.heap [] := va_S.rf
  have hP : va_P D vwC [(h0, .inr (10, [.ref (ad 0), .int 0, .int (-1), .int (-1), .ref (ad 1), .ref (ad 2), .ref (ad 3), .ref (ad 4), .ref (ad 5), .ref (ad 6), .ref (ad 7), .ref (ad 8)])), (ad 8, .inr (4, [.ref (ad 78), .ref (ad 79), .ref (ad 80), .int 0, .int 0, .int 0, .int 0, .int 1, .int 0, .int 0, .ref (ad 81), .int 0, .int 0, .int 0])), (o, .inl (dA 1, 1, .inr (.inl g0)))] s.heap := hP
  have hl := lv_entry ([.ref h0, .int x, .ref o]) (n := 4) (Nat.le_of_ble_eq_true rfl)
  rw [lg_entry_eq]
  generalize (lg_sl ([.ref h0, .int x, .ref o]) ++ List.replicate (4 - (lg_sl ([.ref h0, .int x, .ref o])).length) Slot.unset).toArray = ls at hl ⊢
  have hl : lv_has ls 4 [(0, .ref h0), (1, .int x), (2, .ref o)] := hl
  refine lv_aload_n hx hb dL_trace_0 rfl (lv_at hl 2 rfl) ?_
  refine lv_iconst (v := 0) hx hb dL_trace_1 (by decide) ?_
  refine lv_aload_n hx hb dL_trace_2 rfl (lv_at hl 0 rfl) ?_
  refine lv_iload_n hx hb dL_trace_3 rfl (lv_at hl 1 rfl) ?_
  refine g_Vx (n := 1) (As := [.int x]) (rest := [.int 0, .ref o]) (wr := [(o, .inl (dA 1, 1, .inr (.inl g0)))]) hx hb hml hg hown hZ hK hP hD hS hA (c_X10_trace l htr D dA h0 ad x _) [0, 1] [2] rfl (by decide) rfl (by decide) (by decide) 0 rfl rfl q1551 q149 q1548 q1549 q1550 (by decide +kernel) ⟨(Nat.le_of_ble_eq_true rfl), (Nat.le_of_ble_eq_true rfl)⟩ rfl hl.1 rfl (Nat.le_of_ble_eq_true rfl) dL_trace_4 ⟨(Nat.le_of_ble_eq_true rfl), (Nat.le_of_ble_eq_true rfl)⟩ (fun E ce q9 H locs hpx hP hD hS hce hcv hcl => ?_) (fun r H locs hpo hP hD hS => ?_)
  · refine vx_widen (k := 1) (n := 6) (Nat.le_of_ble_eq_true rfl) (Nat.le_of_ble_eq_true rfl) ?_
    obtain rfl := hpx
    refine vx_catch (own := RL) (name := xIOB) hown [] ⟨0, 9, 12, 15⟩ [] (htab.trans rfl) (fun z hz => by cases hz) rfl (by decide) (hg _ q647) (hg _ q753) hce hcv hcl ?_
    refine lv_astore_n (lv' := [(3, .ref q9), (0, .ref h0), (1, .int x), (2, .ref o)]) hx hb dL_trace_12 rfl hl (by decide) rfl (fun ls hl => ?_)
    refine lv_iconst (v := 1) hx hb dL_trace_13 (by decide) ?_
    exact g_iret hx hb hr rfl hlocks hK g0 hP hD hS rfl (Nat.le_of_ble_eq_true rfl) (Nat.le_of_ble_eq_true rfl) dL_trace_14
  · exact hpo.elim
set_option maxHeartbeats 4000000 in
set_option maxRecDepth 100000 in
theorem w_link (l : Launch) (htr : l.stackTraces = false) (D : va_G) (dA : Nat → ClassId) (h0 : Nat) (ad : Nat → Nat) (o : Nat) (g0 : Nat → Int64) (sz : Nat) : Met l yL_link (gwsW yL_link cL_link 3 (some .int) [(0, 8, 11, 35), (0, 8, 14, 21), (0, 8, 17, 23), (0, 8, 20, 15), (0, 8, 23, 25)]) (gR 9 1 6) (gPreW D dA [.ref h0, .ref o] [(h0, .inr (10, [.ref (ad 0), .int 0, .int (-1), .int (-1), .ref (ad 1), .ref (ad 2), .ref (ad 3), .ref (ad 4), .ref (ad 5), .ref (ad 6), .ref (ad 7), .ref (ad 8)])), (ad 6, .inr (3, [.ref (ad 5), .ref (ad 71), .ref (ad 72), .ref (ad 73), .int 0, .ref (ad 74), .ref (ad 75)])), (ad 5, .inl (dA 4, 3, .inr (.inr (.inr (.inr (gM (ad 29) (ad 30) (ad 31))))))), (ad 29, .inr (6, [.int 0, .int 0, .ref (ad 32), .ref (ad 33), .ref (ad 34), .ref (ad 35), .ref (ad 36), .int 0, .ref (ad 37), .ref (ad 38), .ref (ad 39), .ref (ad 40), .ref (ad 41), .int 0, .ref (ad 42), .ref (ad 43), .ref (ad 44)])), (ad 30, .inr (6, [.int 0, .int 0, .ref (ad 45), .ref (ad 46), .ref (ad 47), .ref (ad 48), .ref (ad 49), .int 0, .ref (ad 50), .ref (ad 51), .ref (ad 52), .ref (ad 53), .ref (ad 54), .int 0, .ref (ad 55), .ref (ad 56), .ref (ad 57)])), (ad 31, .inr (6, [.int 0, .int 0, .ref (ad 58), .ref (ad 59), .ref (ad 60), .ref (ad 61), .ref (ad 62), .int 0, .ref (ad 63), .ref (ad 64), .ref (ad 65), .ref (ad 66), .ref (ad 67), .int 0, .ref (ad 68), .ref (ad 69), .ref (ad 70)])), (o, .inl (dA 1, 1, .inr (.inl g0)))] sz) (va_Qi (fun (k : Int32) (g : Nat → Int64) => k = 1) (gAt D dA (va_A [(h0, .inr (10, [.ref (ad 0), .int 0, .int (-1), .int (-1), .ref (ad 1), .ref (ad 2), .ref (ad 3), .ref (ad 4), .ref (ad 5), .ref (ad 6), .ref (ad 7), .ref (ad 8)])), (ad 6, .inr (3, [.ref (ad 5), .ref (ad 71), .ref (ad 72), .ref (ad 73), .int 0, .ref (ad 74), .ref (ad 75)])), (ad 5, .inl (dA 4, 3, .inr (.inr (.inr (.inr (gM (ad 29) (ad 30) (ad 31))))))), (ad 29, .inr (6, [.int 0, .int 0, .ref (ad 32), .ref (ad 33), .ref (ad 34), .ref (ad 35), .ref (ad 36), .int 0, .ref (ad 37), .ref (ad 38), .ref (ad 39), .ref (ad 40), .ref (ad 41), .int 0, .ref (ad 42), .ref (ad 43), .ref (ad 44)])), (ad 30, .inr (6, [.int 0, .int 0, .ref (ad 45), .ref (ad 46), .ref (ad 47), .ref (ad 48), .ref (ad 49), .int 0, .ref (ad 50), .ref (ad 51), .ref (ad 52), .ref (ad 53), .ref (ad 54), .int 0, .ref (ad 55), .ref (ad 56), .ref (ad 57)])), (ad 31, .inr (6, [.int 0, .int 0, .ref (ad 58), .ref (ad 59), .ref (ad 60), .ref (ad 61), .ref (ad 62), .int 0, .ref (ad 63), .ref (ad 64), .ref (ad 65), .ref (ad 66), .ref (ad 67), .int 0, .ref (ad 68), .ref (ad 69), .ref (ad 70)])), (o, .inl (dA 1, 1, .inr (.inl g0)))] sz) (fun g : Nat → Int64 => [(o, .inl (dA 1, 1, .inr (.inl g)))])) (va_A [(h0, .inr (10, [.ref (ad 0), .int 0, .int (-1), .int (-1), .ref (ad 1), .ref (ad 2), .ref (ad 3), .ref (ad 4), .ref (ad 5), .ref (ad 6), .ref (ad 7), .ref (ad 8)])), (ad 6, .inr (3, [.ref (ad 5), .ref (ad 71), .ref (ad 72), .ref (ad 73), .int 0, .ref (ad 74), .ref (ad 75)])), (ad 5, .inl (dA 4, 3, .inr (.inr (.inr (.inr (gM (ad 29) (ad 30) (ad 31))))))), (ad 29, .inr (6, [.int 0, .int 0, .ref (ad 32), .ref (ad 33), .ref (ad 34), .ref (ad 35), .ref (ad 36), .int 0, .ref (ad 37), .ref (ad 38), .ref (ad 39), .ref (ad 40), .ref (ad 41), .int 0, .ref (ad 42), .ref (ad 43), .ref (ad 44)])), (ad 30, .inr (6, [.int 0, .int 0, .ref (ad 45), .ref (ad 46), .ref (ad 47), .ref (ad 48), .ref (ad 49), .int 0, .ref (ad 50), .ref (ad 51), .ref (ad 52), .ref (ad 53), .ref (ad 54), .int 0, .ref (ad 55), .ref (ad 56), .ref (ad 57)])), (ad 31, .inr (6, [.int 0, .int 0, .ref (ad 58), .ref (ad 59), .ref (ad 60), .ref (ad 61), .ref (ad 62), .int 0, .ref (ad 63), .ref (ad 64), .ref (ad 65), .ref (ad 66), .ref (ad 67), .int 0, .ref (ad 68), .ref (ad 69), .ref (ad 70)])), (o, .inl (dA 1, 1, .inr (.inl g0)))] sz)) 1 6 (va_A [(h0, .inr (10, [.ref (ad 0), .int 0, .int (-1), .int (-1), .ref (ad 1), .ref (ad 2), .ref (ad 3), .ref (ad 4), .ref (ad 5), .ref (ad 6), .ref (ad 7), .ref (ad 8)])), (ad 6, .inr (3, [.ref (ad 5), .ref (ad 71), .ref (ad 72), .ref (ad 73), .int 0, .ref (ad 74), .ref (ad 75)])), (ad 5, .inl (dA 4, 3, .inr (.inr (.inr (.inr (gM (ad 29) (ad 30) (ad 31))))))), (ad 29, .inr (6, [.int 0, .int 0, .ref (ad 32), .ref (ad 33), .ref (ad 34), .ref (ad 35), .ref (ad 36), .int 0, .ref (ad 37), .ref (ad 38), .ref (ad 39), .ref (ad 40), .ref (ad 41), .int 0, .ref (ad 42), .ref (ad 43), .ref (ad 44)])), (ad 30, .inr (6, [.int 0, .int 0, .ref (ad 45), .ref (ad 46), .ref (ad 47), .ref (ad 48), .ref (ad 49), .int 0, .ref (ad 50), .ref (ad 51), .ref (ad 52), .ref (ad 53), .ref (ad 54), .int 0, .ref (ad 55), .ref (ad 56), .ref (ad 57)])), (ad 31, .inr (6, [.int 0, .int 0, .ref (ad 58), .ref (ad 59), .ref (ad 60), .ref (ad 61), .ref (ad 62), .int 0, .ref (ad 63), .ref (ad 64), .ref (ad 65), .ref (ad 66), .ref (ad 67), .int 0, .ref (ad 68), .ref (ad 69), .ref (ad 70)])), (o, .inl (dA 1, 1, .inr (.inl g0)))] sz) := by
  refine va_MetW (cc := cL_link) (maxL := 3) (ret := (some .int)) (hh := [(0, 8, 11, 35), (0, 8, 14, 21), (0, 8, 17, 23), (0, 8, 20, 15), (0, 8, 23, 25)]) (by decide) rfl ?_
  intro p e s m args below meth c s₁ B hml hv
  obtain ⟨rfl, hsz, hP, hK, hD0, hZ, hN⟩ := hv
  have hx := B.exec
  have hb := B.bytes
  have hr := B.returns
  have hts := atoms_spec (ws := gwsW yL_link cL_link 3 (some .int) [(0, 8, 11, 35), (0, 8, 14, 21), (0, 8, 17, 23), (0, 8, 20, 15), (0, 8, 23, 25)]) B.pre
  have hg : ∀ w ∈ gw, w.before _ s = true := fun w h => hts w (List.mem_cons_of_mem _ h)
  have htab := vx_table (x := yL_link) B (hts _ List.mem_cons_self)
  have hown : s.vm.findClass RL = some m.cls := findClass_of_methodNamed B.named
  have hlocks := B.notSynchronized
  subst hsz
  have hD := hD0.self (sz := s.heap.size)
  generalize hAe : va_A [(h0, .inr (10, [.ref (ad 0), .int 0, .int (-1), .int (-1), .ref (ad 1), .ref (ad 2), .ref (ad 3), .ref (ad 4), .ref (ad 5), .ref (ad 6), .ref (ad 7), .ref (ad 8)])), (ad 6, .inr (3, [.ref (ad 5), .ref (ad 71), .ref (ad 72), .ref (ad 73), .int 0, .ref (ad 74), .ref (ad 75)])), (ad 5, .inl (dA 4, 3, .inr (.inr (.inr (.inr (gM (ad 29) (ad 30) (ad 31))))))), (ad 29, .inr (6, [.int 0, .int 0, .ref (ad 32), .ref (ad 33), .ref (ad 34), .ref (ad 35), .ref (ad 36), .int 0, .ref (ad 37), .ref (ad 38), .ref (ad 39), .ref (ad 40), .ref (ad 41), .int 0, .ref (ad 42), .ref (ad 43), .ref (ad 44)])), (ad 30, .inr (6, [.int 0, .int 0, .ref (ad 45), .ref (ad 46), .ref (ad 47), .ref (ad 48), .ref (ad 49), .int 0, .ref (ad 50), .ref (ad 51), .ref (ad 52), .ref (ad 53), .ref (ad 54), .int 0, .ref (ad 55), .ref (ad 56), .ref (ad 57)])), (ad 31, .inr (6, [.int 0, .int 0, .ref (ad 58), .ref (ad 59), .ref (ad 60), .ref (ad 61), .ref (ad 62), .int 0, .ref (ad 63), .ref (ad 64), .ref (ad 65), .ref (ad 66), .ref (ad 67), .int 0, .ref (ad 68), .ref (ad 69), .ref (ad 70)])), (o, .inl (dA 1, 1, .inr (.inl g0)))] s.heap.size = A at hZ hD ⊢
  have hA : ∀ q : Nat, s.heap.size ≤ q → A q := fun q h => by rw [← hAe]; exact Or.inr h
  have hS : va_S A s.heap s.heap [] := va_S.rf
  have hP : va_P D vwC [(h0, .inr (10, [.ref (ad 0), .int 0, .int (-1), .int (-1), .ref (ad 1), .ref (ad 2), .ref (ad 3), .ref (ad 4), .ref (ad 5), .ref (ad 6), .ref (ad 7), .ref (ad 8)])), (ad 6, .inr (3, [.ref (ad 5), .ref (ad 71), .ref (ad 72), .ref (ad 73), .int 0, .ref (ad 74), .ref (ad 75)])), (ad 5, .inl (dA 4, 3, .inr (.inr (.inr (.inr (gM (ad 29) (ad 30) (ad 31))))))), (ad 29, .inr (6, [.int 0, .int 0, .ref (ad 32), .ref (ad 33), .ref (ad 34), .ref (ad 35), .ref (ad 36), .int 0, .ref (ad 37), .ref (ad 38), .ref (ad 39), .ref (ad 40), .ref (ad 41), .int 0, .ref (ad 42), .ref (ad 43), .ref (ad 44)])), (ad 30, .inr (6, [.int 0, .int 0, .ref (ad 45), .ref (ad 46), .ref (ad 47), .ref (ad 48), .ref (ad 49), .int 0, .ref (ad 50), .ref (ad 51), .ref (ad 52), .ref (ad 53), .ref (ad 54), .int 0, .ref (ad 55), .ref (ad 56), .ref (ad 57)])), (ad 31, .inr (6, [.int 0, .int 0, .ref (ad 58), .ref (ad 59), .ref (ad 60), .ref (ad 61), .ref (ad 62), .int 0, .ref (ad 63), .ref (ad 64), .ref (ad 65), .ref (ad 66), .ref (ad 67), .int 0, .ref (ad 68), .ref (ad 69), .ref (ad 70)])), (o, .inl (dA 1, 1, .inr (.inl g0)))] s.heap := hP
  have hl := lv_entry ([.ref h0, .ref o]) (n := 3) (Nat.le_of_ble_eq_true rfl)
  rw [lg_entry_eq]
  generalize (lg_sl ([.ref h0, .ref o]) ++ List.replicate (3 - (lg_sl ([.ref h0, .ref o])).length) Slot.unset).toArray = ls at hl ⊢
  have hl : lv_has ls 3 [(0, .ref h0), (1, .ref o)] := hl
  refine lv_aload_n hx hb dL_link_0 rfl (lv_at hl 1 rfl) ?_
  refine lv_iconst (v := 0) hx hb dL_link_1 (by decide) ?_
  refine lv_aload_n hx hb dL_link_2 rfl (lv_at hl 0 rfl) ?_
  refine g_Vx (n := 0) (As := []) (rest := [.int 0, .ref o]) (wr := [(o, .inl (dA 1, 1, .inr (.inl g0)))]) hx hb hml hg hown hZ hK hP hD hS hA (c_X10_link l htr D dA h0 ad _) [0, 1, 2, 3, 4, 5] [6] rfl (by decide) rfl (by decide) (by decide) 0 rfl rfl q1259 q149 q1256 q1257 q1258 (by decide +kernel) ⟨(Nat.le_of_ble_eq_true rfl), (Nat.le_of_ble_eq_true rfl)⟩ rfl hl.1 rfl (Nat.le_of_ble_eq_true rfl) dL_link_3 ⟨(Nat.le_of_ble_eq_true rfl), (Nat.le_of_ble_eq_true rfl)⟩ (fun E ce q9 H locs hpx hP hD hS hce hcv hcl => ?_) (fun r H locs hpo hP hD hS => ?_)
  · refine vx_widen (k := 1) (n := 6) (Nat.le_of_ble_eq_true rfl) (Nat.le_of_ble_eq_true rfl) ?_
    obtain rfl := hpx
    refine vx_catch (own := RL) (name := xISE) hown [] ⟨0, 8, 11, 35⟩ [⟨0, 8, 14, 21⟩, ⟨0, 8, 17, 23⟩, ⟨0, 8, 20, 15⟩, ⟨0, 8, 23, 25⟩] (htab.trans rfl) (fun z hz => by cases hz) rfl (by decide) (hg _ q1255) (hg _ q1266) hce hcv hcl ?_
    refine lv_astore_n (lv' := [(2, .ref q9), (0, .ref h0), (1, .ref o)]) hx hb dL_link_11 rfl hl (by decide) rfl (fun ls hl => ?_)
    refine lv_iconst (v := 1) hx hb dL_link_12 (by decide) ?_
    exact g_iret hx hb hr rfl hlocks hK g0 hP hD hS rfl (Nat.le_of_ble_eq_true rfl) (Nat.le_of_ble_eq_true rfl) dL_link_13
  · exact hpo.elim
set_option maxHeartbeats 4000000 in
set_option maxRecDepth 100000 in
theorem w_code (l : Launch) (htr : l.stackTraces = false) (D : va_G) (dA : Nat → ClassId) (h0 : Nat) (ad : Nat → Nat) (o : Nat) (g0 : Nat → Int64) (x : Int32) (y : Int32) (z : Int32) (sz : Nat) : Met l yL_code (gwsW yL_code cL_code 6 (some .int) [(0, 12, 15, 15)]) (gR 9 1 6) (gPreW D dA [.ref h0, .int x, .int y, .int z, .ref o] [(h0, .inr (10, [.ref (ad 0), .int 0, .int (-1), .int (-1), .ref (ad 1), .ref (ad 2), .ref (ad 3), .ref (ad 4), .ref (ad 5), .ref (ad 6), .ref (ad 7), .ref (ad 8)])), (ad 5, .inl (dA 4, 3, .inr (.inr (.inr (.inr (gM (ad 29) (ad 30) (ad 31))))))), (ad 29, .inr (6, [.int 0, .int 0, .ref (ad 32), .ref (ad 33), .ref (ad 34), .ref (ad 35), .ref (ad 36), .int 0, .ref (ad 37), .ref (ad 38), .ref (ad 39), .ref (ad 40), .ref (ad 41), .int 0, .ref (ad 42), .ref (ad 43), .ref (ad 44)])), (ad 30, .inr (6, [.int 0, .int 0, .ref (ad 45), .ref (ad 46), .ref (ad 47), .ref (ad 48), .ref (ad 49), .int 0, .ref (ad 50), .ref (ad 51), .ref (ad 52), .ref (ad 53), .ref (ad 54), .int 0, .ref (ad 55), .ref (ad 56), .ref (ad 57)])), (ad 31, .inr (6, [.int 0, .int 0, .ref (ad 58), .ref (ad 59), .ref (ad 60), .ref (ad 61), .ref (ad 62), .int 0, .ref (ad 63), .ref (ad 64), .ref (ad 65), .ref (ad 66), .ref (ad 67), .int 0, .ref (ad 68), .ref (ad 69), .ref (ad 70)])), (o, .inl (dA 1, 1, .inr (.inl g0)))] sz) (va_Qi (fun (k : Int32) (g : Nat → Int64) => k = 1) (gAt D dA (va_A [(h0, .inr (10, [.ref (ad 0), .int 0, .int (-1), .int (-1), .ref (ad 1), .ref (ad 2), .ref (ad 3), .ref (ad 4), .ref (ad 5), .ref (ad 6), .ref (ad 7), .ref (ad 8)])), (ad 5, .inl (dA 4, 3, .inr (.inr (.inr (.inr (gM (ad 29) (ad 30) (ad 31))))))), (ad 29, .inr (6, [.int 0, .int 0, .ref (ad 32), .ref (ad 33), .ref (ad 34), .ref (ad 35), .ref (ad 36), .int 0, .ref (ad 37), .ref (ad 38), .ref (ad 39), .ref (ad 40), .ref (ad 41), .int 0, .ref (ad 42), .ref (ad 43), .ref (ad 44)])), (ad 30, .inr (6, [.int 0, .int 0, .ref (ad 45), .ref (ad 46), .ref (ad 47), .ref (ad 48), .ref (ad 49), .int 0, .ref (ad 50), .ref (ad 51), .ref (ad 52), .ref (ad 53), .ref (ad 54), .int 0, .ref (ad 55), .ref (ad 56), .ref (ad 57)])), (ad 31, .inr (6, [.int 0, .int 0, .ref (ad 58), .ref (ad 59), .ref (ad 60), .ref (ad 61), .ref (ad 62), .int 0, .ref (ad 63), .ref (ad 64), .ref (ad 65), .ref (ad 66), .ref (ad 67), .int 0, .ref (ad 68), .ref (ad 69), .ref (ad 70)])), (o, .inl (dA 1, 1, .inr (.inl g0)))] sz) (fun g : Nat → Int64 => [(o, .inl (dA 1, 1, .inr (.inl g)))])) (va_A [(h0, .inr (10, [.ref (ad 0), .int 0, .int (-1), .int (-1), .ref (ad 1), .ref (ad 2), .ref (ad 3), .ref (ad 4), .ref (ad 5), .ref (ad 6), .ref (ad 7), .ref (ad 8)])), (ad 5, .inl (dA 4, 3, .inr (.inr (.inr (.inr (gM (ad 29) (ad 30) (ad 31))))))), (ad 29, .inr (6, [.int 0, .int 0, .ref (ad 32), .ref (ad 33), .ref (ad 34), .ref (ad 35), .ref (ad 36), .int 0, .ref (ad 37), .ref (ad 38), .ref (ad 39), .ref (ad 40), .ref (ad 41), .int 0, .ref (ad 42), .ref (ad 43), .ref (ad 44)])), (ad 30, .inr (6, [.int 0, .int 0, .ref (ad 45), .ref (ad 46), .ref (ad 47), .ref (ad 48), .ref (ad 49), .int 0, .ref (ad 50), .ref (ad 51), .ref (ad 52), .ref (ad 53), .ref (ad 54), .int 0, .ref (ad 55), .ref (ad 56), .ref (ad 57)])), (ad 31, .inr (6, [.int 0, .int 0, .ref (ad 58), .ref (ad 59), .ref (ad 60), .ref (ad 61), .ref (ad 62), .int 0, .ref (ad 63), .ref (ad 64), .ref (ad 65), .ref (ad 66), .ref (ad 67), .int 0, .ref (ad 68), .ref (ad 69), .ref (ad 70)])), (o, .inl (dA 1, 1, .inr (.inl g0)))] sz)) 1 6 (va_A [(h0, .inr (10, [.ref (ad 0), .int 0, .int (-1), .int (-1), .ref (ad 1), .ref (ad 2), .ref (ad 3), .ref (ad 4), .ref (ad 5), .ref (ad 6), .ref (ad 7), .ref (ad 8)])), (ad 5, .inl (dA 4, 3, .inr (.inr (.inr (.inr (gM (ad 29) (ad 30) (ad 31))))))), (ad 29, .inr (6, [.int 0, .int 0, .ref (ad 32), .ref (ad 33), .ref (ad 34), .ref (ad 35), .ref (ad 36), .int 0, .ref (ad 37), .ref (ad 38), .ref (ad 39), .ref (ad 40), .ref (ad 41), .int 0, .ref (ad 42), .ref (ad 43), .ref (ad 44)])), (ad 30, .inr (6, [.int 0, .int 0, .ref (ad 45), .ref (ad 46), .ref (ad 47), .ref (ad 48), .ref (ad 49), .int 0, .ref (ad 50), .ref (ad 51), .ref (ad 52), .ref (ad 53), .ref (ad 54), .int 0, .ref (ad 55), .ref (ad 56), .ref (ad 57)])), (ad 31, .inr (6, [.int 0, .int 0, .ref (ad 58), .ref (ad 59), .ref (ad 60), .ref (ad 61), .ref (ad 62), .int 0, .ref (ad 63), .ref (ad 64), .ref (ad 65), .ref (ad 66), .ref (ad 67), .int 0, .ref (ad 68), .ref (ad 69), .ref (ad 70)])), (o, .inl (dA 1, 1, .inr (.inl g0)))] sz) := by
  refine va_MetW (cc := cL_code) (maxL := 6) (ret := (some .int)) (hh := [(0, 12, 15, 15)]) (by decide) rfl ?_
  intro p e s m args below meth c s₁ B hml hv
  obtain ⟨rfl, hsz, hP, hK, hD0, hZ, hN⟩ := hv
  have hx := B.exec
  have hb := B.bytes
  have hr := B.returns
  have hts := atoms_spec (ws := gwsW yL_code cL_code 6 (some .int) [(0, 12, 15, 15)]) B.pre
  have hg : ∀ w ∈ gw, w.before _ s = true := fun w h => hts w (List.mem_cons_of_mem _ h)
  have htab := vx_table (x := yL_code) B (hts _ List.mem_cons_self)
  have hown : s.vm.findClass RL = some m.cls := findClass_of_methodNamed B.named
  have hlocks := B.notSynchronized
  subst hsz
  have hD := hD0.self (sz := s.heap.size)
  generalize hAe : va_A [(h0, .inr (10, [.ref (ad 0), .int 0, .int (-1), .int (-1), .ref (ad 1), .ref (ad 2), .ref (ad 3), .ref (ad 4), .ref (ad 5), .ref (ad 6), .ref (ad 7), .ref (ad 8)])), (ad 5, .inl (dA 4, 3, .inr (.inr (.inr (.inr (gM (ad 29) (ad 30) (ad 31))))))), (ad 29, .inr (6, [.int 0, .int 0, .ref (ad 32), .ref (ad 33), .ref (ad 34), .ref (ad 35), .ref (ad 36), .int 0, .ref (ad 37), .ref (ad 38), .ref (ad 39), .ref (ad 40), .ref (ad 41), .int 0, .ref (ad 42), .ref (ad 43), .ref (ad 44)])), (ad 30, .inr (6, [.int 0, .int 0, .ref (ad 45), .ref (ad 46), .ref (ad 47), .ref (ad 48), .ref (ad 49), .int 0, .ref (ad 50), .ref (ad 51), .ref (ad 52), .ref (ad 53), .ref (ad 54), .int 0, .ref (ad 55), .ref (ad 56), .ref (ad 57)])), (ad 31, .inr (6, [.int 0, .int 0, .ref (ad 58), .ref (ad 59), .ref (ad 60), .ref (ad 61), .ref (ad 62), .int 0, .ref (ad 63), .ref (ad 64), .ref (ad 65), .ref (ad 66), .ref (ad 67), .int 0, .ref (ad 68), .ref (ad 69), .ref (ad 70)])), (o, .inl (dA 1, 1, .inr (.inl g0)))] s.heap.size = A at hZ hD ⊢
  have hA : ∀ q : Nat, s.heap.size ≤ q → A q := fun q h => by rw [← hAe]; exact Or.inr h
  have hS : va_S A s.heap s.heap [] := va_S.rf
  have hP : va_P D vwC [(h0, .inr (10, [.ref (ad 0), .int 0, .int (-1), .int (-1), .ref (ad 1), .ref (ad 2), .ref (ad 3), .ref (ad 4), .ref (ad 5), .ref (ad 6), .ref (ad 7), .ref (ad 8)])), (ad 5, .inl (dA 4, 3, .inr (.inr (.inr (.inr (gM (ad 29) (ad 30) (ad 31))))))), (ad 29, .inr (6, [.int 0, .int 0, .ref (ad 32), .ref (ad 33), .ref (ad 34), .ref (ad 35), .ref (ad 36), .int 0, .ref (ad 37), .ref (ad 38), .ref (ad 39), .ref (ad 40), .ref (ad 41), .int 0, .ref (ad 42), .ref (ad 43), .ref (ad 44)])), (ad 30, .inr (6, [.int 0, .int 0, .ref (ad 45), .ref (ad 46), .ref (ad 47), .ref (ad 48), .ref (ad 49), .int 0, .ref (ad 50), .ref (ad 51), .ref (ad 52), .ref (ad 53), .ref (ad 54), .int 0, .ref (ad 55), .ref (ad 56), .ref (ad 57)])), (ad 31, .inr (6, [.int 0, .int 0, .ref (ad 58), .ref (ad 59), .ref (ad 60), .ref (ad 61), .ref (ad 62), .int 0, .ref (ad 63), .ref (ad 64), .ref (ad 65), .ref (ad 66), .ref (ad 67), .int 0, .ref (ad 68), .ref (ad 69), .ref (ad 70)])), (o, .inl (dA 1, 1, .inr (.inl g0)))] s.heap := hP
  have hl := lv_entry ([.ref h0, .int x, .int y, .int z, .ref o]) (n := 6) (Nat.le_of_ble_eq_true rfl)
  rw [lg_entry_eq]
  generalize (lg_sl ([.ref h0, .int x, .int y, .int z, .ref o]) ++ List.replicate (6 - (lg_sl ([.ref h0, .int x, .int y, .int z, .ref o])).length) Slot.unset).toArray = ls at hl ⊢
  have hl : lv_has ls 6 [(0, .ref h0), (1, .int x), (2, .int y), (3, .int z), (4, .ref o)] := hl
  refine lv_aload hx hb dL_code_0 (lv_at hl 4 rfl) ?_
  refine lv_iconst (v := 0) hx hb dL_code_2 (by decide) ?_
  refine lv_aload_n hx hb dL_code_3 rfl (lv_at hl 0 rfl) ?_
  refine lv_iload_n hx hb dL_code_4 rfl (lv_at hl 1 rfl) ?_
  refine lv_iload_n hx hb dL_code_5 rfl (lv_at hl 2 rfl) ?_
  refine lv_iload_n hx hb dL_code_6 rfl (lv_at hl 3 rfl) ?_
  refine g_Vx (n := 3) (As := [.int x, .int y, .int z]) (rest := [.int 0, .ref o]) (wr := [(o, .inl (dA 1, 1, .inr (.inl g0)))]) hx hb hml hg hown hZ hK hP hD hS hA (c_X10_code l htr D dA h0 ad x y z _) [0, 1, 2, 3, 4] [5] rfl (by decide) rfl (by decide) (by decide) 0 rfl rfl q1509 q149 q1506 q1507 q1508 (by decide +kernel) ⟨(Nat.le_of_ble_eq_true rfl), (Nat.le_of_ble_eq_true rfl)⟩ rfl hl.1 rfl (Nat.le_of_ble_eq_true rfl) dL_code_7 ⟨(Nat.le_of_ble_eq_true rfl), (Nat.le_of_ble_eq_true rfl)⟩ (fun E ce q9 H locs hpx hP hD hS hce hcv hcl => ?_) (fun r H locs hpo hP hD hS => ?_)
  · refine vx_widen (k := 1) (n := 6) (Nat.le_of_ble_eq_true rfl) (Nat.le_of_ble_eq_true rfl) ?_
    obtain rfl := hpx
    refine vx_catch (own := RL) (name := xIOB) hown [] ⟨0, 12, 15, 15⟩ [] (htab.trans rfl) (fun z hz => by cases hz) rfl (by decide) (hg _ q647) (hg _ q753) hce hcv hcl ?_
    refine lv_astore (lv' := [(5, .ref q9), (0, .ref h0), (1, .int x), (2, .int y), (3, .int z), (4, .ref o)]) hx hb dL_code_15 hl (by decide) rfl (fun ls hl => ?_)
    refine lv_iconst (v := 1) hx hb dL_code_17 (by decide) ?_
    exact g_iret hx hb hr rfl hlocks hK g0 hP hD hS rfl (Nat.le_of_ble_eq_true rfl) (Nat.le_of_ble_eq_true rfl) dL_code_18
  · exact hpo.elim
set_option maxHeartbeats 4000000 in
set_option maxRecDepth 100000 in
theorem w_fixup (l : Launch) (htr : l.stackTraces = false) (D : va_G) (dA : Nat → ClassId) (h0 : Nat) (ad : Nat → Nat) (o : Nat) (g0 : Nat → Int64) (x : Int32) (y : Int32) (z : Int32) (sz : Nat) : Met l yL_fixup (gwsW yL_fixup cL_fixup 6 (some .int) [(0, 12, 15, 13), (0, 12, 19, 15)]) (gR 9 1 6) (gPreW D dA [.ref h0, .int x, .int y, .int z, .ref o] [(h0, .inr (10, [.ref (ad 0), .int 0, .int (-1), .int (-1), .ref (ad 1), .ref (ad 2), .ref (ad 3), .ref (ad 4), .ref (ad 5), .ref (ad 6), .ref (ad 7), .ref (ad 8)])), (ad 5, .inl (dA 4, 3, .inr (.inr (.inr (.inr (gM (ad 29) (ad 30) (ad 31))))))), (ad 29, .inr (6, [.int 0, .int 0, .ref (ad 32), .ref (ad 33), .ref (ad 34), .ref (ad 35), .ref (ad 36), .int 0, .ref (ad 37), .ref (ad 38), .ref (ad 39), .ref (ad 40), .ref (ad 41), .int 0, .ref (ad 42), .ref (ad 43), .ref (ad 44)])), (ad 30, .inr (6, [.int 0, .int 0, .ref (ad 45), .ref (ad 46), .ref (ad 47), .ref (ad 48), .ref (ad 49), .int 0, .ref (ad 50), .ref (ad 51), .ref (ad 52), .ref (ad 53), .ref (ad 54), .int 0, .ref (ad 55), .ref (ad 56), .ref (ad 57)])), (ad 31, .inr (6, [.int 0, .int 0, .ref (ad 58), .ref (ad 59), .ref (ad 60), .ref (ad 61), .ref (ad 62), .int 0, .ref (ad 63), .ref (ad 64), .ref (ad 65), .ref (ad 66), .ref (ad 67), .int 0, .ref (ad 68), .ref (ad 69), .ref (ad 70)])), (o, .inl (dA 1, 1, .inr (.inl g0)))] sz) (va_Qi (fun (k : Int32) (g : Nat → Int64) => (k = 1 ∧ ¬ gIn 0 3 z) ∨ (k = 2 ∧ gIn 0 3 z)) (gAt D dA (va_A [(h0, .inr (10, [.ref (ad 0), .int 0, .int (-1), .int (-1), .ref (ad 1), .ref (ad 2), .ref (ad 3), .ref (ad 4), .ref (ad 5), .ref (ad 6), .ref (ad 7), .ref (ad 8)])), (ad 5, .inl (dA 4, 3, .inr (.inr (.inr (.inr (gM (ad 29) (ad 30) (ad 31))))))), (ad 29, .inr (6, [.int 0, .int 0, .ref (ad 32), .ref (ad 33), .ref (ad 34), .ref (ad 35), .ref (ad 36), .int 0, .ref (ad 37), .ref (ad 38), .ref (ad 39), .ref (ad 40), .ref (ad 41), .int 0, .ref (ad 42), .ref (ad 43), .ref (ad 44)])), (ad 30, .inr (6, [.int 0, .int 0, .ref (ad 45), .ref (ad 46), .ref (ad 47), .ref (ad 48), .ref (ad 49), .int 0, .ref (ad 50), .ref (ad 51), .ref (ad 52), .ref (ad 53), .ref (ad 54), .int 0, .ref (ad 55), .ref (ad 56), .ref (ad 57)])), (ad 31, .inr (6, [.int 0, .int 0, .ref (ad 58), .ref (ad 59), .ref (ad 60), .ref (ad 61), .ref (ad 62), .int 0, .ref (ad 63), .ref (ad 64), .ref (ad 65), .ref (ad 66), .ref (ad 67), .int 0, .ref (ad 68), .ref (ad 69), .ref (ad 70)])), (o, .inl (dA 1, 1, .inr (.inl g0)))] sz) (fun g : Nat → Int64 => [(o, .inl (dA 1, 1, .inr (.inl g)))])) (va_A [(h0, .inr (10, [.ref (ad 0), .int 0, .int (-1), .int (-1), .ref (ad 1), .ref (ad 2), .ref (ad 3), .ref (ad 4), .ref (ad 5), .ref (ad 6), .ref (ad 7), .ref (ad 8)])), (ad 5, .inl (dA 4, 3, .inr (.inr (.inr (.inr (gM (ad 29) (ad 30) (ad 31))))))), (ad 29, .inr (6, [.int 0, .int 0, .ref (ad 32), .ref (ad 33), .ref (ad 34), .ref (ad 35), .ref (ad 36), .int 0, .ref (ad 37), .ref (ad 38), .ref (ad 39), .ref (ad 40), .ref (ad 41), .int 0, .ref (ad 42), .ref (ad 43), .ref (ad 44)])), (ad 30, .inr (6, [.int 0, .int 0, .ref (ad 45), .ref (ad 46), .ref (ad 47), .ref (ad 48), .ref (ad 49), .int 0, .ref (ad 50), .ref (ad 51), .ref (ad 52), .ref (ad 53), .ref (ad 54), .int 0, .ref (ad 55), .ref (ad 56), .ref (ad 57)])), (ad 31, .inr (6, [.int 0, .int 0, .ref (ad 58), .ref (ad 59), .ref (ad 60), .ref (ad 61), .ref (ad 62), .int 0, .ref (ad 63), .ref (ad 64), .ref (ad 65), .ref (ad 66), .ref (ad 67), .int 0, .ref (ad 68), .ref (ad 69), .ref (ad 70)])), (o, .inl (dA 1, 1, .inr (.inl g0)))] sz)) 1 6 (va_A [(h0, .inr (10, [.ref (ad 0), .int 0, .int (-1), .int (-1), .ref (ad 1), .ref (ad 2), .ref (ad 3), .ref (ad 4), .ref (ad 5), .ref (ad 6), .ref (ad 7), .ref (ad 8)])), (ad 5, .inl (dA 4, 3, .inr (.inr (.inr (.inr (gM (ad 29) (ad 30) (ad 31))))))), (ad 29, .inr (6, [.int 0, .int 0, .ref (ad 32), .ref (ad 33), .ref (ad 34), .ref (ad 35), .ref (ad 36), .int 0, .ref (ad 37), .ref (ad 38), .ref (ad 39), .ref (ad 40), .ref (ad 41), .int 0, .ref (ad 42), .ref (ad 43), .ref (ad 44)])), (ad 30, .inr (6, [.int 0, .int 0, .ref (ad 45), .ref (ad 46), .ref (ad 47), .ref (ad 48), .ref (ad 49), .int 0, .ref (ad 50), .ref (ad 51), .ref (ad 52), .ref (ad 53), .ref (ad 54), .int 0, .ref (ad 55), .ref (ad 56), .ref (ad 57)])), (ad 31, .inr (6, [.int 0, .int 0, .ref (ad 58), .ref (ad 59), .ref (ad 60), .ref (ad 61), .ref (ad 62), .int 0, .ref (ad 63), .ref (ad 64), .ref (ad 65), .ref (ad 66), .ref (ad 67), .int 0, .ref (ad 68), .ref (ad 69), .ref (ad 70)])), (o, .inl (dA 1, 1, .inr (.inl g0)))] sz) := by
  refine va_MetW (cc := cL_fixup) (maxL := 6) (ret := (some .int)) (hh := [(0, 12, 15, 13), (0, 12, 19, 15)]) (by decide) rfl ?_
  intro p e s m args below meth c s₁ B hml hv
  obtain ⟨rfl, hsz, hP, hK, hD0, hZ, hN⟩ := hv
  have hx := B.exec
  have hb := B.bytes
  have hr := B.returns
  have hts := atoms_spec (ws := gwsW yL_fixup cL_fixup 6 (some .int) [(0, 12, 15, 13), (0, 12, 19, 15)]) B.pre
  have hg : ∀ w ∈ gw, w.before _ s = true := fun w h => hts w (List.mem_cons_of_mem _ h)
  have htab := vx_table (x := yL_fixup) B (hts _ List.mem_cons_self)
  have hown : s.vm.findClass RL = some m.cls := findClass_of_methodNamed B.named
  have hlocks := B.notSynchronized
  subst hsz
  have hD := hD0.self (sz := s.heap.size)
  generalize hAe : va_A [(h0, .inr (10, [.ref (ad 0), .int 0, .int (-1), .int (-1), .ref (ad 1), .ref (ad 2), .ref (ad 3), .ref (ad 4), .ref (ad 5), .ref (ad 6), .ref (ad 7), .ref (ad 8)])), (ad 5, .inl (dA 4, 3, .inr (.inr (.inr (.inr (gM (ad 29) (ad 30) (ad 31))))))), (ad 29, .inr (6, [.int 0, .int 0, .ref (ad 32), .ref (ad 33), .ref (ad 34), .ref (ad 35), .ref (ad 36), .int 0, .ref (ad 37), .ref (ad 38), .ref (ad 39), .ref (ad 40), .ref (ad 41), .int 0, .ref (ad 42), .ref (ad 43), .ref (ad 44)])), (ad 30, .inr (6, [.int 0, .int 0, .ref (ad 45), .ref (ad 46), .ref (ad 47), .ref (ad 48), .ref (ad 49), .int 0, .ref (ad 50), .ref (ad 51), .ref (ad 52), .ref (ad 53), .ref (ad 54), .int 0, .ref (ad 55), .ref (ad 56), .ref (ad 57)])), (ad 31, .inr (6, [.int 0, .int 0, .ref (ad 58), .ref (ad 59), .ref (ad 60), .ref (ad 61), .ref (ad 62), .int 0, .ref (ad 63), .ref (ad 64), .ref (ad 65), .ref (ad 66), .ref (ad 67), .int 0, .ref (ad 68), .ref (ad 69), .ref (ad 70)])), (o, .inl (dA 1, 1, .inr (.inl g0)))] s.heap.size = A at hZ hD ⊢
  have hA : ∀ q : Nat, s.heap.size ≤ q → A q := fun q h => by rw [← hAe]; exact Or.inr h
  have hS : va_S A s.heap s.heap [] := va_S.rf
  have hP : va_P D vwC [(h0, .inr (10, [.ref (ad 0), .int 0, .int (-1), .int (-1), .ref (ad 1), .ref (ad 2), .ref (ad 3), .ref (ad 4), .ref (ad 5), .ref (ad 6), .ref (ad 7), .ref (ad 8)])), (ad 5, .inl (dA 4, 3, .inr (.inr (.inr (.inr (gM (ad 29) (ad 30) (ad 31))))))), (ad 29, .inr (6, [.int 0, .int 0, .ref (ad 32), .ref (ad 33), .ref (ad 34), .ref (ad 35), .ref (ad 36), .int 0, .ref (ad 37), .ref (ad 38), .ref (ad 39), .ref (ad 40), .ref (ad 41), .int 0, .ref (ad 42), .ref (ad 43), .ref (ad 44)])), (ad 30, .inr (6, [.int 0, .int 0, .ref (ad 45), .ref (ad 46), .ref (ad 47), .ref (ad 48), .ref (ad 49), .int 0, .ref (ad 50), .ref (ad 51), .ref (ad 52), .ref (ad 53), .ref (ad 54), .int 0, .ref (ad 55), .ref (ad 56), .ref (ad 57)])), (ad 31, .inr (6, [.int 0, .int 0, .ref (ad 58), .ref (ad 59), .ref (ad 60), .ref (ad 61), .ref (ad 62), .int 0, .ref (ad 63), .ref (ad 64), .ref (ad 65), .ref (ad 66), .ref (ad 67), .int 0, .ref (ad 68), .ref (ad 69), .ref (ad 70)])), (o, .inl (dA 1, 1, .inr (.inl g0)))] s.heap := hP
  have hl := lv_entry ([.ref h0, .int x, .int y, .int z, .ref o]) (n := 6) (Nat.le_of_ble_eq_true rfl)
  rw [lg_entry_eq]
  generalize (lg_sl ([.ref h0, .int x, .int y, .int z, .ref o]) ++ List.replicate (6 - (lg_sl ([.ref h0, .int x, .int y, .int z, .ref o])).length) Slot.unset).toArray = ls at hl ⊢
  have hl : lv_has ls 6 [(0, .ref h0), (1, .int x), (2, .int y), (3, .int z), (4, .ref o)] := hl
  refine lv_aload hx hb dL_fixup_0 (lv_at hl 4 rfl) ?_
  refine lv_iconst (v := 0) hx hb dL_fixup_2 (by decide) ?_
  refine lv_aload_n hx hb dL_fixup_3 rfl (lv_at hl 0 rfl) ?_
  refine lv_iload_n hx hb dL_fixup_4 rfl (lv_at hl 1 rfl) ?_
  refine lv_iload_n hx hb dL_fixup_5 rfl (lv_at hl 2 rfl) ?_
  refine lv_iload_n hx hb dL_fixup_6 rfl (lv_at hl 3 rfl) ?_
  refine g_Vx (n := 3) (As := [.int x, .int y, .int z]) (rest := [.int 0, .ref o]) (wr := [(o, .inl (dA 1, 1, .inr (.inl g0)))]) hx hb hml hg hown hZ hK hP hD hS hA (c_X10_fixup l htr D dA h0 ad x y z _) [0, 1, 2, 3, 4] [5] rfl (by decide) rfl (by decide) (by decide) 0 rfl rfl q1519 q149 q1516 q1517 q1518 (by decide +kernel) ⟨(Nat.le_of_ble_eq_true rfl), (Nat.le_of_ble_eq_true rfl)⟩ rfl hl.1 rfl (Nat.le_of_ble_eq_true rfl) dL_fixup_7 ⟨(Nat.le_of_ble_eq_true rfl), (Nat.le_of_ble_eq_true rfl)⟩ (fun E ce q9 H locs hpx hP hD hS hce hcv hcl => ?_) (fun r H locs hpo hP hD hS => ?_)
  · refine vx_widen (k := 1) (n := 6) (Nat.le_of_ble_eq_true rfl) (Nat.le_of_ble_eq_true rfl) ?_
    rcases hpx with ⟨rfl, hq⟩ | ⟨rfl, hq⟩
    · refine vx_catch (own := RL) (name := xIAE) hown [] ⟨0, 12, 15, 13⟩ [⟨0, 12, 19, 15⟩] (htab.trans rfl) (fun z hz => by cases hz) rfl (by decide) (hg _ q646) (hg _ q733) hce hcv hcl ?_
      refine lv_astore (lv' := [(5, .ref q9), (0, .ref h0), (1, .int x), (2, .int y), (3, .int z), (4, .ref o)]) hx hb dL_fixup_15 hl (by decide) rfl (fun ls hl => ?_)
      refine lv_iconst (v := 1) hx hb dL_fixup_17 (by decide) ?_
      exact g_iret hx hb hr rfl hlocks hK g0 hP hD hS (Or.inl ⟨rfl, hq⟩) (Nat.le_of_ble_eq_true rfl) (Nat.le_of_ble_eq_true rfl) dL_fixup_18
    · refine vx_catch (own := RL) (name := xIOB) hown [⟨0, 12, 15, 13⟩] ⟨0, 12, 19, 15⟩ [] (htab.trans rfl) (fun z hz => by rcases List.mem_singleton.mp hz with rfl; exact Or.inr ⟨by decide, xIAE, hg _ q646, hN (xIOB, xIAE) (by decide)⟩) rfl (by decide) (hg _ q647) (hg _ q753) hce hcv hcl ?_
      refine lv_astore (lv' := [(5, .ref q9), (0, .ref h0), (1, .int x), (2, .int y), (3, .int z), (4, .ref o)]) hx hb dL_fixup_19 hl (by decide) rfl (fun ls hl => ?_)
      refine lv_iconst (v := 2) hx hb dL_fixup_21 (by decide) ?_
      exact g_iret hx hb hr rfl hlocks hK g0 hP hD hS (Or.inr ⟨rfl, hq⟩) (Nat.le_of_ble_eq_true rfl) (Nat.le_of_ble_eq_true rfl) dL_fixup_22
  · exact hpo.elim
set_option maxHeartbeats 4000000 in
set_option maxRecDepth 100000 in
theorem w_load (l : Launch) (htr : l.stackTraces = false) (D : va_G) (dA : Nat → ClassId) (h0 : Nat) (ad : Nat → Nat) (o : Nat) (g0 : Nat → Int64) (x : Int32) (sz : Nat) : Met l yL_load (gwsW yL_load cL_load 4 (some .int) [(0, 9, 12, 13), (0, 9, 15, 35)]) (gR 9 1 6) (gPreW D dA [.ref h0, .int x, .ref o] [(h0, .inr (10, [.ref (ad 0), .int 0, .int (-1), .int (-1), .ref (ad 1), .ref (ad 2), .ref (ad 3), .ref (ad 4), .ref (ad 5), .ref (ad 6), .ref (ad 7), .ref (ad 8)])), (ad 7, .inr (1, [.int 0, .int 0, .ref (ad 76), .int 0, .ref (ad 77), .int 0, .int 0])), (o, .inl (dA 1, 1, .inr (.inl g0)))] sz) (va_Qi (fun (k : Int32) (g : Nat → Int64) => (k = 1 ∧ ¬ gIn 0 255 x) ∨ (k = 2 ∧ gIn 0 255 x)) (gAt D dA (va_A [(h0, .inr (10, [.ref (ad 0), .int 0, .int (-1), .int (-1), .ref (ad 1), .ref (ad 2), .ref (ad 3), .ref (ad 4), .ref (ad 5), .ref (ad 6), .ref (ad 7), .ref (ad 8)])), (ad 7, .inr (1, [.int 0, .int 0, .ref (ad 76), .int 0, .ref (ad 77), .int 0, .int 0])), (o, .inl (dA 1, 1, .inr (.inl g0)))] sz) (fun g : Nat → Int64 => [(o, .inl (dA 1, 1, .inr (.inl g)))])) (va_A [(h0, .inr (10, [.ref (ad 0), .int 0, .int (-1), .int (-1), .ref (ad 1), .ref (ad 2), .ref (ad 3), .ref (ad 4), .ref (ad 5), .ref (ad 6), .ref (ad 7), .ref (ad 8)])), (ad 7, .inr (1, [.int 0, .int 0, .ref (ad 76), .int 0, .ref (ad 77), .int 0, .int 0])), (o, .inl (dA 1, 1, .inr (.inl g0)))] sz)) 1 6 (va_A [(h0, .inr (10, [.ref (ad 0), .int 0, .int (-1), .int (-1), .ref (ad 1), .ref (ad 2), .ref (ad 3), .ref (ad 4), .ref (ad 5), .ref (ad 6), .ref (ad 7), .ref (ad 8)])), (ad 7, .inr (1, [.int 0, .int 0, .ref (ad 76), .int 0, .ref (ad 77), .int 0, .int 0])), (o, .inl (dA 1, 1, .inr (.inl g0)))] sz) := by
  refine va_MetW (cc := cL_load) (maxL := 4) (ret := (some .int)) (hh := [(0, 9, 12, 13), (0, 9, 15, 35)]) (by decide) rfl ?_
  intro p e s m args below meth c s₁ B hml hv
  obtain ⟨rfl, hsz, hP, hK, hD0, hZ, hN⟩ := hv
  have hx := B.exec
  have hb := B.bytes
  have hr := B.returns
  have hts := atoms_spec (ws := gwsW yL_load cL_load 4 (some .int) [(0, 9, 12, 13), (0, 9, 15, 35)]) B.pre
  have hg : ∀ w ∈ gw, w.before _ s = true := fun w h => hts w (List.mem_cons_of_mem _ h)
  have htab := vx_table (x := yL_load) B (hts _ List.mem_cons_self)
  have hown : s.vm.findClass RL = some m.cls := findClass_of_methodNamed B.named
  have hlocks := B.notSynchronized
  subst hsz
  have hD := hD0.self (sz := s.heap.size)
  generalize hAe : va_A [(h0, .inr (10, [.ref (ad 0), .int 0, .int (-1), .int (-1), .ref (ad 1), .ref (ad 2), .ref (ad 3), .ref (ad 4), .ref (ad 5), .ref (ad 6), .ref (ad 7), .ref (ad 8)])), (ad 7, .inr (1, [.int 0, .int 0, .ref (ad 76), .int 0, .ref (ad 77), .int 0, .int 0])), (o, .inl (dA 1, 1, .inr (.inl g0)))] s.heap.size = A at hZ hD ⊢
  have hA : ∀ q : Nat, s.heap.size ≤ q → A q := fun q h => by rw [← hAe]; exact Or.inr h
  have hS : va_S A s.heap s.heap [] := va_S.rf
  have hP : va_P D vwC [(h0, .inr (10, [.ref (ad 0), .int 0, .int (-1), .int (-1), .ref (ad 1), .ref (ad 2), .ref (ad 3), .ref (ad 4), .ref (ad 5), .ref (ad 6), .ref (ad 7), .ref (ad 8)])), (ad 7, .inr (1, [.int 0, .int 0, .ref (ad 76), .int 0, .ref (ad 77), .int 0, .int 0])), (o, .inl (dA 1, 1, .inr (.inl g0)))] s.heap := hP
  have hl := lv_entry ([.ref h0, .int x, .ref o]) (n := 4) (Nat.le_of_ble_eq_true rfl)
  rw [lg_entry_eq]
  generalize (lg_sl ([.ref h0, .int x, .ref o]) ++ List.replicate (4 - (lg_sl ([.ref h0, .int x, .ref o])).length) Slot.unset).toArray = ls at hl ⊢
  have hl : lv_has ls 4 [(0, .ref h0), (1, .int x), (2, .ref o)] := hl
  refine lv_aload_n hx hb dL_load_0 rfl (lv_at hl 2 rfl) ?_
  refine lv_iconst (v := 0) hx hb dL_load_1 (by decide) ?_
  refine lv_aload_n hx hb dL_load_2 rfl (lv_at hl 0 rfl) ?_
  refine lv_iload_n hx hb dL_load_3 rfl (lv_at hl 1 rfl) ?_
  refine g_Vx (n := 1) (As := [.int x]) (rest := [.int 0, .ref o]) (wr := [(o, .inl (dA 1, 1, .inr (.inl g0)))]) hx hb hml hg hown hZ hK hP hD hS hA (c_X10_load l htr D dA h0 ad x _) [0, 1] [2] rfl (by decide) rfl (by decide) (by decide) 0 rfl rfl q1367 q149 q1364 q1365 q1366 (by decide +kernel) ⟨(Nat.le_of_ble_eq_true rfl), (Nat.le_of_ble_eq_true rfl)⟩ rfl hl.1 rfl (Nat.le_of_ble_eq_true rfl) dL_load_4 ⟨(Nat.le_of_ble_eq_true rfl), (Nat.le_of_ble_eq_true rfl)⟩ (fun E ce q9 H locs hpx hP hD hS hce hcv hcl => ?_) (fun r H locs hpo hP hD hS => ?_)
  · refine vx_widen (k := 1) (n := 6) (Nat.le_of_ble_eq_true rfl) (Nat.le_of_ble_eq_true rfl) ?_
    rcases hpx with ⟨rfl, hq⟩ | ⟨rfl, hq⟩
    · refine vx_catch (own := RL) (name := xIAE) hown [] ⟨0, 9, 12, 13⟩ [⟨0, 9, 15, 35⟩] (htab.trans rfl) (fun z hz => by cases hz) rfl (by decide) (hg _ q646) (hg _ q733) hce hcv hcl ?_
      refine lv_astore_n (lv' := [(3, .ref q9), (0, .ref h0), (1, .int x), (2, .ref o)]) hx hb dL_load_12 rfl hl (by decide) rfl (fun ls hl => ?_)
      refine lv_iconst (v := 1) hx hb dL_load_13 (by decide) ?_
      exact g_iret hx hb hr rfl hlocks hK g0 hP hD hS (Or.inl ⟨rfl, hq⟩) (Nat.le_of_ble_eq_true rfl) (Nat.le_of_ble_eq_true rfl) dL_load_14
    · refine vx_catch (own := RL) (name := xISE) hown [⟨0, 9, 12, 13⟩] ⟨0, 9, 15, 35⟩ [] (htab.trans rfl) (fun z hz => by rcases List.mem_singleton.mp hz with rfl; exact Or.inr ⟨by decide, xIAE, hg _ q646, hN (xISE, xIAE) (by decide)⟩) rfl (by decide) (hg _ q1255) (hg _ q1266) hce hcv hcl ?_
      refine lv_astore_n (lv' := [(3, .ref q9), (0, .ref h0), (1, .int x), (2, .ref o)]) hx hb dL_load_15 rfl hl (by decide) rfl (fun ls hl => ?_)
      refine lv_iconst (v := 2) hx hb dL_load_16 (by decide) ?_
      exact g_iret hx hb hr rfl hlocks hK g0 hP hD hS (Or.inr ⟨rfl, hq⟩) (Nat.le_of_ble_eq_true rfl) (Nat.le_of_ble_eq_true rfl) dL_load_17
  · exact hpo.elim
set_option maxHeartbeats 4000000 in
set_option maxRecDepth 100000 in
theorem w_run (l : Launch) (htr : l.stackTraces = false) (D : va_G) (dA : Nat → ClassId) (h0 : Nat) (ad : Nat → Nat) (o : Nat) (g0 : Nat → Int64) (x : Int32) (sz : Nat) : Met l yL_run (gwsW yL_run cL_run 4 (some .int) [(0, 9, 12, 13), (0, 9, 15, 35)]) (gR 9 1 6) (gPreW D dA [.ref h0, .int x, .ref o] [(h0, .inr (10, [.ref (ad 0), .int 0, .int (-1), .int (-1), .ref (ad 1), .ref (ad 2), .ref (ad 3), .ref (ad 4), .ref (ad 5), .ref (ad 6), .ref (ad 7), .ref (ad 8)])), (ad 8, .inr (4, [.ref (ad 78), .ref (ad 79), .ref (ad 80), .int 0, .int 0, .int 0, .int 0, .int 1, .int 0, .int 0, .ref (ad 81), .int 0, .int 0, .int 0])), (o, .inl (dA 1, 1, .inr (.inl g0)))] sz) (va_Qi (fun (k : Int32) (g : Nat → Int64) => (k = 1 ∧ ¬ gIn 1 400 x) ∨ (k = 2 ∧ gIn 1 400 x)) (gAt D dA (va_A [(h0, .inr (10, [.ref (ad 0), .int 0, .int (-1), .int (-1), .ref (ad 1), .ref (ad 2), .ref (ad 3), .ref (ad 4), .ref (ad 5), .ref (ad 6), .ref (ad 7), .ref (ad 8)])), (ad 8, .inr (4, [.ref (ad 78), .ref (ad 79), .ref (ad 80), .int 0, .int 0, .int 0, .int 0, .int 1, .int 0, .int 0, .ref (ad 81), .int 0, .int 0, .int 0])), (o, .inl (dA 1, 1, .inr (.inl g0)))] sz) (fun g : Nat → Int64 => [(o, .inl (dA 1, 1, .inr (.inl g)))])) (va_A [(h0, .inr (10, [.ref (ad 0), .int 0, .int (-1), .int (-1), .ref (ad 1), .ref (ad 2), .ref (ad 3), .ref (ad 4), .ref (ad 5), .ref (ad 6), .ref (ad 7), .ref (ad 8)])), (ad 8, .inr (4, [.ref (ad 78), .ref (ad 79), .ref (ad 80), .int 0, .int 0, .int 0, .int 0, .int 1, .int 0, .int 0, .ref (ad 81), .int 0, .int 0, .int 0])), (o, .inl (dA 1, 1, .inr (.inl g0)))] sz)) 1 6 (va_A [(h0, .inr (10, [.ref (ad 0), .int 0, .int (-1), .int (-1), .ref (ad 1), .ref (ad 2), .ref (ad 3), .ref (ad 4), .ref (ad 5), .ref (ad 6), .ref (ad 7), .ref (ad 8)])), (ad 8, .inr (4, [.ref (ad 78), .ref (ad 79), .ref (ad 80), .int 0, .int 0, .int 0, .int 0, .int 1, .int 0, .int 0, .ref (ad 81), .int 0, .int 0, .int 0])), (o, .inl (dA 1, 1, .inr (.inl g0)))] sz) := by
  refine va_MetW (cc := cL_run) (maxL := 4) (ret := (some .int)) (hh := [(0, 9, 12, 13), (0, 9, 15, 35)]) (by decide) rfl ?_
  intro p e s m args below meth c s₁ B hml hv
  obtain ⟨rfl, hsz, hP, hK, hD0, hZ, hN⟩ := hv
  have hx := B.exec
  have hb := B.bytes
  have hr := B.returns
  have hts := atoms_spec (ws := gwsW yL_run cL_run 4 (some .int) [(0, 9, 12, 13), (0, 9, 15, 35)]) B.pre
  have hg : ∀ w ∈ gw, w.before _ s = true := fun w h => hts w (List.mem_cons_of_mem _ h)
  have htab := vx_table (x := yL_run) B (hts _ List.mem_cons_self)
  have hown : s.vm.findClass RL = some m.cls := findClass_of_methodNamed B.named
  have hlocks := B.notSynchronized
  subst hsz
  have hD := hD0.self (sz := s.heap.size)
  generalize hAe : va_A [(h0, .inr (10, [.ref (ad 0), .int 0, .int (-1), .int (-1), .ref (ad 1), .ref (ad 2), .ref (ad 3), .ref (ad 4), .ref (ad 5), .ref (ad 6), .ref (ad 7), .ref (ad 8)])), (ad 8, .inr (4, [.ref (ad 78), .ref (ad 79), .ref (ad 80), .int 0, .int 0, .int 0, .int 0, .int 1, .int 0, .int 0, .ref (ad 81), .int 0, .int 0, .int 0])), (o, .inl (dA 1, 1, .inr (.inl g0)))] s.heap.size = A at hZ hD ⊢
  have hA : ∀ q : Nat, s.heap.size ≤ q → A q := fun q h => by rw [← hAe]; exact Or.inr h
  have hS : va_S A s.heap s.heap [] := va_S.rf
  have hP : va_P D vwC [(h0, .inr (10, [.ref (ad 0), .int 0, .int (-1), .int (-1), .ref (ad 1), .ref (ad 2), .ref (ad 3), .ref (ad 4), .ref (ad 5), .ref (ad 6), .ref (ad 7), .ref (ad 8)])), (ad 8, .inr (4, [.ref (ad 78), .ref (ad 79), .ref (ad 80), .int 0, .int 0, .int 0, .int 0, .int 1, .int 0, .int 0, .ref (ad 81), .int 0, .int 0, .int 0])), (o, .inl (dA 1, 1, .inr (.inl g0)))] s.heap := hP
  have hl := lv_entry ([.ref h0, .int x, .ref o]) (n := 4) (Nat.le_of_ble_eq_true rfl)
  rw [lg_entry_eq]
  generalize (lg_sl ([.ref h0, .int x, .ref o]) ++ List.replicate (4 - (lg_sl ([.ref h0, .int x, .ref o])).length) Slot.unset).toArray = ls at hl ⊢
  have hl : lv_has ls 4 [(0, .ref h0), (1, .int x), (2, .ref o)] := hl
  refine lv_aload_n hx hb dL_run_0 rfl (lv_at hl 2 rfl) ?_
  refine lv_iconst (v := 0) hx hb dL_run_1 (by decide) ?_
  refine lv_aload_n hx hb dL_run_2 rfl (lv_at hl 0 rfl) ?_
  refine lv_iload_n hx hb dL_run_3 rfl (lv_at hl 1 rfl) ?_
  refine g_Vx (n := 1) (As := [.int x]) (rest := [.int 0, .ref o]) (wr := [(o, .inl (dA 1, 1, .inr (.inl g0)))]) hx hb hml hg hown hZ hK hP hD hS hA (c_X10_run l htr D dA h0 ad x _) [0, 1] [2] rfl (by decide) rfl (by decide) (by decide) 0 rfl rfl q1389 q149 q1386 q1387 q1388 (by decide +kernel) ⟨(Nat.le_of_ble_eq_true rfl), (Nat.le_of_ble_eq_true rfl)⟩ rfl hl.1 rfl (Nat.le_of_ble_eq_true rfl) dL_run_4 ⟨(Nat.le_of_ble_eq_true rfl), (Nat.le_of_ble_eq_true rfl)⟩ (fun E ce q9 H locs hpx hP hD hS hce hcv hcl => ?_) (fun r H locs hpo hP hD hS => ?_)
  · refine vx_widen (k := 1) (n := 6) (Nat.le_of_ble_eq_true rfl) (Nat.le_of_ble_eq_true rfl) ?_
    rcases hpx with ⟨rfl, hq⟩ | ⟨rfl, hq⟩
    · refine vx_catch (own := RL) (name := xIAE) hown [] ⟨0, 9, 12, 13⟩ [⟨0, 9, 15, 35⟩] (htab.trans rfl) (fun z hz => by cases hz) rfl (by decide) (hg _ q646) (hg _ q733) hce hcv hcl ?_
      refine lv_astore_n (lv' := [(3, .ref q9), (0, .ref h0), (1, .int x), (2, .ref o)]) hx hb dL_run_12 rfl hl (by decide) rfl (fun ls hl => ?_)
      refine lv_iconst (v := 1) hx hb dL_run_13 (by decide) ?_
      exact g_iret hx hb hr rfl hlocks hK g0 hP hD hS (Or.inl ⟨rfl, hq⟩) (Nat.le_of_ble_eq_true rfl) (Nat.le_of_ble_eq_true rfl) dL_run_14
    · refine vx_catch (own := RL) (name := xISE) hown [⟨0, 9, 12, 13⟩] ⟨0, 9, 15, 35⟩ [] (htab.trans rfl) (fun z hz => by rcases List.mem_singleton.mp hz with rfl; exact Or.inr ⟨by decide, xIAE, hg _ q646, hN (xISE, xIAE) (by decide)⟩) rfl (by decide) (hg _ q1255) (hg _ q1266) hce hcv hcl ?_
      refine lv_astore_n (lv' := [(3, .ref q9), (0, .ref h0), (1, .int x), (2, .ref o)]) hx hb dL_run_15 rfl hl (by decide) rfl (fun ls hl => ?_)
      refine lv_iconst (v := 2) hx hb dL_run_16 (by decide) ?_
      exact g_iret hx hb hr rfl hlocks hK g0 hP hD hS (Or.inr ⟨rfl, hq⟩) (Nat.le_of_ble_eq_true rfl) (Nat.le_of_ble_eq_true rfl) dL_run_17
  · exact hpo.elim
