theorem q646 : Cond.classLink RL 13 "java/lang/IllegalArgumentException" ∈ gw := gw_in (i := 646) (by decide +kernel) rfl
theorem q647 : Cond.classLink RL 15 "java/lang/IndexOutOfBoundsException" ∈ gw := gw_in (i := 647) (by decide +kernel) rfl
theorem q727 : Cond.methodLink RL 7 yX10_append ∈ gw := gw_in (i := 727) (by decide +kernel) rfl
theorem q728 : Cond.instanceMethod yX10_append ∈ gw := gw_in (i := 728) (by decide +kernel) rfl
theorem q729 : Cond.selects RX10 yX10_append yX10_append ∈ gw := gw_in (i := 729) (by decide +kernel) rfl
theorem q730 : Cond.code yX10_append cX10_append 6 (some .int) ∈ gw := gw_in (i := 730) (by decide +kernel) rfl
theorem q733 : Cond.castable "java/lang/IllegalArgumentException" "java/lang/IllegalArgumentException" ∈ gw := gw_in (i := 733) (by decide +kernel) rfl
theorem q753 : Cond.castable "java/lang/IndexOutOfBoundsException" "java/lang/IndexOutOfBoundsException" ∈ gw := gw_in (i := 753) (by decide +kernel) rfl
theorem q767 : Cond.classLink RL 21 "java/lang/UnsupportedOperationException" ∈ gw := gw_in (i := 767) (by decide +kernel) rfl
theorem q768 : Cond.classLink RL 23 "java/util/NoSuchElementException" ∈ gw := gw_in (i := 768) (by decide +kernel) rfl
theorem q769 : Cond.classLink RL 25 "java/lang/ArithmeticException" ∈ gw := gw_in (i := 769) (by decide +kernel) rfl
theorem q781 : Cond.castable "java/lang/ArithmeticException" "java/lang/ArithmeticException" ∈ gw := gw_in (i := 781) (by decide +kernel) rfl
theorem q783 : Cond.methodLink RL 17 yX10_assemble ∈ gw := gw_in (i := 783) (by decide +kernel) rfl
theorem q784 : Cond.instanceMethod yX10_assemble ∈ gw := gw_in (i := 784) (by decide +kernel) rfl
theorem q785 : Cond.selects RX10 yX10_assemble yX10_assemble ∈ gw := gw_in (i := 785) (by decide +kernel) rfl
theorem q786 : Cond.code yX10_assemble cX10_assemble 6 (some .int) ∈ gw := gw_in (i := 786) (by decide +kernel) rfl
theorem q1092 : Cond.castable "java/lang/UnsupportedOperationException" "java/lang/UnsupportedOperationException" ∈ gw := gw_in (i := 1092) (by decide +kernel) rfl
theorem q1140 : Cond.castable "java/util/NoSuchElementException" "java/util/NoSuchElementException" ∈ gw := gw_in (i := 1140) (by decide +kernel) rfl
theorem q1247 : Cond.methodLink RL 27 yX10_drop ∈ gw := gw_in (i := 1247) (by decide +kernel) rfl
theorem q1248 : Cond.instanceMethod yX10_drop ∈ gw := gw_in (i := 1248) (by decide +kernel) rfl
theorem q1249 : Cond.selects RX10 yX10_drop yX10_drop ∈ gw := gw_in (i := 1249) (by decide +kernel) rfl
theorem q1250 : Cond.code yX10_drop cX10_drop 3 (some .boolean) ∈ gw := gw_in (i := 1250) (by decide +kernel) rfl
theorem q1255 : Cond.classLink RL 35 "java/lang/IllegalStateException" ∈ gw := gw_in (i := 1255) (by decide +kernel) rfl
theorem q1256 : Cond.methodLink RL 31 yX10_link ∈ gw := gw_in (i := 1256) (by decide +kernel) rfl
theorem q1257 : Cond.instanceMethod yX10_link ∈ gw := gw_in (i := 1257) (by decide +kernel) rfl
theorem q1258 : Cond.selects RX10 yX10_link yX10_link ∈ gw := gw_in (i := 1258) (by decide +kernel) rfl
theorem q1259 : Cond.code yX10_link cX10_link 5 (some .int) ∈ gw := gw_in (i := 1259) (by decide +kernel) rfl
theorem q1266 : Cond.castable "java/lang/IllegalStateException" "java/lang/IllegalStateException" ∈ gw := gw_in (i := 1266) (by decide +kernel) rfl
theorem q1364 : Cond.methodLink RL 37 yX10_load ∈ gw := gw_in (i := 1364) (by decide +kernel) rfl
theorem q1365 : Cond.instanceMethod yX10_load ∈ gw := gw_in (i := 1365) (by decide +kernel) rfl
theorem q1366 : Cond.selects RX10 yX10_load yX10_load ∈ gw := gw_in (i := 1366) (by decide +kernel) rfl
theorem q1367 : Cond.code yX10_load cX10_load 2 (some .int) ∈ gw := gw_in (i := 1367) (by decide +kernel) rfl
theorem q1386 : Cond.methodLink RL 40 yX10_run ∈ gw := gw_in (i := 1386) (by decide +kernel) rfl
theorem q1387 : Cond.instanceMethod yX10_run ∈ gw := gw_in (i := 1387) (by decide +kernel) rfl
theorem q1388 : Cond.selects RX10 yX10_run yX10_run ∈ gw := gw_in (i := 1388) (by decide +kernel) rfl
theorem q1389 : Cond.code yX10_run cX10_run 2 (some .int) ∈ gw := gw_in (i := 1389) (by decide +kernel) rfl
theorem q1506 : Cond.methodLink RL 43 yX10_code ∈ gw := gw_in (i := 1506) (by decide +kernel) rfl
theorem q1507 : Cond.instanceMethod yX10_code ∈ gw := gw_in (i := 1507) (by decide +kernel) rfl
theorem q1508 : Cond.selects RX10 yX10_code yX10_code ∈ gw := gw_in (i := 1508) (by decide +kernel) rfl
theorem q1509 : Cond.code yX10_code cX10_code 5 (some .int) ∈ gw := gw_in (i := 1509) (by decide +kernel) rfl
theorem q1516 : Cond.methodLink RL 47 yX10_fixup ∈ gw := gw_in (i := 1516) (by decide +kernel) rfl
theorem q1517 : Cond.instanceMethod yX10_fixup ∈ gw := gw_in (i := 1517) (by decide +kernel) rfl
theorem q1518 : Cond.selects RX10 yX10_fixup yX10_fixup ∈ gw := gw_in (i := 1518) (by decide +kernel) rfl
theorem q1519 : Cond.code yX10_fixup cX10_fixup 5 (some .int) ∈ gw := gw_in (i := 1519) (by decide +kernel) rfl
theorem q1525 : Cond.methodLink RL 50 yX10_image ∈ gw := gw_in (i := 1525) (by decide +kernel) rfl
theorem q1526 : Cond.instanceMethod yX10_image ∈ gw := gw_in (i := 1526) (by decide +kernel) rfl
theorem q1527 : Cond.selects RX10 yX10_image yX10_image ∈ gw := gw_in (i := 1527) (by decide +kernel) rfl
theorem q1528 : Cond.code yX10_image cX10_image 2 (some .int) ∈ gw := gw_in (i := 1528) (by decide +kernel) rfl
theorem q1532 : Cond.methodLink RL 53 yX10_memory ∈ gw := gw_in (i := 1532) (by decide +kernel) rfl
theorem q1533 : Cond.instanceMethod yX10_memory ∈ gw := gw_in (i := 1533) (by decide +kernel) rfl
theorem q1534 : Cond.selects RX10 yX10_memory yX10_memory ∈ gw := gw_in (i := 1534) (by decide +kernel) rfl
theorem q1535 : Cond.code yX10_memory cX10_memory 2 (some .int) ∈ gw := gw_in (i := 1535) (by decide +kernel) rfl
theorem q1540 : Cond.methodLink RL 56 yX10_register ∈ gw := gw_in (i := 1540) (by decide +kernel) rfl
theorem q1541 : Cond.instanceMethod yX10_register ∈ gw := gw_in (i := 1541) (by decide +kernel) rfl
theorem q1542 : Cond.selects RX10 yX10_register yX10_register ∈ gw := gw_in (i := 1542) (by decide +kernel) rfl
theorem q1543 : Cond.code yX10_register cX10_register 2 (some .int) ∈ gw := gw_in (i := 1543) (by decide +kernel) rfl
theorem q1548 : Cond.methodLink RL 59 yX10_trace ∈ gw := gw_in (i := 1548) (by decide +kernel) rfl
theorem q1549 : Cond.instanceMethod yX10_trace ∈ gw := gw_in (i := 1549) (by decide +kernel) rfl
theorem q1550 : Cond.selects RX10 yX10_trace yX10_trace ∈ gw := gw_in (i := 1550) (by decide +kernel) rfl
theorem q1551 : Cond.code yX10_trace cX10_trace 2 (some .int) ∈ gw := gw_in (i := 1551) (by decide +kernel) rfl
theorem q1556 : Cond.methodLink RL 62 yX10_count ∈ gw := gw_in (i := 1556) (by decide +kernel) rfl
theorem q1557 : Cond.instanceMethod yX10_count ∈ gw := gw_in (i := 1557) (by decide +kernel) rfl
theorem q1558 : Cond.selects RX10 yX10_count yX10_count ∈ gw := gw_in (i := 1558) (by decide +kernel) rfl
theorem q1559 : Cond.code yX10_count cX10_count 2 (some .int) ∈ gw := gw_in (i := 1559) (by decide +kernel) rfl
theorem dL_append_0 : decode cL_append 0 = .ok (.aload 4, 2) := by decide +kernel
theorem dL_append_2 : decode cL_append 2 = .ok (.iconst 0, 1) := by decide +kernel
theorem dL_append_3 : decode cL_append 3 = .ok (.aload_n 0, 1) := by decide +kernel
theorem dL_append_4 : decode cL_append 4 = .ok (.lload_n 1, 1) := by decide +kernel
theorem dL_append_5 : decode cL_append 5 = .ok (.iload_n 3, 1) := by decide +kernel
theorem dL_append_6 : decode cL_append 6 = .ok (.invokevirtual 7, 3) := by decide +kernel
theorem dL_append_14 : decode cL_append 14 = .ok (.astore 5, 2) := by decide +kernel
theorem dL_append_16 : decode cL_append 16 = .ok (.iconst 1, 1) := by decide +kernel
theorem dL_append_17 : decode cL_append 17 = .ok (.ireturn, 1) := by decide +kernel
theorem dL_append_18 : decode cL_append 18 = .ok (.astore 5, 2) := by decide +kernel
theorem dL_append_20 : decode cL_append 20 = .ok (.iconst 2, 1) := by decide +kernel
theorem dL_append_21 : decode cL_append 21 = .ok (.ireturn, 1) := by decide +kernel
theorem dL_append_9 : decode cL_append 9 = .ok (.i2l, 1) := by decide +kernel
theorem dL_append_10 : decode cL_append 10 = .ok (.lastore, 1) := by decide +kernel
theorem dL_append_11 : decode cL_append 11 = .ok (.goto 11, 3) := by decide +kernel
theorem dL_append_22 : decode cL_append 22 = .ok (.iconst 0, 1) := by decide +kernel
theorem dL_append_23 : decode cL_append 23 = .ok (.ireturn, 1) := by decide +kernel
theorem dL_assemble_0 : decode cL_assemble 0 = .ok (.aload_n 2, 1) := by decide +kernel
theorem dL_assemble_1 : decode cL_assemble 1 = .ok (.iconst 0, 1) := by decide +kernel
theorem dL_assemble_2 : decode cL_assemble 2 = .ok (.aload_n 0, 1) := by decide +kernel
theorem dL_assemble_3 : decode cL_assemble 3 = .ok (.iload_n 1, 1) := by decide +kernel
theorem dL_assemble_4 : decode cL_assemble 4 = .ok (.invokevirtual 17, 3) := by decide +kernel
theorem dL_assemble_12 : decode cL_assemble 12 = .ok (.astore_n 3, 1) := by decide +kernel
theorem dL_assemble_13 : decode cL_assemble 13 = .ok (.iconst 1, 1) := by decide +kernel
theorem dL_assemble_14 : decode cL_assemble 14 = .ok (.ireturn, 1) := by decide +kernel
theorem dL_assemble_15 : decode cL_assemble 15 = .ok (.astore_n 3, 1) := by decide +kernel
theorem dL_assemble_16 : decode cL_assemble 16 = .ok (.iconst 2, 1) := by decide +kernel
theorem dL_assemble_17 : decode cL_assemble 17 = .ok (.ireturn, 1) := by decide +kernel
theorem dL_assemble_18 : decode cL_assemble 18 = .ok (.astore_n 3, 1) := by decide +kernel
theorem dL_assemble_19 : decode cL_assemble 19 = .ok (.iconst 3, 1) := by decide +kernel
theorem dL_assemble_20 : decode cL_assemble 20 = .ok (.ireturn, 1) := by decide +kernel
theorem dL_assemble_21 : decode cL_assemble 21 = .ok (.astore_n 3, 1) := by decide +kernel
theorem dL_assemble_22 : decode cL_assemble 22 = .ok (.iconst 4, 1) := by decide +kernel
theorem dL_assemble_23 : decode cL_assemble 23 = .ok (.ireturn, 1) := by decide +kernel
theorem dL_assemble_24 : decode cL_assemble 24 = .ok (.astore_n 3, 1) := by decide +kernel
theorem dL_assemble_25 : decode cL_assemble 25 = .ok (.iconst 5, 1) := by decide +kernel
theorem dL_assemble_26 : decode cL_assemble 26 = .ok (.ireturn, 1) := by decide +kernel
theorem dL_assemble_7 : decode cL_assemble 7 = .ok (.i2l, 1) := by decide +kernel
theorem dL_assemble_8 : decode cL_assemble 8 = .ok (.lastore, 1) := by decide +kernel
theorem dL_assemble_9 : decode cL_assemble 9 = .ok (.goto 18, 3) := by decide +kernel
theorem dL_assemble_27 : decode cL_assemble 27 = .ok (.iconst 0, 1) := by decide +kernel
theorem dL_assemble_28 : decode cL_assemble 28 = .ok (.ireturn, 1) := by decide +kernel
theorem dL_drop_0 : decode cL_drop 0 = .ok (.aload_n 2, 1) := by decide +kernel
theorem dL_drop_1 : decode cL_drop 1 = .ok (.iconst 0, 1) := by decide +kernel
theorem dL_drop_2 : decode cL_drop 2 = .ok (.aload_n 0, 1) := by decide +kernel
theorem dL_drop_3 : decode cL_drop 3 = .ok (.iload_n 1, 1) := by decide +kernel
theorem dL_drop_4 : decode cL_drop 4 = .ok (.invokevirtual 27, 3) := by decide +kernel
theorem dL_drop_19 : decode cL_drop 19 = .ok (.astore_n 3, 1) := by decide +kernel
theorem dL_drop_20 : decode cL_drop 20 = .ok (.iconst 1, 1) := by decide +kernel
theorem dL_drop_21 : decode cL_drop 21 = .ok (.ireturn, 1) := by decide +kernel
theorem dL_drop_7 : decode cL_drop 7 = .ok (.ifCond .eq 7, 3) := by decide +kernel
theorem dL_drop_14 : decode cL_drop 14 = .ok (.lconst 0, 1) := by decide +kernel
theorem dL_drop_15 : decode cL_drop 15 = .ok (.lastore, 1) := by decide +kernel
theorem dL_drop_16 : decode cL_drop 16 = .ok (.goto 6, 3) := by decide +kernel
theorem dL_drop_22 : decode cL_drop 22 = .ok (.iconst 0, 1) := by decide +kernel
theorem dL_drop_23 : decode cL_drop 23 = .ok (.ireturn, 1) := by decide +kernel
theorem dL_drop_10 : decode cL_drop 10 = .ok (.lconst 1, 1) := by decide +kernel
theorem dL_drop_11 : decode cL_drop 11 = .ok (.goto 4, 3) := by decide +kernel
theorem dL_link_0 : decode cL_link 0 = .ok (.aload_n 1, 1) := by decide +kernel
theorem dL_link_1 : decode cL_link 1 = .ok (.iconst 0, 1) := by decide +kernel
theorem dL_link_2 : decode cL_link 2 = .ok (.aload_n 0, 1) := by decide +kernel
theorem dL_link_3 : decode cL_link 3 = .ok (.invokevirtual 31, 3) := by decide +kernel
theorem dL_link_11 : decode cL_link 11 = .ok (.astore_n 2, 1) := by decide +kernel
theorem dL_link_12 : decode cL_link 12 = .ok (.iconst 1, 1) := by decide +kernel
theorem dL_link_13 : decode cL_link 13 = .ok (.ireturn, 1) := by decide +kernel
theorem dL_link_14 : decode cL_link 14 = .ok (.astore_n 2, 1) := by decide +kernel
theorem dL_link_15 : decode cL_link 15 = .ok (.iconst 2, 1) := by decide +kernel
theorem dL_link_16 : decode cL_link 16 = .ok (.ireturn, 1) := by decide +kernel
theorem dL_link_17 : decode cL_link 17 = .ok (.astore_n 2, 1) := by decide +kernel
theorem dL_link_18 : decode cL_link 18 = .ok (.iconst 3, 1) := by decide +kernel
theorem dL_link_19 : decode cL_link 19 = .ok (.ireturn, 1) := by decide +kernel
theorem dL_link_20 : decode cL_link 20 = .ok (.astore_n 2, 1) := by decide +kernel
theorem dL_link_21 : decode cL_link 21 = .ok (.iconst 4, 1) := by decide +kernel
theorem dL_link_22 : decode cL_link 22 = .ok (.ireturn, 1) := by decide +kernel
theorem dL_link_23 : decode cL_link 23 = .ok (.astore_n 2, 1) := by decide +kernel
theorem dL_link_24 : decode cL_link 24 = .ok (.iconst 5, 1) := by decide +kernel
theorem dL_link_25 : decode cL_link 25 = .ok (.ireturn, 1) := by decide +kernel
theorem dL_link_6 : decode cL_link 6 = .ok (.i2l, 1) := by decide +kernel
theorem dL_link_7 : decode cL_link 7 = .ok (.lastore, 1) := by decide +kernel
theorem dL_link_8 : decode cL_link 8 = .ok (.goto 18, 3) := by decide +kernel
theorem dL_link_26 : decode cL_link 26 = .ok (.iconst 0, 1) := by decide +kernel
theorem dL_link_27 : decode cL_link 27 = .ok (.ireturn, 1) := by decide +kernel
theorem dL_load_0 : decode cL_load 0 = .ok (.aload_n 2, 1) := by decide +kernel
theorem dL_load_1 : decode cL_load 1 = .ok (.iconst 0, 1) := by decide +kernel
theorem dL_load_2 : decode cL_load 2 = .ok (.aload_n 0, 1) := by decide +kernel
theorem dL_load_3 : decode cL_load 3 = .ok (.iload_n 1, 1) := by decide +kernel
theorem dL_load_4 : decode cL_load 4 = .ok (.invokevirtual 37, 3) := by decide +kernel
theorem dL_load_12 : decode cL_load 12 = .ok (.astore_n 3, 1) := by decide +kernel
theorem dL_load_13 : decode cL_load 13 = .ok (.iconst 1, 1) := by decide +kernel
theorem dL_load_14 : decode cL_load 14 = .ok (.ireturn, 1) := by decide +kernel
theorem dL_load_15 : decode cL_load 15 = .ok (.astore_n 3, 1) := by decide +kernel
theorem dL_load_16 : decode cL_load 16 = .ok (.iconst 2, 1) := by decide +kernel
theorem dL_load_17 : decode cL_load 17 = .ok (.ireturn, 1) := by decide +kernel
theorem dL_load_7 : decode cL_load 7 = .ok (.i2l, 1) := by decide +kernel
theorem dL_load_8 : decode cL_load 8 = .ok (.lastore, 1) := by decide +kernel
theorem dL_load_9 : decode cL_load 9 = .ok (.goto 9, 3) := by decide +kernel
theorem dL_load_18 : decode cL_load 18 = .ok (.iconst 0, 1) := by decide +kernel
theorem dL_load_19 : decode cL_load 19 = .ok (.ireturn, 1) := by decide +kernel
theorem dL_run_0 : decode cL_run 0 = .ok (.aload_n 2, 1) := by decide +kernel
theorem dL_run_1 : decode cL_run 1 = .ok (.iconst 0, 1) := by decide +kernel
theorem dL_run_2 : decode cL_run 2 = .ok (.aload_n 0, 1) := by decide +kernel
theorem dL_run_3 : decode cL_run 3 = .ok (.iload_n 1, 1) := by decide +kernel
theorem dL_run_4 : decode cL_run 4 = .ok (.invokevirtual 40, 3) := by decide +kernel
theorem dL_run_12 : decode cL_run 12 = .ok (.astore_n 3, 1) := by decide +kernel
theorem dL_run_13 : decode cL_run 13 = .ok (.iconst 1, 1) := by decide +kernel
theorem dL_run_14 : decode cL_run 14 = .ok (.ireturn, 1) := by decide +kernel
theorem dL_run_15 : decode cL_run 15 = .ok (.astore_n 3, 1) := by decide +kernel
theorem dL_run_16 : decode cL_run 16 = .ok (.iconst 2, 1) := by decide +kernel
theorem dL_run_17 : decode cL_run 17 = .ok (.ireturn, 1) := by decide +kernel
theorem dL_run_7 : decode cL_run 7 = .ok (.i2l, 1) := by decide +kernel
theorem dL_run_8 : decode cL_run 8 = .ok (.lastore, 1) := by decide +kernel
theorem dL_run_9 : decode cL_run 9 = .ok (.goto 9, 3) := by decide +kernel
theorem dL_run_18 : decode cL_run 18 = .ok (.iconst 0, 1) := by decide +kernel
theorem dL_run_19 : decode cL_run 19 = .ok (.ireturn, 1) := by decide +kernel
theorem dL_code_0 : decode cL_code 0 = .ok (.aload 4, 2) := by decide +kernel
theorem dL_code_2 : decode cL_code 2 = .ok (.iconst 0, 1) := by decide +kernel
theorem dL_code_3 : decode cL_code 3 = .ok (.aload_n 0, 1) := by decide +kernel
theorem dL_code_4 : decode cL_code 4 = .ok (.iload_n 1, 1) := by decide +kernel
theorem dL_code_5 : decode cL_code 5 = .ok (.iload_n 2, 1) := by decide +kernel
theorem dL_code_6 : decode cL_code 6 = .ok (.iload_n 3, 1) := by decide +kernel
theorem dL_code_7 : decode cL_code 7 = .ok (.invokevirtual 43, 3) := by decide +kernel
theorem dL_code_15 : decode cL_code 15 = .ok (.astore 5, 2) := by decide +kernel
theorem dL_code_17 : decode cL_code 17 = .ok (.iconst 1, 1) := by decide +kernel
theorem dL_code_18 : decode cL_code 18 = .ok (.ireturn, 1) := by decide +kernel
theorem dL_code_10 : decode cL_code 10 = .ok (.i2l, 1) := by decide +kernel
theorem dL_code_11 : decode cL_code 11 = .ok (.lastore, 1) := by decide +kernel
theorem dL_code_12 : decode cL_code 12 = .ok (.goto 7, 3) := by decide +kernel
theorem dL_code_19 : decode cL_code 19 = .ok (.iconst 0, 1) := by decide +kernel
theorem dL_code_20 : decode cL_code 20 = .ok (.ireturn, 1) := by decide +kernel
theorem dL_fixup_0 : decode cL_fixup 0 = .ok (.aload 4, 2) := by decide +kernel
theorem dL_fixup_2 : decode cL_fixup 2 = .ok (.iconst 0, 1) := by decide +kernel
theorem dL_fixup_3 : decode cL_fixup 3 = .ok (.aload_n 0, 1) := by decide +kernel
theorem dL_fixup_4 : decode cL_fixup 4 = .ok (.iload_n 1, 1) := by decide +kernel
theorem dL_fixup_5 : decode cL_fixup 5 = .ok (.iload_n 2, 1) := by decide +kernel
theorem dL_fixup_6 : decode cL_fixup 6 = .ok (.iload_n 3, 1) := by decide +kernel
theorem dL_fixup_7 : decode cL_fixup 7 = .ok (.invokevirtual 47, 3) := by decide +kernel
theorem dL_fixup_15 : decode cL_fixup 15 = .ok (.astore 5, 2) := by decide +kernel
theorem dL_fixup_17 : decode cL_fixup 17 = .ok (.iconst 1, 1) := by decide +kernel
theorem dL_fixup_18 : decode cL_fixup 18 = .ok (.ireturn, 1) := by decide +kernel
theorem dL_fixup_19 : decode cL_fixup 19 = .ok (.astore 5, 2) := by decide +kernel
theorem dL_fixup_21 : decode cL_fixup 21 = .ok (.iconst 2, 1) := by decide +kernel
theorem dL_fixup_22 : decode cL_fixup 22 = .ok (.ireturn, 1) := by decide +kernel
theorem dL_fixup_10 : decode cL_fixup 10 = .ok (.i2l, 1) := by decide +kernel
theorem dL_fixup_11 : decode cL_fixup 11 = .ok (.lastore, 1) := by decide +kernel
theorem dL_fixup_12 : decode cL_fixup 12 = .ok (.goto 11, 3) := by decide +kernel
theorem dL_fixup_23 : decode cL_fixup 23 = .ok (.iconst 0, 1) := by decide +kernel
theorem dL_fixup_24 : decode cL_fixup 24 = .ok (.ireturn, 1) := by decide +kernel
theorem dL_image_0 : decode cL_image 0 = .ok (.aload_n 2, 1) := by decide +kernel
theorem dL_image_1 : decode cL_image 1 = .ok (.iconst 0, 1) := by decide +kernel
theorem dL_image_2 : decode cL_image 2 = .ok (.aload_n 0, 1) := by decide +kernel
theorem dL_image_3 : decode cL_image 3 = .ok (.iload_n 1, 1) := by decide +kernel
theorem dL_image_4 : decode cL_image 4 = .ok (.invokevirtual 50, 3) := by decide +kernel
theorem dL_image_12 : decode cL_image 12 = .ok (.astore_n 3, 1) := by decide +kernel
theorem dL_image_13 : decode cL_image 13 = .ok (.iconst 1, 1) := by decide +kernel
theorem dL_image_14 : decode cL_image 14 = .ok (.ireturn, 1) := by decide +kernel
theorem dL_image_7 : decode cL_image 7 = .ok (.i2l, 1) := by decide +kernel
theorem dL_image_8 : decode cL_image 8 = .ok (.lastore, 1) := by decide +kernel
theorem dL_image_9 : decode cL_image 9 = .ok (.goto 6, 3) := by decide +kernel
theorem dL_image_15 : decode cL_image 15 = .ok (.iconst 0, 1) := by decide +kernel
theorem dL_image_16 : decode cL_image 16 = .ok (.ireturn, 1) := by decide +kernel
theorem dL_memory_0 : decode cL_memory 0 = .ok (.aload_n 2, 1) := by decide +kernel
theorem dL_memory_1 : decode cL_memory 1 = .ok (.iconst 0, 1) := by decide +kernel
theorem dL_memory_2 : decode cL_memory 2 = .ok (.aload_n 0, 1) := by decide +kernel
theorem dL_memory_3 : decode cL_memory 3 = .ok (.iload_n 1, 1) := by decide +kernel
theorem dL_memory_4 : decode cL_memory 4 = .ok (.invokevirtual 53, 3) := by decide +kernel
theorem dL_memory_12 : decode cL_memory 12 = .ok (.astore_n 3, 1) := by decide +kernel
theorem dL_memory_13 : decode cL_memory 13 = .ok (.iconst 1, 1) := by decide +kernel
theorem dL_memory_14 : decode cL_memory 14 = .ok (.ireturn, 1) := by decide +kernel
theorem dL_memory_7 : decode cL_memory 7 = .ok (.i2l, 1) := by decide +kernel
theorem dL_memory_8 : decode cL_memory 8 = .ok (.lastore, 1) := by decide +kernel
theorem dL_memory_9 : decode cL_memory 9 = .ok (.goto 6, 3) := by decide +kernel
theorem dL_memory_15 : decode cL_memory 15 = .ok (.iconst 0, 1) := by decide +kernel
theorem dL_memory_16 : decode cL_memory 16 = .ok (.ireturn, 1) := by decide +kernel
theorem dL_register_0 : decode cL_register 0 = .ok (.aload_n 2, 1) := by decide +kernel
theorem dL_register_1 : decode cL_register 1 = .ok (.iconst 0, 1) := by decide +kernel
theorem dL_register_2 : decode cL_register 2 = .ok (.aload_n 0, 1) := by decide +kernel
theorem dL_register_3 : decode cL_register 3 = .ok (.iload_n 1, 1) := by decide +kernel
theorem dL_register_4 : decode cL_register 4 = .ok (.invokevirtual 56, 3) := by decide +kernel
theorem dL_register_12 : decode cL_register 12 = .ok (.astore_n 3, 1) := by decide +kernel
theorem dL_register_13 : decode cL_register 13 = .ok (.iconst 1, 1) := by decide +kernel
theorem dL_register_14 : decode cL_register 14 = .ok (.ireturn, 1) := by decide +kernel
theorem dL_register_7 : decode cL_register 7 = .ok (.i2l, 1) := by decide +kernel
theorem dL_register_8 : decode cL_register 8 = .ok (.lastore, 1) := by decide +kernel
theorem dL_register_9 : decode cL_register 9 = .ok (.goto 6, 3) := by decide +kernel
theorem dL_register_15 : decode cL_register 15 = .ok (.iconst 0, 1) := by decide +kernel
theorem dL_register_16 : decode cL_register 16 = .ok (.ireturn, 1) := by decide +kernel
theorem dL_trace_0 : decode cL_trace 0 = .ok (.aload_n 2, 1) := by decide +kernel
theorem dL_trace_1 : decode cL_trace 1 = .ok (.iconst 0, 1) := by decide +kernel
theorem dL_trace_2 : decode cL_trace 2 = .ok (.aload_n 0, 1) := by decide +kernel
theorem dL_trace_3 : decode cL_trace 3 = .ok (.iload_n 1, 1) := by decide +kernel
theorem dL_trace_4 : decode cL_trace 4 = .ok (.invokevirtual 59, 3) := by decide +kernel
theorem dL_trace_12 : decode cL_trace 12 = .ok (.astore_n 3, 1) := by decide +kernel
theorem dL_trace_13 : decode cL_trace 13 = .ok (.iconst 1, 1) := by decide +kernel
theorem dL_trace_14 : decode cL_trace 14 = .ok (.ireturn, 1) := by decide +kernel
theorem dL_trace_7 : decode cL_trace 7 = .ok (.i2l, 1) := by decide +kernel
theorem dL_trace_8 : decode cL_trace 8 = .ok (.lastore, 1) := by decide +kernel
theorem dL_trace_9 : decode cL_trace 9 = .ok (.goto 6, 3) := by decide +kernel
theorem dL_trace_15 : decode cL_trace 15 = .ok (.iconst 0, 1) := by decide +kernel
theorem dL_trace_16 : decode cL_trace 16 = .ok (.ireturn, 1) := by decide +kernel
theorem dL_count_0 : decode cL_count 0 = .ok (.aload_n 2, 1) := by decide +kernel
theorem dL_count_1 : decode cL_count 1 = .ok (.iconst 0, 1) := by decide +kernel
theorem dL_count_2 : decode cL_count 2 = .ok (.aload_n 0, 1) := by decide +kernel
theorem dL_count_3 : decode cL_count 3 = .ok (.iload_n 1, 1) := by decide +kernel
theorem dL_count_4 : decode cL_count 4 = .ok (.invokevirtual 62, 3) := by decide +kernel
theorem dL_count_12 : decode cL_count 12 = .ok (.astore_n 3, 1) := by decide +kernel
theorem dL_count_13 : decode cL_count 13 = .ok (.iconst 1, 1) := by decide +kernel
theorem dL_count_14 : decode cL_count 14 = .ok (.ireturn, 1) := by decide +kernel
theorem dL_count_7 : decode cL_count 7 = .ok (.i2l, 1) := by decide +kernel
theorem dL_count_8 : decode cL_count 8 = .ok (.lastore, 1) := by decide +kernel
theorem dL_count_9 : decode cL_count 9 = .ok (.goto 6, 3) := by decide +kernel
theorem dL_count_15 : decode cL_count 15 = .ok (.iconst 0, 1) := by decide +kernel
theorem dL_count_16 : decode cL_count 16 = .ok (.ireturn, 1) := by decide +kernel
set_option maxHeartbeats 4000000 in
set_option maxRecDepth 100000 in
theorem w_append (l : Launch) (htr : l.stackTraces = false) (D : va_G) (dA : Nat → ClassId) (ad : Int → Nat → Nat) (tf tc : Nat) (aK aV : Nat → Nat) (o : Nat) (g0 : Nat → Int64) (v : Int) (n : Int) (σ : ZS) (Q : Int → ZS → Prop) (X : String → ZS → Prop) (sz : Nat) (hw : wpX10_append v n σ Q X) (hXs : ∀ (E : String) (u : ZS), X E u → E = xIAE ∨ E = xIOB) : Met l yL_append (gwsW yL_append cL_append 6 (some .int) [(0, 11, 14, 13), (0, 11, 18, 15)]) (gR 10 1 6) (zPreW D dA tf tc aK aV [.ref (ad 10 1000), .long (Int64.ofInt v), .int (Int32.ofInt n), .ref o] (zO dA ad o (σ, g0)) sz) (va_Qi (zWa (fun x => (Int32.ofInt x).toInt64) Q X [xIAE, xIOB]) (gAt D dA (va_A (zO dA ad o (σ, g0)) sz) (zO dA ad o)) (va_A (zO dA ad o (σ, g0)) sz)) 1 6 (va_A (zO dA ad o (σ, g0)) sz) := by
  refine va_MetW (cc := cL_append) (maxL := 6) (ret := (some .int)) (hh := [(0, 11, 14, 13), (0, 11, 18, 15)]) (by decide) rfl ?_
  intro p e s m args below meth c s₁ B hml hv
  obtain ⟨rfl, hsz, hP, hK, hD0, hE, hN⟩ := hv
  have hx := B.exec
  have hb := B.bytes
  have hr := B.returns
  have hts := atoms_spec (ws := gwsW yL_append cL_append 6 (some .int) [(0, 11, 14, 13), (0, 11, 18, 15)]) B.pre
  have hg : ∀ w ∈ gw, w.before _ s = true := fun w h => hts w (List.mem_cons_of_mem _ h)
  have htab := vx_table (x := yL_append) B (hts _ List.mem_cons_self)
  have hown : s.vm.findClass RL = some m.cls := findClass_of_methodNamed B.named
  have hlocks := B.notSynchronized
  subst hsz
  have hD := hD0.self (sz := s.heap.size)
  generalize hAe : va_A (zO dA ad o (σ, g0)) s.heap.size = A at hE hD ⊢
  have hA : ∀ q : Nat, s.heap.size ≤ q → A q := fun q h => by rw [← hAe]; exact Or.inr h
  have hS : va_S A s.heap s.heap [] := va_S.rf
  have hP : va_P D vwC (zOc dA o g0 ++ zC dA ad σ) s.heap := hP
  have hD : va_D A (zOc dA o g0 ++ zC dA ad σ) := hD
  have hl := lv_entry ([.ref (ad 10 1000), .long (Int64.ofInt v), .int (Int32.ofInt n), .ref o]) (n := 6) (Nat.le_of_ble_eq_true rfl)
  rw [lg_entry_eq]
  generalize (lg_sl ([.ref (ad 10 1000), .long (Int64.ofInt v), .int (Int32.ofInt n), .ref o]) ++ List.replicate (6 - (lg_sl ([.ref (ad 10 1000), .long (Int64.ofInt v), .int (Int32.ofInt n), .ref o])).length) Slot.unset).toArray = ls at hl ⊢
  have hl : lv_has ls 6 [(0, .ref (ad 10 1000)), (1, .long (Int64.ofInt v)), (3, .int (Int32.ofInt n)), (4, .ref o)] := hl
  refine lv_aload hx hb dL_append_0 (lv_at hl 3 rfl) ?_
  refine lv_iconst (v := 0) hx hb dL_append_2 (by decide) ?_
  refine lv_aload_n hx hb dL_append_3 rfl (lv_at hl 0 rfl) ?_
  refine lv_lload_n hx hb dL_append_4 rfl (lv_at hl 1 rfl) ?_
  refine lv_iload_n hx hb dL_append_5 rfl (lv_at hl 2 rfl) ?_
  refine wl_Vx (n := 2) (As := [.long (Int64.ofInt v), .int (Int32.ofInt n)]) (rest := [.int 0, .ref o]) (wr := zOc dA o g0) (w1 := zC dA ad) (σ := σ) hx hb hml hg hown hE hK hP hD hS hA (kX10_append l htr D dA ad tf tc aK aV v n σ Q X _ hw) rfl rfl q730 q149 q727 q728 q729 (by decide +kernel) ⟨(Nat.le_of_ble_eq_true rfl), (Nat.le_of_ble_eq_true rfl)⟩ rfl hl.1 rfl (Nat.le_of_ble_eq_true rfl) dL_append_6 ⟨(Nat.le_of_ble_eq_true rfl), (Nat.le_of_ble_eq_true rfl)⟩ (fun E u ce q9 H locs hX hP hD hS hce hcv hcl => ?_) (fun rv u H locs hQv hP hD hS => ?_)
  · refine vx_widen (k := 1) (n := 6) (Nat.le_of_ble_eq_true rfl) (Nat.le_of_ble_eq_true rfl) ?_
    rcases hXs E u hX with rfl | rfl
    · refine vx_catch (own := RL) (name := xIAE) hown [] ⟨0, 11, 14, 13⟩ [⟨0, 11, 18, 15⟩] (htab.trans rfl) (fun z hz => by cases hz) rfl (by decide) (hg _ q646) (hg _ q733) hce hcv hcl ?_
      refine lv_astore (lv' := [(5, .ref q9), (0, .ref (ad 10 1000)), (1, .long (Int64.ofInt v)), (3, .int (Int32.ofInt n)), (4, .ref o)]) hx hb dL_append_14 hl (by decide) rfl (fun ls hl => ?_)
      refine lv_iconst (v := 1) hx hb dL_append_16 (by decide) ?_
      exact g_iret hx hb hr rfl hlocks hK (u, g0) hP hD hS (Or.inr ⟨0, _, rfl, by decide, hX⟩) (Nat.le_of_ble_eq_true rfl) (Nat.le_of_ble_eq_true rfl) dL_append_17
    · refine vx_catch (own := RL) (name := xIOB) hown [⟨0, 11, 14, 13⟩] ⟨0, 11, 18, 15⟩ [] (htab.trans rfl) (fun z hz => ?_) rfl (by decide) (hg _ q647) (hg _ q753) hce hcv hcl ?_
      · simp only [List.mem_cons, List.not_mem_nil, or_false] at hz
        subst hz
        exact Or.inr ⟨by decide, xIAE, hg _ q646, hN (xIOB, xIAE) (by decide)⟩
      refine lv_astore (lv' := [(5, .ref q9), (0, .ref (ad 10 1000)), (1, .long (Int64.ofInt v)), (3, .int (Int32.ofInt n)), (4, .ref o)]) hx hb dL_append_18 hl (by decide) rfl (fun ls hl => ?_)
      refine lv_iconst (v := 2) hx hb dL_append_20 (by decide) ?_
      exact g_iret hx hb hr rfl hlocks hK (u, g0) hP hD hS (Or.inr ⟨1, _, rfl, by decide, hX⟩) (Nat.le_of_ble_eq_true rfl) (Nat.le_of_ble_eq_true rfl) dL_append_21
  · refine W.widen (k := 1) (n := 6) (Nat.le_of_ble_eq_true rfl) (Nat.le_of_ble_eq_true rfl) ?_
    refine lv_i2l (v := (Int32.ofInt rv).toInt64) hx hb dL_append_9 rfl ?_
    refine va_last hx hb hK hP hD hS 0 1 rfl rfl (by unfold vp_in; decide) dL_append_10 (fun H locs hP hD hS => ?_)
    have hP : va_P D vwC (zOc dA o (vp_updL g0 (0 : Int32).toNatClampNeg (Int32.ofInt rv).toInt64) ++ zC dA ad u) H := hP
    have hD : va_D A (zOc dA o (vp_updL g0 (0 : Int32).toNatClampNeg (Int32.ofInt rv).toInt64) ++ zC dA ad u) := hD
    refine lv_goto (tgt := 22) hx hb dL_append_11 (by decide) ?_
    refine lv_iconst (v := 0) hx hb dL_append_22 (by decide) ?_
    exact g_iret hx hb hr rfl hlocks hK (u, vp_updL g0 (0 : Int32).toNatClampNeg (Int32.ofInt rv).toInt64) hP hD hS (Or.inl ⟨rfl, rv, g_o0 g0 (Int32.ofInt rv).toInt64, hQv⟩) (Nat.le_of_ble_eq_true rfl) (Nat.le_of_ble_eq_true rfl) dL_append_23
set_option maxHeartbeats 4000000 in
set_option maxRecDepth 100000 in
theorem w_assemble (l : Launch) (htr : l.stackTraces = false) (D : va_G) (dA : Nat → ClassId) (ad : Int → Nat → Nat) (tf tc : Nat) (aK aV : Nat → Nat) (o : Nat) (g0 : Nat → Int64) (a : Int) (σ : ZS) (Q : Int → ZS → Prop) (X : String → ZS → Prop) (sz : Nat) (hw : wpX10_assemble a σ Q X) (hXs : ∀ (E : String) (u : ZS), X E u → E = xIAE ∨ E = xUOE ∨ E = xNSE ∨ E = xIOB ∨ E = xARI) : Met l yL_assemble (gwsW yL_assemble cL_assemble 4 (some .int) [(0, 9, 12, 13), (0, 9, 15, 21), (0, 9, 18, 23), (0, 9, 21, 15), (0, 9, 24, 25)]) (gR 10 1 6) (zPreW D dA tf tc aK aV [.ref (ad 10 1000), .int (Int32.ofInt a), .ref o] (zO dA ad o (σ, g0)) sz) (va_Qi (zWa (fun x => (Int32.ofInt x).toInt64) Q X [xIAE, xUOE, xNSE, xIOB, xARI]) (gAt D dA (va_A (zO dA ad o (σ, g0)) sz) (zO dA ad o)) (va_A (zO dA ad o (σ, g0)) sz)) 1 6 (va_A (zO dA ad o (σ, g0)) sz) := by
  refine va_MetW (cc := cL_assemble) (maxL := 4) (ret := (some .int)) (hh := [(0, 9, 12, 13), (0, 9, 15, 21), (0, 9, 18, 23), (0, 9, 21, 15), (0, 9, 24, 25)]) (by decide) rfl ?_
  intro p e s m args below meth c s₁ B hml hv
  obtain ⟨rfl, hsz, hP, hK, hD0, hE, hN⟩ := hv
  have hx := B.exec
  have hb := B.bytes
  have hr := B.returns
  have hts := atoms_spec (ws := gwsW yL_assemble cL_assemble 4 (some .int) [(0, 9, 12, 13), (0, 9, 15, 21), (0, 9, 18, 23), (0, 9, 21, 15), (0, 9, 24, 25)]) B.pre
  have hg : ∀ w ∈ gw, w.before _ s = true := fun w h => hts w (List.mem_cons_of_mem _ h)
  have htab := vx_table (x := yL_assemble) B (hts _ List.mem_cons_self)
  have hown : s.vm.findClass RL = some m.cls := findClass_of_methodNamed B.named
  have hlocks := B.notSynchronized
  subst hsz
  have hD := hD0.self (sz := s.heap.size)
  generalize hAe : va_A (zO dA ad o (σ, g0)) s.heap.size = A at hE hD ⊢
  have hA : ∀ q : Nat, s.heap.size ≤ q → A q := fun q h => by rw [← hAe]; exact Or.inr h
  have hS : va_S A s.heap s.heap [] := va_S.rf
  have hP : va_P D vwC (zOc dA o g0 ++ zC dA ad σ) s.heap := hP
  have hD : va_D A (zOc dA o g0 ++ zC dA ad σ) := hD
  have hl := lv_entry ([.ref (ad 10 1000), .int (Int32.ofInt a), .ref o]) (n := 4) (Nat.le_of_ble_eq_true rfl)
  rw [lg_entry_eq]
  generalize (lg_sl ([.ref (ad 10 1000), .int (Int32.ofInt a), .ref o]) ++ List.replicate (4 - (lg_sl ([.ref (ad 10 1000), .int (Int32.ofInt a), .ref o])).length) Slot.unset).toArray = ls at hl ⊢
  have hl : lv_has ls 4 [(0, .ref (ad 10 1000)), (1, .int (Int32.ofInt a)), (2, .ref o)] := hl
  refine lv_aload_n hx hb dL_assemble_0 rfl (lv_at hl 2 rfl) ?_
  refine lv_iconst (v := 0) hx hb dL_assemble_1 (by decide) ?_
  refine lv_aload_n hx hb dL_assemble_2 rfl (lv_at hl 0 rfl) ?_
  refine lv_iload_n hx hb dL_assemble_3 rfl (lv_at hl 1 rfl) ?_
  refine wl_Vx (n := 1) (As := [.int (Int32.ofInt a)]) (rest := [.int 0, .ref o]) (wr := zOc dA o g0) (w1 := zC dA ad) (σ := σ) hx hb hml hg hown hE hK hP hD hS hA (kX10_assemble l htr D dA ad tf tc aK aV a σ Q X _ hw) rfl rfl q786 q149 q783 q784 q785 (by decide +kernel) ⟨(Nat.le_of_ble_eq_true rfl), (Nat.le_of_ble_eq_true rfl)⟩ rfl hl.1 rfl (Nat.le_of_ble_eq_true rfl) dL_assemble_4 ⟨(Nat.le_of_ble_eq_true rfl), (Nat.le_of_ble_eq_true rfl)⟩ (fun E u ce q9 H locs hX hP hD hS hce hcv hcl => ?_) (fun rv u H locs hQv hP hD hS => ?_)
  · refine vx_widen (k := 1) (n := 6) (Nat.le_of_ble_eq_true rfl) (Nat.le_of_ble_eq_true rfl) ?_
    rcases hXs E u hX with rfl | rfl | rfl | rfl | rfl
    · refine vx_catch (own := RL) (name := xIAE) hown [] ⟨0, 9, 12, 13⟩ [⟨0, 9, 15, 21⟩, ⟨0, 9, 18, 23⟩, ⟨0, 9, 21, 15⟩, ⟨0, 9, 24, 25⟩] (htab.trans rfl) (fun z hz => by cases hz) rfl (by decide) (hg _ q646) (hg _ q733) hce hcv hcl ?_
      refine lv_astore_n (lv' := [(3, .ref q9), (0, .ref (ad 10 1000)), (1, .int (Int32.ofInt a)), (2, .ref o)]) hx hb dL_assemble_12 rfl hl (by decide) rfl (fun ls hl => ?_)
      refine lv_iconst (v := 1) hx hb dL_assemble_13 (by decide) ?_
      exact g_iret hx hb hr rfl hlocks hK (u, g0) hP hD hS (Or.inr ⟨0, _, rfl, by decide, hX⟩) (Nat.le_of_ble_eq_true rfl) (Nat.le_of_ble_eq_true rfl) dL_assemble_14
    · refine vx_catch (own := RL) (name := xUOE) hown [⟨0, 9, 12, 13⟩] ⟨0, 9, 15, 21⟩ [⟨0, 9, 18, 23⟩, ⟨0, 9, 21, 15⟩, ⟨0, 9, 24, 25⟩] (htab.trans rfl) (fun z hz => ?_) rfl (by decide) (hg _ q767) (hg _ q1092) hce hcv hcl ?_
      · simp only [List.mem_cons, List.not_mem_nil, or_false] at hz
        subst hz
        exact Or.inr ⟨by decide, xIAE, hg _ q646, hN (xUOE, xIAE) (by decide)⟩
      refine lv_astore_n (lv' := [(3, .ref q9), (0, .ref (ad 10 1000)), (1, .int (Int32.ofInt a)), (2, .ref o)]) hx hb dL_assemble_15 rfl hl (by decide) rfl (fun ls hl => ?_)
      refine lv_iconst (v := 2) hx hb dL_assemble_16 (by decide) ?_
      exact g_iret hx hb hr rfl hlocks hK (u, g0) hP hD hS (Or.inr ⟨1, _, rfl, by decide, hX⟩) (Nat.le_of_ble_eq_true rfl) (Nat.le_of_ble_eq_true rfl) dL_assemble_17
    · refine vx_catch (own := RL) (name := xNSE) hown [⟨0, 9, 12, 13⟩, ⟨0, 9, 15, 21⟩] ⟨0, 9, 18, 23⟩ [⟨0, 9, 21, 15⟩, ⟨0, 9, 24, 25⟩] (htab.trans rfl) (fun z hz => ?_) rfl (by decide) (hg _ q768) (hg _ q1140) hce hcv hcl ?_
      · simp only [List.mem_cons, List.not_mem_nil, or_false] at hz
        rcases hz with rfl | rfl
        · exact Or.inr ⟨by decide, xIAE, hg _ q646, hN (xNSE, xIAE) (by decide)⟩
        · exact Or.inr ⟨by decide, xUOE, hg _ q767, hN (xNSE, xUOE) (by decide)⟩
      refine lv_astore_n (lv' := [(3, .ref q9), (0, .ref (ad 10 1000)), (1, .int (Int32.ofInt a)), (2, .ref o)]) hx hb dL_assemble_18 rfl hl (by decide) rfl (fun ls hl => ?_)
      refine lv_iconst (v := 3) hx hb dL_assemble_19 (by decide) ?_
      exact g_iret hx hb hr rfl hlocks hK (u, g0) hP hD hS (Or.inr ⟨2, _, rfl, by decide, hX⟩) (Nat.le_of_ble_eq_true rfl) (Nat.le_of_ble_eq_true rfl) dL_assemble_20
    · refine vx_catch (own := RL) (name := xIOB) hown [⟨0, 9, 12, 13⟩, ⟨0, 9, 15, 21⟩, ⟨0, 9, 18, 23⟩] ⟨0, 9, 21, 15⟩ [⟨0, 9, 24, 25⟩] (htab.trans rfl) (fun z hz => ?_) rfl (by decide) (hg _ q647) (hg _ q753) hce hcv hcl ?_
      · simp only [List.mem_cons, List.not_mem_nil, or_false] at hz
        rcases hz with rfl | rfl | rfl
        · exact Or.inr ⟨by decide, xIAE, hg _ q646, hN (xIOB, xIAE) (by decide)⟩
        · exact Or.inr ⟨by decide, xUOE, hg _ q767, hN (xIOB, xUOE) (by decide)⟩
        · exact Or.inr ⟨by decide, xNSE, hg _ q768, hN (xIOB, xNSE) (by decide)⟩
      refine lv_astore_n (lv' := [(3, .ref q9), (0, .ref (ad 10 1000)), (1, .int (Int32.ofInt a)), (2, .ref o)]) hx hb dL_assemble_21 rfl hl (by decide) rfl (fun ls hl => ?_)
      refine lv_iconst (v := 4) hx hb dL_assemble_22 (by decide) ?_
      exact g_iret hx hb hr rfl hlocks hK (u, g0) hP hD hS (Or.inr ⟨3, _, rfl, by decide, hX⟩) (Nat.le_of_ble_eq_true rfl) (Nat.le_of_ble_eq_true rfl) dL_assemble_23
    · refine vx_catch (own := RL) (name := xARI) hown [⟨0, 9, 12, 13⟩, ⟨0, 9, 15, 21⟩, ⟨0, 9, 18, 23⟩, ⟨0, 9, 21, 15⟩] ⟨0, 9, 24, 25⟩ [] (htab.trans rfl) (fun z hz => ?_) rfl (by decide) (hg _ q769) (hg _ q781) hce hcv hcl ?_
      · simp only [List.mem_cons, List.not_mem_nil, or_false] at hz
        rcases hz with rfl | rfl | rfl | rfl
        · exact Or.inr ⟨by decide, xIAE, hg _ q646, hN (xARI, xIAE) (by decide)⟩
        · exact Or.inr ⟨by decide, xUOE, hg _ q767, hN (xARI, xUOE) (by decide)⟩
        · exact Or.inr ⟨by decide, xNSE, hg _ q768, hN (xARI, xNSE) (by decide)⟩
        · exact Or.inr ⟨by decide, xIOB, hg _ q647, hN (xARI, xIOB) (by decide)⟩
      refine lv_astore_n (lv' := [(3, .ref q9), (0, .ref (ad 10 1000)), (1, .int (Int32.ofInt a)), (2, .ref o)]) hx hb dL_assemble_24 rfl hl (by decide) rfl (fun ls hl => ?_)
      refine lv_iconst (v := 5) hx hb dL_assemble_25 (by decide) ?_
      exact g_iret hx hb hr rfl hlocks hK (u, g0) hP hD hS (Or.inr ⟨4, _, rfl, by decide, hX⟩) (Nat.le_of_ble_eq_true rfl) (Nat.le_of_ble_eq_true rfl) dL_assemble_26
  · refine W.widen (k := 1) (n := 6) (Nat.le_of_ble_eq_true rfl) (Nat.le_of_ble_eq_true rfl) ?_
    refine lv_i2l (v := (Int32.ofInt rv).toInt64) hx hb dL_assemble_7 rfl ?_
    refine va_last hx hb hK hP hD hS 0 1 rfl rfl (by unfold vp_in; decide) dL_assemble_8 (fun H locs hP hD hS => ?_)
    have hP : va_P D vwC (zOc dA o (vp_updL g0 (0 : Int32).toNatClampNeg (Int32.ofInt rv).toInt64) ++ zC dA ad u) H := hP
    have hD : va_D A (zOc dA o (vp_updL g0 (0 : Int32).toNatClampNeg (Int32.ofInt rv).toInt64) ++ zC dA ad u) := hD
    refine lv_goto (tgt := 27) hx hb dL_assemble_9 (by decide) ?_
    refine lv_iconst (v := 0) hx hb dL_assemble_27 (by decide) ?_
    exact g_iret hx hb hr rfl hlocks hK (u, vp_updL g0 (0 : Int32).toNatClampNeg (Int32.ofInt rv).toInt64) hP hD hS (Or.inl ⟨rfl, rv, g_o0 g0 (Int32.ofInt rv).toInt64, hQv⟩) (Nat.le_of_ble_eq_true rfl) (Nat.le_of_ble_eq_true rfl) dL_assemble_28
set_option maxHeartbeats 4000000 in
set_option maxRecDepth 100000 in
theorem w_drop (l : Launch) (htr : l.stackTraces = false) (D : va_G) (dA : Nat → ClassId) (ad : Int → Nat → Nat) (tf tc : Nat) (aK aV : Nat → Nat) (o : Nat) (g0 : Nat → Int64) (a : Int) (σ : ZS) (Q : Int → ZS → Prop) (X : String → ZS → Prop) (sz : Nat) (hw : wpX10_drop a σ Q X) (hXs : ∀ (E : String) (u : ZS), X E u → E = xIAE) : Met l yL_drop (gwsW yL_drop cL_drop 4 (some .int) [(0, 16, 19, 13)]) (gR 10 1 6) (zPreW D dA tf tc aK aV [.ref (ad 10 1000), .int (Int32.ofInt a), .ref o] (zO dA ad o (σ, g0)) sz) (va_Qi (zWa (fun x => if Int32.ofInt x = 0 then 0 else 1) Q X [xIAE]) (gAt D dA (va_A (zO dA ad o (σ, g0)) sz) (zO dA ad o)) (va_A (zO dA ad o (σ, g0)) sz)) 1 6 (va_A (zO dA ad o (σ, g0)) sz) := by
  refine va_MetW (cc := cL_drop) (maxL := 4) (ret := (some .int)) (hh := [(0, 16, 19, 13)]) (by decide) rfl ?_
  intro p e s m args below meth c s₁ B hml hv
  obtain ⟨rfl, hsz, hP, hK, hD0, hE, hN⟩ := hv
  have hx := B.exec
  have hb := B.bytes
  have hr := B.returns
  have hts := atoms_spec (ws := gwsW yL_drop cL_drop 4 (some .int) [(0, 16, 19, 13)]) B.pre
  have hg : ∀ w ∈ gw, w.before _ s = true := fun w h => hts w (List.mem_cons_of_mem _ h)
  have htab := vx_table (x := yL_drop) B (hts _ List.mem_cons_self)
  have hown : s.vm.findClass RL = some m.cls := findClass_of_methodNamed B.named
  have hlocks := B.notSynchronized
  subst hsz
  have hD := hD0.self (sz := s.heap.size)
  generalize hAe : va_A (zO dA ad o (σ, g0)) s.heap.size = A at hE hD ⊢
  have hA : ∀ q : Nat, s.heap.size ≤ q → A q := fun q h => by rw [← hAe]; exact Or.inr h
  have hS : va_S A s.heap s.heap [] := va_S.rf
  have hP : va_P D vwC (zOc dA o g0 ++ zC dA ad σ) s.heap := hP
  have hD : va_D A (zOc dA o g0 ++ zC dA ad σ) := hD
  have hl := lv_entry ([.ref (ad 10 1000), .int (Int32.ofInt a), .ref o]) (n := 4) (Nat.le_of_ble_eq_true rfl)
  rw [lg_entry_eq]
  generalize (lg_sl ([.ref (ad 10 1000), .int (Int32.ofInt a), .ref o]) ++ List.replicate (4 - (lg_sl ([.ref (ad 10 1000), .int (Int32.ofInt a), .ref o])).length) Slot.unset).toArray = ls at hl ⊢
  have hl : lv_has ls 4 [(0, .ref (ad 10 1000)), (1, .int (Int32.ofInt a)), (2, .ref o)] := hl
  refine lv_aload_n hx hb dL_drop_0 rfl (lv_at hl 2 rfl) ?_
  refine lv_iconst (v := 0) hx hb dL_drop_1 (by decide) ?_
  refine lv_aload_n hx hb dL_drop_2 rfl (lv_at hl 0 rfl) ?_
  refine lv_iload_n hx hb dL_drop_3 rfl (lv_at hl 1 rfl) ?_
  refine wl_Vx (n := 1) (As := [.int (Int32.ofInt a)]) (rest := [.int 0, .ref o]) (wr := zOc dA o g0) (w1 := zC dA ad) (σ := σ) hx hb hml hg hown hE hK hP hD hS hA (kX10_drop l htr D dA ad tf tc aK aV a σ Q X _ hw) rfl rfl q1250 q149 q1247 q1248 q1249 (by decide +kernel) ⟨(Nat.le_of_ble_eq_true rfl), (Nat.le_of_ble_eq_true rfl)⟩ rfl hl.1 rfl (Nat.le_of_ble_eq_true rfl) dL_drop_4 ⟨(Nat.le_of_ble_eq_true rfl), (Nat.le_of_ble_eq_true rfl)⟩ (fun E u ce q9 H locs hX hP hD hS hce hcv hcl => ?_) (fun rv u H locs hQv hP hD hS => ?_)
  · refine vx_widen (k := 1) (n := 6) (Nat.le_of_ble_eq_true rfl) (Nat.le_of_ble_eq_true rfl) ?_
    obtain rfl := hXs E u hX
    refine vx_catch (own := RL) (name := xIAE) hown [] ⟨0, 16, 19, 13⟩ [] (htab.trans rfl) (fun z hz => by cases hz) rfl (by decide) (hg _ q646) (hg _ q733) hce hcv hcl ?_
    refine lv_astore_n (lv' := [(3, .ref q9), (0, .ref (ad 10 1000)), (1, .int (Int32.ofInt a)), (2, .ref o)]) hx hb dL_drop_19 rfl hl (by decide) rfl (fun ls hl => ?_)
    refine lv_iconst (v := 1) hx hb dL_drop_20 (by decide) ?_
    exact g_iret hx hb hr rfl hlocks hK (u, g0) hP hD hS (Or.inr ⟨0, _, rfl, by decide, hX⟩) (Nat.le_of_ble_eq_true rfl) (Nat.le_of_ble_eq_true rfl) dL_drop_21
  · refine W.widen (k := 1) (n := 6) (Nat.le_of_ble_eq_true rfl) (Nat.le_of_ble_eq_true rfl) ?_
    refine lv_if_eq (tgt := 14) hx hb dL_drop_7 (by decide) (fun hv0 => ?_) (fun hv0 => ?_)
    · refine lv_lconst (v := 0) hx hb dL_drop_14 (by decide) ?_
      refine va_last hx hb hK hP hD hS 0 1 rfl rfl (by unfold vp_in; decide) dL_drop_15 (fun H locs hP hD hS => ?_)
      have hP : va_P D vwC (zOc dA o (vp_updL g0 (0 : Int32).toNatClampNeg 0) ++ zC dA ad u) H := hP
      have hD : va_D A (zOc dA o (vp_updL g0 (0 : Int32).toNatClampNeg 0) ++ zC dA ad u) := hD
      refine lv_goto (tgt := 22) hx hb dL_drop_16 (by decide) ?_
      refine lv_iconst (v := 0) hx hb dL_drop_22 (by decide) ?_
      exact g_iret hx hb hr rfl hlocks hK (u, vp_updL g0 (0 : Int32).toNatClampNeg 0) hP hD hS (Or.inl ⟨rfl, rv, (g_o0 g0 0).trans (if_pos hv0).symm, hQv⟩) (Nat.le_of_ble_eq_true rfl) (Nat.le_of_ble_eq_true rfl) dL_drop_23
    · refine lv_lconst (v := 1) hx hb dL_drop_10 (by decide) ?_
      refine lv_goto (tgt := 15) hx hb dL_drop_11 (by decide) ?_
      refine va_last hx hb hK hP hD hS 0 1 rfl rfl (by unfold vp_in; decide) dL_drop_15 (fun H locs hP hD hS => ?_)
      have hP : va_P D vwC (zOc dA o (vp_updL g0 (0 : Int32).toNatClampNeg 1) ++ zC dA ad u) H := hP
      have hD : va_D A (zOc dA o (vp_updL g0 (0 : Int32).toNatClampNeg 1) ++ zC dA ad u) := hD
      refine lv_goto (tgt := 22) hx hb dL_drop_16 (by decide) ?_
      refine lv_iconst (v := 0) hx hb dL_drop_22 (by decide) ?_
      exact g_iret hx hb hr rfl hlocks hK (u, vp_updL g0 (0 : Int32).toNatClampNeg 1) hP hD hS (Or.inl ⟨rfl, rv, (g_o0 g0 1).trans (if_neg hv0).symm, hQv⟩) (Nat.le_of_ble_eq_true rfl) (Nat.le_of_ble_eq_true rfl) dL_drop_23
set_option maxHeartbeats 4000000 in
set_option maxRecDepth 100000 in
theorem w_link (l : Launch) (htr : l.stackTraces = false) (D : va_G) (dA : Nat → ClassId) (ad : Int → Nat → Nat) (tf tc : Nat) (aK aV : Nat → Nat) (o : Nat) (g0 : Nat → Int64) (σ : ZS) (Q : Int → ZS → Prop) (X : String → ZS → Prop) (sz : Nat) (hw : wpX10_link σ Q X) (hXs : ∀ (E : String) (u : ZS), X E u → E = xISE ∨ E = xUOE ∨ E = xNSE ∨ E = xIOB ∨ E = xARI) : Met l yL_link (gwsW yL_link cL_link 3 (some .int) [(0, 8, 11, 35), (0, 8, 14, 21), (0, 8, 17, 23), (0, 8, 20, 15), (0, 8, 23, 25)]) (gR 10 1 6) (zPreW D dA tf tc aK aV [.ref (ad 10 1000), .ref o] (zO dA ad o (σ, g0)) sz) (va_Qi (zWa (fun x => (Int32.ofInt x).toInt64) Q X [xISE, xUOE, xNSE, xIOB, xARI]) (gAt D dA (va_A (zO dA ad o (σ, g0)) sz) (zO dA ad o)) (va_A (zO dA ad o (σ, g0)) sz)) 1 6 (va_A (zO dA ad o (σ, g0)) sz) := by
  refine va_MetW (cc := cL_link) (maxL := 3) (ret := (some .int)) (hh := [(0, 8, 11, 35), (0, 8, 14, 21), (0, 8, 17, 23), (0, 8, 20, 15), (0, 8, 23, 25)]) (by decide) rfl ?_
  intro p e s m args below meth c s₁ B hml hv
  obtain ⟨rfl, hsz, hP, hK, hD0, hE, hN⟩ := hv
  have hx := B.exec
  have hb := B.bytes
  have hr := B.returns
  have hts := atoms_spec (ws := gwsW yL_link cL_link 3 (some .int) [(0, 8, 11, 35), (0, 8, 14, 21), (0, 8, 17, 23), (0, 8, 20, 15), (0, 8, 23, 25)]) B.pre
  have hg : ∀ w ∈ gw, w.before _ s = true := fun w h => hts w (List.mem_cons_of_mem _ h)
  have htab := vx_table (x := yL_link) B (hts _ List.mem_cons_self)
  have hown : s.vm.findClass RL = some m.cls := findClass_of_methodNamed B.named
  have hlocks := B.notSynchronized
  subst hsz
  have hD := hD0.self (sz := s.heap.size)
  generalize hAe : va_A (zO dA ad o (σ, g0)) s.heap.size = A at hE hD ⊢
  have hA : ∀ q : Nat, s.heap.size ≤ q → A q := fun q h => by rw [← hAe]; exact Or.inr h
  have hS : va_S A s.heap s.heap [] := va_S.rf
  have hP : va_P D vwC (zOc dA o g0 ++ zC dA ad σ) s.heap := hP
  have hD : va_D A (zOc dA o g0 ++ zC dA ad σ) := hD
  have hl := lv_entry ([.ref (ad 10 1000), .ref o]) (n := 3) (Nat.le_of_ble_eq_true rfl)
  rw [lg_entry_eq]
  generalize (lg_sl ([.ref (ad 10 1000), .ref o]) ++ List.replicate (3 - (lg_sl ([.ref (ad 10 1000), .ref o])).length) Slot.unset).toArray = ls at hl ⊢
  have hl : lv_has ls 3 [(0, .ref (ad 10 1000)), (1, .ref o)] := hl
  refine lv_aload_n hx hb dL_link_0 rfl (lv_at hl 1 rfl) ?_
  refine lv_iconst (v := 0) hx hb dL_link_1 (by decide) ?_
  refine lv_aload_n hx hb dL_link_2 rfl (lv_at hl 0 rfl) ?_
  refine wl_Vx (n := 0) (As := []) (rest := [.int 0, .ref o]) (wr := zOc dA o g0) (w1 := zC dA ad) (σ := σ) hx hb hml hg hown hE hK hP hD hS hA (kX10_link l htr D dA ad tf tc aK aV σ Q X _ hw) rfl rfl q1259 q149 q1256 q1257 q1258 (by decide +kernel) ⟨(Nat.le_of_ble_eq_true rfl), (Nat.le_of_ble_eq_true rfl)⟩ rfl hl.1 rfl (Nat.le_of_ble_eq_true rfl) dL_link_3 ⟨(Nat.le_of_ble_eq_true rfl), (Nat.le_of_ble_eq_true rfl)⟩ (fun E u ce q9 H locs hX hP hD hS hce hcv hcl => ?_) (fun rv u H locs hQv hP hD hS => ?_)
  · refine vx_widen (k := 1) (n := 6) (Nat.le_of_ble_eq_true rfl) (Nat.le_of_ble_eq_true rfl) ?_
    rcases hXs E u hX with rfl | rfl | rfl | rfl | rfl
    · refine vx_catch (own := RL) (name := xISE) hown [] ⟨0, 8, 11, 35⟩ [⟨0, 8, 14, 21⟩, ⟨0, 8, 17, 23⟩, ⟨0, 8, 20, 15⟩, ⟨0, 8, 23, 25⟩] (htab.trans rfl) (fun z hz => by cases hz) rfl (by decide) (hg _ q1255) (hg _ q1266) hce hcv hcl ?_
      refine lv_astore_n (lv' := [(2, .ref q9), (0, .ref (ad 10 1000)), (1, .ref o)]) hx hb dL_link_11 rfl hl (by decide) rfl (fun ls hl => ?_)
      refine lv_iconst (v := 1) hx hb dL_link_12 (by decide) ?_
      exact g_iret hx hb hr rfl hlocks hK (u, g0) hP hD hS (Or.inr ⟨0, _, rfl, by decide, hX⟩) (Nat.le_of_ble_eq_true rfl) (Nat.le_of_ble_eq_true rfl) dL_link_13
    · refine vx_catch (own := RL) (name := xUOE) hown [⟨0, 8, 11, 35⟩] ⟨0, 8, 14, 21⟩ [⟨0, 8, 17, 23⟩, ⟨0, 8, 20, 15⟩, ⟨0, 8, 23, 25⟩] (htab.trans rfl) (fun z hz => ?_) rfl (by decide) (hg _ q767) (hg _ q1092) hce hcv hcl ?_
      · simp only [List.mem_cons, List.not_mem_nil, or_false] at hz
        subst hz
        exact Or.inr ⟨by decide, xISE, hg _ q1255, hN (xUOE, xISE) (by decide)⟩
      refine lv_astore_n (lv' := [(2, .ref q9), (0, .ref (ad 10 1000)), (1, .ref o)]) hx hb dL_link_14 rfl hl (by decide) rfl (fun ls hl => ?_)
      refine lv_iconst (v := 2) hx hb dL_link_15 (by decide) ?_
      exact g_iret hx hb hr rfl hlocks hK (u, g0) hP hD hS (Or.inr ⟨1, _, rfl, by decide, hX⟩) (Nat.le_of_ble_eq_true rfl) (Nat.le_of_ble_eq_true rfl) dL_link_16
    · refine vx_catch (own := RL) (name := xNSE) hown [⟨0, 8, 11, 35⟩, ⟨0, 8, 14, 21⟩] ⟨0, 8, 17, 23⟩ [⟨0, 8, 20, 15⟩, ⟨0, 8, 23, 25⟩] (htab.trans rfl) (fun z hz => ?_) rfl (by decide) (hg _ q768) (hg _ q1140) hce hcv hcl ?_
      · simp only [List.mem_cons, List.not_mem_nil, or_false] at hz
        rcases hz with rfl | rfl
        · exact Or.inr ⟨by decide, xISE, hg _ q1255, hN (xNSE, xISE) (by decide)⟩
        · exact Or.inr ⟨by decide, xUOE, hg _ q767, hN (xNSE, xUOE) (by decide)⟩
      refine lv_astore_n (lv' := [(2, .ref q9), (0, .ref (ad 10 1000)), (1, .ref o)]) hx hb dL_link_17 rfl hl (by decide) rfl (fun ls hl => ?_)
      refine lv_iconst (v := 3) hx hb dL_link_18 (by decide) ?_
      exact g_iret hx hb hr rfl hlocks hK (u, g0) hP hD hS (Or.inr ⟨2, _, rfl, by decide, hX⟩) (Nat.le_of_ble_eq_true rfl) (Nat.le_of_ble_eq_true rfl) dL_link_19
    · refine vx_catch (own := RL) (name := xIOB) hown [⟨0, 8, 11, 35⟩, ⟨0, 8, 14, 21⟩, ⟨0, 8, 17, 23⟩] ⟨0, 8, 20, 15⟩ [⟨0, 8, 23, 25⟩] (htab.trans rfl) (fun z hz => ?_) rfl (by decide) (hg _ q647) (hg _ q753) hce hcv hcl ?_
      · simp only [List.mem_cons, List.not_mem_nil, or_false] at hz
        rcases hz with rfl | rfl | rfl
        · exact Or.inr ⟨by decide, xISE, hg _ q1255, hN (xIOB, xISE) (by decide)⟩
        · exact Or.inr ⟨by decide, xUOE, hg _ q767, hN (xIOB, xUOE) (by decide)⟩
        · exact Or.inr ⟨by decide, xNSE, hg _ q768, hN (xIOB, xNSE) (by decide)⟩
      refine lv_astore_n (lv' := [(2, .ref q9), (0, .ref (ad 10 1000)), (1, .ref o)]) hx hb dL_link_20 rfl hl (by decide) rfl (fun ls hl => ?_)
      refine lv_iconst (v := 4) hx hb dL_link_21 (by decide) ?_
      exact g_iret hx hb hr rfl hlocks hK (u, g0) hP hD hS (Or.inr ⟨3, _, rfl, by decide, hX⟩) (Nat.le_of_ble_eq_true rfl) (Nat.le_of_ble_eq_true rfl) dL_link_22
    · refine vx_catch (own := RL) (name := xARI) hown [⟨0, 8, 11, 35⟩, ⟨0, 8, 14, 21⟩, ⟨0, 8, 17, 23⟩, ⟨0, 8, 20, 15⟩] ⟨0, 8, 23, 25⟩ [] (htab.trans rfl) (fun z hz => ?_) rfl (by decide) (hg _ q769) (hg _ q781) hce hcv hcl ?_
      · simp only [List.mem_cons, List.not_mem_nil, or_false] at hz
        rcases hz with rfl | rfl | rfl | rfl
        · exact Or.inr ⟨by decide, xISE, hg _ q1255, hN (xARI, xISE) (by decide)⟩
        · exact Or.inr ⟨by decide, xUOE, hg _ q767, hN (xARI, xUOE) (by decide)⟩
        · exact Or.inr ⟨by decide, xNSE, hg _ q768, hN (xARI, xNSE) (by decide)⟩
        · exact Or.inr ⟨by decide, xIOB, hg _ q647, hN (xARI, xIOB) (by decide)⟩
      refine lv_astore_n (lv' := [(2, .ref q9), (0, .ref (ad 10 1000)), (1, .ref o)]) hx hb dL_link_23 rfl hl (by decide) rfl (fun ls hl => ?_)
      refine lv_iconst (v := 5) hx hb dL_link_24 (by decide) ?_
      exact g_iret hx hb hr rfl hlocks hK (u, g0) hP hD hS (Or.inr ⟨4, _, rfl, by decide, hX⟩) (Nat.le_of_ble_eq_true rfl) (Nat.le_of_ble_eq_true rfl) dL_link_25
  · refine W.widen (k := 1) (n := 6) (Nat.le_of_ble_eq_true rfl) (Nat.le_of_ble_eq_true rfl) ?_
    refine lv_i2l (v := (Int32.ofInt rv).toInt64) hx hb dL_link_6 rfl ?_
    refine va_last hx hb hK hP hD hS 0 1 rfl rfl (by unfold vp_in; decide) dL_link_7 (fun H locs hP hD hS => ?_)
    have hP : va_P D vwC (zOc dA o (vp_updL g0 (0 : Int32).toNatClampNeg (Int32.ofInt rv).toInt64) ++ zC dA ad u) H := hP
    have hD : va_D A (zOc dA o (vp_updL g0 (0 : Int32).toNatClampNeg (Int32.ofInt rv).toInt64) ++ zC dA ad u) := hD
    refine lv_goto (tgt := 26) hx hb dL_link_8 (by decide) ?_
    refine lv_iconst (v := 0) hx hb dL_link_26 (by decide) ?_
    exact g_iret hx hb hr rfl hlocks hK (u, vp_updL g0 (0 : Int32).toNatClampNeg (Int32.ofInt rv).toInt64) hP hD hS (Or.inl ⟨rfl, rv, g_o0 g0 (Int32.ofInt rv).toInt64, hQv⟩) (Nat.le_of_ble_eq_true rfl) (Nat.le_of_ble_eq_true rfl) dL_link_27
set_option maxHeartbeats 4000000 in
set_option maxRecDepth 100000 in
theorem w_load (l : Launch) (htr : l.stackTraces = false) (D : va_G) (dA : Nat → ClassId) (ad : Int → Nat → Nat) (tf tc : Nat) (aK aV : Nat → Nat) (o : Nat) (g0 : Nat → Int64) (a : Int) (σ : ZS) (Q : Int → ZS → Prop) (X : String → ZS → Prop) (sz : Nat) (hw : wpX10_load a σ Q X) (hXs : ∀ (E : String) (u : ZS), X E u → E = xIAE ∨ E = xISE) : Met l yL_load (gwsW yL_load cL_load 4 (some .int) [(0, 9, 12, 13), (0, 9, 15, 35)]) (gR 10 1 6) (zPreW D dA tf tc aK aV [.ref (ad 10 1000), .int (Int32.ofInt a), .ref o] (zO dA ad o (σ, g0)) sz) (va_Qi (zWa (fun x => (Int32.ofInt x).toInt64) Q X [xIAE, xISE]) (gAt D dA (va_A (zO dA ad o (σ, g0)) sz) (zO dA ad o)) (va_A (zO dA ad o (σ, g0)) sz)) 1 6 (va_A (zO dA ad o (σ, g0)) sz) := by
  refine va_MetW (cc := cL_load) (maxL := 4) (ret := (some .int)) (hh := [(0, 9, 12, 13), (0, 9, 15, 35)]) (by decide) rfl ?_
  intro p e s m args below meth c s₁ B hml hv
  obtain ⟨rfl, hsz, hP, hK, hD0, hE, hN⟩ := hv
  have hx := B.exec
  have hb := B.bytes
  have hr := B.returns
  have hts := atoms_spec (ws := gwsW yL_load cL_load 4 (some .int) [(0, 9, 12, 13), (0, 9, 15, 35)]) B.pre
  have hg : ∀ w ∈ gw, w.before _ s = true := fun w h => hts w (List.mem_cons_of_mem _ h)
  have htab := vx_table (x := yL_load) B (hts _ List.mem_cons_self)
  have hown : s.vm.findClass RL = some m.cls := findClass_of_methodNamed B.named
  have hlocks := B.notSynchronized
  subst hsz
  have hD := hD0.self (sz := s.heap.size)
  generalize hAe : va_A (zO dA ad o (σ, g0)) s.heap.size = A at hE hD ⊢
  have hA : ∀ q : Nat, s.heap.size ≤ q → A q := fun q h => by rw [← hAe]; exact Or.inr h
  have hS : va_S A s.heap s.heap [] := va_S.rf
  have hP : va_P D vwC (zOc dA o g0 ++ zC dA ad σ) s.heap := hP
  have hD : va_D A (zOc dA o g0 ++ zC dA ad σ) := hD
  have hl := lv_entry ([.ref (ad 10 1000), .int (Int32.ofInt a), .ref o]) (n := 4) (Nat.le_of_ble_eq_true rfl)
  rw [lg_entry_eq]
  generalize (lg_sl ([.ref (ad 10 1000), .int (Int32.ofInt a), .ref o]) ++ List.replicate (4 - (lg_sl ([.ref (ad 10 1000), .int (Int32.ofInt a), .ref o])).length) Slot.unset).toArray = ls at hl ⊢
  have hl : lv_has ls 4 [(0, .ref (ad 10 1000)), (1, .int (Int32.ofInt a)), (2, .ref o)] := hl
  refine lv_aload_n hx hb dL_load_0 rfl (lv_at hl 2 rfl) ?_
  refine lv_iconst (v := 0) hx hb dL_load_1 (by decide) ?_
  refine lv_aload_n hx hb dL_load_2 rfl (lv_at hl 0 rfl) ?_
  refine lv_iload_n hx hb dL_load_3 rfl (lv_at hl 1 rfl) ?_
  refine wl_Vx (n := 1) (As := [.int (Int32.ofInt a)]) (rest := [.int 0, .ref o]) (wr := zOc dA o g0) (w1 := zC dA ad) (σ := σ) hx hb hml hg hown hE hK hP hD hS hA (kX10_load l htr D dA ad tf tc aK aV a σ Q X _ hw) rfl rfl q1367 q149 q1364 q1365 q1366 (by decide +kernel) ⟨(Nat.le_of_ble_eq_true rfl), (Nat.le_of_ble_eq_true rfl)⟩ rfl hl.1 rfl (Nat.le_of_ble_eq_true rfl) dL_load_4 ⟨(Nat.le_of_ble_eq_true rfl), (Nat.le_of_ble_eq_true rfl)⟩ (fun E u ce q9 H locs hX hP hD hS hce hcv hcl => ?_) (fun rv u H locs hQv hP hD hS => ?_)
  · refine vx_widen (k := 1) (n := 6) (Nat.le_of_ble_eq_true rfl) (Nat.le_of_ble_eq_true rfl) ?_
    rcases hXs E u hX with rfl | rfl
    · refine vx_catch (own := RL) (name := xIAE) hown [] ⟨0, 9, 12, 13⟩ [⟨0, 9, 15, 35⟩] (htab.trans rfl) (fun z hz => by cases hz) rfl (by decide) (hg _ q646) (hg _ q733) hce hcv hcl ?_
      refine lv_astore_n (lv' := [(3, .ref q9), (0, .ref (ad 10 1000)), (1, .int (Int32.ofInt a)), (2, .ref o)]) hx hb dL_load_12 rfl hl (by decide) rfl (fun ls hl => ?_)
      refine lv_iconst (v := 1) hx hb dL_load_13 (by decide) ?_
      exact g_iret hx hb hr rfl hlocks hK (u, g0) hP hD hS (Or.inr ⟨0, _, rfl, by decide, hX⟩) (Nat.le_of_ble_eq_true rfl) (Nat.le_of_ble_eq_true rfl) dL_load_14
    · refine vx_catch (own := RL) (name := xISE) hown [⟨0, 9, 12, 13⟩] ⟨0, 9, 15, 35⟩ [] (htab.trans rfl) (fun z hz => ?_) rfl (by decide) (hg _ q1255) (hg _ q1266) hce hcv hcl ?_
      · simp only [List.mem_cons, List.not_mem_nil, or_false] at hz
        subst hz
        exact Or.inr ⟨by decide, xIAE, hg _ q646, hN (xISE, xIAE) (by decide)⟩
      refine lv_astore_n (lv' := [(3, .ref q9), (0, .ref (ad 10 1000)), (1, .int (Int32.ofInt a)), (2, .ref o)]) hx hb dL_load_15 rfl hl (by decide) rfl (fun ls hl => ?_)
      refine lv_iconst (v := 2) hx hb dL_load_16 (by decide) ?_
      exact g_iret hx hb hr rfl hlocks hK (u, g0) hP hD hS (Or.inr ⟨1, _, rfl, by decide, hX⟩) (Nat.le_of_ble_eq_true rfl) (Nat.le_of_ble_eq_true rfl) dL_load_17
  · refine W.widen (k := 1) (n := 6) (Nat.le_of_ble_eq_true rfl) (Nat.le_of_ble_eq_true rfl) ?_
    refine lv_i2l (v := (Int32.ofInt rv).toInt64) hx hb dL_load_7 rfl ?_
    refine va_last hx hb hK hP hD hS 0 1 rfl rfl (by unfold vp_in; decide) dL_load_8 (fun H locs hP hD hS => ?_)
    have hP : va_P D vwC (zOc dA o (vp_updL g0 (0 : Int32).toNatClampNeg (Int32.ofInt rv).toInt64) ++ zC dA ad u) H := hP
    have hD : va_D A (zOc dA o (vp_updL g0 (0 : Int32).toNatClampNeg (Int32.ofInt rv).toInt64) ++ zC dA ad u) := hD
    refine lv_goto (tgt := 18) hx hb dL_load_9 (by decide) ?_
    refine lv_iconst (v := 0) hx hb dL_load_18 (by decide) ?_
    exact g_iret hx hb hr rfl hlocks hK (u, vp_updL g0 (0 : Int32).toNatClampNeg (Int32.ofInt rv).toInt64) hP hD hS (Or.inl ⟨rfl, rv, g_o0 g0 (Int32.ofInt rv).toInt64, hQv⟩) (Nat.le_of_ble_eq_true rfl) (Nat.le_of_ble_eq_true rfl) dL_load_19
set_option maxHeartbeats 4000000 in
set_option maxRecDepth 100000 in
theorem w_run (l : Launch) (htr : l.stackTraces = false) (D : va_G) (dA : Nat → ClassId) (ad : Int → Nat → Nat) (tf tc : Nat) (aK aV : Nat → Nat) (o : Nat) (g0 : Nat → Int64) (a : Int) (σ : ZS) (Q : Int → ZS → Prop) (X : String → ZS → Prop) (sz : Nat) (hw : wpX10_run a σ Q X) (hXs : ∀ (E : String) (u : ZS), X E u → E = xIAE ∨ E = xISE) : Met l yL_run (gwsW yL_run cL_run 4 (some .int) [(0, 9, 12, 13), (0, 9, 15, 35)]) (gR 10 1 6) (zPreW D dA tf tc aK aV [.ref (ad 10 1000), .int (Int32.ofInt a), .ref o] (zO dA ad o (σ, g0)) sz) (va_Qi (zWa (fun x => (Int32.ofInt x).toInt64) Q X [xIAE, xISE]) (gAt D dA (va_A (zO dA ad o (σ, g0)) sz) (zO dA ad o)) (va_A (zO dA ad o (σ, g0)) sz)) 1 6 (va_A (zO dA ad o (σ, g0)) sz) := by
  refine va_MetW (cc := cL_run) (maxL := 4) (ret := (some .int)) (hh := [(0, 9, 12, 13), (0, 9, 15, 35)]) (by decide) rfl ?_
  intro p e s m args below meth c s₁ B hml hv
  obtain ⟨rfl, hsz, hP, hK, hD0, hE, hN⟩ := hv
  have hx := B.exec
  have hb := B.bytes
  have hr := B.returns
  have hts := atoms_spec (ws := gwsW yL_run cL_run 4 (some .int) [(0, 9, 12, 13), (0, 9, 15, 35)]) B.pre
  have hg : ∀ w ∈ gw, w.before _ s = true := fun w h => hts w (List.mem_cons_of_mem _ h)
  have htab := vx_table (x := yL_run) B (hts _ List.mem_cons_self)
  have hown : s.vm.findClass RL = some m.cls := findClass_of_methodNamed B.named
  have hlocks := B.notSynchronized
  subst hsz
  have hD := hD0.self (sz := s.heap.size)
  generalize hAe : va_A (zO dA ad o (σ, g0)) s.heap.size = A at hE hD ⊢
  have hA : ∀ q : Nat, s.heap.size ≤ q → A q := fun q h => by rw [← hAe]; exact Or.inr h
  have hS : va_S A s.heap s.heap [] := va_S.rf
  have hP : va_P D vwC (zOc dA o g0 ++ zC dA ad σ) s.heap := hP
  have hD : va_D A (zOc dA o g0 ++ zC dA ad σ) := hD
  have hl := lv_entry ([.ref (ad 10 1000), .int (Int32.ofInt a), .ref o]) (n := 4) (Nat.le_of_ble_eq_true rfl)
  rw [lg_entry_eq]
  generalize (lg_sl ([.ref (ad 10 1000), .int (Int32.ofInt a), .ref o]) ++ List.replicate (4 - (lg_sl ([.ref (ad 10 1000), .int (Int32.ofInt a), .ref o])).length) Slot.unset).toArray = ls at hl ⊢
  have hl : lv_has ls 4 [(0, .ref (ad 10 1000)), (1, .int (Int32.ofInt a)), (2, .ref o)] := hl
  refine lv_aload_n hx hb dL_run_0 rfl (lv_at hl 2 rfl) ?_
  refine lv_iconst (v := 0) hx hb dL_run_1 (by decide) ?_
  refine lv_aload_n hx hb dL_run_2 rfl (lv_at hl 0 rfl) ?_
  refine lv_iload_n hx hb dL_run_3 rfl (lv_at hl 1 rfl) ?_
  refine wl_Vx (n := 1) (As := [.int (Int32.ofInt a)]) (rest := [.int 0, .ref o]) (wr := zOc dA o g0) (w1 := zC dA ad) (σ := σ) hx hb hml hg hown hE hK hP hD hS hA (kX10_run l htr D dA ad tf tc aK aV a σ Q X _ hw) rfl rfl q1389 q149 q1386 q1387 q1388 (by decide +kernel) ⟨(Nat.le_of_ble_eq_true rfl), (Nat.le_of_ble_eq_true rfl)⟩ rfl hl.1 rfl (Nat.le_of_ble_eq_true rfl) dL_run_4 ⟨(Nat.le_of_ble_eq_true rfl), (Nat.le_of_ble_eq_true rfl)⟩ (fun E u ce q9 H locs hX hP hD hS hce hcv hcl => ?_) (fun rv u H locs hQv hP hD hS => ?_)
  · refine vx_widen (k := 1) (n := 6) (Nat.le_of_ble_eq_true rfl) (Nat.le_of_ble_eq_true rfl) ?_
    rcases hXs E u hX with rfl | rfl
    · refine vx_catch (own := RL) (name := xIAE) hown [] ⟨0, 9, 12, 13⟩ [⟨0, 9, 15, 35⟩] (htab.trans rfl) (fun z hz => by cases hz) rfl (by decide) (hg _ q646) (hg _ q733) hce hcv hcl ?_
      refine lv_astore_n (lv' := [(3, .ref q9), (0, .ref (ad 10 1000)), (1, .int (Int32.ofInt a)), (2, .ref o)]) hx hb dL_run_12 rfl hl (by decide) rfl (fun ls hl => ?_)
      refine lv_iconst (v := 1) hx hb dL_run_13 (by decide) ?_
      exact g_iret hx hb hr rfl hlocks hK (u, g0) hP hD hS (Or.inr ⟨0, _, rfl, by decide, hX⟩) (Nat.le_of_ble_eq_true rfl) (Nat.le_of_ble_eq_true rfl) dL_run_14
    · refine vx_catch (own := RL) (name := xISE) hown [⟨0, 9, 12, 13⟩] ⟨0, 9, 15, 35⟩ [] (htab.trans rfl) (fun z hz => ?_) rfl (by decide) (hg _ q1255) (hg _ q1266) hce hcv hcl ?_
      · simp only [List.mem_cons, List.not_mem_nil, or_false] at hz
        subst hz
        exact Or.inr ⟨by decide, xIAE, hg _ q646, hN (xISE, xIAE) (by decide)⟩
      refine lv_astore_n (lv' := [(3, .ref q9), (0, .ref (ad 10 1000)), (1, .int (Int32.ofInt a)), (2, .ref o)]) hx hb dL_run_15 rfl hl (by decide) rfl (fun ls hl => ?_)
      refine lv_iconst (v := 2) hx hb dL_run_16 (by decide) ?_
      exact g_iret hx hb hr rfl hlocks hK (u, g0) hP hD hS (Or.inr ⟨1, _, rfl, by decide, hX⟩) (Nat.le_of_ble_eq_true rfl) (Nat.le_of_ble_eq_true rfl) dL_run_17
  · refine W.widen (k := 1) (n := 6) (Nat.le_of_ble_eq_true rfl) (Nat.le_of_ble_eq_true rfl) ?_
    refine lv_i2l (v := (Int32.ofInt rv).toInt64) hx hb dL_run_7 rfl ?_
    refine va_last hx hb hK hP hD hS 0 1 rfl rfl (by unfold vp_in; decide) dL_run_8 (fun H locs hP hD hS => ?_)
    have hP : va_P D vwC (zOc dA o (vp_updL g0 (0 : Int32).toNatClampNeg (Int32.ofInt rv).toInt64) ++ zC dA ad u) H := hP
    have hD : va_D A (zOc dA o (vp_updL g0 (0 : Int32).toNatClampNeg (Int32.ofInt rv).toInt64) ++ zC dA ad u) := hD
    refine lv_goto (tgt := 18) hx hb dL_run_9 (by decide) ?_
    refine lv_iconst (v := 0) hx hb dL_run_18 (by decide) ?_
    exact g_iret hx hb hr rfl hlocks hK (u, vp_updL g0 (0 : Int32).toNatClampNeg (Int32.ofInt rv).toInt64) hP hD hS (Or.inl ⟨rfl, rv, g_o0 g0 (Int32.ofInt rv).toInt64, hQv⟩) (Nat.le_of_ble_eq_true rfl) (Nat.le_of_ble_eq_true rfl) dL_run_19
set_option maxHeartbeats 4000000 in
set_option maxRecDepth 100000 in
theorem w_code (l : Launch) (htr : l.stackTraces = false) (D : va_G) (dA : Nat → ClassId) (ad : Int → Nat → Nat) (tf tc : Nat) (aK aV : Nat → Nat) (o : Nat) (g0 : Nat → Int64) (a : Int) (b : Int) (d : Int) (σ : ZS) (Q : Int → ZS → Prop) (X : String → ZS → Prop) (sz : Nat) (hw : wpX10_code a b d σ Q X) (hXs : ∀ (E : String) (u : ZS), X E u → E = xIOB) : Met l yL_code (gwsW yL_code cL_code 6 (some .int) [(0, 12, 15, 15)]) (gR 10 1 6) (zPreW D dA tf tc aK aV [.ref (ad 10 1000), .int (Int32.ofInt a), .int (Int32.ofInt b), .int (Int32.ofInt d), .ref o] (zO dA ad o (σ, g0)) sz) (va_Qi (zWa (fun x => (Int32.ofInt x).toInt64) Q X [xIOB]) (gAt D dA (va_A (zO dA ad o (σ, g0)) sz) (zO dA ad o)) (va_A (zO dA ad o (σ, g0)) sz)) 1 6 (va_A (zO dA ad o (σ, g0)) sz) := by
  refine va_MetW (cc := cL_code) (maxL := 6) (ret := (some .int)) (hh := [(0, 12, 15, 15)]) (by decide) rfl ?_
  intro p e s m args below meth c s₁ B hml hv
  obtain ⟨rfl, hsz, hP, hK, hD0, hE, hN⟩ := hv
  have hx := B.exec
  have hb := B.bytes
  have hr := B.returns
  have hts := atoms_spec (ws := gwsW yL_code cL_code 6 (some .int) [(0, 12, 15, 15)]) B.pre
  have hg : ∀ w ∈ gw, w.before _ s = true := fun w h => hts w (List.mem_cons_of_mem _ h)
  have htab := vx_table (x := yL_code) B (hts _ List.mem_cons_self)
  have hown : s.vm.findClass RL = some m.cls := findClass_of_methodNamed B.named
  have hlocks := B.notSynchronized
  subst hsz
  have hD := hD0.self (sz := s.heap.size)
  generalize hAe : va_A (zO dA ad o (σ, g0)) s.heap.size = A at hE hD ⊢
  have hA : ∀ q : Nat, s.heap.size ≤ q → A q := fun q h => by rw [← hAe]; exact Or.inr h
  have hS : va_S A s.heap s.heap [] := va_S.rf
  have hP : va_P D vwC (zOc dA o g0 ++ zC dA ad σ) s.heap := hP
  have hD : va_D A (zOc dA o g0 ++ zC dA ad σ) := hD
  have hl := lv_entry ([.ref (ad 10 1000), .int (Int32.ofInt a), .int (Int32.ofInt b), .int (Int32.ofInt d), .ref o]) (n := 6) (Nat.le_of_ble_eq_true rfl)
  rw [lg_entry_eq]
  generalize (lg_sl ([.ref (ad 10 1000), .int (Int32.ofInt a), .int (Int32.ofInt b), .int (Int32.ofInt d), .ref o]) ++ List.replicate (6 - (lg_sl ([.ref (ad 10 1000), .int (Int32.ofInt a), .int (Int32.ofInt b), .int (Int32.ofInt d), .ref o])).length) Slot.unset).toArray = ls at hl ⊢
  have hl : lv_has ls 6 [(0, .ref (ad 10 1000)), (1, .int (Int32.ofInt a)), (2, .int (Int32.ofInt b)), (3, .int (Int32.ofInt d)), (4, .ref o)] := hl
  refine lv_aload hx hb dL_code_0 (lv_at hl 4 rfl) ?_
  refine lv_iconst (v := 0) hx hb dL_code_2 (by decide) ?_
  refine lv_aload_n hx hb dL_code_3 rfl (lv_at hl 0 rfl) ?_
  refine lv_iload_n hx hb dL_code_4 rfl (lv_at hl 1 rfl) ?_
  refine lv_iload_n hx hb dL_code_5 rfl (lv_at hl 2 rfl) ?_
  refine lv_iload_n hx hb dL_code_6 rfl (lv_at hl 3 rfl) ?_
  refine wl_Vx (n := 3) (As := [.int (Int32.ofInt a), .int (Int32.ofInt b), .int (Int32.ofInt d)]) (rest := [.int 0, .ref o]) (wr := zOc dA o g0) (w1 := zC dA ad) (σ := σ) hx hb hml hg hown hE hK hP hD hS hA (kX10_code l htr D dA ad tf tc aK aV a b d σ Q X _ hw) rfl rfl q1509 q149 q1506 q1507 q1508 (by decide +kernel) ⟨(Nat.le_of_ble_eq_true rfl), (Nat.le_of_ble_eq_true rfl)⟩ rfl hl.1 rfl (Nat.le_of_ble_eq_true rfl) dL_code_7 ⟨(Nat.le_of_ble_eq_true rfl), (Nat.le_of_ble_eq_true rfl)⟩ (fun E u ce q9 H locs hX hP hD hS hce hcv hcl => ?_) (fun rv u H locs hQv hP hD hS => ?_)
  · refine vx_widen (k := 1) (n := 6) (Nat.le_of_ble_eq_true rfl) (Nat.le_of_ble_eq_true rfl) ?_
    obtain rfl := hXs E u hX
    refine vx_catch (own := RL) (name := xIOB) hown [] ⟨0, 12, 15, 15⟩ [] (htab.trans rfl) (fun z hz => by cases hz) rfl (by decide) (hg _ q647) (hg _ q753) hce hcv hcl ?_
    refine lv_astore (lv' := [(5, .ref q9), (0, .ref (ad 10 1000)), (1, .int (Int32.ofInt a)), (2, .int (Int32.ofInt b)), (3, .int (Int32.ofInt d)), (4, .ref o)]) hx hb dL_code_15 hl (by decide) rfl (fun ls hl => ?_)
    refine lv_iconst (v := 1) hx hb dL_code_17 (by decide) ?_
    exact g_iret hx hb hr rfl hlocks hK (u, g0) hP hD hS (Or.inr ⟨0, _, rfl, by decide, hX⟩) (Nat.le_of_ble_eq_true rfl) (Nat.le_of_ble_eq_true rfl) dL_code_18
  · refine W.widen (k := 1) (n := 6) (Nat.le_of_ble_eq_true rfl) (Nat.le_of_ble_eq_true rfl) ?_
    refine lv_i2l (v := (Int32.ofInt rv).toInt64) hx hb dL_code_10 rfl ?_
    refine va_last hx hb hK hP hD hS 0 1 rfl rfl (by unfold vp_in; decide) dL_code_11 (fun H locs hP hD hS => ?_)
    have hP : va_P D vwC (zOc dA o (vp_updL g0 (0 : Int32).toNatClampNeg (Int32.ofInt rv).toInt64) ++ zC dA ad u) H := hP
    have hD : va_D A (zOc dA o (vp_updL g0 (0 : Int32).toNatClampNeg (Int32.ofInt rv).toInt64) ++ zC dA ad u) := hD
    refine lv_goto (tgt := 19) hx hb dL_code_12 (by decide) ?_
    refine lv_iconst (v := 0) hx hb dL_code_19 (by decide) ?_
    exact g_iret hx hb hr rfl hlocks hK (u, vp_updL g0 (0 : Int32).toNatClampNeg (Int32.ofInt rv).toInt64) hP hD hS (Or.inl ⟨rfl, rv, g_o0 g0 (Int32.ofInt rv).toInt64, hQv⟩) (Nat.le_of_ble_eq_true rfl) (Nat.le_of_ble_eq_true rfl) dL_code_20
set_option maxHeartbeats 4000000 in
set_option maxRecDepth 100000 in
theorem w_fixup (l : Launch) (htr : l.stackTraces = false) (D : va_G) (dA : Nat → ClassId) (ad : Int → Nat → Nat) (tf tc : Nat) (aK aV : Nat → Nat) (o : Nat) (g0 : Nat → Int64) (a : Int) (b : Int) (d : Int) (σ : ZS) (Q : Int → ZS → Prop) (X : String → ZS → Prop) (sz : Nat) (hw : wpX10_fixup a b d σ Q X) (hXs : ∀ (E : String) (u : ZS), X E u → E = xIAE ∨ E = xIOB) : Met l yL_fixup (gwsW yL_fixup cL_fixup 6 (some .int) [(0, 12, 15, 13), (0, 12, 19, 15)]) (gR 10 1 6) (zPreW D dA tf tc aK aV [.ref (ad 10 1000), .int (Int32.ofInt a), .int (Int32.ofInt b), .int (Int32.ofInt d), .ref o] (zO dA ad o (σ, g0)) sz) (va_Qi (zWa (fun x => (Int32.ofInt x).toInt64) Q X [xIAE, xIOB]) (gAt D dA (va_A (zO dA ad o (σ, g0)) sz) (zO dA ad o)) (va_A (zO dA ad o (σ, g0)) sz)) 1 6 (va_A (zO dA ad o (σ, g0)) sz) := by
  refine va_MetW (cc := cL_fixup) (maxL := 6) (ret := (some .int)) (hh := [(0, 12, 15, 13), (0, 12, 19, 15)]) (by decide) rfl ?_
  intro p e s m args below meth c s₁ B hml hv
  obtain ⟨rfl, hsz, hP, hK, hD0, hE, hN⟩ := hv
  have hx := B.exec
  have hb := B.bytes
  have hr := B.returns
  have hts := atoms_spec (ws := gwsW yL_fixup cL_fixup 6 (some .int) [(0, 12, 15, 13), (0, 12, 19, 15)]) B.pre
  have hg : ∀ w ∈ gw, w.before _ s = true := fun w h => hts w (List.mem_cons_of_mem _ h)
  have htab := vx_table (x := yL_fixup) B (hts _ List.mem_cons_self)
  have hown : s.vm.findClass RL = some m.cls := findClass_of_methodNamed B.named
  have hlocks := B.notSynchronized
  subst hsz
  have hD := hD0.self (sz := s.heap.size)
  generalize hAe : va_A (zO dA ad o (σ, g0)) s.heap.size = A at hE hD ⊢
  have hA : ∀ q : Nat, s.heap.size ≤ q → A q := fun q h => by rw [← hAe]; exact Or.inr h
  have hS : va_S A s.heap s.heap [] := va_S.rf
  have hP : va_P D vwC (zOc dA o g0 ++ zC dA ad σ) s.heap := hP
  have hD : va_D A (zOc dA o g0 ++ zC dA ad σ) := hD
  have hl := lv_entry ([.ref (ad 10 1000), .int (Int32.ofInt a), .int (Int32.ofInt b), .int (Int32.ofInt d), .ref o]) (n := 6) (Nat.le_of_ble_eq_true rfl)
  rw [lg_entry_eq]
  generalize (lg_sl ([.ref (ad 10 1000), .int (Int32.ofInt a), .int (Int32.ofInt b), .int (Int32.ofInt d), .ref o]) ++ List.replicate (6 - (lg_sl ([.ref (ad 10 1000), .int (Int32.ofInt a), .int (Int32.ofInt b), .int (Int32.ofInt d), .ref o])).length) Slot.unset).toArray = ls at hl ⊢
  have hl : lv_has ls 6 [(0, .ref (ad 10 1000)), (1, .int (Int32.ofInt a)), (2, .int (Int32.ofInt b)), (3, .int (Int32.ofInt d)), (4, .ref o)] := hl
  refine lv_aload hx hb dL_fixup_0 (lv_at hl 4 rfl) ?_
  refine lv_iconst (v := 0) hx hb dL_fixup_2 (by decide) ?_
  refine lv_aload_n hx hb dL_fixup_3 rfl (lv_at hl 0 rfl) ?_
  refine lv_iload_n hx hb dL_fixup_4 rfl (lv_at hl 1 rfl) ?_
  refine lv_iload_n hx hb dL_fixup_5 rfl (lv_at hl 2 rfl) ?_
  refine lv_iload_n hx hb dL_fixup_6 rfl (lv_at hl 3 rfl) ?_
  refine wl_Vx (n := 3) (As := [.int (Int32.ofInt a), .int (Int32.ofInt b), .int (Int32.ofInt d)]) (rest := [.int 0, .ref o]) (wr := zOc dA o g0) (w1 := zC dA ad) (σ := σ) hx hb hml hg hown hE hK hP hD hS hA (kX10_fixup l htr D dA ad tf tc aK aV a b d σ Q X _ hw) rfl rfl q1519 q149 q1516 q1517 q1518 (by decide +kernel) ⟨(Nat.le_of_ble_eq_true rfl), (Nat.le_of_ble_eq_true rfl)⟩ rfl hl.1 rfl (Nat.le_of_ble_eq_true rfl) dL_fixup_7 ⟨(Nat.le_of_ble_eq_true rfl), (Nat.le_of_ble_eq_true rfl)⟩ (fun E u ce q9 H locs hX hP hD hS hce hcv hcl => ?_) (fun rv u H locs hQv hP hD hS => ?_)
  · refine vx_widen (k := 1) (n := 6) (Nat.le_of_ble_eq_true rfl) (Nat.le_of_ble_eq_true rfl) ?_
    rcases hXs E u hX with rfl | rfl
    · refine vx_catch (own := RL) (name := xIAE) hown [] ⟨0, 12, 15, 13⟩ [⟨0, 12, 19, 15⟩] (htab.trans rfl) (fun z hz => by cases hz) rfl (by decide) (hg _ q646) (hg _ q733) hce hcv hcl ?_
      refine lv_astore (lv' := [(5, .ref q9), (0, .ref (ad 10 1000)), (1, .int (Int32.ofInt a)), (2, .int (Int32.ofInt b)), (3, .int (Int32.ofInt d)), (4, .ref o)]) hx hb dL_fixup_15 hl (by decide) rfl (fun ls hl => ?_)
      refine lv_iconst (v := 1) hx hb dL_fixup_17 (by decide) ?_
      exact g_iret hx hb hr rfl hlocks hK (u, g0) hP hD hS (Or.inr ⟨0, _, rfl, by decide, hX⟩) (Nat.le_of_ble_eq_true rfl) (Nat.le_of_ble_eq_true rfl) dL_fixup_18
    · refine vx_catch (own := RL) (name := xIOB) hown [⟨0, 12, 15, 13⟩] ⟨0, 12, 19, 15⟩ [] (htab.trans rfl) (fun z hz => ?_) rfl (by decide) (hg _ q647) (hg _ q753) hce hcv hcl ?_
      · simp only [List.mem_cons, List.not_mem_nil, or_false] at hz
        subst hz
        exact Or.inr ⟨by decide, xIAE, hg _ q646, hN (xIOB, xIAE) (by decide)⟩
      refine lv_astore (lv' := [(5, .ref q9), (0, .ref (ad 10 1000)), (1, .int (Int32.ofInt a)), (2, .int (Int32.ofInt b)), (3, .int (Int32.ofInt d)), (4, .ref o)]) hx hb dL_fixup_19 hl (by decide) rfl (fun ls hl => ?_)
      refine lv_iconst (v := 2) hx hb dL_fixup_21 (by decide) ?_
      exact g_iret hx hb hr rfl hlocks hK (u, g0) hP hD hS (Or.inr ⟨1, _, rfl, by decide, hX⟩) (Nat.le_of_ble_eq_true rfl) (Nat.le_of_ble_eq_true rfl) dL_fixup_22
  · refine W.widen (k := 1) (n := 6) (Nat.le_of_ble_eq_true rfl) (Nat.le_of_ble_eq_true rfl) ?_
    refine lv_i2l (v := (Int32.ofInt rv).toInt64) hx hb dL_fixup_10 rfl ?_
    refine va_last hx hb hK hP hD hS 0 1 rfl rfl (by unfold vp_in; decide) dL_fixup_11 (fun H locs hP hD hS => ?_)
    have hP : va_P D vwC (zOc dA o (vp_updL g0 (0 : Int32).toNatClampNeg (Int32.ofInt rv).toInt64) ++ zC dA ad u) H := hP
    have hD : va_D A (zOc dA o (vp_updL g0 (0 : Int32).toNatClampNeg (Int32.ofInt rv).toInt64) ++ zC dA ad u) := hD
    refine lv_goto (tgt := 23) hx hb dL_fixup_12 (by decide) ?_
    refine lv_iconst (v := 0) hx hb dL_fixup_23 (by decide) ?_
    exact g_iret hx hb hr rfl hlocks hK (u, vp_updL g0 (0 : Int32).toNatClampNeg (Int32.ofInt rv).toInt64) hP hD hS (Or.inl ⟨rfl, rv, g_o0 g0 (Int32.ofInt rv).toInt64, hQv⟩) (Nat.le_of_ble_eq_true rfl) (Nat.le_of_ble_eq_true rfl) dL_fixup_24
set_option maxHeartbeats 4000000 in
set_option maxRecDepth 100000 in
theorem w_image (l : Launch) (htr : l.stackTraces = false) (D : va_G) (dA : Nat → ClassId) (ad : Int → Nat → Nat) (tf tc : Nat) (aK aV : Nat → Nat) (o : Nat) (g0 : Nat → Int64) (a : Int) (σ : ZS) (Q : Int → ZS → Prop) (X : String → ZS → Prop) (sz : Nat) (hw : wpX10_image a σ Q X) (hXs : ∀ (E : String) (u : ZS), X E u → E = xIOB) : Met l yL_image (gwsW yL_image cL_image 4 (some .int) [(0, 9, 12, 15)]) (gR 10 1 6) (zPreW D dA tf tc aK aV [.ref (ad 10 1000), .int (Int32.ofInt a), .ref o] (zO dA ad o (σ, g0)) sz) (va_Qi (zWa (fun x => (Int32.ofInt x).toInt64) Q X [xIOB]) (gAt D dA (va_A (zO dA ad o (σ, g0)) sz) (zO dA ad o)) (va_A (zO dA ad o (σ, g0)) sz)) 1 6 (va_A (zO dA ad o (σ, g0)) sz) := by
  refine va_MetW (cc := cL_image) (maxL := 4) (ret := (some .int)) (hh := [(0, 9, 12, 15)]) (by decide) rfl ?_
  intro p e s m args below meth c s₁ B hml hv
  obtain ⟨rfl, hsz, hP, hK, hD0, hE, hN⟩ := hv
  have hx := B.exec
  have hb := B.bytes
  have hr := B.returns
  have hts := atoms_spec (ws := gwsW yL_image cL_image 4 (some .int) [(0, 9, 12, 15)]) B.pre
  have hg : ∀ w ∈ gw, w.before _ s = true := fun w h => hts w (List.mem_cons_of_mem _ h)
  have htab := vx_table (x := yL_image) B (hts _ List.mem_cons_self)
  have hown : s.vm.findClass RL = some m.cls := findClass_of_methodNamed B.named
  have hlocks := B.notSynchronized
  subst hsz
  have hD := hD0.self (sz := s.heap.size)
  generalize hAe : va_A (zO dA ad o (σ, g0)) s.heap.size = A at hE hD ⊢
  have hA : ∀ q : Nat, s.heap.size ≤ q → A q := fun q h => by rw [← hAe]; exact Or.inr h
  have hS : va_S A s.heap s.heap [] := va_S.rf
  have hP : va_P D vwC (zOc dA o g0 ++ zC dA ad σ) s.heap := hP
  have hD : va_D A (zOc dA o g0 ++ zC dA ad σ) := hD
  have hl := lv_entry ([.ref (ad 10 1000), .int (Int32.ofInt a), .ref o]) (n := 4) (Nat.le_of_ble_eq_true rfl)
  rw [lg_entry_eq]
  generalize (lg_sl ([.ref (ad 10 1000), .int (Int32.ofInt a), .ref o]) ++ List.replicate (4 - (lg_sl ([.ref (ad 10 1000), .int (Int32.ofInt a), .ref o])).length) Slot.unset).toArray = ls at hl ⊢
  have hl : lv_has ls 4 [(0, .ref (ad 10 1000)), (1, .int (Int32.ofInt a)), (2, .ref o)] := hl
  refine lv_aload_n hx hb dL_image_0 rfl (lv_at hl 2 rfl) ?_
  refine lv_iconst (v := 0) hx hb dL_image_1 (by decide) ?_
  refine lv_aload_n hx hb dL_image_2 rfl (lv_at hl 0 rfl) ?_
  refine lv_iload_n hx hb dL_image_3 rfl (lv_at hl 1 rfl) ?_
  refine wl_Vx (n := 1) (As := [.int (Int32.ofInt a)]) (rest := [.int 0, .ref o]) (wr := zOc dA o g0) (w1 := zC dA ad) (σ := σ) hx hb hml hg hown hE hK hP hD hS hA (kX10_image l htr D dA ad tf tc aK aV a σ Q X _ hw) rfl rfl q1528 q149 q1525 q1526 q1527 (by decide +kernel) ⟨(Nat.le_of_ble_eq_true rfl), (Nat.le_of_ble_eq_true rfl)⟩ rfl hl.1 rfl (Nat.le_of_ble_eq_true rfl) dL_image_4 ⟨(Nat.le_of_ble_eq_true rfl), (Nat.le_of_ble_eq_true rfl)⟩ (fun E u ce q9 H locs hX hP hD hS hce hcv hcl => ?_) (fun rv u H locs hQv hP hD hS => ?_)
  · refine vx_widen (k := 1) (n := 6) (Nat.le_of_ble_eq_true rfl) (Nat.le_of_ble_eq_true rfl) ?_
    obtain rfl := hXs E u hX
    refine vx_catch (own := RL) (name := xIOB) hown [] ⟨0, 9, 12, 15⟩ [] (htab.trans rfl) (fun z hz => by cases hz) rfl (by decide) (hg _ q647) (hg _ q753) hce hcv hcl ?_
    refine lv_astore_n (lv' := [(3, .ref q9), (0, .ref (ad 10 1000)), (1, .int (Int32.ofInt a)), (2, .ref o)]) hx hb dL_image_12 rfl hl (by decide) rfl (fun ls hl => ?_)
    refine lv_iconst (v := 1) hx hb dL_image_13 (by decide) ?_
    exact g_iret hx hb hr rfl hlocks hK (u, g0) hP hD hS (Or.inr ⟨0, _, rfl, by decide, hX⟩) (Nat.le_of_ble_eq_true rfl) (Nat.le_of_ble_eq_true rfl) dL_image_14
  · refine W.widen (k := 1) (n := 6) (Nat.le_of_ble_eq_true rfl) (Nat.le_of_ble_eq_true rfl) ?_
    refine lv_i2l (v := (Int32.ofInt rv).toInt64) hx hb dL_image_7 rfl ?_
    refine va_last hx hb hK hP hD hS 0 1 rfl rfl (by unfold vp_in; decide) dL_image_8 (fun H locs hP hD hS => ?_)
    have hP : va_P D vwC (zOc dA o (vp_updL g0 (0 : Int32).toNatClampNeg (Int32.ofInt rv).toInt64) ++ zC dA ad u) H := hP
    have hD : va_D A (zOc dA o (vp_updL g0 (0 : Int32).toNatClampNeg (Int32.ofInt rv).toInt64) ++ zC dA ad u) := hD
    refine lv_goto (tgt := 15) hx hb dL_image_9 (by decide) ?_
    refine lv_iconst (v := 0) hx hb dL_image_15 (by decide) ?_
    exact g_iret hx hb hr rfl hlocks hK (u, vp_updL g0 (0 : Int32).toNatClampNeg (Int32.ofInt rv).toInt64) hP hD hS (Or.inl ⟨rfl, rv, g_o0 g0 (Int32.ofInt rv).toInt64, hQv⟩) (Nat.le_of_ble_eq_true rfl) (Nat.le_of_ble_eq_true rfl) dL_image_16
set_option maxHeartbeats 4000000 in
set_option maxRecDepth 100000 in
theorem w_memory (l : Launch) (htr : l.stackTraces = false) (D : va_G) (dA : Nat → ClassId) (ad : Int → Nat → Nat) (tf tc : Nat) (aK aV : Nat → Nat) (o : Nat) (g0 : Nat → Int64) (a : Int) (σ : ZS) (Q : Int → ZS → Prop) (X : String → ZS → Prop) (sz : Nat) (hw : wpX10_memory a σ Q X) (hXs : ∀ (E : String) (u : ZS), X E u → E = xIAE) : Met l yL_memory (gwsW yL_memory cL_memory 4 (some .int) [(0, 9, 12, 13)]) (gR 10 1 6) (zPreW D dA tf tc aK aV [.ref (ad 10 1000), .int (Int32.ofInt a), .ref o] (zO dA ad o (σ, g0)) sz) (va_Qi (zWa (fun x => (Int32.ofInt x).toInt64) Q X [xIAE]) (gAt D dA (va_A (zO dA ad o (σ, g0)) sz) (zO dA ad o)) (va_A (zO dA ad o (σ, g0)) sz)) 1 6 (va_A (zO dA ad o (σ, g0)) sz) := by
  refine va_MetW (cc := cL_memory) (maxL := 4) (ret := (some .int)) (hh := [(0, 9, 12, 13)]) (by decide) rfl ?_
  intro p e s m args below meth c s₁ B hml hv
  obtain ⟨rfl, hsz, hP, hK, hD0, hE, hN⟩ := hv
  have hx := B.exec
  have hb := B.bytes
  have hr := B.returns
  have hts := atoms_spec (ws := gwsW yL_memory cL_memory 4 (some .int) [(0, 9, 12, 13)]) B.pre
  have hg : ∀ w ∈ gw, w.before _ s = true := fun w h => hts w (List.mem_cons_of_mem _ h)
  have htab := vx_table (x := yL_memory) B (hts _ List.mem_cons_self)
  have hown : s.vm.findClass RL = some m.cls := findClass_of_methodNamed B.named
  have hlocks := B.notSynchronized
  subst hsz
  have hD := hD0.self (sz := s.heap.size)
  generalize hAe : va_A (zO dA ad o (σ, g0)) s.heap.size = A at hE hD ⊢
  have hA : ∀ q : Nat, s.heap.size ≤ q → A q := fun q h => by rw [← hAe]; exact Or.inr h
  have hS : va_S A s.heap s.heap [] := va_S.rf
  have hP : va_P D vwC (zOc dA o g0 ++ zC dA ad σ) s.heap := hP
  have hD : va_D A (zOc dA o g0 ++ zC dA ad σ) := hD
  have hl := lv_entry ([.ref (ad 10 1000), .int (Int32.ofInt a), .ref o]) (n := 4) (Nat.le_of_ble_eq_true rfl)
  rw [lg_entry_eq]
  generalize (lg_sl ([.ref (ad 10 1000), .int (Int32.ofInt a), .ref o]) ++ List.replicate (4 - (lg_sl ([.ref (ad 10 1000), .int (Int32.ofInt a), .ref o])).length) Slot.unset).toArray = ls at hl ⊢
  have hl : lv_has ls 4 [(0, .ref (ad 10 1000)), (1, .int (Int32.ofInt a)), (2, .ref o)] := hl
  refine lv_aload_n hx hb dL_memory_0 rfl (lv_at hl 2 rfl) ?_
  refine lv_iconst (v := 0) hx hb dL_memory_1 (by decide) ?_
  refine lv_aload_n hx hb dL_memory_2 rfl (lv_at hl 0 rfl) ?_
  refine lv_iload_n hx hb dL_memory_3 rfl (lv_at hl 1 rfl) ?_
  refine wl_Vx (n := 1) (As := [.int (Int32.ofInt a)]) (rest := [.int 0, .ref o]) (wr := zOc dA o g0) (w1 := zC dA ad) (σ := σ) hx hb hml hg hown hE hK hP hD hS hA (kX10_memory l htr D dA ad tf tc aK aV a σ Q X _ hw) rfl rfl q1535 q149 q1532 q1533 q1534 (by decide +kernel) ⟨(Nat.le_of_ble_eq_true rfl), (Nat.le_of_ble_eq_true rfl)⟩ rfl hl.1 rfl (Nat.le_of_ble_eq_true rfl) dL_memory_4 ⟨(Nat.le_of_ble_eq_true rfl), (Nat.le_of_ble_eq_true rfl)⟩ (fun E u ce q9 H locs hX hP hD hS hce hcv hcl => ?_) (fun rv u H locs hQv hP hD hS => ?_)
  · refine vx_widen (k := 1) (n := 6) (Nat.le_of_ble_eq_true rfl) (Nat.le_of_ble_eq_true rfl) ?_
    obtain rfl := hXs E u hX
    refine vx_catch (own := RL) (name := xIAE) hown [] ⟨0, 9, 12, 13⟩ [] (htab.trans rfl) (fun z hz => by cases hz) rfl (by decide) (hg _ q646) (hg _ q733) hce hcv hcl ?_
    refine lv_astore_n (lv' := [(3, .ref q9), (0, .ref (ad 10 1000)), (1, .int (Int32.ofInt a)), (2, .ref o)]) hx hb dL_memory_12 rfl hl (by decide) rfl (fun ls hl => ?_)
    refine lv_iconst (v := 1) hx hb dL_memory_13 (by decide) ?_
    exact g_iret hx hb hr rfl hlocks hK (u, g0) hP hD hS (Or.inr ⟨0, _, rfl, by decide, hX⟩) (Nat.le_of_ble_eq_true rfl) (Nat.le_of_ble_eq_true rfl) dL_memory_14
  · refine W.widen (k := 1) (n := 6) (Nat.le_of_ble_eq_true rfl) (Nat.le_of_ble_eq_true rfl) ?_
    refine lv_i2l (v := (Int32.ofInt rv).toInt64) hx hb dL_memory_7 rfl ?_
    refine va_last hx hb hK hP hD hS 0 1 rfl rfl (by unfold vp_in; decide) dL_memory_8 (fun H locs hP hD hS => ?_)
    have hP : va_P D vwC (zOc dA o (vp_updL g0 (0 : Int32).toNatClampNeg (Int32.ofInt rv).toInt64) ++ zC dA ad u) H := hP
    have hD : va_D A (zOc dA o (vp_updL g0 (0 : Int32).toNatClampNeg (Int32.ofInt rv).toInt64) ++ zC dA ad u) := hD
    refine lv_goto (tgt := 15) hx hb dL_memory_9 (by decide) ?_
    refine lv_iconst (v := 0) hx hb dL_memory_15 (by decide) ?_
    exact g_iret hx hb hr rfl hlocks hK (u, vp_updL g0 (0 : Int32).toNatClampNeg (Int32.ofInt rv).toInt64) hP hD hS (Or.inl ⟨rfl, rv, g_o0 g0 (Int32.ofInt rv).toInt64, hQv⟩) (Nat.le_of_ble_eq_true rfl) (Nat.le_of_ble_eq_true rfl) dL_memory_16
set_option maxHeartbeats 4000000 in
set_option maxRecDepth 100000 in
theorem w_register (l : Launch) (htr : l.stackTraces = false) (D : va_G) (dA : Nat → ClassId) (ad : Int → Nat → Nat) (tf tc : Nat) (aK aV : Nat → Nat) (o : Nat) (g0 : Nat → Int64) (a : Int) (σ : ZS) (Q : Int → ZS → Prop) (X : String → ZS → Prop) (sz : Nat) (hw : wpX10_register a σ Q X) (hXs : ∀ (E : String) (u : ZS), X E u → E = xIAE) : Met l yL_register (gwsW yL_register cL_register 4 (some .int) [(0, 9, 12, 13)]) (gR 10 1 6) (zPreW D dA tf tc aK aV [.ref (ad 10 1000), .int (Int32.ofInt a), .ref o] (zO dA ad o (σ, g0)) sz) (va_Qi (zWa (fun x => (Int32.ofInt x).toInt64) Q X [xIAE]) (gAt D dA (va_A (zO dA ad o (σ, g0)) sz) (zO dA ad o)) (va_A (zO dA ad o (σ, g0)) sz)) 1 6 (va_A (zO dA ad o (σ, g0)) sz) := by
  refine va_MetW (cc := cL_register) (maxL := 4) (ret := (some .int)) (hh := [(0, 9, 12, 13)]) (by decide) rfl ?_
  intro p e s m args below meth c s₁ B hml hv
  obtain ⟨rfl, hsz, hP, hK, hD0, hE, hN⟩ := hv
  have hx := B.exec
  have hb := B.bytes
  have hr := B.returns
  have hts := atoms_spec (ws := gwsW yL_register cL_register 4 (some .int) [(0, 9, 12, 13)]) B.pre
  have hg : ∀ w ∈ gw, w.before _ s = true := fun w h => hts w (List.mem_cons_of_mem _ h)
  have htab := vx_table (x := yL_register) B (hts _ List.mem_cons_self)
  have hown : s.vm.findClass RL = some m.cls := findClass_of_methodNamed B.named
  have hlocks := B.notSynchronized
  subst hsz
  have hD := hD0.self (sz := s.heap.size)
  generalize hAe : va_A (zO dA ad o (σ, g0)) s.heap.size = A at hE hD ⊢
  have hA : ∀ q : Nat, s.heap.size ≤ q → A q := fun q h => by rw [← hAe]; exact Or.inr h
  have hS : va_S A s.heap s.heap [] := va_S.rf
  have hP : va_P D vwC (zOc dA o g0 ++ zC dA ad σ) s.heap := hP
  have hD : va_D A (zOc dA o g0 ++ zC dA ad σ) := hD
  have hl := lv_entry ([.ref (ad 10 1000), .int (Int32.ofInt a), .ref o]) (n := 4) (Nat.le_of_ble_eq_true rfl)
  rw [lg_entry_eq]
  generalize (lg_sl ([.ref (ad 10 1000), .int (Int32.ofInt a), .ref o]) ++ List.replicate (4 - (lg_sl ([.ref (ad 10 1000), .int (Int32.ofInt a), .ref o])).length) Slot.unset).toArray = ls at hl ⊢
  have hl : lv_has ls 4 [(0, .ref (ad 10 1000)), (1, .int (Int32.ofInt a)), (2, .ref o)] := hl
  refine lv_aload_n hx hb dL_register_0 rfl (lv_at hl 2 rfl) ?_
  refine lv_iconst (v := 0) hx hb dL_register_1 (by decide) ?_
  refine lv_aload_n hx hb dL_register_2 rfl (lv_at hl 0 rfl) ?_
  refine lv_iload_n hx hb dL_register_3 rfl (lv_at hl 1 rfl) ?_
  refine wl_Vx (n := 1) (As := [.int (Int32.ofInt a)]) (rest := [.int 0, .ref o]) (wr := zOc dA o g0) (w1 := zC dA ad) (σ := σ) hx hb hml hg hown hE hK hP hD hS hA (kX10_register l htr D dA ad tf tc aK aV a σ Q X _ hw) rfl rfl q1543 q149 q1540 q1541 q1542 (by decide +kernel) ⟨(Nat.le_of_ble_eq_true rfl), (Nat.le_of_ble_eq_true rfl)⟩ rfl hl.1 rfl (Nat.le_of_ble_eq_true rfl) dL_register_4 ⟨(Nat.le_of_ble_eq_true rfl), (Nat.le_of_ble_eq_true rfl)⟩ (fun E u ce q9 H locs hX hP hD hS hce hcv hcl => ?_) (fun rv u H locs hQv hP hD hS => ?_)
  · refine vx_widen (k := 1) (n := 6) (Nat.le_of_ble_eq_true rfl) (Nat.le_of_ble_eq_true rfl) ?_
    obtain rfl := hXs E u hX
    refine vx_catch (own := RL) (name := xIAE) hown [] ⟨0, 9, 12, 13⟩ [] (htab.trans rfl) (fun z hz => by cases hz) rfl (by decide) (hg _ q646) (hg _ q733) hce hcv hcl ?_
    refine lv_astore_n (lv' := [(3, .ref q9), (0, .ref (ad 10 1000)), (1, .int (Int32.ofInt a)), (2, .ref o)]) hx hb dL_register_12 rfl hl (by decide) rfl (fun ls hl => ?_)
    refine lv_iconst (v := 1) hx hb dL_register_13 (by decide) ?_
    exact g_iret hx hb hr rfl hlocks hK (u, g0) hP hD hS (Or.inr ⟨0, _, rfl, by decide, hX⟩) (Nat.le_of_ble_eq_true rfl) (Nat.le_of_ble_eq_true rfl) dL_register_14
  · refine W.widen (k := 1) (n := 6) (Nat.le_of_ble_eq_true rfl) (Nat.le_of_ble_eq_true rfl) ?_
    refine lv_i2l (v := (Int32.ofInt rv).toInt64) hx hb dL_register_7 rfl ?_
    refine va_last hx hb hK hP hD hS 0 1 rfl rfl (by unfold vp_in; decide) dL_register_8 (fun H locs hP hD hS => ?_)
    have hP : va_P D vwC (zOc dA o (vp_updL g0 (0 : Int32).toNatClampNeg (Int32.ofInt rv).toInt64) ++ zC dA ad u) H := hP
    have hD : va_D A (zOc dA o (vp_updL g0 (0 : Int32).toNatClampNeg (Int32.ofInt rv).toInt64) ++ zC dA ad u) := hD
    refine lv_goto (tgt := 15) hx hb dL_register_9 (by decide) ?_
    refine lv_iconst (v := 0) hx hb dL_register_15 (by decide) ?_
    exact g_iret hx hb hr rfl hlocks hK (u, vp_updL g0 (0 : Int32).toNatClampNeg (Int32.ofInt rv).toInt64) hP hD hS (Or.inl ⟨rfl, rv, g_o0 g0 (Int32.ofInt rv).toInt64, hQv⟩) (Nat.le_of_ble_eq_true rfl) (Nat.le_of_ble_eq_true rfl) dL_register_16
set_option maxHeartbeats 4000000 in
set_option maxRecDepth 100000 in
theorem w_trace (l : Launch) (htr : l.stackTraces = false) (D : va_G) (dA : Nat → ClassId) (ad : Int → Nat → Nat) (tf tc : Nat) (aK aV : Nat → Nat) (o : Nat) (g0 : Nat → Int64) (a : Int) (σ : ZS) (Q : Int → ZS → Prop) (X : String → ZS → Prop) (sz : Nat) (hw : wpX10_trace a σ Q X) (hXs : ∀ (E : String) (u : ZS), X E u → E = xIOB) : Met l yL_trace (gwsW yL_trace cL_trace 4 (some .int) [(0, 9, 12, 15)]) (gR 10 1 6) (zPreW D dA tf tc aK aV [.ref (ad 10 1000), .int (Int32.ofInt a), .ref o] (zO dA ad o (σ, g0)) sz) (va_Qi (zWa (fun x => (Int32.ofInt x).toInt64) Q X [xIOB]) (gAt D dA (va_A (zO dA ad o (σ, g0)) sz) (zO dA ad o)) (va_A (zO dA ad o (σ, g0)) sz)) 1 6 (va_A (zO dA ad o (σ, g0)) sz) := by
  refine va_MetW (cc := cL_trace) (maxL := 4) (ret := (some .int)) (hh := [(0, 9, 12, 15)]) (by decide) rfl ?_
  intro p e s m args below meth c s₁ B hml hv
  obtain ⟨rfl, hsz, hP, hK, hD0, hE, hN⟩ := hv
  have hx := B.exec
  have hb := B.bytes
  have hr := B.returns
  have hts := atoms_spec (ws := gwsW yL_trace cL_trace 4 (some .int) [(0, 9, 12, 15)]) B.pre
  have hg : ∀ w ∈ gw, w.before _ s = true := fun w h => hts w (List.mem_cons_of_mem _ h)
  have htab := vx_table (x := yL_trace) B (hts _ List.mem_cons_self)
  have hown : s.vm.findClass RL = some m.cls := findClass_of_methodNamed B.named
  have hlocks := B.notSynchronized
  subst hsz
  have hD := hD0.self (sz := s.heap.size)
  generalize hAe : va_A (zO dA ad o (σ, g0)) s.heap.size = A at hE hD ⊢
  have hA : ∀ q : Nat, s.heap.size ≤ q → A q := fun q h => by rw [← hAe]; exact Or.inr h
  have hS : va_S A s.heap s.heap [] := va_S.rf
  have hP : va_P D vwC (zOc dA o g0 ++ zC dA ad σ) s.heap := hP
  have hD : va_D A (zOc dA o g0 ++ zC dA ad σ) := hD
  have hl := lv_entry ([.ref (ad 10 1000), .int (Int32.ofInt a), .ref o]) (n := 4) (Nat.le_of_ble_eq_true rfl)
  rw [lg_entry_eq]
  generalize (lg_sl ([.ref (ad 10 1000), .int (Int32.ofInt a), .ref o]) ++ List.replicate (4 - (lg_sl ([.ref (ad 10 1000), .int (Int32.ofInt a), .ref o])).length) Slot.unset).toArray = ls at hl ⊢
  have hl : lv_has ls 4 [(0, .ref (ad 10 1000)), (1, .int (Int32.ofInt a)), (2, .ref o)] := hl
  refine lv_aload_n hx hb dL_trace_0 rfl (lv_at hl 2 rfl) ?_
  refine lv_iconst (v := 0) hx hb dL_trace_1 (by decide) ?_
  refine lv_aload_n hx hb dL_trace_2 rfl (lv_at hl 0 rfl) ?_
  refine lv_iload_n hx hb dL_trace_3 rfl (lv_at hl 1 rfl) ?_
  refine wl_Vx (n := 1) (As := [.int (Int32.ofInt a)]) (rest := [.int 0, .ref o]) (wr := zOc dA o g0) (w1 := zC dA ad) (σ := σ) hx hb hml hg hown hE hK hP hD hS hA (kX10_trace l htr D dA ad tf tc aK aV a σ Q X _ hw) rfl rfl q1551 q149 q1548 q1549 q1550 (by decide +kernel) ⟨(Nat.le_of_ble_eq_true rfl), (Nat.le_of_ble_eq_true rfl)⟩ rfl hl.1 rfl (Nat.le_of_ble_eq_true rfl) dL_trace_4 ⟨(Nat.le_of_ble_eq_true rfl), (Nat.le_of_ble_eq_true rfl)⟩ (fun E u ce q9 H locs hX hP hD hS hce hcv hcl => ?_) (fun rv u H locs hQv hP hD hS => ?_)
  · refine vx_widen (k := 1) (n := 6) (Nat.le_of_ble_eq_true rfl) (Nat.le_of_ble_eq_true rfl) ?_
    obtain rfl := hXs E u hX
    refine vx_catch (own := RL) (name := xIOB) hown [] ⟨0, 9, 12, 15⟩ [] (htab.trans rfl) (fun z hz => by cases hz) rfl (by decide) (hg _ q647) (hg _ q753) hce hcv hcl ?_
    refine lv_astore_n (lv' := [(3, .ref q9), (0, .ref (ad 10 1000)), (1, .int (Int32.ofInt a)), (2, .ref o)]) hx hb dL_trace_12 rfl hl (by decide) rfl (fun ls hl => ?_)
    refine lv_iconst (v := 1) hx hb dL_trace_13 (by decide) ?_
    exact g_iret hx hb hr rfl hlocks hK (u, g0) hP hD hS (Or.inr ⟨0, _, rfl, by decide, hX⟩) (Nat.le_of_ble_eq_true rfl) (Nat.le_of_ble_eq_true rfl) dL_trace_14
  · refine W.widen (k := 1) (n := 6) (Nat.le_of_ble_eq_true rfl) (Nat.le_of_ble_eq_true rfl) ?_
    refine lv_i2l (v := (Int32.ofInt rv).toInt64) hx hb dL_trace_7 rfl ?_
    refine va_last hx hb hK hP hD hS 0 1 rfl rfl (by unfold vp_in; decide) dL_trace_8 (fun H locs hP hD hS => ?_)
    have hP : va_P D vwC (zOc dA o (vp_updL g0 (0 : Int32).toNatClampNeg (Int32.ofInt rv).toInt64) ++ zC dA ad u) H := hP
    have hD : va_D A (zOc dA o (vp_updL g0 (0 : Int32).toNatClampNeg (Int32.ofInt rv).toInt64) ++ zC dA ad u) := hD
    refine lv_goto (tgt := 15) hx hb dL_trace_9 (by decide) ?_
    refine lv_iconst (v := 0) hx hb dL_trace_15 (by decide) ?_
    exact g_iret hx hb hr rfl hlocks hK (u, vp_updL g0 (0 : Int32).toNatClampNeg (Int32.ofInt rv).toInt64) hP hD hS (Or.inl ⟨rfl, rv, g_o0 g0 (Int32.ofInt rv).toInt64, hQv⟩) (Nat.le_of_ble_eq_true rfl) (Nat.le_of_ble_eq_true rfl) dL_trace_16
set_option maxHeartbeats 4000000 in
set_option maxRecDepth 100000 in
theorem w_count (l : Launch) (htr : l.stackTraces = false) (D : va_G) (dA : Nat → ClassId) (ad : Int → Nat → Nat) (tf tc : Nat) (aK aV : Nat → Nat) (o : Nat) (g0 : Nat → Int64) (a : Int) (σ : ZS) (Q : Int → ZS → Prop) (X : String → ZS → Prop) (sz : Nat) (hw : wpX10_count a σ Q X) (hXs : ∀ (E : String) (u : ZS), X E u → E = xIAE) : Met l yL_count (gwsW yL_count cL_count 4 (some .int) [(0, 9, 12, 13)]) (gR 10 1 6) (zPreW D dA tf tc aK aV [.ref (ad 10 1000), .int (Int32.ofInt a), .ref o] (zO dA ad o (σ, g0)) sz) (va_Qi (zWa (fun x => (Int32.ofInt x).toInt64) Q X [xIAE]) (gAt D dA (va_A (zO dA ad o (σ, g0)) sz) (zO dA ad o)) (va_A (zO dA ad o (σ, g0)) sz)) 1 6 (va_A (zO dA ad o (σ, g0)) sz) := by
  refine va_MetW (cc := cL_count) (maxL := 4) (ret := (some .int)) (hh := [(0, 9, 12, 13)]) (by decide) rfl ?_
  intro p e s m args below meth c s₁ B hml hv
  obtain ⟨rfl, hsz, hP, hK, hD0, hE, hN⟩ := hv
  have hx := B.exec
  have hb := B.bytes
  have hr := B.returns
  have hts := atoms_spec (ws := gwsW yL_count cL_count 4 (some .int) [(0, 9, 12, 13)]) B.pre
  have hg : ∀ w ∈ gw, w.before _ s = true := fun w h => hts w (List.mem_cons_of_mem _ h)
  have htab := vx_table (x := yL_count) B (hts _ List.mem_cons_self)
  have hown : s.vm.findClass RL = some m.cls := findClass_of_methodNamed B.named
  have hlocks := B.notSynchronized
  subst hsz
  have hD := hD0.self (sz := s.heap.size)
  generalize hAe : va_A (zO dA ad o (σ, g0)) s.heap.size = A at hE hD ⊢
  have hA : ∀ q : Nat, s.heap.size ≤ q → A q := fun q h => by rw [← hAe]; exact Or.inr h
  have hS : va_S A s.heap s.heap [] := va_S.rf
  have hP : va_P D vwC (zOc dA o g0 ++ zC dA ad σ) s.heap := hP
  have hD : va_D A (zOc dA o g0 ++ zC dA ad σ) := hD
  have hl := lv_entry ([.ref (ad 10 1000), .int (Int32.ofInt a), .ref o]) (n := 4) (Nat.le_of_ble_eq_true rfl)
  rw [lg_entry_eq]
  generalize (lg_sl ([.ref (ad 10 1000), .int (Int32.ofInt a), .ref o]) ++ List.replicate (4 - (lg_sl ([.ref (ad 10 1000), .int (Int32.ofInt a), .ref o])).length) Slot.unset).toArray = ls at hl ⊢
  have hl : lv_has ls 4 [(0, .ref (ad 10 1000)), (1, .int (Int32.ofInt a)), (2, .ref o)] := hl
  refine lv_aload_n hx hb dL_count_0 rfl (lv_at hl 2 rfl) ?_
  refine lv_iconst (v := 0) hx hb dL_count_1 (by decide) ?_
  refine lv_aload_n hx hb dL_count_2 rfl (lv_at hl 0 rfl) ?_
  refine lv_iload_n hx hb dL_count_3 rfl (lv_at hl 1 rfl) ?_
  refine wl_Vx (n := 1) (As := [.int (Int32.ofInt a)]) (rest := [.int 0, .ref o]) (wr := zOc dA o g0) (w1 := zC dA ad) (σ := σ) hx hb hml hg hown hE hK hP hD hS hA (kX10_count l htr D dA ad tf tc aK aV a σ Q X _ hw) rfl rfl q1559 q149 q1556 q1557 q1558 (by decide +kernel) ⟨(Nat.le_of_ble_eq_true rfl), (Nat.le_of_ble_eq_true rfl)⟩ rfl hl.1 rfl (Nat.le_of_ble_eq_true rfl) dL_count_4 ⟨(Nat.le_of_ble_eq_true rfl), (Nat.le_of_ble_eq_true rfl)⟩ (fun E u ce q9 H locs hX hP hD hS hce hcv hcl => ?_) (fun rv u H locs hQv hP hD hS => ?_)
  · refine vx_widen (k := 1) (n := 6) (Nat.le_of_ble_eq_true rfl) (Nat.le_of_ble_eq_true rfl) ?_
    obtain rfl := hXs E u hX
    refine vx_catch (own := RL) (name := xIAE) hown [] ⟨0, 9, 12, 13⟩ [] (htab.trans rfl) (fun z hz => by cases hz) rfl (by decide) (hg _ q646) (hg _ q733) hce hcv hcl ?_
    refine lv_astore_n (lv' := [(3, .ref q9), (0, .ref (ad 10 1000)), (1, .int (Int32.ofInt a)), (2, .ref o)]) hx hb dL_count_12 rfl hl (by decide) rfl (fun ls hl => ?_)
    refine lv_iconst (v := 1) hx hb dL_count_13 (by decide) ?_
    exact g_iret hx hb hr rfl hlocks hK (u, g0) hP hD hS (Or.inr ⟨0, _, rfl, by decide, hX⟩) (Nat.le_of_ble_eq_true rfl) (Nat.le_of_ble_eq_true rfl) dL_count_14
  · refine W.widen (k := 1) (n := 6) (Nat.le_of_ble_eq_true rfl) (Nat.le_of_ble_eq_true rfl) ?_
    refine lv_i2l (v := (Int32.ofInt rv).toInt64) hx hb dL_count_7 rfl ?_
    refine va_last hx hb hK hP hD hS 0 1 rfl rfl (by unfold vp_in; decide) dL_count_8 (fun H locs hP hD hS => ?_)
    have hP : va_P D vwC (zOc dA o (vp_updL g0 (0 : Int32).toNatClampNeg (Int32.ofInt rv).toInt64) ++ zC dA ad u) H := hP
    have hD : va_D A (zOc dA o (vp_updL g0 (0 : Int32).toNatClampNeg (Int32.ofInt rv).toInt64) ++ zC dA ad u) := hD
    refine lv_goto (tgt := 15) hx hb dL_count_9 (by decide) ?_
    refine lv_iconst (v := 0) hx hb dL_count_15 (by decide) ?_
    exact g_iret hx hb hr rfl hlocks hK (u, vp_updL g0 (0 : Int32).toNatClampNeg (Int32.ofInt rv).toInt64) hP hD hS (Or.inl ⟨rfl, rv, g_o0 g0 (Int32.ofInt rv).toInt64, hQv⟩) (Nat.le_of_ble_eq_true rfl) (Nat.le_of_ble_eq_true rfl) dL_count_16
