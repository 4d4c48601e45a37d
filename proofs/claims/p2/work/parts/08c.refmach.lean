theorem q133 : Cond.selects RX11 yX11_fetchTwo yX11_fetchTwo ∈ gw := gw_in (i := 133) (by decide +kernel) rfl
theorem q135 : Cond.selects RX11 yX11_formGet yX11_formGet ∈ gw := gw_in (i := 135) (by decide +kernel) rfl
theorem q139 : Cond.selects RX11 yX11_formSet yX11_formSet ∈ gw := gw_in (i := 139) (by decide +kernel) rfl
theorem q144 : Cond.selects RX11 yX11_push yX11_push ∈ gw := gw_in (i := 144) (by decide +kernel) rfl
theorem q145 : Cond.selects RX11 yX11_pop yX11_pop ∈ gw := gw_in (i := 145) (by decide +kernel) rfl
theorem q1697 : Cond.fieldLink RX11 545 "SegmentBenchModel" "formK" "I" ∈ gw := gw_in (i := 1697) (by decide +kernel) rfl
theorem q2134 : Cond.methodLink RX11 581 yX11_operation ∈ gw := gw_in (i := 2134) (by decide +kernel) rfl
theorem q2135 : Cond.static yX11_operation ∈ gw := gw_in (i := 2135) (by decide +kernel) rfl
theorem q2136 : Cond.code yX11_operation cX11_operation 1 (some .boolean) ∈ gw := gw_in (i := 2136) (by decide +kernel) rfl
theorem q2145 : Cond.methodLink RX11 548 yX11_fetchTwo ∈ gw := gw_in (i := 2145) (by decide +kernel) rfl
theorem q2147 : Cond.instanceMethod yX11_fetchTwo ∈ gw := gw_in (i := 2147) (by decide +kernel) rfl
theorem q2148 : Cond.code yX11_fetchTwo cX11_fetchTwo 2 (some .int) ∈ gw := gw_in (i := 2148) (by decide +kernel) rfl
theorem q2153 : Cond.methodLink RX11 572 yX11_formGet ∈ gw := gw_in (i := 2153) (by decide +kernel) rfl
theorem q2155 : Cond.instanceMethod yX11_formGet ∈ gw := gw_in (i := 2155) (by decide +kernel) rfl
theorem q2156 : Cond.code yX11_formGet cX11_formGet 1 (some .int) ∈ gw := gw_in (i := 2156) (by decide +kernel) rfl
theorem q2169 : Cond.methodLink RX11 578 yX11_formSet ∈ gw := gw_in (i := 2169) (by decide +kernel) rfl
theorem q2171 : Cond.instanceMethod yX11_formSet ∈ gw := gw_in (i := 2171) (by decide +kernel) rfl
theorem q2172 : Cond.code yX11_formSet cX11_formSet 2 none ∈ gw := gw_in (i := 2172) (by decide +kernel) rfl
theorem q2190 : Cond.methodLink RX11 595 yX11_push ∈ gw := gw_in (i := 2190) (by decide +kernel) rfl
theorem q2192 : Cond.instanceMethod yX11_push ∈ gw := gw_in (i := 2192) (by decide +kernel) rfl
theorem q2193 : Cond.code yX11_push cX11_push 2 none ∈ gw := gw_in (i := 2193) (by decide +kernel) rfl
theorem q2194 : Cond.methodLink RX11 598 yX11_pop ∈ gw := gw_in (i := 2194) (by decide +kernel) rfl
theorem q2196 : Cond.instanceMethod yX11_pop ∈ gw := gw_in (i := 2196) (by decide +kernel) rfl
theorem q2197 : Cond.code yX11_pop cX11_pop 2 (some .int) ∈ gw := gw_in (i := 2197) (by decide +kernel) rfl
theorem dX11_shift_0 : decode cX11_shift 0 = .ok (.aload_n 0, 1) := by decide +kernel
theorem dX11_shift_1 : decode cX11_shift 1 = .ok (.getfield 545, 3) := by decide +kernel
theorem dX11_shift_4 : decode cX11_shift 4 = .ok (.iconst 4, 1) := by decide +kernel
theorem dX11_shift_5 : decode cX11_shift 5 = .ok (.if_icmp .eq 13, 3) := by decide +kernel
theorem dX11_shift_18 : decode cX11_shift 18 = .ok (.aload_n 0, 1) := by decide +kernel
theorem dX11_shift_19 : decode cX11_shift 19 = .ok (.invokevirtual 572, 3) := by decide +kernel
theorem dX11_shift_22 : decode cX11_shift 22 = .ok (.istore_n 1, 1) := by decide +kernel
theorem dX11_shift_23 : decode cX11_shift 23 = .ok (.aload_n 0, 1) := by decide +kernel
theorem dX11_shift_24 : decode cX11_shift 24 = .ok (.getfield 545, 3) := by decide +kernel
theorem dX11_shift_27 : decode cX11_shift 27 = .ok (.iconst 4, 1) := by decide +kernel
theorem dX11_shift_28 : decode cX11_shift 28 = .ok (.if_icmp .ne 9, 3) := by decide +kernel
theorem dX11_shift_31 : decode cX11_shift 31 = .ok (.iload_n 1, 1) := by decide +kernel
theorem dX11_shift_32 : decode cX11_shift 32 = .ok (.iconst 1, 1) := by decide +kernel
theorem dX11_shift_33 : decode cX11_shift 33 = .ok (.ishl, 1) := by decide +kernel
theorem dX11_shift_34 : decode cX11_shift 34 = .ok (.goto 6, 3) := by decide +kernel
theorem dX11_shift_40 : decode cX11_shift 40 = .ok (.istore_n 2, 1) := by decide +kernel
theorem dX11_shift_41 : decode cX11_shift 41 = .ok (.aload_n 0, 1) := by decide +kernel
theorem dX11_shift_42 : decode cX11_shift 42 = .ok (.getfield 253, 3) := by decide +kernel
theorem dX11_shift_45 : decode cX11_shift 45 = .ok (.bipush 13, 2) := by decide +kernel
theorem dX11_shift_47 : decode cX11_shift 47 = .ok (.aload_n 0, 1) := by decide +kernel
theorem dX11_shift_48 : decode cX11_shift 48 = .ok (.getfield 545, 3) := by decide +kernel
theorem dX11_shift_51 : decode cX11_shift 51 = .ok (.iconst 4, 1) := by decide +kernel
theorem dX11_shift_52 : decode cX11_shift 52 = .ok (.if_icmp .ne 10, 3) := by decide +kernel
theorem dX11_shift_55 : decode cX11_shift 55 = .ok (.iload_n 1, 1) := by decide +kernel
theorem dX11_shift_56 : decode cX11_shift 56 = .ok (.bipush 15, 2) := by decide +kernel
theorem dX11_shift_58 : decode cX11_shift 58 = .ok (.ishr, 1) := by decide +kernel
theorem dX11_shift_59 : decode cX11_shift 59 = .ok (.goto 6, 3) := by decide +kernel
theorem dX11_shift_65 : decode cX11_shift 65 = .ok (.iastore, 1) := by decide +kernel
theorem dX11_shift_66 : decode cX11_shift 66 = .ok (.aload_n 0, 1) := by decide +kernel
theorem dX11_shift_67 : decode cX11_shift 67 = .ok (.iload_n 2, 1) := by decide +kernel
theorem dX11_shift_68 : decode cX11_shift 68 = .ok (.invokevirtual 566, 3) := by decide +kernel
theorem dX11_shift_71 : decode cX11_shift 71 = .ok (.aload_n 0, 1) := by decide +kernel
theorem dX11_shift_72 : decode cX11_shift 72 = .ok (.iload_n 2, 1) := by decide +kernel
theorem dX11_shift_73 : decode cX11_shift 73 = .ok (.invokevirtual 578, 3) := by decide +kernel
theorem dX11_shift_76 : decode cX11_shift 76 = .ok (.iconst 0, 1) := by decide +kernel
theorem dX11_shift_77 : decode cX11_shift 77 = .ok (.ireturn, 1) := by decide +kernel
theorem dX11_shift_8 : decode cX11_shift 8 = .ok (.aload_n 0, 1) := by decide +kernel
theorem dX11_shift_9 : decode cX11_shift 9 = .ok (.getfield 545, 3) := by decide +kernel
theorem dX11_shift_12 : decode cX11_shift 12 = .ok (.iconst 5, 1) := by decide +kernel
theorem dX11_shift_13 : decode cX11_shift 13 = .ok (.if_icmp .eq 5, 3) := by decide +kernel
theorem dX11_shift_37 : decode cX11_shift 37 = .ok (.iload_n 1, 1) := by decide +kernel
theorem dX11_shift_38 : decode cX11_shift 38 = .ok (.iconst 1, 1) := by decide +kernel
theorem dX11_shift_39 : decode cX11_shift 39 = .ok (.ishr, 1) := by decide +kernel
theorem dX11_shift_62 : decode cX11_shift 62 = .ok (.iload_n 1, 1) := by decide +kernel
theorem dX11_shift_63 : decode cX11_shift 63 = .ok (.iconst 1, 1) := by decide +kernel
theorem dX11_shift_64 : decode cX11_shift 64 = .ok (.iand, 1) := by decide +kernel
theorem dX11_shift_16 : decode cX11_shift 16 = .ok (.iconst 2, 1) := by decide +kernel
theorem dX11_shift_17 : decode cX11_shift 17 = .ok (.ireturn, 1) := by decide +kernel
theorem dX11_condition_0 : decode cX11_condition 0 = .ok (.aload_n 0, 1) := by decide +kernel
theorem dX11_condition_1 : decode cX11_condition 1 = .ok (.getfield 253, 3) := by decide +kernel
theorem dX11_condition_4 : decode cX11_condition 4 = .ok (.iload_n 1, 1) := by decide +kernel
theorem dX11_condition_5 : decode cX11_condition 5 = .ok (.bipush 116, 2) := by decide +kernel
theorem dX11_condition_7 : decode cX11_condition 7 = .ok (.if_icmp .ge 8, 3) := by decide +kernel
theorem dX11_condition_15 : decode cX11_condition 15 = .ok (.iload_n 1, 1) := by decide +kernel
theorem dX11_condition_16 : decode cX11_condition 16 = .ok (.bipush 118, 2) := by decide +kernel
theorem dX11_condition_18 : decode cX11_condition 18 = .ok (.if_icmp .ge 8, 3) := by decide +kernel
theorem dX11_condition_26 : decode cX11_condition 26 = .ok (.bipush 15, 2) := by decide +kernel
theorem dX11_condition_28 : decode cX11_condition 28 = .ok (.iaload, 1) := by decide +kernel
theorem dX11_condition_29 : decode cX11_condition 29 = .ok (.ifCond .eq 7, 3) := by decide +kernel
theorem dX11_condition_36 : decode cX11_condition 36 = .ok (.iconst 0, 1) := by decide +kernel
theorem dX11_condition_37 : decode cX11_condition 37 = .ok (.istore_n 2, 1) := by decide +kernel
theorem dX11_condition_38 : decode cX11_condition 38 = .ok (.iload_n 1, 1) := by decide +kernel
theorem dX11_condition_39 : decode cX11_condition 39 = .ok (.iconst 1, 1) := by decide +kernel
theorem dX11_condition_40 : decode cX11_condition 40 = .ok (.iand, 1) := by decide +kernel
theorem dX11_condition_41 : decode cX11_condition 41 = .ok (.ifCond .ne 7, 3) := by decide +kernel
theorem dX11_condition_48 : decode cX11_condition 48 = .ok (.iload_n 2, 1) := by decide +kernel
theorem dX11_condition_49 : decode cX11_condition 49 = .ok (.ifCond .ne 7, 3) := by decide +kernel
theorem dX11_condition_52 : decode cX11_condition 52 = .ok (.iconst 1, 1) := by decide +kernel
theorem dX11_condition_53 : decode cX11_condition 53 = .ok (.goto 4, 3) := by decide +kernel
theorem dX11_condition_57 : decode cX11_condition 57 = .ok (.ireturn, 1) := by decide +kernel
theorem dX11_condition_44 : decode cX11_condition 44 = .ok (.iload_n 2, 1) := by decide +kernel
theorem dX11_condition_45 : decode cX11_condition 45 = .ok (.goto 12, 3) := by decide +kernel
theorem dX11_condition_32 : decode cX11_condition 32 = .ok (.iconst 1, 1) := by decide +kernel
theorem dX11_condition_33 : decode cX11_condition 33 = .ok (.goto 4, 3) := by decide +kernel
theorem dX11_condition_56 : decode cX11_condition 56 = .ok (.iconst 0, 1) := by decide +kernel
theorem dX11_condition_21 : decode cX11_condition 21 = .ok (.bipush 14, 2) := by decide +kernel
theorem dX11_condition_23 : decode cX11_condition 23 = .ok (.goto 5, 3) := by decide +kernel
theorem dX11_condition_10 : decode cX11_condition 10 = .ok (.bipush 13, 2) := by decide +kernel
theorem dX11_condition_12 : decode cX11_condition 12 = .ok (.goto 16, 3) := by decide +kernel
theorem dX11_plain_0 : decode cX11_plain 0 = .ok (.iload_n 1, 1) := by decide +kernel
theorem dX11_plain_1 : decode cX11_plain 1 = .ok (.bipush 7, 2) := by decide +kernel
theorem dX11_plain_3 : decode cX11_plain 3 = .ok (.iand, 1) := by decide +kernel
theorem dX11_plain_4 : decode cX11_plain 4 = .ok (.istore_n 2, 1) := by decide +kernel
theorem dX11_plain_5 : decode cX11_plain 5 = .ok (.iload_n 1, 1) := by decide +kernel
theorem dX11_plain_6 : decode cX11_plain 6 = .ok (.sipush 184, 3) := by decide +kernel
theorem dX11_plain_9 : decode cX11_plain 9 = .ok (.if_icmp .lt 15, 3) := by decide +kernel
theorem dX11_plain_24 : decode cX11_plain 24 = .ok (.iload_n 1, 1) := by decide +kernel
theorem dX11_plain_25 : decode cX11_plain 25 = .ok (.bipush 80, 2) := by decide +kernel
theorem dX11_plain_27 : decode cX11_plain 27 = .ok (.if_icmp .ge 43, 3) := by decide +kernel
theorem dX11_plain_70 : decode cX11_plain 70 = .ok (.iload_n 1, 1) := by decide +kernel
theorem dX11_plain_71 : decode cX11_plain 71 = .ok (.bipush 88, 2) := by decide +kernel
theorem dX11_plain_73 : decode cX11_plain 73 = .ok (.if_icmp .ge 16, 3) := by decide +kernel
theorem dX11_plain_89 : decode cX11_plain 89 = .ok (.aload_n 0, 1) := by decide +kernel
theorem dX11_plain_90 : decode cX11_plain 90 = .ok (.getfield 253, 3) := by decide +kernel
theorem dX11_plain_93 : decode cX11_plain 93 = .ok (.iload_n 2, 1) := by decide +kernel
theorem dX11_plain_94 : decode cX11_plain 94 = .ok (.aload_n 0, 1) := by decide +kernel
theorem dX11_plain_95 : decode cX11_plain 95 = .ok (.invokevirtual 598, 3) := by decide +kernel
theorem dX11_plain_98 : decode cX11_plain 98 = .ok (.iastore, 1) := by decide +kernel
theorem dX11_plain_99 : decode cX11_plain 99 = .ok (.iconst 0, 1) := by decide +kernel
theorem dX11_plain_100 : decode cX11_plain 100 = .ok (.ireturn, 1) := by decide +kernel
theorem dX11_plain_76 : decode cX11_plain 76 = .ok (.aload_n 0, 1) := by decide +kernel
theorem dX11_plain_77 : decode cX11_plain 77 = .ok (.aload_n 0, 1) := by decide +kernel
theorem dX11_plain_78 : decode cX11_plain 78 = .ok (.getfield 253, 3) := by decide +kernel
theorem dX11_plain_81 : decode cX11_plain 81 = .ok (.iload_n 2, 1) := by decide +kernel
theorem dX11_plain_82 : decode cX11_plain 82 = .ok (.iaload, 1) := by decide +kernel
theorem dX11_plain_83 : decode cX11_plain 83 = .ok (.invokevirtual 595, 3) := by decide +kernel
theorem dX11_plain_86 : decode cX11_plain 86 = .ok (.goto 13, 3) := by decide +kernel
theorem dX11_plain_30 : decode cX11_plain 30 = .ok (.aload_n 0, 1) := by decide +kernel
theorem dX11_plain_31 : decode cX11_plain 31 = .ok (.getfield 253, 3) := by decide +kernel
theorem dX11_plain_34 : decode cX11_plain 34 = .ok (.iload_n 2, 1) := by decide +kernel
theorem dX11_plain_35 : decode cX11_plain 35 = .ok (.aload_n 0, 1) := by decide +kernel
theorem dX11_plain_36 : decode cX11_plain 36 = .ok (.getfield 253, 3) := by decide +kernel
theorem dX11_plain_39 : decode cX11_plain 39 = .ok (.iload_n 2, 1) := by decide +kernel
theorem dX11_plain_40 : decode cX11_plain 40 = .ok (.iaload, 1) := by decide +kernel
theorem dX11_plain_41 : decode cX11_plain 41 = .ok (.iload_n 1, 1) := by decide +kernel
theorem dX11_plain_42 : decode cX11_plain 42 = .ok (.bipush 72, 2) := by decide +kernel
theorem dX11_plain_44 : decode cX11_plain 44 = .ok (.if_icmp .ge 7, 3) := by decide +kernel
theorem dX11_plain_51 : decode cX11_plain 51 = .ok (.iconst (-1), 1) := by decide +kernel
theorem dX11_plain_52 : decode cX11_plain 52 = .ok (.iadd, 1) := by decide +kernel
theorem dX11_plain_53 : decode cX11_plain 53 = .ok (.ldc_w 300, 3) := by decide +kernel
theorem dX11_plain_56 : decode cX11_plain 56 = .ok (.iand, 1) := by decide +kernel
theorem dX11_plain_57 : decode cX11_plain 57 = .ok (.iastore, 1) := by decide +kernel
theorem dX11_plain_58 : decode cX11_plain 58 = .ok (.aload_n 0, 1) := by decide +kernel
theorem dX11_plain_59 : decode cX11_plain 59 = .ok (.aload_n 0, 1) := by decide +kernel
theorem dX11_plain_60 : decode cX11_plain 60 = .ok (.getfield 253, 3) := by decide +kernel
theorem dX11_plain_63 : decode cX11_plain 63 = .ok (.iload_n 2, 1) := by decide +kernel
theorem dX11_plain_64 : decode cX11_plain 64 = .ok (.iaload, 1) := by decide +kernel
theorem dX11_plain_65 : decode cX11_plain 65 = .ok (.invokevirtual 566, 3) := by decide +kernel
theorem dX11_plain_68 : decode cX11_plain 68 = .ok (.iconst 0, 1) := by decide +kernel
theorem dX11_plain_69 : decode cX11_plain 69 = .ok (.ireturn, 1) := by decide +kernel
theorem dX11_plain_47 : decode cX11_plain 47 = .ok (.iconst 1, 1) := by decide +kernel
theorem dX11_plain_48 : decode cX11_plain 48 = .ok (.goto 4, 3) := by decide +kernel
theorem dX11_plain_12 : decode cX11_plain 12 = .ok (.aload_n 0, 1) := by decide +kernel
theorem dX11_plain_13 : decode cX11_plain 13 = .ok (.getfield 253, 3) := by decide +kernel
theorem dX11_plain_16 : decode cX11_plain 16 = .ok (.iload_n 2, 1) := by decide +kernel
theorem dX11_plain_17 : decode cX11_plain 17 = .ok (.aload_n 0, 1) := by decide +kernel
theorem dX11_plain_18 : decode cX11_plain 18 = .ok (.invokevirtual 548, 3) := by decide +kernel
theorem dX11_plain_21 : decode cX11_plain 21 = .ok (.iastore, 1) := by decide +kernel
theorem dX11_plain_22 : decode cX11_plain 22 = .ok (.iconst 0, 1) := by decide +kernel
theorem dX11_plain_23 : decode cX11_plain 23 = .ok (.ireturn, 1) := by decide +kernel
theorem dX11_hasForm_0 : decode cX11_hasForm 0 = .ok (.iload_n 0, 1) := by decide +kernel
theorem dX11_hasForm_1 : decode cX11_hasForm 1 = .ok (.bipush 64, 2) := by decide +kernel
theorem dX11_hasForm_3 : decode cX11_hasForm 3 = .ok (.if_icmp .ge 34, 3) := by decide +kernel
theorem dX11_hasForm_37 : decode cX11_hasForm 37 = .ok (.iload_n 0, 1) := by decide +kernel
theorem dX11_hasForm_38 : decode cX11_hasForm 38 = .ok (.sipush 129, 3) := by decide +kernel
theorem dX11_hasForm_41 : decode cX11_hasForm 41 = .ok (.if_icmp .eq 52, 3) := by decide +kernel
theorem dX11_hasForm_93 : decode cX11_hasForm 93 = .ok (.iconst 1, 1) := by decide +kernel
theorem dX11_hasForm_94 : decode cX11_hasForm 94 = .ok (.goto 4, 3) := by decide +kernel
theorem dX11_hasForm_98 : decode cX11_hasForm 98 = .ok (.ireturn, 1) := by decide +kernel
theorem dX11_hasForm_44 : decode cX11_hasForm 44 = .ok (.iload_n 0, 1) := by decide +kernel
theorem dX11_hasForm_45 : decode cX11_hasForm 45 = .ok (.sipush 137, 3) := by decide +kernel
theorem dX11_hasForm_48 : decode cX11_hasForm 48 = .ok (.if_icmp .eq 45, 3) := by decide +kernel
theorem dX11_hasForm_51 : decode cX11_hasForm 51 = .ok (.iload_n 0, 1) := by decide +kernel
theorem dX11_hasForm_52 : decode cX11_hasForm 52 = .ok (.sipush 139, 3) := by decide +kernel
theorem dX11_hasForm_55 : decode cX11_hasForm 55 = .ok (.if_icmp .eq 38, 3) := by decide +kernel
theorem dX11_hasForm_58 : decode cX11_hasForm 58 = .ok (.iload_n 0, 1) := by decide +kernel
theorem dX11_hasForm_59 : decode cX11_hasForm 59 = .ok (.sipush 140, 3) := by decide +kernel
theorem dX11_hasForm_62 : decode cX11_hasForm 62 = .ok (.if_icmp .eq 31, 3) := by decide +kernel
theorem dX11_hasForm_65 : decode cX11_hasForm 65 = .ok (.iload_n 0, 1) := by decide +kernel
theorem dX11_hasForm_66 : decode cX11_hasForm 66 = .ok (.sipush 142, 3) := by decide +kernel
theorem dX11_hasForm_69 : decode cX11_hasForm 69 = .ok (.if_icmp .eq 24, 3) := by decide +kernel
theorem dX11_hasForm_72 : decode cX11_hasForm 72 = .ok (.iload_n 0, 1) := by decide +kernel
theorem dX11_hasForm_73 : decode cX11_hasForm 73 = .ok (.sipush 199, 3) := by decide +kernel
theorem dX11_hasForm_76 : decode cX11_hasForm 76 = .ok (.if_icmp .eq 17, 3) := by decide +kernel
theorem dX11_hasForm_79 : decode cX11_hasForm 79 = .ok (.iload_n 0, 1) := by decide +kernel
theorem dX11_hasForm_80 : decode cX11_hasForm 80 = .ok (.sipush 209, 3) := by decide +kernel
theorem dX11_hasForm_83 : decode cX11_hasForm 83 = .ok (.if_icmp .eq 10, 3) := by decide +kernel
theorem dX11_hasForm_86 : decode cX11_hasForm 86 = .ok (.iload_n 0, 1) := by decide +kernel
theorem dX11_hasForm_87 : decode cX11_hasForm 87 = .ok (.sipush 247, 3) := by decide +kernel
theorem dX11_hasForm_90 : decode cX11_hasForm 90 = .ok (.if_icmp .ne 7, 3) := by decide +kernel
theorem dX11_hasForm_97 : decode cX11_hasForm 97 = .ok (.iconst 0, 1) := by decide +kernel
theorem dX11_hasForm_6 : decode cX11_hasForm 6 = .ok (.iload_n 0, 1) := by decide +kernel
theorem dX11_hasForm_7 : decode cX11_hasForm 7 = .ok (.bipush 8, 2) := by decide +kernel
theorem dX11_hasForm_9 : decode cX11_hasForm 9 = .ok (.irem, 1) := by decide +kernel
theorem dX11_hasForm_10 : decode cX11_hasForm 10 = .ok (.iconst 1, 1) := by decide +kernel
theorem dX11_hasForm_11 : decode cX11_hasForm 11 = .ok (.if_icmp .eq 11, 3) := by decide +kernel
theorem dX11_hasForm_22 : decode cX11_hasForm 22 = .ok (.iload_n 0, 1) := by decide +kernel
theorem dX11_hasForm_23 : decode cX11_hasForm 23 = .ok (.iconst 3, 1) := by decide +kernel
theorem dX11_hasForm_24 : decode cX11_hasForm 24 = .ok (.ishr, 1) := by decide +kernel
theorem dX11_hasForm_25 : decode cX11_hasForm 25 = .ok (.invokestatic 581, 3) := by decide +kernel
theorem dX11_hasForm_28 : decode cX11_hasForm 28 = .ok (.ifCond .eq 7, 3) := by decide +kernel
theorem dX11_hasForm_35 : decode cX11_hasForm 35 = .ok (.iconst 0, 1) := by decide +kernel
theorem dX11_hasForm_36 : decode cX11_hasForm 36 = .ok (.ireturn, 1) := by decide +kernel
theorem dX11_hasForm_31 : decode cX11_hasForm 31 = .ok (.iconst 1, 1) := by decide +kernel
theorem dX11_hasForm_32 : decode cX11_hasForm 32 = .ok (.goto 4, 3) := by decide +kernel
theorem dX11_hasForm_14 : decode cX11_hasForm 14 = .ok (.iload_n 0, 1) := by decide +kernel
theorem dX11_hasForm_15 : decode cX11_hasForm 15 = .ok (.bipush 8, 2) := by decide +kernel
theorem dX11_hasForm_17 : decode cX11_hasForm 17 = .ok (.irem, 1) := by decide +kernel
theorem dX11_hasForm_18 : decode cX11_hasForm 18 = .ok (.iconst 3, 1) := by decide +kernel
theorem dX11_hasForm_19 : decode cX11_hasForm 19 = .ok (.if_icmp .ne 16, 3) := by decide +kernel
theorem g_of {x : Int32} {k : Int} (hc : x.toInt = k) (h : 0 ≤ k) : ∃ j : Nat, j < 2 ^ 31 ∧ x = nI j ∧ (j : Int) = k := by
  have e0 : (0 : Int32).toInt = 0 := by decide
  have hn : ¬ x < 0 := by
    rw [Int32.lt_iff_toInt_lt, e0]
    omega
  obtain ⟨j, hj, ej⟩ := nI_of hn
  exact ⟨j, hj, ej, by rw [ej, nI_toInt hj] at hc; exact hc⟩
theorem g_div {y x c : Int32} {k : Int} (e : y = x / c) (hc : c.toInt = k) (hk : 0 < k) (hx : 0 ≤ x.toInt) : y.toInt * k ≤ x.toInt ∧ x.toInt < y.toInt * k + k := by
  obtain ⟨a, ha, ea, ka⟩ := g_of (x := x) rfl hx
  obtain ⟨d, hd, ed, kd⟩ := g_of hc (by omega)
  have h0 : 0 < d := by omega
  rw [e, ea, ed, pk_div ha h0 hd, nI_toInt (Nat.lt_of_le_of_lt (Nat.div_le_self a d) ha), nI_toInt ha, ← kd]
  have h1 := Nat.div_mul_le_self a d
  have h2 := Nat.lt_div_mul_add h0 (a := a)
  constructor
  · exact_mod_cast h1
  · exact_mod_cast h2
theorem g_rem {y x c : Int32} {k : Int} (e : y = x - x / c * c) (hc : c.toInt = k) (hk : 0 < k) (hx : 0 ≤ x.toInt) : 0 ≤ y.toInt ∧ y.toInt < k := by
  obtain ⟨a, ha, ea, ka⟩ := g_of (x := x) rfl hx
  obtain ⟨d, hd, ed, kd⟩ := g_of hc (by omega)
  have h0 : 0 < d := by omega
  have h1 := Nat.mod_lt a h0
  rw [e, ea, ed, pk_rem ha h0 hd, nI_toInt (by omega), ← kd]
  omega
set_option maxHeartbeats 4000000 in
set_option maxRecDepth 100000 in
theorem s_X11_shift (l : Launch) (D : va_G) (dA : Nat → ClassId) (t0 : Nat) (i0 : Int32) (c1 : Nat) (i2 : Int32) (i3 : Int32) (i4 : Int32) (i5 : Int32) (i6 : Int32) (i7 : Int32) (i8 : Int64) (i9 : Int32) (i10 : Int32) (c11 : Nat) (c12 : Nat) (c13 : Nat) (c14 : Nat) (c15 : Nat) (c16 : Nat) (i17 : Int32) (i18 : Int32) (c19 : Nat) (c20 : Nat) (c21 : Nat) (c22 : Nat) (i23 : Int32) (c24 : Nat) (c25 : Nat) (c26 : Nat) (c27 : Nat) (c28 : Nat) (c29 : Nat) (c30 : Nat) (i31 : Int32) (i32 : Int32) (i33 : Int32) (i34 : Int32) (c35 : Nat) (c36 : Nat) (i37 : Int32) (i38 : Int32) (i39 : Int32) (i40 : Int32) (i41 : Int32) (i42 : Int32) (c43 : Nat) (c44 : Nat) (c45 : Nat) (c46 : Nat) (c47 : Nat) (c48 : Nat) (c49 : Nat) (c50 : Nat) (c51 : Nat) (c52 : Nat) (c53 : Nat) (c54 : Nat) (c55 : Nat) (c56 : Nat) (c57 : Nat) (c58 : Nat) (c59 : Nat) (i60 : Int32) (c61 : Nat) (i62 : Int32) (c63 : Nat) (i64 : Int32) (i65 : Int32) (i66 : Int32) (c67 : Nat) (c68 : Nat) (c69 : Nat) (c70 : Nat) (c71 : Nat) (c72 : Nat) (i73 : Int32) (c74 : Nat) (c75 : Nat) (i76 : Int32) (i77 : Int32) (i78 : Int32) (c79 : Nat) (i80 : Int32) (i81 : Int32) (i82 : Int32) (i83 : Int32) (i84 : Int32) (m74 : Nat → Int32) (m75 : Nat → Int32) (p0 : 0 ≤ i33.toInt ∧ i33.toInt ≤ 1) (p1 : 0 ≤ i60.toInt ∧ i60.toInt ≤ 1) (p2 : 0 ≤ i76.toInt ∧ i76.toInt ≤ 1) (p3 : 0 ≤ i78.toInt ∧ i78.toInt ≤ 1000000) (p4 : 0 ≤ i81.toInt ∧ i81.toInt ≤ 255) (p5 : 0 ≤ i82.toInt ∧ i82.toInt ≤ 7) (p6 : 0 ≤ i83.toInt ∧ i83.toInt ≤ 15) (p7 : ∀ j : Nat, 0 ≤ (m74 j).toInt ∧ (m74 j).toInt ≤ 255) (sz : Nat) : Met l yX11_shift (gws yX11_shift cX11_shift 3 (some .int)) (gR 4 0 0) (gPre D dA [.ref t0] [(t0, .inr (11, [.int i0, .ref c1, .int i2, .int i3, .int i4, .int i5, .int i6, .int i7, .long i8, .int i9, .int i10, .ref c11, .ref c12, .ref c13, .ref c14, .ref c15, .ref c16, .int i17, .int i18, .ref c19, .ref c20, .ref c21, .ref c22, .int i23, .ref c24, .ref c25, .ref c26, .ref c27, .ref c28, .ref c29, .ref c30, .int i31, .int i32, .int i33, .int i34, .ref c35, .ref c36, .int i37, .int i38, .int i39, .int i40, .int i41, .int i42, .ref c43, .ref c44, .ref c45, .ref c46, .ref c47, .ref c48, .ref c49, .ref c50, .ref c51, .ref c52, .ref c53, .ref c54, .ref c55, .ref c56, .ref c57, .ref c58, .ref c59, .int i60, .ref c61, .int i62, .ref c63, .int i64, .int i65, .int i66, .ref c67, .ref c68, .ref c69, .ref c70, .ref c71, .ref c72, .int i73, .ref c74, .ref c75, .int i76, .int i77, .int i78, .ref c79, .int i80, .int i81, .int i82, .int i83, .int i84])), (c74, .inl (dA 0, 4096, .inl m74)), (c75, .inl (dA 0, 16, .inl m75))] sz) (va_Qi (fun (r : Int32) (u : (Nat → Int32) × (Nat → Int32)) => (0 ≤ r.toInt ∧ r.toInt ≤ 3) ∧ (∀ j : Nat, 0 ≤ (u.1 j).toInt ∧ (u.1 j).toInt ≤ 255)) (gAt D dA (va_A [(t0, .inr (11, [.int i0, .ref c1, .int i2, .int i3, .int i4, .int i5, .int i6, .int i7, .long i8, .int i9, .int i10, .ref c11, .ref c12, .ref c13, .ref c14, .ref c15, .ref c16, .int i17, .int i18, .ref c19, .ref c20, .ref c21, .ref c22, .int i23, .ref c24, .ref c25, .ref c26, .ref c27, .ref c28, .ref c29, .ref c30, .int i31, .int i32, .int i33, .int i34, .ref c35, .ref c36, .int i37, .int i38, .int i39, .int i40, .int i41, .int i42, .ref c43, .ref c44, .ref c45, .ref c46, .ref c47, .ref c48, .ref c49, .ref c50, .ref c51, .ref c52, .ref c53, .ref c54, .ref c55, .ref c56, .ref c57, .ref c58, .ref c59, .int i60, .ref c61, .int i62, .ref c63, .int i64, .int i65, .int i66, .ref c67, .ref c68, .ref c69, .ref c70, .ref c71, .ref c72, .int i73, .ref c74, .ref c75, .int i76, .int i77, .int i78, .ref c79, .int i80, .int i81, .int i82, .int i83, .int i84])), (c74, .inl (dA 0, 4096, .inl m74)), (c75, .inl (dA 0, 16, .inl m75))] sz) (fun u : (Nat → Int32) × (Nat → Int32) => [(t0, .inr (11, [.int i0, .ref c1, .int i2, .int i3, .int i4, .int i5, .int i6, .int i7, .long i8, .int i9, .int i10, .ref c11, .ref c12, .ref c13, .ref c14, .ref c15, .ref c16, .int i17, .int i18, .ref c19, .ref c20, .ref c21, .ref c22, .int i23, .ref c24, .ref c25, .ref c26, .ref c27, .ref c28, .ref c29, .ref c30, .int i31, .int i32, .int i33, .int i34, .ref c35, .ref c36, .int i37, .int i38, .int i39, .int i40, .int i41, .int i42, .ref c43, .ref c44, .ref c45, .ref c46, .ref c47, .ref c48, .ref c49, .ref c50, .ref c51, .ref c52, .ref c53, .ref c54, .ref c55, .ref c56, .ref c57, .ref c58, .ref c59, .int i60, .ref c61, .int i62, .ref c63, .int i64, .int i65, .int i66, .ref c67, .ref c68, .ref c69, .ref c70, .ref c71, .ref c72, .int i73, .ref c74, .ref c75, .int i76, .int i77, .int i78, .ref c79, .int i80, .int i81, .int i82, .int i83, .int i84])), (c74, .inl (dA 0, 4096, .inl (u.1))), (c75, .inl (dA 0, 16, .inl (u.2)))])) (va_A [(t0, .inr (11, [.int i0, .ref c1, .int i2, .int i3, .int i4, .int i5, .int i6, .int i7, .long i8, .int i9, .int i10, .ref c11, .ref c12, .ref c13, .ref c14, .ref c15, .ref c16, .int i17, .int i18, .ref c19, .ref c20, .ref c21, .ref c22, .int i23, .ref c24, .ref c25, .ref c26, .ref c27, .ref c28, .ref c29, .ref c30, .int i31, .int i32, .int i33, .int i34, .ref c35, .ref c36, .int i37, .int i38, .int i39, .int i40, .int i41, .int i42, .ref c43, .ref c44, .ref c45, .ref c46, .ref c47, .ref c48, .ref c49, .ref c50, .ref c51, .ref c52, .ref c53, .ref c54, .ref c55, .ref c56, .ref c57, .ref c58, .ref c59, .int i60, .ref c61, .int i62, .ref c63, .int i64, .int i65, .int i66, .ref c67, .ref c68, .ref c69, .ref c70, .ref c71, .ref c72, .int i73, .ref c74, .ref c75, .int i76, .int i77, .int i78, .ref c79, .int i80, .int i81, .int i82, .int i83, .int i84])), (c74, .inl (dA 0, 4096, .inl m74)), (c75, .inl (dA 0, 16, .inl m75))] sz)) 0 0 (va_A [(t0, .inr (11, [.int i0, .ref c1, .int i2, .int i3, .int i4, .int i5, .int i6, .int i7, .long i8, .int i9, .int i10, .ref c11, .ref c12, .ref c13, .ref c14, .ref c15, .ref c16, .int i17, .int i18, .ref c19, .ref c20, .ref c21, .ref c22, .int i23, .ref c24, .ref c25, .ref c26, .ref c27, .ref c28, .ref c29, .ref c30, .int i31, .int i32, .int i33, .int i34, .ref c35, .ref c36, .int i37, .int i38, .int i39, .int i40, .int i41, .int i42, .ref c43, .ref c44, .ref c45, .ref c46, .ref c47, .ref c48, .ref c49, .ref c50, .ref c51, .ref c52, .ref c53, .ref c54, .ref c55, .ref c56, .ref c57, .ref c58, .ref c59, .int i60, .ref c61, .int i62, .ref c63, .int i64, .int i65, .int i66, .ref c67, .ref c68, .ref c69, .ref c70, .ref c71, .ref c72, .int i73, .ref c74, .ref c75, .int i76, .int i77, .int i78, .ref c79, .int i80, .int i81, .int i82, .int i83, .int i84])), (c74, .inl (dA 0, 4096, .inl m74)), (c75, .inl (dA 0, 16, .inl m75))] sz) := by
  refine Met.ofW (cc := cX11_shift) (maxL := 3) (ret := (some .int)) (by decide) rfl ?_
  intro p e s m args below meth c s₁ B hml hv
  obtain ⟨rfl, hsz, hP, hK, hD0⟩ := hv
  have hx := B.exec
  have hb := B.bytes
  have hr := B.returns
  have hts := atoms_spec (ws := gws yX11_shift cX11_shift 3 (some .int)) B.pre
  have hg : ∀ w ∈ gw, w.before _ s = true := fun w h => hts w (List.mem_cons_of_mem _ h)
  have hown : s.vm.findClass RX11 = some m.cls := findClass_of_methodNamed B.named
  have hlocks := B.notSynchronized
  subst hsz
  have hD := hD0.self (sz := s.heap.size)
  generalize hAe : va_A [(t0, .inr (11, [.int i0, .ref c1, .int i2, .int i3, .int i4, .int i5, .int i6, .int i7, .long i8, .int i9, .int i10, .ref c11, .ref c12, .ref c13, .ref c14, .ref c15, .ref c16, .int i17, .int i18, .ref c19, .ref c20, .ref c21, .ref c22, .int i23, .ref c24, .ref c25, .ref c26, .ref c27, .ref c28, .ref c29, .ref c30, .int i31, .int i32, .int i33, .int i34, .ref c35, .ref c36, .int i37, .int i38, .int i39, .int i40, .int i41, .int i42, .ref c43, .ref c44, .ref c45, .ref c46, .ref c47, .ref c48, .ref c49, .ref c50, .ref c51, .ref c52, .ref c53, .ref c54, .ref c55, .ref c56, .ref c57, .ref c58, .ref c59, .int i60, .ref c61, .int i62, .ref c63, .int i64, .int i65, .int i66, .ref c67, .ref c68, .ref c69, .ref c70, .ref c71, .ref c72, .int i73, .ref c74, .ref c75, .int i76, .int i77, .int i78, .ref c79, .int i80, .int i81, .int i82, .int i83, .int i84])), (c74, .inl (dA 0, 4096, .inl m74)), (c75, .inl (dA 0, 16, .inl m75))] s.heap.size = A at hD ⊢
  have hA : ∀ q : Nat, s.heap.size ≤ q → A q := fun q h => by rw [← hAe]; exact Or.inr h
  have hS : va_S A s.heap s.heap [] := va_S.rf
  have hP : va_P D vwC [(t0, .inr (11, [.int i0, .ref c1, .int i2, .int i3, .int i4, .int i5, .int i6, .int i7, .long i8, .int i9, .int i10, .ref c11, .ref c12, .ref c13, .ref c14, .ref c15, .ref c16, .int i17, .int i18, .ref c19, .ref c20, .ref c21, .ref c22, .int i23, .ref c24, .ref c25, .ref c26, .ref c27, .ref c28, .ref c29, .ref c30, .int i31, .int i32, .int i33, .int i34, .ref c35, .ref c36, .int i37, .int i38, .int i39, .int i40, .int i41, .int i42, .ref c43, .ref c44, .ref c45, .ref c46, .ref c47, .ref c48, .ref c49, .ref c50, .ref c51, .ref c52, .ref c53, .ref c54, .ref c55, .ref c56, .ref c57, .ref c58, .ref c59, .int i60, .ref c61, .int i62, .ref c63, .int i64, .int i65, .int i66, .ref c67, .ref c68, .ref c69, .ref c70, .ref c71, .ref c72, .int i73, .ref c74, .ref c75, .int i76, .int i77, .int i78, .ref c79, .int i80, .int i81, .int i82, .int i83, .int i84])), (c74, .inl (dA 0, 4096, .inl m74)), (c75, .inl (dA 0, 16, .inl m75))] s.heap := hP
  have hl := lv_entry ([.ref t0]) (n := 3) (Nat.le_of_ble_eq_true rfl)
  rw [lg_entry_eq]
  generalize (lg_sl ([.ref t0]) ++ List.replicate (3 - (lg_sl ([.ref t0])).length) Slot.unset).toArray = ls at hl ⊢
  have hl : lv_has ls 3 [(0, .ref t0)] := hl
  refine lv_aload_n hx hb dX11_shift_0 rfl (lv_at hl 0 rfl) ?_
  refine g_get hx hb hg hown hK hP 0 rfl rfl inX11 82 (by decide) q1697 rfl dX11_shift_1 ?_
  refine lv_iconst (v := 4) hx hb dX11_shift_4 (by decide) ?_
  refine lv_icmp_eq (tgt := 18) hx hb dX11_shift_5 (by decide) (fun k1 => ?_) (fun k1 => ?_)
  · have g2 : i82.toInt = 4 := gi_eq (rfl : i82.toInt = i82.toInt) (by decide : (4 : Int32).toInt = 4) k1
    refine lv_aload_n hx hb dX11_shift_18 rfl (lv_at hl 0 rfl) ?_
    refine g_Vi (n := 0) (As := []) (rest := []) (wr := []) hx hb hml hg hown hK hP hD hS hA (s_X11_formGet l D dA t0 i0 c1 i2 i3 i4 i5 i6 i7 i8 i9 i10 c11 c12 c13 c14 c15 c16 i17 i18 c19 c20 c21 c22 i23 c24 c25 c26 c27 c28 c29 c30 i31 i32 i33 i34 c35 c36 i37 i38 i39 i40 i41 i42 c43 c44 c45 c46 c47 c48 c49 c50 c51 c52 c53 c54 c55 c56 c57 c58 c59 i60 c61 i62 c63 i64 i65 i66 c67 c68 c69 c70 c71 c72 i73 c74 c75 i76 i77 i78 c79 i80 i81 i82 i83 i84 m74 m75 (by omega) (by omega) (by omega) (by omega) (by omega) (by omega) (by omega) p7 _) [0, 1, 2] [] rfl (by decide) rfl (by decide) (by decide) 0 rfl rfl q2156 q160 q2153 q2155 q135 (by decide +kernel) ⟨(Nat.le_of_ble_eq_true rfl), (Nat.le_of_ble_eq_true rfl)⟩ rfl hl.1 rfl (Nat.le_of_ble_eq_true rfl) dX11_shift_19 ⟨(Nat.le_of_ble_eq_true rfl), (Nat.le_of_ble_eq_true rfl)⟩ (fun x4 u3 H locs w5 hP hD hS => ?_)
    refine W.widen (k := 0) (n := 0) (Nat.le_of_ble_eq_true rfl) (Nat.le_of_ble_eq_true rfl) ?_
    have hP : va_P D vwC [(t0, .inr (11, [.int i0, .ref c1, .int i2, .int i3, .int i4, .int i5, .int i6, .int i7, .long i8, .int i9, .int i10, .ref c11, .ref c12, .ref c13, .ref c14, .ref c15, .ref c16, .int i17, .int i18, .ref c19, .ref c20, .ref c21, .ref c22, .int i23, .ref c24, .ref c25, .ref c26, .ref c27, .ref c28, .ref c29, .ref c30, .int i31, .int i32, .int i33, .int i34, .ref c35, .ref c36, .int i37, .int i38, .int i39, .int i40, .int i41, .int i42, .ref c43, .ref c44, .ref c45, .ref c46, .ref c47, .ref c48, .ref c49, .ref c50, .ref c51, .ref c52, .ref c53, .ref c54, .ref c55, .ref c56, .ref c57, .ref c58, .ref c59, .int i60, .ref c61, .int i62, .ref c63, .int i64, .int i65, .int i66, .ref c67, .ref c68, .ref c69, .ref c70, .ref c71, .ref c72, .int i73, .ref c74, .ref c75, .int i76, .int i77, .int i78, .ref c79, .int i80, .int i81, .int i82, .int i83, .int i84])), (c74, .inl (dA 0, 4096, .inl m74)), (c75, .inl (dA 0, 16, .inl m75))] H := hP
    have hD : va_D A [(t0, .inr (11, [.int i0, .ref c1, .int i2, .int i3, .int i4, .int i5, .int i6, .int i7, .long i8, .int i9, .int i10, .ref c11, .ref c12, .ref c13, .ref c14, .ref c15, .ref c16, .int i17, .int i18, .ref c19, .ref c20, .ref c21, .ref c22, .int i23, .ref c24, .ref c25, .ref c26, .ref c27, .ref c28, .ref c29, .ref c30, .int i31, .int i32, .int i33, .int i34, .ref c35, .ref c36, .int i37, .int i38, .int i39, .int i40, .int i41, .int i42, .ref c43, .ref c44, .ref c45, .ref c46, .ref c47, .ref c48, .ref c49, .ref c50, .ref c51, .ref c52, .ref c53, .ref c54, .ref c55, .ref c56, .ref c57, .ref c58, .ref c59, .int i60, .ref c61, .int i62, .ref c63, .int i64, .int i65, .int i66, .ref c67, .ref c68, .ref c69, .ref c70, .ref c71, .ref c72, .int i73, .ref c74, .ref c75, .int i76, .int i77, .int i78, .ref c79, .int i80, .int i81, .int i82, .int i83, .int i84])), (c74, .inl (dA 0, 4096, .inl m74)), (c75, .inl (dA 0, 16, .inl m75))] := hD
    refine lv_istore_n (lv' := [(1, .int x4), (0, .ref t0)]) hx hb dX11_shift_22 rfl hl (by decide) rfl (fun ls hl => ?_)
    refine lv_aload_n hx hb dX11_shift_23 rfl (lv_at hl 1 rfl) ?_
    refine g_get hx hb hg hown hK hP 0 rfl rfl inX11 82 (by decide) q1697 rfl dX11_shift_24 ?_
    refine lv_iconst (v := 4) hx hb dX11_shift_27 (by decide) ?_
    refine lv_icmp_ne (tgt := 37) hx hb dX11_shift_28 (by decide) (fun k6 => ?_) (fun k6 => ?_)
    · have g7 : i82.toInt ≠ 4 := gi_neq (rfl : i82.toInt = i82.toInt) (by decide : (4 : Int32).toInt = 4) k6
      exfalso; omega
    · have g8 : i82.toInt = 4 := gi_eq (rfl : i82.toInt = i82.toInt) (by decide : (4 : Int32).toInt = 4) k6
      refine lv_iload_n hx hb dX11_shift_31 rfl (lv_at hl 0 rfl) ?_
      refine lv_iconst (v := 1) hx hb dX11_shift_32 (by decide) ?_
      refine lv_ishl hx hb dX11_shift_33 ?_
      refine lv_topi (fun x9 e10 => ?_)
      refine lv_goto (tgt := 40) hx hb dX11_shift_34 (by decide) ?_
      refine lv_istore_n (lv' := [(2, .int x9), (1, .int x4), (0, .ref t0)]) hx hb dX11_shift_40 rfl hl (by decide) rfl (fun ls hl => ?_)
      refine lv_aload_n hx hb dX11_shift_41 rfl (lv_at hl 2 rfl) ?_
      refine g_get hx hb hg hown hK hP 0 rfl rfl inX11 75 (by decide) q1690 rfl dX11_shift_42 ?_
      refine lv_bipush (v := 13) hx hb dX11_shift_45 (by decide) ?_
      refine lv_aload_n hx hb dX11_shift_47 rfl (lv_at hl 2 rfl) ?_
      refine g_get hx hb hg hown hK hP 0 rfl rfl inX11 82 (by decide) q1697 rfl dX11_shift_48 ?_
      refine lv_iconst (v := 4) hx hb dX11_shift_51 (by decide) ?_
      refine lv_icmp_ne (tgt := 62) hx hb dX11_shift_52 (by decide) (fun k11 => ?_) (fun k11 => ?_)
      · have g12 : i82.toInt ≠ 4 := gi_neq (rfl : i82.toInt = i82.toInt) (by decide : (4 : Int32).toInt = 4) k11
        exfalso; omega
      · have g13 : i82.toInt = 4 := gi_eq (rfl : i82.toInt = i82.toInt) (by decide : (4 : Int32).toInt = 4) k11
        refine lv_iload_n hx hb dX11_shift_55 rfl (lv_at hl 1 rfl) ?_
        refine lv_bipush (v := 15) hx hb dX11_shift_56 (by decide) ?_
        refine lv_ishr hx hb dX11_shift_58 ?_
        refine lv_topi (fun x14 e15 => ?_)
        have g16 : x14.toInt * 32768 ≤ x4.toInt ∧ x4.toInt < x14.toInt * 32768 + 32768 := g_shr e15 15 (by decide) (by decide) (by decide)
        refine lv_goto (tgt := 65) hx hb dX11_shift_59 (by decide) ?_
        refine va_iast hx hb hK hP hD hS 2 0 rfl rfl (by unfold vp_in; decide) dX11_shift_65 (fun H locs hP hD hS => ?_)
        have hP : va_P D vwC [(t0, .inr (11, [.int i0, .ref c1, .int i2, .int i3, .int i4, .int i5, .int i6, .int i7, .long i8, .int i9, .int i10, .ref c11, .ref c12, .ref c13, .ref c14, .ref c15, .ref c16, .int i17, .int i18, .ref c19, .ref c20, .ref c21, .ref c22, .int i23, .ref c24, .ref c25, .ref c26, .ref c27, .ref c28, .ref c29, .ref c30, .int i31, .int i32, .int i33, .int i34, .ref c35, .ref c36, .int i37, .int i38, .int i39, .int i40, .int i41, .int i42, .ref c43, .ref c44, .ref c45, .ref c46, .ref c47, .ref c48, .ref c49, .ref c50, .ref c51, .ref c52, .ref c53, .ref c54, .ref c55, .ref c56, .ref c57, .ref c58, .ref c59, .int i60, .ref c61, .int i62, .ref c63, .int i64, .int i65, .int i66, .ref c67, .ref c68, .ref c69, .ref c70, .ref c71, .ref c72, .int i73, .ref c74, .ref c75, .int i76, .int i77, .int i78, .ref c79, .int i80, .int i81, .int i82, .int i83, .int i84])), (c74, .inl (dA 0, 4096, .inl m74)), (c75, .inl (dA 0, 16, .inl (upd m75 (13 : Int32).toNatClampNeg x14)))] H := hP
        have hD : va_D A [(t0, .inr (11, [.int i0, .ref c1, .int i2, .int i3, .int i4, .int i5, .int i6, .int i7, .long i8, .int i9, .int i10, .ref c11, .ref c12, .ref c13, .ref c14, .ref c15, .ref c16, .int i17, .int i18, .ref c19, .ref c20, .ref c21, .ref c22, .int i23, .ref c24, .ref c25, .ref c26, .ref c27, .ref c28, .ref c29, .ref c30, .int i31, .int i32, .int i33, .int i34, .ref c35, .ref c36, .int i37, .int i38, .int i39, .int i40, .int i41, .int i42, .ref c43, .ref c44, .ref c45, .ref c46, .ref c47, .ref c48, .ref c49, .ref c50, .ref c51, .ref c52, .ref c53, .ref c54, .ref c55, .ref c56, .ref c57, .ref c58, .ref c59, .int i60, .ref c61, .int i62, .ref c63, .int i64, .int i65, .int i66, .ref c67, .ref c68, .ref c69, .ref c70, .ref c71, .ref c72, .int i73, .ref c74, .ref c75, .int i76, .int i77, .int i78, .ref c79, .int i80, .int i81, .int i82, .int i83, .int i84])), (c74, .inl (dA 0, 4096, .inl m74)), (c75, .inl (dA 0, 16, .inl (upd m75 (13 : Int32).toNatClampNeg x14)))] := hD
        obtain ⟨f17, ef17⟩ : ∃ f : Nat → Int32, f = (upd m75 (13 : Int32).toNatClampNeg x14) := ⟨_, rfl⟩
        rw [← ef17] at hP hD
        refine lv_aload_n hx hb dX11_shift_66 rfl (lv_at hl 2 rfl) ?_
        refine lv_iload_n hx hb dX11_shift_67 rfl (lv_at hl 0 rfl) ?_
        refine g_Vv (n := 1) (As := [.int x9]) (rest := []) (wr := [(c74, .inl (dA 0, 4096, .inl m74))]) hx hb hml hg hown hK hP hD hS hA (s_X11_flags l D dA t0 x9 i0 c1 i2 i3 i4 i5 i6 i7 i8 i9 i10 c11 c12 c13 c14 c15 c16 i17 i18 c19 c20 c21 c22 i23 c24 c25 c26 c27 c28 c29 c30 i31 i32 i33 i34 c35 c36 i37 i38 i39 i40 i41 i42 c43 c44 c45 c46 c47 c48 c49 c50 c51 c52 c53 c54 c55 c56 c57 c58 c59 i60 c61 i62 c63 i64 i65 i66 c67 c68 c69 c70 c71 c72 i73 c74 c75 i76 i77 i78 c79 i80 i81 i82 i83 i84 f17 (by omega) (by omega) (by omega) (by omega) (by omega) (by omega) (by omega) _) [0, 2] [1] rfl (by decide) rfl (by decide) (by decide) 0 rfl rfl q2168 q160 q2165 q2167 q138 (by decide +kernel) ⟨(Nat.le_of_ble_eq_true rfl), (Nat.le_of_ble_eq_true rfl)⟩ rfl hl.1 rfl (Nat.le_of_ble_eq_true rfl) dX11_shift_68 ⟨(Nat.le_of_ble_eq_true rfl), (Nat.le_of_ble_eq_true rfl)⟩ (fun u18 H locs w20 hP hD hS => ?_)
        refine W.widen (k := 0) (n := 0) (Nat.le_of_ble_eq_true rfl) (Nat.le_of_ble_eq_true rfl) ?_
        obtain ⟨f21, rfl⟩ : ∃ z, z = u18 := ⟨_, rfl⟩
        have hP : va_P D vwC [(c74, .inl (dA 0, 4096, .inl m74)), (t0, .inr (11, [.int i0, .ref c1, .int i2, .int i3, .int i4, .int i5, .int i6, .int i7, .long i8, .int i9, .int i10, .ref c11, .ref c12, .ref c13, .ref c14, .ref c15, .ref c16, .int i17, .int i18, .ref c19, .ref c20, .ref c21, .ref c22, .int i23, .ref c24, .ref c25, .ref c26, .ref c27, .ref c28, .ref c29, .ref c30, .int i31, .int i32, .int i33, .int i34, .ref c35, .ref c36, .int i37, .int i38, .int i39, .int i40, .int i41, .int i42, .ref c43, .ref c44, .ref c45, .ref c46, .ref c47, .ref c48, .ref c49, .ref c50, .ref c51, .ref c52, .ref c53, .ref c54, .ref c55, .ref c56, .ref c57, .ref c58, .ref c59, .int i60, .ref c61, .int i62, .ref c63, .int i64, .int i65, .int i66, .ref c67, .ref c68, .ref c69, .ref c70, .ref c71, .ref c72, .int i73, .ref c74, .ref c75, .int i76, .int i77, .int i78, .ref c79, .int i80, .int i81, .int i82, .int i83, .int i84])), (c75, .inl (dA 0, 16, .inl f21))] H := hP
        have hD : va_D A [(c74, .inl (dA 0, 4096, .inl m74)), (t0, .inr (11, [.int i0, .ref c1, .int i2, .int i3, .int i4, .int i5, .int i6, .int i7, .long i8, .int i9, .int i10, .ref c11, .ref c12, .ref c13, .ref c14, .ref c15, .ref c16, .int i17, .int i18, .ref c19, .ref c20, .ref c21, .ref c22, .int i23, .ref c24, .ref c25, .ref c26, .ref c27, .ref c28, .ref c29, .ref c30, .int i31, .int i32, .int i33, .int i34, .ref c35, .ref c36, .int i37, .int i38, .int i39, .int i40, .int i41, .int i42, .ref c43, .ref c44, .ref c45, .ref c46, .ref c47, .ref c48, .ref c49, .ref c50, .ref c51, .ref c52, .ref c53, .ref c54, .ref c55, .ref c56, .ref c57, .ref c58, .ref c59, .int i60, .ref c61, .int i62, .ref c63, .int i64, .int i65, .int i66, .ref c67, .ref c68, .ref c69, .ref c70, .ref c71, .ref c72, .int i73, .ref c74, .ref c75, .int i76, .int i77, .int i78, .ref c79, .int i80, .int i81, .int i82, .int i83, .int i84])), (c75, .inl (dA 0, 16, .inl f21))] := hD
        refine lv_aload_n hx hb dX11_shift_71 rfl (lv_at hl 2 rfl) ?_
        refine lv_iload_n hx hb dX11_shift_72 rfl (lv_at hl 0 rfl) ?_
        refine g_Vv (n := 1) (As := [.int x9]) (rest := []) (wr := []) hx hb hml hg hown hK hP hD hS hA (s_X11_formSet l D dA t0 x9 i0 c1 i2 i3 i4 i5 i6 i7 i8 i9 i10 c11 c12 c13 c14 c15 c16 i17 i18 c19 c20 c21 c22 i23 c24 c25 c26 c27 c28 c29 c30 i31 i32 i33 i34 c35 c36 i37 i38 i39 i40 i41 i42 c43 c44 c45 c46 c47 c48 c49 c50 c51 c52 c53 c54 c55 c56 c57 c58 c59 i60 c61 i62 c63 i64 i65 i66 c67 c68 c69 c70 c71 c72 i73 c74 c75 i76 i77 i78 c79 i80 i81 i82 i83 i84 m74 f21 (by omega) (by omega) (by omega) (by omega) (by omega) (by omega) (by omega) p7 _) [1, 0, 2] [] rfl (by decide) rfl (by decide) (by decide) 0 rfl rfl q2172 q160 q2169 q2171 q139 (by decide +kernel) ⟨(Nat.le_of_ble_eq_true rfl), (Nat.le_of_ble_eq_true rfl)⟩ rfl hl.1 rfl (Nat.le_of_ble_eq_true rfl) dX11_shift_73 ⟨(Nat.le_of_ble_eq_true rfl), (Nat.le_of_ble_eq_true rfl)⟩ (fun u22 H locs w24 hP hD hS => ?_)
        refine W.widen (k := 0) (n := 0) (Nat.le_of_ble_eq_true rfl) (Nat.le_of_ble_eq_true rfl) ?_
        obtain ⟨f25, f26⟩ := u22
        have hP : va_P D vwC [(t0, .inr (11, [.int i0, .ref c1, .int i2, .int i3, .int i4, .int i5, .int i6, .int i7, .long i8, .int i9, .int i10, .ref c11, .ref c12, .ref c13, .ref c14, .ref c15, .ref c16, .int i17, .int i18, .ref c19, .ref c20, .ref c21, .ref c22, .int i23, .ref c24, .ref c25, .ref c26, .ref c27, .ref c28, .ref c29, .ref c30, .int i31, .int i32, .int i33, .int i34, .ref c35, .ref c36, .int i37, .int i38, .int i39, .int i40, .int i41, .int i42, .ref c43, .ref c44, .ref c45, .ref c46, .ref c47, .ref c48, .ref c49, .ref c50, .ref c51, .ref c52, .ref c53, .ref c54, .ref c55, .ref c56, .ref c57, .ref c58, .ref c59, .int i60, .ref c61, .int i62, .ref c63, .int i64, .int i65, .int i66, .ref c67, .ref c68, .ref c69, .ref c70, .ref c71, .ref c72, .int i73, .ref c74, .ref c75, .int i76, .int i77, .int i78, .ref c79, .int i80, .int i81, .int i82, .int i83, .int i84])), (c74, .inl (dA 0, 4096, .inl f25)), (c75, .inl (dA 0, 16, .inl f26))] H := hP
        have hD : va_D A [(t0, .inr (11, [.int i0, .ref c1, .int i2, .int i3, .int i4, .int i5, .int i6, .int i7, .long i8, .int i9, .int i10, .ref c11, .ref c12, .ref c13, .ref c14, .ref c15, .ref c16, .int i17, .int i18, .ref c19, .ref c20, .ref c21, .ref c22, .int i23, .ref c24, .ref c25, .ref c26, .ref c27, .ref c28, .ref c29, .ref c30, .int i31, .int i32, .int i33, .int i34, .ref c35, .ref c36, .int i37, .int i38, .int i39, .int i40, .int i41, .int i42, .ref c43, .ref c44, .ref c45, .ref c46, .ref c47, .ref c48, .ref c49, .ref c50, .ref c51, .ref c52, .ref c53, .ref c54, .ref c55, .ref c56, .ref c57, .ref c58, .ref c59, .int i60, .ref c61, .int i62, .ref c63, .int i64, .int i65, .int i66, .ref c67, .ref c68, .ref c69, .ref c70, .ref c71, .ref c72, .int i73, .ref c74, .ref c75, .int i76, .int i77, .int i78, .ref c79, .int i80, .int i81, .int i82, .int i83, .int i84])), (c74, .inl (dA 0, 4096, .inl f25)), (c75, .inl (dA 0, 16, .inl f26))] := hD
        have g27 := w24
        have g27 : ∀ j : Nat, 0 ≤ (f25 j).toInt ∧ (f25 j).toInt ≤ 255 := g27
        refine lv_iconst (v := 0) hx hb dX11_shift_76 (by decide) ?_
        exact g_iret hx hb hr rfl hlocks hK (f25, f26) hP hD hS ⟨(show 0 ≤ ((0 : Int32)).toInt ∧ ((0 : Int32)).toInt ≤ 3 from by decide), g27⟩ (Nat.le_of_ble_eq_true rfl) (Nat.le_of_ble_eq_true rfl) dX11_shift_77
  · have g28 : i82.toInt ≠ 4 := gi_neq (rfl : i82.toInt = i82.toInt) (by decide : (4 : Int32).toInt = 4) k1
    refine lv_aload_n hx hb dX11_shift_8 rfl (lv_at hl 0 rfl) ?_
    refine g_get hx hb hg hown hK hP 0 rfl rfl inX11 82 (by decide) q1697 rfl dX11_shift_9 ?_
    refine lv_iconst (v := 5) hx hb dX11_shift_12 (by decide) ?_
    refine lv_icmp_eq (tgt := 18) hx hb dX11_shift_13 (by decide) (fun k29 => ?_) (fun k29 => ?_)
    · have g30 : i82.toInt = 5 := gi_eq (rfl : i82.toInt = i82.toInt) (by decide : (5 : Int32).toInt = 5) k29
      refine lv_aload_n hx hb dX11_shift_18 rfl (lv_at hl 0 rfl) ?_
      refine g_Vi (n := 0) (As := []) (rest := []) (wr := []) hx hb hml hg hown hK hP hD hS hA (s_X11_formGet l D dA t0 i0 c1 i2 i3 i4 i5 i6 i7 i8 i9 i10 c11 c12 c13 c14 c15 c16 i17 i18 c19 c20 c21 c22 i23 c24 c25 c26 c27 c28 c29 c30 i31 i32 i33 i34 c35 c36 i37 i38 i39 i40 i41 i42 c43 c44 c45 c46 c47 c48 c49 c50 c51 c52 c53 c54 c55 c56 c57 c58 c59 i60 c61 i62 c63 i64 i65 i66 c67 c68 c69 c70 c71 c72 i73 c74 c75 i76 i77 i78 c79 i80 i81 i82 i83 i84 m74 m75 (by omega) (by omega) (by omega) (by omega) (by omega) (by omega) (by omega) p7 _) [0, 1, 2] [] rfl (by decide) rfl (by decide) (by decide) 0 rfl rfl q2156 q160 q2153 q2155 q135 (by decide +kernel) ⟨(Nat.le_of_ble_eq_true rfl), (Nat.le_of_ble_eq_true rfl)⟩ rfl hl.1 rfl (Nat.le_of_ble_eq_true rfl) dX11_shift_19 ⟨(Nat.le_of_ble_eq_true rfl), (Nat.le_of_ble_eq_true rfl)⟩ (fun x32 u31 H locs w33 hP hD hS => ?_)
      refine W.widen (k := 0) (n := 0) (Nat.le_of_ble_eq_true rfl) (Nat.le_of_ble_eq_true rfl) ?_
      have hP : va_P D vwC [(t0, .inr (11, [.int i0, .ref c1, .int i2, .int i3, .int i4, .int i5, .int i6, .int i7, .long i8, .int i9, .int i10, .ref c11, .ref c12, .ref c13, .ref c14, .ref c15, .ref c16, .int i17, .int i18, .ref c19, .ref c20, .ref c21, .ref c22, .int i23, .ref c24, .ref c25, .ref c26, .ref c27, .ref c28, .ref c29, .ref c30, .int i31, .int i32, .int i33, .int i34, .ref c35, .ref c36, .int i37, .int i38, .int i39, .int i40, .int i41, .int i42, .ref c43, .ref c44, .ref c45, .ref c46, .ref c47, .ref c48, .ref c49, .ref c50, .ref c51, .ref c52, .ref c53, .ref c54, .ref c55, .ref c56, .ref c57, .ref c58, .ref c59, .int i60, .ref c61, .int i62, .ref c63, .int i64, .int i65, .int i66, .ref c67, .ref c68, .ref c69, .ref c70, .ref c71, .ref c72, .int i73, .ref c74, .ref c75, .int i76, .int i77, .int i78, .ref c79, .int i80, .int i81, .int i82, .int i83, .int i84])), (c74, .inl (dA 0, 4096, .inl m74)), (c75, .inl (dA 0, 16, .inl m75))] H := hP
      have hD : va_D A [(t0, .inr (11, [.int i0, .ref c1, .int i2, .int i3, .int i4, .int i5, .int i6, .int i7, .long i8, .int i9, .int i10, .ref c11, .ref c12, .ref c13, .ref c14, .ref c15, .ref c16, .int i17, .int i18, .ref c19, .ref c20, .ref c21, .ref c22, .int i23, .ref c24, .ref c25, .ref c26, .ref c27, .ref c28, .ref c29, .ref c30, .int i31, .int i32, .int i33, .int i34, .ref c35, .ref c36, .int i37, .int i38, .int i39, .int i40, .int i41, .int i42, .ref c43, .ref c44, .ref c45, .ref c46, .ref c47, .ref c48, .ref c49, .ref c50, .ref c51, .ref c52, .ref c53, .ref c54, .ref c55, .ref c56, .ref c57, .ref c58, .ref c59, .int i60, .ref c61, .int i62, .ref c63, .int i64, .int i65, .int i66, .ref c67, .ref c68, .ref c69, .ref c70, .ref c71, .ref c72, .int i73, .ref c74, .ref c75, .int i76, .int i77, .int i78, .ref c79, .int i80, .int i81, .int i82, .int i83, .int i84])), (c74, .inl (dA 0, 4096, .inl m74)), (c75, .inl (dA 0, 16, .inl m75))] := hD
      refine lv_istore_n (lv' := [(1, .int x32), (0, .ref t0)]) hx hb dX11_shift_22 rfl hl (by decide) rfl (fun ls hl => ?_)
      refine lv_aload_n hx hb dX11_shift_23 rfl (lv_at hl 1 rfl) ?_
      refine g_get hx hb hg hown hK hP 0 rfl rfl inX11 82 (by decide) q1697 rfl dX11_shift_24 ?_
      refine lv_iconst (v := 4) hx hb dX11_shift_27 (by decide) ?_
      refine lv_icmp_ne (tgt := 37) hx hb dX11_shift_28 (by decide) (fun k34 => ?_) (fun k34 => ?_)
      · have g35 : i82.toInt ≠ 4 := gi_neq (rfl : i82.toInt = i82.toInt) (by decide : (4 : Int32).toInt = 4) k34
        refine lv_iload_n hx hb dX11_shift_37 rfl (lv_at hl 0 rfl) ?_
        refine lv_iconst (v := 1) hx hb dX11_shift_38 (by decide) ?_
        refine lv_ishr hx hb dX11_shift_39 ?_
        refine lv_topi (fun x36 e37 => ?_)
        have g38 : x36.toInt * 2 ≤ x32.toInt ∧ x32.toInt < x36.toInt * 2 + 2 := g_shr e37 1 (by decide) (by decide) (by decide)
        refine lv_istore_n (lv' := [(2, .int x36), (1, .int x32), (0, .ref t0)]) hx hb dX11_shift_40 rfl hl (by decide) rfl (fun ls hl => ?_)
        refine lv_aload_n hx hb dX11_shift_41 rfl (lv_at hl 2 rfl) ?_
        refine g_get hx hb hg hown hK hP 0 rfl rfl inX11 75 (by decide) q1690 rfl dX11_shift_42 ?_
        refine lv_bipush (v := 13) hx hb dX11_shift_45 (by decide) ?_
        refine lv_aload_n hx hb dX11_shift_47 rfl (lv_at hl 2 rfl) ?_
        refine g_get hx hb hg hown hK hP 0 rfl rfl inX11 82 (by decide) q1697 rfl dX11_shift_48 ?_
        refine lv_iconst (v := 4) hx hb dX11_shift_51 (by decide) ?_
        refine lv_icmp_ne (tgt := 62) hx hb dX11_shift_52 (by decide) (fun k39 => ?_) (fun k39 => ?_)
        · have g40 : i82.toInt ≠ 4 := gi_neq (rfl : i82.toInt = i82.toInt) (by decide : (4 : Int32).toInt = 4) k39
          refine lv_iload_n hx hb dX11_shift_62 rfl (lv_at hl 1 rfl) ?_
          refine lv_iconst (v := 1) hx hb dX11_shift_63 (by decide) ?_
          refine lv_iand hx hb dX11_shift_64 ?_
          refine lv_topi (fun x41 e42 => ?_)
          have g43 : 0 ≤ x41.toInt ∧ x41.toInt ≤ 1 := g_msk e42 1 (by decide) (by decide) (by decide)
          refine va_iast hx hb hK hP hD hS 2 0 rfl rfl (by unfold vp_in; decide) dX11_shift_65 (fun H locs hP hD hS => ?_)
          have hP : va_P D vwC [(t0, .inr (11, [.int i0, .ref c1, .int i2, .int i3, .int i4, .int i5, .int i6, .int i7, .long i8, .int i9, .int i10, .ref c11, .ref c12, .ref c13, .ref c14, .ref c15, .ref c16, .int i17, .int i18, .ref c19, .ref c20, .ref c21, .ref c22, .int i23, .ref c24, .ref c25, .ref c26, .ref c27, .ref c28, .ref c29, .ref c30, .int i31, .int i32, .int i33, .int i34, .ref c35, .ref c36, .int i37, .int i38, .int i39, .int i40, .int i41, .int i42, .ref c43, .ref c44, .ref c45, .ref c46, .ref c47, .ref c48, .ref c49, .ref c50, .ref c51, .ref c52, .ref c53, .ref c54, .ref c55, .ref c56, .ref c57, .ref c58, .ref c59, .int i60, .ref c61, .int i62, .ref c63, .int i64, .int i65, .int i66, .ref c67, .ref c68, .ref c69, .ref c70, .ref c71, .ref c72, .int i73, .ref c74, .ref c75, .int i76, .int i77, .int i78, .ref c79, .int i80, .int i81, .int i82, .int i83, .int i84])), (c74, .inl (dA 0, 4096, .inl m74)), (c75, .inl (dA 0, 16, .inl (upd m75 (13 : Int32).toNatClampNeg x41)))] H := hP
          have hD : va_D A [(t0, .inr (11, [.int i0, .ref c1, .int i2, .int i3, .int i4, .int i5, .int i6, .int i7, .long i8, .int i9, .int i10, .ref c11, .ref c12, .ref c13, .ref c14, .ref c15, .ref c16, .int i17, .int i18, .ref c19, .ref c20, .ref c21, .ref c22, .int i23, .ref c24, .ref c25, .ref c26, .ref c27, .ref c28, .ref c29, .ref c30, .int i31, .int i32, .int i33, .int i34, .ref c35, .ref c36, .int i37, .int i38, .int i39, .int i40, .int i41, .int i42, .ref c43, .ref c44, .ref c45, .ref c46, .ref c47, .ref c48, .ref c49, .ref c50, .ref c51, .ref c52, .ref c53, .ref c54, .ref c55, .ref c56, .ref c57, .ref c58, .ref c59, .int i60, .ref c61, .int i62, .ref c63, .int i64, .int i65, .int i66, .ref c67, .ref c68, .ref c69, .ref c70, .ref c71, .ref c72, .int i73, .ref c74, .ref c75, .int i76, .int i77, .int i78, .ref c79, .int i80, .int i81, .int i82, .int i83, .int i84])), (c74, .inl (dA 0, 4096, .inl m74)), (c75, .inl (dA 0, 16, .inl (upd m75 (13 : Int32).toNatClampNeg x41)))] := hD
          obtain ⟨f44, ef44⟩ : ∃ f : Nat → Int32, f = (upd m75 (13 : Int32).toNatClampNeg x41) := ⟨_, rfl⟩
          rw [← ef44] at hP hD
          refine lv_aload_n hx hb dX11_shift_66 rfl (lv_at hl 2 rfl) ?_
          refine lv_iload_n hx hb dX11_shift_67 rfl (lv_at hl 0 rfl) ?_
          refine g_Vv (n := 1) (As := [.int x36]) (rest := []) (wr := [(c74, .inl (dA 0, 4096, .inl m74))]) hx hb hml hg hown hK hP hD hS hA (s_X11_flags l D dA t0 x36 i0 c1 i2 i3 i4 i5 i6 i7 i8 i9 i10 c11 c12 c13 c14 c15 c16 i17 i18 c19 c20 c21 c22 i23 c24 c25 c26 c27 c28 c29 c30 i31 i32 i33 i34 c35 c36 i37 i38 i39 i40 i41 i42 c43 c44 c45 c46 c47 c48 c49 c50 c51 c52 c53 c54 c55 c56 c57 c58 c59 i60 c61 i62 c63 i64 i65 i66 c67 c68 c69 c70 c71 c72 i73 c74 c75 i76 i77 i78 c79 i80 i81 i82 i83 i84 f44 (by omega) (by omega) (by omega) (by omega) (by omega) (by omega) (by omega) _) [0, 2] [1] rfl (by decide) rfl (by decide) (by decide) 0 rfl rfl q2168 q160 q2165 q2167 q138 (by decide +kernel) ⟨(Nat.le_of_ble_eq_true rfl), (Nat.le_of_ble_eq_true rfl)⟩ rfl hl.1 rfl (Nat.le_of_ble_eq_true rfl) dX11_shift_68 ⟨(Nat.le_of_ble_eq_true rfl), (Nat.le_of_ble_eq_true rfl)⟩ (fun u45 H locs w47 hP hD hS => ?_)
          refine W.widen (k := 0) (n := 0) (Nat.le_of_ble_eq_true rfl) (Nat.le_of_ble_eq_true rfl) ?_
          obtain ⟨f48, rfl⟩ : ∃ z, z = u45 := ⟨_, rfl⟩
          have hP : va_P D vwC [(c74, .inl (dA 0, 4096, .inl m74)), (t0, .inr (11, [.int i0, .ref c1, .int i2, .int i3, .int i4, .int i5, .int i6, .int i7, .long i8, .int i9, .int i10, .ref c11, .ref c12, .ref c13, .ref c14, .ref c15, .ref c16, .int i17, .int i18, .ref c19, .ref c20, .ref c21, .ref c22, .int i23, .ref c24, .ref c25, .ref c26, .ref c27, .ref c28, .ref c29, .ref c30, .int i31, .int i32, .int i33, .int i34, .ref c35, .ref c36, .int i37, .int i38, .int i39, .int i40, .int i41, .int i42, .ref c43, .ref c44, .ref c45, .ref c46, .ref c47, .ref c48, .ref c49, .ref c50, .ref c51, .ref c52, .ref c53, .ref c54, .ref c55, .ref c56, .ref c57, .ref c58, .ref c59, .int i60, .ref c61, .int i62, .ref c63, .int i64, .int i65, .int i66, .ref c67, .ref c68, .ref c69, .ref c70, .ref c71, .ref c72, .int i73, .ref c74, .ref c75, .int i76, .int i77, .int i78, .ref c79, .int i80, .int i81, .int i82, .int i83, .int i84])), (c75, .inl (dA 0, 16, .inl f48))] H := hP
          have hD : va_D A [(c74, .inl (dA 0, 4096, .inl m74)), (t0, .inr (11, [.int i0, .ref c1, .int i2, .int i3, .int i4, .int i5, .int i6, .int i7, .long i8, .int i9, .int i10, .ref c11, .ref c12, .ref c13, .ref c14, .ref c15, .ref c16, .int i17, .int i18, .ref c19, .ref c20, .ref c21, .ref c22, .int i23, .ref c24, .ref c25, .ref c26, .ref c27, .ref c28, .ref c29, .ref c30, .int i31, .int i32, .int i33, .int i34, .ref c35, .ref c36, .int i37, .int i38, .int i39, .int i40, .int i41, .int i42, .ref c43, .ref c44, .ref c45, .ref c46, .ref c47, .ref c48, .ref c49, .ref c50, .ref c51, .ref c52, .ref c53, .ref c54, .ref c55, .ref c56, .ref c57, .ref c58, .ref c59, .int i60, .ref c61, .int i62, .ref c63, .int i64, .int i65, .int i66, .ref c67, .ref c68, .ref c69, .ref c70, .ref c71, .ref c72, .int i73, .ref c74, .ref c75, .int i76, .int i77, .int i78, .ref c79, .int i80, .int i81, .int i82, .int i83, .int i84])), (c75, .inl (dA 0, 16, .inl f48))] := hD
          refine lv_aload_n hx hb dX11_shift_71 rfl (lv_at hl 2 rfl) ?_
          refine lv_iload_n hx hb dX11_shift_72 rfl (lv_at hl 0 rfl) ?_
          refine g_Vv (n := 1) (As := [.int x36]) (rest := []) (wr := []) hx hb hml hg hown hK hP hD hS hA (s_X11_formSet l D dA t0 x36 i0 c1 i2 i3 i4 i5 i6 i7 i8 i9 i10 c11 c12 c13 c14 c15 c16 i17 i18 c19 c20 c21 c22 i23 c24 c25 c26 c27 c28 c29 c30 i31 i32 i33 i34 c35 c36 i37 i38 i39 i40 i41 i42 c43 c44 c45 c46 c47 c48 c49 c50 c51 c52 c53 c54 c55 c56 c57 c58 c59 i60 c61 i62 c63 i64 i65 i66 c67 c68 c69 c70 c71 c72 i73 c74 c75 i76 i77 i78 c79 i80 i81 i82 i83 i84 m74 f48 (by omega) (by omega) (by omega) (by omega) (by omega) (by omega) (by omega) p7 _) [1, 0, 2] [] rfl (by decide) rfl (by decide) (by decide) 0 rfl rfl q2172 q160 q2169 q2171 q139 (by decide +kernel) ⟨(Nat.le_of_ble_eq_true rfl), (Nat.le_of_ble_eq_true rfl)⟩ rfl hl.1 rfl (Nat.le_of_ble_eq_true rfl) dX11_shift_73 ⟨(Nat.le_of_ble_eq_true rfl), (Nat.le_of_ble_eq_true rfl)⟩ (fun u49 H locs w51 hP hD hS => ?_)
          refine W.widen (k := 0) (n := 0) (Nat.le_of_ble_eq_true rfl) (Nat.le_of_ble_eq_true rfl) ?_
          obtain ⟨f52, f53⟩ := u49
          have hP : va_P D vwC [(t0, .inr (11, [.int i0, .ref c1, .int i2, .int i3, .int i4, .int i5, .int i6, .int i7, .long i8, .int i9, .int i10, .ref c11, .ref c12, .ref c13, .ref c14, .ref c15, .ref c16, .int i17, .int i18, .ref c19, .ref c20, .ref c21, .ref c22, .int i23, .ref c24, .ref c25, .ref c26, .ref c27, .ref c28, .ref c29, .ref c30, .int i31, .int i32, .int i33, .int i34, .ref c35, .ref c36, .int i37, .int i38, .int i39, .int i40, .int i41, .int i42, .ref c43, .ref c44, .ref c45, .ref c46, .ref c47, .ref c48, .ref c49, .ref c50, .ref c51, .ref c52, .ref c53, .ref c54, .ref c55, .ref c56, .ref c57, .ref c58, .ref c59, .int i60, .ref c61, .int i62, .ref c63, .int i64, .int i65, .int i66, .ref c67, .ref c68, .ref c69, .ref c70, .ref c71, .ref c72, .int i73, .ref c74, .ref c75, .int i76, .int i77, .int i78, .ref c79, .int i80, .int i81, .int i82, .int i83, .int i84])), (c74, .inl (dA 0, 4096, .inl f52)), (c75, .inl (dA 0, 16, .inl f53))] H := hP
          have hD : va_D A [(t0, .inr (11, [.int i0, .ref c1, .int i2, .int i3, .int i4, .int i5, .int i6, .int i7, .long i8, .int i9, .int i10, .ref c11, .ref c12, .ref c13, .ref c14, .ref c15, .ref c16, .int i17, .int i18, .ref c19, .ref c20, .ref c21, .ref c22, .int i23, .ref c24, .ref c25, .ref c26, .ref c27, .ref c28, .ref c29, .ref c30, .int i31, .int i32, .int i33, .int i34, .ref c35, .ref c36, .int i37, .int i38, .int i39, .int i40, .int i41, .int i42, .ref c43, .ref c44, .ref c45, .ref c46, .ref c47, .ref c48, .ref c49, .ref c50, .ref c51, .ref c52, .ref c53, .ref c54, .ref c55, .ref c56, .ref c57, .ref c58, .ref c59, .int i60, .ref c61, .int i62, .ref c63, .int i64, .int i65, .int i66, .ref c67, .ref c68, .ref c69, .ref c70, .ref c71, .ref c72, .int i73, .ref c74, .ref c75, .int i76, .int i77, .int i78, .ref c79, .int i80, .int i81, .int i82, .int i83, .int i84])), (c74, .inl (dA 0, 4096, .inl f52)), (c75, .inl (dA 0, 16, .inl f53))] := hD
          have g54 := w51
          have g54 : ∀ j : Nat, 0 ≤ (f52 j).toInt ∧ (f52 j).toInt ≤ 255 := g54
          refine lv_iconst (v := 0) hx hb dX11_shift_76 (by decide) ?_
          exact g_iret hx hb hr rfl hlocks hK (f52, f53) hP hD hS ⟨(show 0 ≤ ((0 : Int32)).toInt ∧ ((0 : Int32)).toInt ≤ 3 from by decide), g54⟩ (Nat.le_of_ble_eq_true rfl) (Nat.le_of_ble_eq_true rfl) dX11_shift_77
        · have g55 : i82.toInt = 4 := gi_eq (rfl : i82.toInt = i82.toInt) (by decide : (4 : Int32).toInt = 4) k39
          exfalso; omega
      · have g56 : i82.toInt = 4 := gi_eq (rfl : i82.toInt = i82.toInt) (by decide : (4 : Int32).toInt = 4) k34
        exfalso; omega
    · have g57 : i82.toInt ≠ 5 := gi_neq (rfl : i82.toInt = i82.toInt) (by decide : (5 : Int32).toInt = 5) k29
      refine lv_iconst (v := 2) hx hb dX11_shift_16 (by decide) ?_
      exact g_iret hx hb hr rfl hlocks hK (m74, m75) hP hD hS ⟨(show 0 ≤ ((2 : Int32)).toInt ∧ ((2 : Int32)).toInt ≤ 3 from by decide), p7⟩ (Nat.le_of_ble_eq_true rfl) (Nat.le_of_ble_eq_true rfl) dX11_shift_17
set_option maxHeartbeats 4000000 in
set_option maxRecDepth 100000 in
theorem s_X11_condition (l : Launch) (D : va_G) (dA : Nat → ClassId) (t0 : Nat) (a0 : Int32) (i0 : Int32) (c1 : Nat) (i2 : Int32) (i3 : Int32) (i4 : Int32) (i5 : Int32) (i6 : Int32) (i7 : Int32) (i8 : Int64) (i9 : Int32) (i10 : Int32) (c11 : Nat) (c12 : Nat) (c13 : Nat) (c14 : Nat) (c15 : Nat) (c16 : Nat) (i17 : Int32) (i18 : Int32) (c19 : Nat) (c20 : Nat) (c21 : Nat) (c22 : Nat) (i23 : Int32) (c24 : Nat) (c25 : Nat) (c26 : Nat) (c27 : Nat) (c28 : Nat) (c29 : Nat) (c30 : Nat) (i31 : Int32) (i32 : Int32) (i33 : Int32) (i34 : Int32) (c35 : Nat) (c36 : Nat) (i37 : Int32) (i38 : Int32) (i39 : Int32) (i40 : Int32) (i41 : Int32) (i42 : Int32) (c43 : Nat) (c44 : Nat) (c45 : Nat) (c46 : Nat) (c47 : Nat) (c48 : Nat) (c49 : Nat) (c50 : Nat) (c51 : Nat) (c52 : Nat) (c53 : Nat) (c54 : Nat) (c55 : Nat) (c56 : Nat) (c57 : Nat) (c58 : Nat) (c59 : Nat) (i60 : Int32) (c61 : Nat) (i62 : Int32) (c63 : Nat) (i64 : Int32) (i65 : Int32) (i66 : Int32) (c67 : Nat) (c68 : Nat) (c69 : Nat) (c70 : Nat) (c71 : Nat) (c72 : Nat) (i73 : Int32) (c74 : Nat) (c75 : Nat) (i76 : Int32) (i77 : Int32) (i78 : Int32) (c79 : Nat) (i80 : Int32) (i81 : Int32) (i82 : Int32) (i83 : Int32) (i84 : Int32) (m75 : Nat → Int32) (p0 : 0 ≤ i33.toInt ∧ i33.toInt ≤ 1) (p1 : 0 ≤ i60.toInt ∧ i60.toInt ≤ 1) (p2 : 0 ≤ i76.toInt ∧ i76.toInt ≤ 1) (p3 : 0 ≤ i78.toInt ∧ i78.toInt ≤ 1000000) (p4 : 0 ≤ i81.toInt ∧ i81.toInt ≤ 255) (p5 : 0 ≤ i82.toInt ∧ i82.toInt ≤ 7) (p6 : 0 ≤ i83.toInt ∧ i83.toInt ≤ 15) (sz : Nat) : Met l yX11_condition (gws yX11_condition cX11_condition 3 (some .boolean)) (gR 1 0 0) (gPre D dA [.ref t0, .int a0] [(t0, .inr (11, [.int i0, .ref c1, .int i2, .int i3, .int i4, .int i5, .int i6, .int i7, .long i8, .int i9, .int i10, .ref c11, .ref c12, .ref c13, .ref c14, .ref c15, .ref c16, .int i17, .int i18, .ref c19, .ref c20, .ref c21, .ref c22, .int i23, .ref c24, .ref c25, .ref c26, .ref c27, .ref c28, .ref c29, .ref c30, .int i31, .int i32, .int i33, .int i34, .ref c35, .ref c36, .int i37, .int i38, .int i39, .int i40, .int i41, .int i42, .ref c43, .ref c44, .ref c45, .ref c46, .ref c47, .ref c48, .ref c49, .ref c50, .ref c51, .ref c52, .ref c53, .ref c54, .ref c55, .ref c56, .ref c57, .ref c58, .ref c59, .int i60, .ref c61, .int i62, .ref c63, .int i64, .int i65, .int i66, .ref c67, .ref c68, .ref c69, .ref c70, .ref c71, .ref c72, .int i73, .ref c74, .ref c75, .int i76, .int i77, .int i78, .ref c79, .int i80, .int i81, .int i82, .int i83, .int i84])), (c75, .inl (dA 0, 16, .inl m75))] sz) (va_Qi (fun (r : Int32) (u : Unit) => (0 ≤ r.toInt ∧ r.toInt ≤ 1)) (gAt D dA (va_A [(t0, .inr (11, [.int i0, .ref c1, .int i2, .int i3, .int i4, .int i5, .int i6, .int i7, .long i8, .int i9, .int i10, .ref c11, .ref c12, .ref c13, .ref c14, .ref c15, .ref c16, .int i17, .int i18, .ref c19, .ref c20, .ref c21, .ref c22, .int i23, .ref c24, .ref c25, .ref c26, .ref c27, .ref c28, .ref c29, .ref c30, .int i31, .int i32, .int i33, .int i34, .ref c35, .ref c36, .int i37, .int i38, .int i39, .int i40, .int i41, .int i42, .ref c43, .ref c44, .ref c45, .ref c46, .ref c47, .ref c48, .ref c49, .ref c50, .ref c51, .ref c52, .ref c53, .ref c54, .ref c55, .ref c56, .ref c57, .ref c58, .ref c59, .int i60, .ref c61, .int i62, .ref c63, .int i64, .int i65, .int i66, .ref c67, .ref c68, .ref c69, .ref c70, .ref c71, .ref c72, .int i73, .ref c74, .ref c75, .int i76, .int i77, .int i78, .ref c79, .int i80, .int i81, .int i82, .int i83, .int i84])), (c75, .inl (dA 0, 16, .inl m75))] sz) (fun u : Unit => [(t0, .inr (11, [.int i0, .ref c1, .int i2, .int i3, .int i4, .int i5, .int i6, .int i7, .long i8, .int i9, .int i10, .ref c11, .ref c12, .ref c13, .ref c14, .ref c15, .ref c16, .int i17, .int i18, .ref c19, .ref c20, .ref c21, .ref c22, .int i23, .ref c24, .ref c25, .ref c26, .ref c27, .ref c28, .ref c29, .ref c30, .int i31, .int i32, .int i33, .int i34, .ref c35, .ref c36, .int i37, .int i38, .int i39, .int i40, .int i41, .int i42, .ref c43, .ref c44, .ref c45, .ref c46, .ref c47, .ref c48, .ref c49, .ref c50, .ref c51, .ref c52, .ref c53, .ref c54, .ref c55, .ref c56, .ref c57, .ref c58, .ref c59, .int i60, .ref c61, .int i62, .ref c63, .int i64, .int i65, .int i66, .ref c67, .ref c68, .ref c69, .ref c70, .ref c71, .ref c72, .int i73, .ref c74, .ref c75, .int i76, .int i77, .int i78, .ref c79, .int i80, .int i81, .int i82, .int i83, .int i84])), (c75, .inl (dA 0, 16, .inl m75))])) (va_A [(t0, .inr (11, [.int i0, .ref c1, .int i2, .int i3, .int i4, .int i5, .int i6, .int i7, .long i8, .int i9, .int i10, .ref c11, .ref c12, .ref c13, .ref c14, .ref c15, .ref c16, .int i17, .int i18, .ref c19, .ref c20, .ref c21, .ref c22, .int i23, .ref c24, .ref c25, .ref c26, .ref c27, .ref c28, .ref c29, .ref c30, .int i31, .int i32, .int i33, .int i34, .ref c35, .ref c36, .int i37, .int i38, .int i39, .int i40, .int i41, .int i42, .ref c43, .ref c44, .ref c45, .ref c46, .ref c47, .ref c48, .ref c49, .ref c50, .ref c51, .ref c52, .ref c53, .ref c54, .ref c55, .ref c56, .ref c57, .ref c58, .ref c59, .int i60, .ref c61, .int i62, .ref c63, .int i64, .int i65, .int i66, .ref c67, .ref c68, .ref c69, .ref c70, .ref c71, .ref c72, .int i73, .ref c74, .ref c75, .int i76, .int i77, .int i78, .ref c79, .int i80, .int i81, .int i82, .int i83, .int i84])), (c75, .inl (dA 0, 16, .inl m75))] sz)) 0 0 (va_A [(t0, .inr (11, [.int i0, .ref c1, .int i2, .int i3, .int i4, .int i5, .int i6, .int i7, .long i8, .int i9, .int i10, .ref c11, .ref c12, .ref c13, .ref c14, .ref c15, .ref c16, .int i17, .int i18, .ref c19, .ref c20, .ref c21, .ref c22, .int i23, .ref c24, .ref c25, .ref c26, .ref c27, .ref c28, .ref c29, .ref c30, .int i31, .int i32, .int i33, .int i34, .ref c35, .ref c36, .int i37, .int i38, .int i39, .int i40, .int i41, .int i42, .ref c43, .ref c44, .ref c45, .ref c46, .ref c47, .ref c48, .ref c49, .ref c50, .ref c51, .ref c52, .ref c53, .ref c54, .ref c55, .ref c56, .ref c57, .ref c58, .ref c59, .int i60, .ref c61, .int i62, .ref c63, .int i64, .int i65, .int i66, .ref c67, .ref c68, .ref c69, .ref c70, .ref c71, .ref c72, .int i73, .ref c74, .ref c75, .int i76, .int i77, .int i78, .ref c79, .int i80, .int i81, .int i82, .int i83, .int i84])), (c75, .inl (dA 0, 16, .inl m75))] sz) := by
  refine Met.ofW (cc := cX11_condition) (maxL := 3) (ret := (some .boolean)) (by decide) rfl ?_
  intro p e s m args below meth c s₁ B hml hv
  obtain ⟨rfl, hsz, hP, hK, hD0⟩ := hv
  have hx := B.exec
  have hb := B.bytes
  have hr := B.returns
  have hts := atoms_spec (ws := gws yX11_condition cX11_condition 3 (some .boolean)) B.pre
  have hg : ∀ w ∈ gw, w.before _ s = true := fun w h => hts w (List.mem_cons_of_mem _ h)
  have hown : s.vm.findClass RX11 = some m.cls := findClass_of_methodNamed B.named
  have hlocks := B.notSynchronized
  subst hsz
  have hD := hD0.self (sz := s.heap.size)
  generalize hAe : va_A [(t0, .inr (11, [.int i0, .ref c1, .int i2, .int i3, .int i4, .int i5, .int i6, .int i7, .long i8, .int i9, .int i10, .ref c11, .ref c12, .ref c13, .ref c14, .ref c15, .ref c16, .int i17, .int i18, .ref c19, .ref c20, .ref c21, .ref c22, .int i23, .ref c24, .ref c25, .ref c26, .ref c27, .ref c28, .ref c29, .ref c30, .int i31, .int i32, .int i33, .int i34, .ref c35, .ref c36, .int i37, .int i38, .int i39, .int i40, .int i41, .int i42, .ref c43, .ref c44, .ref c45, .ref c46, .ref c47, .ref c48, .ref c49, .ref c50, .ref c51, .ref c52, .ref c53, .ref c54, .ref c55, .ref c56, .ref c57, .ref c58, .ref c59, .int i60, .ref c61, .int i62, .ref c63, .int i64, .int i65, .int i66, .ref c67, .ref c68, .ref c69, .ref c70, .ref c71, .ref c72, .int i73, .ref c74, .ref c75, .int i76, .int i77, .int i78, .ref c79, .int i80, .int i81, .int i82, .int i83, .int i84])), (c75, .inl (dA 0, 16, .inl m75))] s.heap.size = A at hD ⊢
  have hA : ∀ q : Nat, s.heap.size ≤ q → A q := fun q h => by rw [← hAe]; exact Or.inr h
  have hS : va_S A s.heap s.heap [] := va_S.rf
  have hP : va_P D vwC [(t0, .inr (11, [.int i0, .ref c1, .int i2, .int i3, .int i4, .int i5, .int i6, .int i7, .long i8, .int i9, .int i10, .ref c11, .ref c12, .ref c13, .ref c14, .ref c15, .ref c16, .int i17, .int i18, .ref c19, .ref c20, .ref c21, .ref c22, .int i23, .ref c24, .ref c25, .ref c26, .ref c27, .ref c28, .ref c29, .ref c30, .int i31, .int i32, .int i33, .int i34, .ref c35, .ref c36, .int i37, .int i38, .int i39, .int i40, .int i41, .int i42, .ref c43, .ref c44, .ref c45, .ref c46, .ref c47, .ref c48, .ref c49, .ref c50, .ref c51, .ref c52, .ref c53, .ref c54, .ref c55, .ref c56, .ref c57, .ref c58, .ref c59, .int i60, .ref c61, .int i62, .ref c63, .int i64, .int i65, .int i66, .ref c67, .ref c68, .ref c69, .ref c70, .ref c71, .ref c72, .int i73, .ref c74, .ref c75, .int i76, .int i77, .int i78, .ref c79, .int i80, .int i81, .int i82, .int i83, .int i84])), (c75, .inl (dA 0, 16, .inl m75))] s.heap := hP
  have hl := lv_entry ([.ref t0, .int a0]) (n := 3) (Nat.le_of_ble_eq_true rfl)
  rw [lg_entry_eq]
  generalize (lg_sl ([.ref t0, .int a0]) ++ List.replicate (3 - (lg_sl ([.ref t0, .int a0])).length) Slot.unset).toArray = ls at hl ⊢
  have hl : lv_has ls 3 [(0, .ref t0), (1, .int a0)] := hl
  refine lv_aload_n hx hb dX11_condition_0 rfl (lv_at hl 0 rfl) ?_
  refine g_get hx hb hg hown hK hP 0 rfl rfl inX11 75 (by decide) q1690 rfl dX11_condition_1 ?_
  refine lv_iload_n hx hb dX11_condition_4 rfl (lv_at hl 1 rfl) ?_
  refine lv_bipush (v := 116) hx hb dX11_condition_5 (by decide) ?_
  refine lv_icmp_ge (tgt := 15) hx hb dX11_condition_7 (by decide) (fun k1 => ?_) (fun k1 => ?_)
  · have g2 : 116 ≤ a0.toInt := gi_le (by decide : (116 : Int32).toInt = 116) (rfl : a0.toInt = a0.toInt) k1
    refine lv_iload_n hx hb dX11_condition_15 rfl (lv_at hl 1 rfl) ?_
    refine lv_bipush (v := 118) hx hb dX11_condition_16 (by decide) ?_
    refine lv_icmp_ge (tgt := 26) hx hb dX11_condition_18 (by decide) (fun k3 => ?_) (fun k3 => ?_)
    · have g4 : 118 ≤ a0.toInt := gi_le (by decide : (118 : Int32).toInt = 118) (rfl : a0.toInt = a0.toInt) k3
      refine lv_bipush (v := 15) hx hb dX11_condition_26 (by decide) ?_
      refine va_iald hx hb hK hP 1 0 rfl rfl (by unfold vp_in; decide) dX11_condition_28 ?_
      refine lv_topi (fun x5 e6 => ?_)
      refine lv_if_eq (tgt := 36) hx hb dX11_condition_29 (by decide) (fun k7 => ?_) (fun k7 => ?_)
      · have g8 : x5.toInt = 0 := gi_eq (rfl : x5.toInt = x5.toInt) (by decide : (0 : Int32).toInt = 0) k7
        refine lv_iconst (v := 0) hx hb dX11_condition_36 (by decide) ?_
        refine lv_istore_n (lv' := [(2, .int 0), (0, .ref t0), (1, .int a0)]) hx hb dX11_condition_37 rfl hl (by decide) rfl (fun ls hl => ?_)
        refine lv_iload_n hx hb dX11_condition_38 rfl (lv_at hl 2 rfl) ?_
        refine lv_iconst (v := 1) hx hb dX11_condition_39 (by decide) ?_
        refine lv_iand hx hb dX11_condition_40 ?_
        refine lv_topi (fun x9 e10 => ?_)
        have g11 : 0 ≤ x9.toInt ∧ x9.toInt ≤ 1 := g_msk e10 1 (by decide) (by decide) (by decide)
        refine lv_if_ne (tgt := 48) hx hb dX11_condition_41 (by decide) (fun k12 => ?_) (fun k12 => ?_)
        · have g13 : x9.toInt ≠ 0 := gi_neq (rfl : x9.toInt = x9.toInt) (by decide : (0 : Int32).toInt = 0) k12
          refine lv_iload_n hx hb dX11_condition_48 rfl (lv_at hl 0 rfl) ?_
          refine lv_if_ne (tgt := 56) hx hb dX11_condition_49 (by decide) (fun h => absurd (by decide) h) (fun _ => ?_)
          refine lv_iconst (v := 1) hx hb dX11_condition_52 (by decide) ?_
          refine lv_goto (tgt := 57) hx hb dX11_condition_53 (by decide) ?_
          exact g_iret hx hb hr rfl hlocks hK () hP hD hS (show 0 ≤ ((1 : Int32)).toInt ∧ ((1 : Int32)).toInt ≤ 1 from by decide) (Nat.le_of_ble_eq_true rfl) (Nat.le_of_ble_eq_true rfl) dX11_condition_57
        · have g14 : x9.toInt = 0 := gi_eq (rfl : x9.toInt = x9.toInt) (by decide : (0 : Int32).toInt = 0) k12
          refine lv_iload_n hx hb dX11_condition_44 rfl (lv_at hl 0 rfl) ?_
          refine lv_goto (tgt := 57) hx hb dX11_condition_45 (by decide) ?_
          exact g_iret hx hb hr rfl hlocks hK () hP hD hS (show 0 ≤ ((0 : Int32)).toInt ∧ ((0 : Int32)).toInt ≤ 1 from by decide) (Nat.le_of_ble_eq_true rfl) (Nat.le_of_ble_eq_true rfl) dX11_condition_57
      · have g15 : x5.toInt ≠ 0 := gi_neq (rfl : x5.toInt = x5.toInt) (by decide : (0 : Int32).toInt = 0) k7
        refine lv_iconst (v := 1) hx hb dX11_condition_32 (by decide) ?_
        refine lv_goto (tgt := 37) hx hb dX11_condition_33 (by decide) ?_
        refine lv_istore_n (lv' := [(2, .int 1), (0, .ref t0), (1, .int a0)]) hx hb dX11_condition_37 rfl hl (by decide) rfl (fun ls hl => ?_)
        refine lv_iload_n hx hb dX11_condition_38 rfl (lv_at hl 2 rfl) ?_
        refine lv_iconst (v := 1) hx hb dX11_condition_39 (by decide) ?_
        refine lv_iand hx hb dX11_condition_40 ?_
        refine lv_topi (fun x16 e17 => ?_)
        have g18 : 0 ≤ x16.toInt ∧ x16.toInt ≤ 1 := g_msk e17 1 (by decide) (by decide) (by decide)
        refine lv_if_ne (tgt := 48) hx hb dX11_condition_41 (by decide) (fun k19 => ?_) (fun k19 => ?_)
        · have g20 : x16.toInt ≠ 0 := gi_neq (rfl : x16.toInt = x16.toInt) (by decide : (0 : Int32).toInt = 0) k19
          refine lv_iload_n hx hb dX11_condition_48 rfl (lv_at hl 0 rfl) ?_
          refine lv_if_ne (tgt := 56) hx hb dX11_condition_49 (by decide) (fun _ => ?_) (fun h => absurd h (by decide))
          refine lv_iconst (v := 0) hx hb dX11_condition_56 (by decide) ?_
          exact g_iret hx hb hr rfl hlocks hK () hP hD hS (show 0 ≤ ((0 : Int32)).toInt ∧ ((0 : Int32)).toInt ≤ 1 from by decide) (Nat.le_of_ble_eq_true rfl) (Nat.le_of_ble_eq_true rfl) dX11_condition_57
        · have g21 : x16.toInt = 0 := gi_eq (rfl : x16.toInt = x16.toInt) (by decide : (0 : Int32).toInt = 0) k19
          refine lv_iload_n hx hb dX11_condition_44 rfl (lv_at hl 0 rfl) ?_
          refine lv_goto (tgt := 57) hx hb dX11_condition_45 (by decide) ?_
          exact g_iret hx hb hr rfl hlocks hK () hP hD hS (show 0 ≤ ((1 : Int32)).toInt ∧ ((1 : Int32)).toInt ≤ 1 from by decide) (Nat.le_of_ble_eq_true rfl) (Nat.le_of_ble_eq_true rfl) dX11_condition_57
    · have g22 : 118 > a0.toInt := gi_nle (by decide : (118 : Int32).toInt = 118) (rfl : a0.toInt = a0.toInt) k3
      refine lv_bipush (v := 14) hx hb dX11_condition_21 (by decide) ?_
      refine lv_goto (tgt := 28) hx hb dX11_condition_23 (by decide) ?_
      refine va_iald hx hb hK hP 1 0 rfl rfl (by unfold vp_in; decide) dX11_condition_28 ?_
      refine lv_topi (fun x23 e24 => ?_)
      refine lv_if_eq (tgt := 36) hx hb dX11_condition_29 (by decide) (fun k25 => ?_) (fun k25 => ?_)
      · have g26 : x23.toInt = 0 := gi_eq (rfl : x23.toInt = x23.toInt) (by decide : (0 : Int32).toInt = 0) k25
        refine lv_iconst (v := 0) hx hb dX11_condition_36 (by decide) ?_
        refine lv_istore_n (lv' := [(2, .int 0), (0, .ref t0), (1, .int a0)]) hx hb dX11_condition_37 rfl hl (by decide) rfl (fun ls hl => ?_)
        refine lv_iload_n hx hb dX11_condition_38 rfl (lv_at hl 2 rfl) ?_
        refine lv_iconst (v := 1) hx hb dX11_condition_39 (by decide) ?_
        refine lv_iand hx hb dX11_condition_40 ?_
        refine lv_topi (fun x27 e28 => ?_)
        have g29 : 0 ≤ x27.toInt ∧ x27.toInt ≤ 1 := g_msk e28 1 (by decide) (by decide) (by decide)
        refine lv_if_ne (tgt := 48) hx hb dX11_condition_41 (by decide) (fun k30 => ?_) (fun k30 => ?_)
        · have g31 : x27.toInt ≠ 0 := gi_neq (rfl : x27.toInt = x27.toInt) (by decide : (0 : Int32).toInt = 0) k30
          refine lv_iload_n hx hb dX11_condition_48 rfl (lv_at hl 0 rfl) ?_
          refine lv_if_ne (tgt := 56) hx hb dX11_condition_49 (by decide) (fun h => absurd (by decide) h) (fun _ => ?_)
          refine lv_iconst (v := 1) hx hb dX11_condition_52 (by decide) ?_
          refine lv_goto (tgt := 57) hx hb dX11_condition_53 (by decide) ?_
          exact g_iret hx hb hr rfl hlocks hK () hP hD hS (show 0 ≤ ((1 : Int32)).toInt ∧ ((1 : Int32)).toInt ≤ 1 from by decide) (Nat.le_of_ble_eq_true rfl) (Nat.le_of_ble_eq_true rfl) dX11_condition_57
        · have g32 : x27.toInt = 0 := gi_eq (rfl : x27.toInt = x27.toInt) (by decide : (0 : Int32).toInt = 0) k30
          refine lv_iload_n hx hb dX11_condition_44 rfl (lv_at hl 0 rfl) ?_
          refine lv_goto (tgt := 57) hx hb dX11_condition_45 (by decide) ?_
          exact g_iret hx hb hr rfl hlocks hK () hP hD hS (show 0 ≤ ((0 : Int32)).toInt ∧ ((0 : Int32)).toInt ≤ 1 from by decide) (Nat.le_of_ble_eq_true rfl) (Nat.le_of_ble_eq_true rfl) dX11_condition_57
      · have g33 : x23.toInt ≠ 0 := gi_neq (rfl : x23.toInt = x23.toInt) (by decide : (0 : Int32).toInt = 0) k25
        refine lv_iconst (v := 1) hx hb dX11_condition_32 (by decide) ?_
        refine lv_goto (tgt := 37) hx hb dX11_condition_33 (by decide) ?_
        refine lv_istore_n (lv' := [(2, .int 1), (0, .ref t0), (1, .int a0)]) hx hb dX11_condition_37 rfl hl (by decide) rfl (fun ls hl => ?_)
        refine lv_iload_n hx hb dX11_condition_38 rfl (lv_at hl 2 rfl) ?_
        refine lv_iconst (v := 1) hx hb dX11_condition_39 (by decide) ?_
        refine lv_iand hx hb dX11_condition_40 ?_
        refine lv_topi (fun x34 e35 => ?_)
        have g36 : 0 ≤ x34.toInt ∧ x34.toInt ≤ 1 := g_msk e35 1 (by decide) (by decide) (by decide)
        refine lv_if_ne (tgt := 48) hx hb dX11_condition_41 (by decide) (fun k37 => ?_) (fun k37 => ?_)
        · have g38 : x34.toInt ≠ 0 := gi_neq (rfl : x34.toInt = x34.toInt) (by decide : (0 : Int32).toInt = 0) k37
          refine lv_iload_n hx hb dX11_condition_48 rfl (lv_at hl 0 rfl) ?_
          refine lv_if_ne (tgt := 56) hx hb dX11_condition_49 (by decide) (fun _ => ?_) (fun h => absurd h (by decide))
          refine lv_iconst (v := 0) hx hb dX11_condition_56 (by decide) ?_
          exact g_iret hx hb hr rfl hlocks hK () hP hD hS (show 0 ≤ ((0 : Int32)).toInt ∧ ((0 : Int32)).toInt ≤ 1 from by decide) (Nat.le_of_ble_eq_true rfl) (Nat.le_of_ble_eq_true rfl) dX11_condition_57
        · have g39 : x34.toInt = 0 := gi_eq (rfl : x34.toInt = x34.toInt) (by decide : (0 : Int32).toInt = 0) k37
          refine lv_iload_n hx hb dX11_condition_44 rfl (lv_at hl 0 rfl) ?_
          refine lv_goto (tgt := 57) hx hb dX11_condition_45 (by decide) ?_
          exact g_iret hx hb hr rfl hlocks hK () hP hD hS (show 0 ≤ ((1 : Int32)).toInt ∧ ((1 : Int32)).toInt ≤ 1 from by decide) (Nat.le_of_ble_eq_true rfl) (Nat.le_of_ble_eq_true rfl) dX11_condition_57
  · have g40 : 116 > a0.toInt := gi_nle (by decide : (116 : Int32).toInt = 116) (rfl : a0.toInt = a0.toInt) k1
    refine lv_bipush (v := 13) hx hb dX11_condition_10 (by decide) ?_
    refine lv_goto (tgt := 28) hx hb dX11_condition_12 (by decide) ?_
    refine va_iald hx hb hK hP 1 0 rfl rfl (by unfold vp_in; decide) dX11_condition_28 ?_
    refine lv_topi (fun x41 e42 => ?_)
    refine lv_if_eq (tgt := 36) hx hb dX11_condition_29 (by decide) (fun k43 => ?_) (fun k43 => ?_)
    · have g44 : x41.toInt = 0 := gi_eq (rfl : x41.toInt = x41.toInt) (by decide : (0 : Int32).toInt = 0) k43
      refine lv_iconst (v := 0) hx hb dX11_condition_36 (by decide) ?_
      refine lv_istore_n (lv' := [(2, .int 0), (0, .ref t0), (1, .int a0)]) hx hb dX11_condition_37 rfl hl (by decide) rfl (fun ls hl => ?_)
      refine lv_iload_n hx hb dX11_condition_38 rfl (lv_at hl 2 rfl) ?_
      refine lv_iconst (v := 1) hx hb dX11_condition_39 (by decide) ?_
      refine lv_iand hx hb dX11_condition_40 ?_
      refine lv_topi (fun x45 e46 => ?_)
      have g47 : 0 ≤ x45.toInt ∧ x45.toInt ≤ 1 := g_msk e46 1 (by decide) (by decide) (by decide)
      refine lv_if_ne (tgt := 48) hx hb dX11_condition_41 (by decide) (fun k48 => ?_) (fun k48 => ?_)
      · have g49 : x45.toInt ≠ 0 := gi_neq (rfl : x45.toInt = x45.toInt) (by decide : (0 : Int32).toInt = 0) k48
        refine lv_iload_n hx hb dX11_condition_48 rfl (lv_at hl 0 rfl) ?_
        refine lv_if_ne (tgt := 56) hx hb dX11_condition_49 (by decide) (fun h => absurd (by decide) h) (fun _ => ?_)
        refine lv_iconst (v := 1) hx hb dX11_condition_52 (by decide) ?_
        refine lv_goto (tgt := 57) hx hb dX11_condition_53 (by decide) ?_
        exact g_iret hx hb hr rfl hlocks hK () hP hD hS (show 0 ≤ ((1 : Int32)).toInt ∧ ((1 : Int32)).toInt ≤ 1 from by decide) (Nat.le_of_ble_eq_true rfl) (Nat.le_of_ble_eq_true rfl) dX11_condition_57
      · have g50 : x45.toInt = 0 := gi_eq (rfl : x45.toInt = x45.toInt) (by decide : (0 : Int32).toInt = 0) k48
        refine lv_iload_n hx hb dX11_condition_44 rfl (lv_at hl 0 rfl) ?_
        refine lv_goto (tgt := 57) hx hb dX11_condition_45 (by decide) ?_
        exact g_iret hx hb hr rfl hlocks hK () hP hD hS (show 0 ≤ ((0 : Int32)).toInt ∧ ((0 : Int32)).toInt ≤ 1 from by decide) (Nat.le_of_ble_eq_true rfl) (Nat.le_of_ble_eq_true rfl) dX11_condition_57
    · have g51 : x41.toInt ≠ 0 := gi_neq (rfl : x41.toInt = x41.toInt) (by decide : (0 : Int32).toInt = 0) k43
      refine lv_iconst (v := 1) hx hb dX11_condition_32 (by decide) ?_
      refine lv_goto (tgt := 37) hx hb dX11_condition_33 (by decide) ?_
      refine lv_istore_n (lv' := [(2, .int 1), (0, .ref t0), (1, .int a0)]) hx hb dX11_condition_37 rfl hl (by decide) rfl (fun ls hl => ?_)
      refine lv_iload_n hx hb dX11_condition_38 rfl (lv_at hl 2 rfl) ?_
      refine lv_iconst (v := 1) hx hb dX11_condition_39 (by decide) ?_
      refine lv_iand hx hb dX11_condition_40 ?_
      refine lv_topi (fun x52 e53 => ?_)
      have g54 : 0 ≤ x52.toInt ∧ x52.toInt ≤ 1 := g_msk e53 1 (by decide) (by decide) (by decide)
      refine lv_if_ne (tgt := 48) hx hb dX11_condition_41 (by decide) (fun k55 => ?_) (fun k55 => ?_)
      · have g56 : x52.toInt ≠ 0 := gi_neq (rfl : x52.toInt = x52.toInt) (by decide : (0 : Int32).toInt = 0) k55
        refine lv_iload_n hx hb dX11_condition_48 rfl (lv_at hl 0 rfl) ?_
        refine lv_if_ne (tgt := 56) hx hb dX11_condition_49 (by decide) (fun _ => ?_) (fun h => absurd h (by decide))
        refine lv_iconst (v := 0) hx hb dX11_condition_56 (by decide) ?_
        exact g_iret hx hb hr rfl hlocks hK () hP hD hS (show 0 ≤ ((0 : Int32)).toInt ∧ ((0 : Int32)).toInt ≤ 1 from by decide) (Nat.le_of_ble_eq_true rfl) (Nat.le_of_ble_eq_true rfl) dX11_condition_57
      · have g57 : x52.toInt = 0 := gi_eq (rfl : x52.toInt = x52.toInt) (by decide : (0 : Int32).toInt = 0) k55
        refine lv_iload_n hx hb dX11_condition_44 rfl (lv_at hl 0 rfl) ?_
        refine lv_goto (tgt := 57) hx hb dX11_condition_45 (by decide) ?_
        exact g_iret hx hb hr rfl hlocks hK () hP hD hS (show 0 ≤ ((1 : Int32)).toInt ∧ ((1 : Int32)).toInt ≤ 1 from by decide) (Nat.le_of_ble_eq_true rfl) (Nat.le_of_ble_eq_true rfl) dX11_condition_57
set_option maxHeartbeats 4000000 in
set_option maxRecDepth 100000 in
theorem s_X11_plain (l : Launch) (D : va_G) (dA : Nat → ClassId) (t0 : Nat) (a0 : Int32) (i0 : Int32) (c1 : Nat) (i2 : Int32) (i3 : Int32) (i4 : Int32) (i5 : Int32) (i6 : Int32) (i7 : Int32) (i8 : Int64) (i9 : Int32) (i10 : Int32) (c11 : Nat) (c12 : Nat) (c13 : Nat) (c14 : Nat) (c15 : Nat) (c16 : Nat) (i17 : Int32) (i18 : Int32) (c19 : Nat) (c20 : Nat) (c21 : Nat) (c22 : Nat) (i23 : Int32) (c24 : Nat) (c25 : Nat) (c26 : Nat) (c27 : Nat) (c28 : Nat) (c29 : Nat) (c30 : Nat) (i31 : Int32) (i32 : Int32) (i33 : Int32) (i34 : Int32) (c35 : Nat) (c36 : Nat) (i37 : Int32) (i38 : Int32) (i39 : Int32) (i40 : Int32) (i41 : Int32) (i42 : Int32) (c43 : Nat) (c44 : Nat) (c45 : Nat) (c46 : Nat) (c47 : Nat) (c48 : Nat) (c49 : Nat) (c50 : Nat) (c51 : Nat) (c52 : Nat) (c53 : Nat) (c54 : Nat) (c55 : Nat) (c56 : Nat) (c57 : Nat) (c58 : Nat) (c59 : Nat) (i60 : Int32) (c61 : Nat) (i62 : Int32) (c63 : Nat) (i64 : Int32) (i65 : Int32) (i66 : Int32) (c67 : Nat) (c68 : Nat) (c69 : Nat) (c70 : Nat) (c71 : Nat) (c72 : Nat) (i73 : Int32) (c74 : Nat) (c75 : Nat) (i76 : Int32) (i77 : Int32) (i78 : Int32) (c79 : Nat) (i80 : Int32) (i81 : Int32) (i82 : Int32) (i83 : Int32) (i84 : Int32) (m74 : Nat → Int32) (m75 : Nat → Int32) (p0 : 0 ≤ i33.toInt ∧ i33.toInt ≤ 1) (p1 : 0 ≤ i60.toInt ∧ i60.toInt ≤ 1) (p2 : 0 ≤ i76.toInt ∧ i76.toInt ≤ 1) (p3 : 0 ≤ i78.toInt ∧ i78.toInt ≤ 1000000) (p4 : 0 ≤ i81.toInt ∧ i81.toInt ≤ 255) (p5 : 0 ≤ i82.toInt ∧ i82.toInt ≤ 7) (p6 : 0 ≤ i83.toInt ∧ i83.toInt ≤ 15) (p7 : ∀ j : Nat, 0 ≤ (m74 j).toInt ∧ (m74 j).toInt ≤ 255) (sz : Nat) : Met l yX11_plain (gws yX11_plain cX11_plain 3 (some .int)) (gR 4 0 0) (gPre D dA [.ref t0, .int a0] [(t0, .inr (11, [.int i0, .ref c1, .int i2, .int i3, .int i4, .int i5, .int i6, .int i7, .long i8, .int i9, .int i10, .ref c11, .ref c12, .ref c13, .ref c14, .ref c15, .ref c16, .int i17, .int i18, .ref c19, .ref c20, .ref c21, .ref c22, .int i23, .ref c24, .ref c25, .ref c26, .ref c27, .ref c28, .ref c29, .ref c30, .int i31, .int i32, .int i33, .int i34, .ref c35, .ref c36, .int i37, .int i38, .int i39, .int i40, .int i41, .int i42, .ref c43, .ref c44, .ref c45, .ref c46, .ref c47, .ref c48, .ref c49, .ref c50, .ref c51, .ref c52, .ref c53, .ref c54, .ref c55, .ref c56, .ref c57, .ref c58, .ref c59, .int i60, .ref c61, .int i62, .ref c63, .int i64, .int i65, .int i66, .ref c67, .ref c68, .ref c69, .ref c70, .ref c71, .ref c72, .int i73, .ref c74, .ref c75, .int i76, .int i77, .int i78, .ref c79, .int i80, .int i81, .int i82, .int i83, .int i84])), (c74, .inl (dA 0, 4096, .inl m74)), (c75, .inl (dA 0, 16, .inl m75))] sz) (va_Qi (fun (r : Int32) (u : Int32 × (Nat → Int32) × (Nat → Int32)) => (0 ≤ r.toInt ∧ r.toInt ≤ 3) ∧ (∀ j : Nat, 0 ≤ (u.2.1 j).toInt ∧ (u.2.1 j).toInt ≤ 255)) (gAt D dA (va_A [(t0, .inr (11, [.int i0, .ref c1, .int i2, .int i3, .int i4, .int i5, .int i6, .int i7, .long i8, .int i9, .int i10, .ref c11, .ref c12, .ref c13, .ref c14, .ref c15, .ref c16, .int i17, .int i18, .ref c19, .ref c20, .ref c21, .ref c22, .int i23, .ref c24, .ref c25, .ref c26, .ref c27, .ref c28, .ref c29, .ref c30, .int i31, .int i32, .int i33, .int i34, .ref c35, .ref c36, .int i37, .int i38, .int i39, .int i40, .int i41, .int i42, .ref c43, .ref c44, .ref c45, .ref c46, .ref c47, .ref c48, .ref c49, .ref c50, .ref c51, .ref c52, .ref c53, .ref c54, .ref c55, .ref c56, .ref c57, .ref c58, .ref c59, .int i60, .ref c61, .int i62, .ref c63, .int i64, .int i65, .int i66, .ref c67, .ref c68, .ref c69, .ref c70, .ref c71, .ref c72, .int i73, .ref c74, .ref c75, .int i76, .int i77, .int i78, .ref c79, .int i80, .int i81, .int i82, .int i83, .int i84])), (c74, .inl (dA 0, 4096, .inl m74)), (c75, .inl (dA 0, 16, .inl m75))] sz) (fun u : Int32 × (Nat → Int32) × (Nat → Int32) => [(t0, .inr (11, [.int i0, .ref c1, .int i2, .int i3, .int i4, .int i5, .int i6, .int i7, .long i8, .int i9, .int i10, .ref c11, .ref c12, .ref c13, .ref c14, .ref c15, .ref c16, .int i17, .int i18, .ref c19, .ref c20, .ref c21, .ref c22, .int i23, .ref c24, .ref c25, .ref c26, .ref c27, .ref c28, .ref c29, .ref c30, .int i31, .int i32, .int i33, .int i34, .ref c35, .ref c36, .int i37, .int i38, .int i39, .int i40, .int i41, .int i42, .ref c43, .ref c44, .ref c45, .ref c46, .ref c47, .ref c48, .ref c49, .ref c50, .ref c51, .ref c52, .ref c53, .ref c54, .ref c55, .ref c56, .ref c57, .ref c58, .ref c59, .int i60, .ref c61, .int i62, .ref c63, .int i64, .int i65, .int i66, .ref c67, .ref c68, .ref c69, .ref c70, .ref c71, .ref c72, .int i73, .ref c74, .ref c75, .int i76, .int i77, .int i78, .ref c79, .int u.1, .int i81, .int i82, .int i83, .int i84])), (c74, .inl (dA 0, 4096, .inl (u.2.1))), (c75, .inl (dA 0, 16, .inl (u.2.2)))])) (va_A [(t0, .inr (11, [.int i0, .ref c1, .int i2, .int i3, .int i4, .int i5, .int i6, .int i7, .long i8, .int i9, .int i10, .ref c11, .ref c12, .ref c13, .ref c14, .ref c15, .ref c16, .int i17, .int i18, .ref c19, .ref c20, .ref c21, .ref c22, .int i23, .ref c24, .ref c25, .ref c26, .ref c27, .ref c28, .ref c29, .ref c30, .int i31, .int i32, .int i33, .int i34, .ref c35, .ref c36, .int i37, .int i38, .int i39, .int i40, .int i41, .int i42, .ref c43, .ref c44, .ref c45, .ref c46, .ref c47, .ref c48, .ref c49, .ref c50, .ref c51, .ref c52, .ref c53, .ref c54, .ref c55, .ref c56, .ref c57, .ref c58, .ref c59, .int i60, .ref c61, .int i62, .ref c63, .int i64, .int i65, .int i66, .ref c67, .ref c68, .ref c69, .ref c70, .ref c71, .ref c72, .int i73, .ref c74, .ref c75, .int i76, .int i77, .int i78, .ref c79, .int i80, .int i81, .int i82, .int i83, .int i84])), (c74, .inl (dA 0, 4096, .inl m74)), (c75, .inl (dA 0, 16, .inl m75))] sz)) 0 0 (va_A [(t0, .inr (11, [.int i0, .ref c1, .int i2, .int i3, .int i4, .int i5, .int i6, .int i7, .long i8, .int i9, .int i10, .ref c11, .ref c12, .ref c13, .ref c14, .ref c15, .ref c16, .int i17, .int i18, .ref c19, .ref c20, .ref c21, .ref c22, .int i23, .ref c24, .ref c25, .ref c26, .ref c27, .ref c28, .ref c29, .ref c30, .int i31, .int i32, .int i33, .int i34, .ref c35, .ref c36, .int i37, .int i38, .int i39, .int i40, .int i41, .int i42, .ref c43, .ref c44, .ref c45, .ref c46, .ref c47, .ref c48, .ref c49, .ref c50, .ref c51, .ref c52, .ref c53, .ref c54, .ref c55, .ref c56, .ref c57, .ref c58, .ref c59, .int i60, .ref c61, .int i62, .ref c63, .int i64, .int i65, .int i66, .ref c67, .ref c68, .ref c69, .ref c70, .ref c71, .ref c72, .int i73, .ref c74, .ref c75, .int i76, .int i77, .int i78, .ref c79, .int i80, .int i81, .int i82, .int i83, .int i84])), (c74, .inl (dA 0, 4096, .inl m74)), (c75, .inl (dA 0, 16, .inl m75))] sz) := by
  refine Met.ofW (cc := cX11_plain) (maxL := 3) (ret := (some .int)) (by decide) rfl ?_
  intro p e s m args below meth c s₁ B hml hv
  obtain ⟨rfl, hsz, hP, hK, hD0⟩ := hv
  have hx := B.exec
  have hb := B.bytes
  have hr := B.returns
  have hts := atoms_spec (ws := gws yX11_plain cX11_plain 3 (some .int)) B.pre
  have hg : ∀ w ∈ gw, w.before _ s = true := fun w h => hts w (List.mem_cons_of_mem _ h)
  have hown : s.vm.findClass RX11 = some m.cls := findClass_of_methodNamed B.named
  have hlocks := B.notSynchronized
  subst hsz
  have hD := hD0.self (sz := s.heap.size)
  generalize hAe : va_A [(t0, .inr (11, [.int i0, .ref c1, .int i2, .int i3, .int i4, .int i5, .int i6, .int i7, .long i8, .int i9, .int i10, .ref c11, .ref c12, .ref c13, .ref c14, .ref c15, .ref c16, .int i17, .int i18, .ref c19, .ref c20, .ref c21, .ref c22, .int i23, .ref c24, .ref c25, .ref c26, .ref c27, .ref c28, .ref c29, .ref c30, .int i31, .int i32, .int i33, .int i34, .ref c35, .ref c36, .int i37, .int i38, .int i39, .int i40, .int i41, .int i42, .ref c43, .ref c44, .ref c45, .ref c46, .ref c47, .ref c48, .ref c49, .ref c50, .ref c51, .ref c52, .ref c53, .ref c54, .ref c55, .ref c56, .ref c57, .ref c58, .ref c59, .int i60, .ref c61, .int i62, .ref c63, .int i64, .int i65, .int i66, .ref c67, .ref c68, .ref c69, .ref c70, .ref c71, .ref c72, .int i73, .ref c74, .ref c75, .int i76, .int i77, .int i78, .ref c79, .int i80, .int i81, .int i82, .int i83, .int i84])), (c74, .inl (dA 0, 4096, .inl m74)), (c75, .inl (dA 0, 16, .inl m75))] s.heap.size = A at hD ⊢
  have hA : ∀ q : Nat, s.heap.size ≤ q → A q := fun q h => by rw [← hAe]; exact Or.inr h
  have hS : va_S A s.heap s.heap [] := va_S.rf
  have hP : va_P D vwC [(t0, .inr (11, [.int i0, .ref c1, .int i2, .int i3, .int i4, .int i5, .int i6, .int i7, .long i8, .int i9, .int i10, .ref c11, .ref c12, .ref c13, .ref c14, .ref c15, .ref c16, .int i17, .int i18, .ref c19, .ref c20, .ref c21, .ref c22, .int i23, .ref c24, .ref c25, .ref c26, .ref c27, .ref c28, .ref c29, .ref c30, .int i31, .int i32, .int i33, .int i34, .ref c35, .ref c36, .int i37, .int i38, .int i39, .int i40, .int i41, .int i42, .ref c43, .ref c44, .ref c45, .ref c46, .ref c47, .ref c48, .ref c49, .ref c50, .ref c51, .ref c52, .ref c53, .ref c54, .ref c55, .ref c56, .ref c57, .ref c58, .ref c59, .int i60, .ref c61, .int i62, .ref c63, .int i64, .int i65, .int i66, .ref c67, .ref c68, .ref c69, .ref c70, .ref c71, .ref c72, .int i73, .ref c74, .ref c75, .int i76, .int i77, .int i78, .ref c79, .int i80, .int i81, .int i82, .int i83, .int i84])), (c74, .inl (dA 0, 4096, .inl m74)), (c75, .inl (dA 0, 16, .inl m75))] s.heap := hP
  have hl := lv_entry ([.ref t0, .int a0]) (n := 3) (Nat.le_of_ble_eq_true rfl)
  rw [lg_entry_eq]
  generalize (lg_sl ([.ref t0, .int a0]) ++ List.replicate (3 - (lg_sl ([.ref t0, .int a0])).length) Slot.unset).toArray = ls at hl ⊢
  have hl : lv_has ls 3 [(0, .ref t0), (1, .int a0)] := hl
  refine lv_iload_n hx hb dX11_plain_0 rfl (lv_at hl 1 rfl) ?_
  refine lv_bipush (v := 7) hx hb dX11_plain_1 (by decide) ?_
  refine lv_iand hx hb dX11_plain_3 ?_
  refine lv_topi (fun x1 e2 => ?_)
  have g3 : 0 ≤ x1.toInt ∧ x1.toInt ≤ 7 := g_msk e2 3 (by decide) (by decide) (by decide)
  refine lv_istore_n (lv' := [(2, .int x1), (0, .ref t0), (1, .int a0)]) hx hb dX11_plain_4 rfl hl (by decide) rfl (fun ls hl => ?_)
  refine lv_iload_n hx hb dX11_plain_5 rfl (lv_at hl 2 rfl) ?_
  refine lv_sipush (v := 184) hx hb dX11_plain_6 (by decide) ?_
  refine lv_icmp_lt (tgt := 24) hx hb dX11_plain_9 (by decide) (fun k4 => ?_) (fun k4 => ?_)
  · have g5 : a0.toInt < 184 := gi_lt (rfl : a0.toInt = a0.toInt) (by decide : (184 : Int32).toInt = 184) k4
    refine lv_iload_n hx hb dX11_plain_24 rfl (lv_at hl 2 rfl) ?_
    refine lv_bipush (v := 80) hx hb dX11_plain_25 (by decide) ?_
    refine lv_icmp_ge (tgt := 70) hx hb dX11_plain_27 (by decide) (fun k6 => ?_) (fun k6 => ?_)
    · have g7 : 80 ≤ a0.toInt := gi_le (by decide : (80 : Int32).toInt = 80) (rfl : a0.toInt = a0.toInt) k6
      refine lv_iload_n hx hb dX11_plain_70 rfl (lv_at hl 2 rfl) ?_
      refine lv_bipush (v := 88) hx hb dX11_plain_71 (by decide) ?_
      refine lv_icmp_ge (tgt := 89) hx hb dX11_plain_73 (by decide) (fun k8 => ?_) (fun k8 => ?_)
      · have g9 : 88 ≤ a0.toInt := gi_le (by decide : (88 : Int32).toInt = 88) (rfl : a0.toInt = a0.toInt) k8
        refine lv_aload_n hx hb dX11_plain_89 rfl (lv_at hl 1 rfl) ?_
        refine g_get hx hb hg hown hK hP 0 rfl rfl inX11 75 (by decide) q1690 rfl dX11_plain_90 ?_
        refine lv_iload_n hx hb dX11_plain_93 rfl (lv_at hl 0 rfl) ?_
        refine lv_aload_n hx hb dX11_plain_94 rfl (lv_at hl 1 rfl) ?_
        refine g_Vi (n := 0) (As := []) (rest := [.int x1, .ref c75]) (wr := []) hx hb hml hg hown hK hP hD hS hA (s_X11_pop l D dA t0 i0 c1 i2 i3 i4 i5 i6 i7 i8 i9 i10 c11 c12 c13 c14 c15 c16 i17 i18 c19 c20 c21 c22 i23 c24 c25 c26 c27 c28 c29 c30 i31 i32 i33 i34 c35 c36 i37 i38 i39 i40 i41 i42 c43 c44 c45 c46 c47 c48 c49 c50 c51 c52 c53 c54 c55 c56 c57 c58 c59 i60 c61 i62 c63 i64 i65 i66 c67 c68 c69 c70 c71 c72 i73 c74 c75 i76 i77 i78 c79 i80 i81 i82 i83 i84 m74 m75 (by omega) (by omega) (by omega) (by omega) (by omega) (by omega) (by omega) p7 _) [0, 1, 2] [] rfl (by decide) rfl (by decide) (by decide) 0 rfl rfl q2197 q160 q2194 q2196 q145 (by decide +kernel) ⟨(Nat.le_of_ble_eq_true rfl), (Nat.le_of_ble_eq_true rfl)⟩ rfl hl.1 rfl (Nat.le_of_ble_eq_true rfl) dX11_plain_95 ⟨(Nat.le_of_ble_eq_true rfl), (Nat.le_of_ble_eq_true rfl)⟩ (fun x11 u10 H locs w12 hP hD hS => ?_)
        refine W.widen (k := 0) (n := 0) (Nat.le_of_ble_eq_true rfl) (Nat.le_of_ble_eq_true rfl) ?_
        obtain ⟨f13, rfl⟩ : ∃ z, z = u10 := ⟨_, rfl⟩
        have hP : va_P D vwC [(t0, .inr (11, [.int i0, .ref c1, .int i2, .int i3, .int i4, .int i5, .int i6, .int i7, .long i8, .int i9, .int i10, .ref c11, .ref c12, .ref c13, .ref c14, .ref c15, .ref c16, .int i17, .int i18, .ref c19, .ref c20, .ref c21, .ref c22, .int i23, .ref c24, .ref c25, .ref c26, .ref c27, .ref c28, .ref c29, .ref c30, .int i31, .int i32, .int i33, .int i34, .ref c35, .ref c36, .int i37, .int i38, .int i39, .int i40, .int i41, .int i42, .ref c43, .ref c44, .ref c45, .ref c46, .ref c47, .ref c48, .ref c49, .ref c50, .ref c51, .ref c52, .ref c53, .ref c54, .ref c55, .ref c56, .ref c57, .ref c58, .ref c59, .int i60, .ref c61, .int i62, .ref c63, .int i64, .int i65, .int i66, .ref c67, .ref c68, .ref c69, .ref c70, .ref c71, .ref c72, .int i73, .ref c74, .ref c75, .int i76, .int i77, .int i78, .ref c79, .int i80, .int i81, .int i82, .int i83, .int i84])), (c74, .inl (dA 0, 4096, .inl m74)), (c75, .inl (dA 0, 16, .inl f13))] H := hP
        have hD : va_D A [(t0, .inr (11, [.int i0, .ref c1, .int i2, .int i3, .int i4, .int i5, .int i6, .int i7, .long i8, .int i9, .int i10, .ref c11, .ref c12, .ref c13, .ref c14, .ref c15, .ref c16, .int i17, .int i18, .ref c19, .ref c20, .ref c21, .ref c22, .int i23, .ref c24, .ref c25, .ref c26, .ref c27, .ref c28, .ref c29, .ref c30, .int i31, .int i32, .int i33, .int i34, .ref c35, .ref c36, .int i37, .int i38, .int i39, .int i40, .int i41, .int i42, .ref c43, .ref c44, .ref c45, .ref c46, .ref c47, .ref c48, .ref c49, .ref c50, .ref c51, .ref c52, .ref c53, .ref c54, .ref c55, .ref c56, .ref c57, .ref c58, .ref c59, .int i60, .ref c61, .int i62, .ref c63, .int i64, .int i65, .int i66, .ref c67, .ref c68, .ref c69, .ref c70, .ref c71, .ref c72, .int i73, .ref c74, .ref c75, .int i76, .int i77, .int i78, .ref c79, .int i80, .int i81, .int i82, .int i83, .int i84])), (c74, .inl (dA 0, 4096, .inl m74)), (c75, .inl (dA 0, 16, .inl f13))] := hD
        refine va_iast hx hb hK hP hD hS 2 0 rfl rfl (by rw [vp_in_iff]; omega) dX11_plain_98 (fun H locs hP hD hS => ?_)
        have hP : va_P D vwC [(t0, .inr (11, [.int i0, .ref c1, .int i2, .int i3, .int i4, .int i5, .int i6, .int i7, .long i8, .int i9, .int i10, .ref c11, .ref c12, .ref c13, .ref c14, .ref c15, .ref c16, .int i17, .int i18, .ref c19, .ref c20, .ref c21, .ref c22, .int i23, .ref c24, .ref c25, .ref c26, .ref c27, .ref c28, .ref c29, .ref c30, .int i31, .int i32, .int i33, .int i34, .ref c35, .ref c36, .int i37, .int i38, .int i39, .int i40, .int i41, .int i42, .ref c43, .ref c44, .ref c45, .ref c46, .ref c47, .ref c48, .ref c49, .ref c50, .ref c51, .ref c52, .ref c53, .ref c54, .ref c55, .ref c56, .ref c57, .ref c58, .ref c59, .int i60, .ref c61, .int i62, .ref c63, .int i64, .int i65, .int i66, .ref c67, .ref c68, .ref c69, .ref c70, .ref c71, .ref c72, .int i73, .ref c74, .ref c75, .int i76, .int i77, .int i78, .ref c79, .int i80, .int i81, .int i82, .int i83, .int i84])), (c74, .inl (dA 0, 4096, .inl m74)), (c75, .inl (dA 0, 16, .inl (upd f13 (x1 : Int32).toNatClampNeg x11)))] H := hP
        have hD : va_D A [(t0, .inr (11, [.int i0, .ref c1, .int i2, .int i3, .int i4, .int i5, .int i6, .int i7, .long i8, .int i9, .int i10, .ref c11, .ref c12, .ref c13, .ref c14, .ref c15, .ref c16, .int i17, .int i18, .ref c19, .ref c20, .ref c21, .ref c22, .int i23, .ref c24, .ref c25, .ref c26, .ref c27, .ref c28, .ref c29, .ref c30, .int i31, .int i32, .int i33, .int i34, .ref c35, .ref c36, .int i37, .int i38, .int i39, .int i40, .int i41, .int i42, .ref c43, .ref c44, .ref c45, .ref c46, .ref c47, .ref c48, .ref c49, .ref c50, .ref c51, .ref c52, .ref c53, .ref c54, .ref c55, .ref c56, .ref c57, .ref c58, .ref c59, .int i60, .ref c61, .int i62, .ref c63, .int i64, .int i65, .int i66, .ref c67, .ref c68, .ref c69, .ref c70, .ref c71, .ref c72, .int i73, .ref c74, .ref c75, .int i76, .int i77, .int i78, .ref c79, .int i80, .int i81, .int i82, .int i83, .int i84])), (c74, .inl (dA 0, 4096, .inl m74)), (c75, .inl (dA 0, 16, .inl (upd f13 (x1 : Int32).toNatClampNeg x11)))] := hD
        obtain ⟨f14, ef14⟩ : ∃ f : Nat → Int32, f = (upd f13 (x1 : Int32).toNatClampNeg x11) := ⟨_, rfl⟩
        rw [← ef14] at hP hD
        refine lv_iconst (v := 0) hx hb dX11_plain_99 (by decide) ?_
        exact g_iret hx hb hr rfl hlocks hK (i80, m74, f14) hP hD hS ⟨(show 0 ≤ ((0 : Int32)).toInt ∧ ((0 : Int32)).toInt ≤ 3 from by decide), p7⟩ (Nat.le_of_ble_eq_true rfl) (Nat.le_of_ble_eq_true rfl) dX11_plain_100
      · have g15 : 88 > a0.toInt := gi_nle (by decide : (88 : Int32).toInt = 88) (rfl : a0.toInt = a0.toInt) k8
        refine lv_aload_n hx hb dX11_plain_76 rfl (lv_at hl 1 rfl) ?_
        refine lv_aload_n hx hb dX11_plain_77 rfl (lv_at hl 1 rfl) ?_
        refine g_get hx hb hg hown hK hP 0 rfl rfl inX11 75 (by decide) q1690 rfl dX11_plain_78 ?_
        refine lv_iload_n hx hb dX11_plain_81 rfl (lv_at hl 0 rfl) ?_
        refine va_iald hx hb hK hP 2 0 rfl rfl (by rw [vp_in_iff]; omega) dX11_plain_82 ?_
        refine lv_topi (fun x16 e17 => ?_)
        refine g_Vv (n := 1) (As := [.int x16]) (rest := []) (wr := []) hx hb hml hg hown hK hP hD hS hA (s_X11_push l D dA t0 x16 i0 c1 i2 i3 i4 i5 i6 i7 i8 i9 i10 c11 c12 c13 c14 c15 c16 i17 i18 c19 c20 c21 c22 i23 c24 c25 c26 c27 c28 c29 c30 i31 i32 i33 i34 c35 c36 i37 i38 i39 i40 i41 i42 c43 c44 c45 c46 c47 c48 c49 c50 c51 c52 c53 c54 c55 c56 c57 c58 c59 i60 c61 i62 c63 i64 i65 i66 c67 c68 c69 c70 c71 c72 i73 c74 c75 i76 i77 i78 c79 i80 i81 i82 i83 i84 m74 m75 (by omega) (by omega) (by omega) (by omega) (by omega) (by omega) (by omega) p7 _) [0, 1, 2] [] rfl (by decide) rfl (by decide) (by decide) 0 rfl rfl q2193 q160 q2190 q2192 q144 (by decide +kernel) ⟨(Nat.le_of_ble_eq_true rfl), (Nat.le_of_ble_eq_true rfl)⟩ rfl hl.1 rfl (Nat.le_of_ble_eq_true rfl) dX11_plain_83 ⟨(Nat.le_of_ble_eq_true rfl), (Nat.le_of_ble_eq_true rfl)⟩ (fun u18 H locs w20 hP hD hS => ?_)
        refine W.widen (k := 0) (n := 0) (Nat.le_of_ble_eq_true rfl) (Nat.le_of_ble_eq_true rfl) ?_
        obtain ⟨f21, f22⟩ := u18
        have hP : va_P D vwC [(t0, .inr (11, [.int i0, .ref c1, .int i2, .int i3, .int i4, .int i5, .int i6, .int i7, .long i8, .int i9, .int i10, .ref c11, .ref c12, .ref c13, .ref c14, .ref c15, .ref c16, .int i17, .int i18, .ref c19, .ref c20, .ref c21, .ref c22, .int i23, .ref c24, .ref c25, .ref c26, .ref c27, .ref c28, .ref c29, .ref c30, .int i31, .int i32, .int i33, .int i34, .ref c35, .ref c36, .int i37, .int i38, .int i39, .int i40, .int i41, .int i42, .ref c43, .ref c44, .ref c45, .ref c46, .ref c47, .ref c48, .ref c49, .ref c50, .ref c51, .ref c52, .ref c53, .ref c54, .ref c55, .ref c56, .ref c57, .ref c58, .ref c59, .int i60, .ref c61, .int i62, .ref c63, .int i64, .int i65, .int i66, .ref c67, .ref c68, .ref c69, .ref c70, .ref c71, .ref c72, .int i73, .ref c74, .ref c75, .int i76, .int i77, .int i78, .ref c79, .int i80, .int i81, .int i82, .int i83, .int i84])), (c74, .inl (dA 0, 4096, .inl f21)), (c75, .inl (dA 0, 16, .inl f22))] H := hP
        have hD : va_D A [(t0, .inr (11, [.int i0, .ref c1, .int i2, .int i3, .int i4, .int i5, .int i6, .int i7, .long i8, .int i9, .int i10, .ref c11, .ref c12, .ref c13, .ref c14, .ref c15, .ref c16, .int i17, .int i18, .ref c19, .ref c20, .ref c21, .ref c22, .int i23, .ref c24, .ref c25, .ref c26, .ref c27, .ref c28, .ref c29, .ref c30, .int i31, .int i32, .int i33, .int i34, .ref c35, .ref c36, .int i37, .int i38, .int i39, .int i40, .int i41, .int i42, .ref c43, .ref c44, .ref c45, .ref c46, .ref c47, .ref c48, .ref c49, .ref c50, .ref c51, .ref c52, .ref c53, .ref c54, .ref c55, .ref c56, .ref c57, .ref c58, .ref c59, .int i60, .ref c61, .int i62, .ref c63, .int i64, .int i65, .int i66, .ref c67, .ref c68, .ref c69, .ref c70, .ref c71, .ref c72, .int i73, .ref c74, .ref c75, .int i76, .int i77, .int i78, .ref c79, .int i80, .int i81, .int i82, .int i83, .int i84])), (c74, .inl (dA 0, 4096, .inl f21)), (c75, .inl (dA 0, 16, .inl f22))] := hD
        have g23 := w20
        have g23 : ∀ j : Nat, 0 ≤ (f21 j).toInt ∧ (f21 j).toInt ≤ 255 := g23
        refine lv_goto (tgt := 99) hx hb dX11_plain_86 (by decide) ?_
        refine lv_iconst (v := 0) hx hb dX11_plain_99 (by decide) ?_
        exact g_iret hx hb hr rfl hlocks hK (i80, f21, f22) hP hD hS ⟨(show 0 ≤ ((0 : Int32)).toInt ∧ ((0 : Int32)).toInt ≤ 3 from by decide), g23⟩ (Nat.le_of_ble_eq_true rfl) (Nat.le_of_ble_eq_true rfl) dX11_plain_100
    · have g24 : 80 > a0.toInt := gi_nle (by decide : (80 : Int32).toInt = 80) (rfl : a0.toInt = a0.toInt) k6
      refine lv_aload_n hx hb dX11_plain_30 rfl (lv_at hl 1 rfl) ?_
      refine g_get hx hb hg hown hK hP 0 rfl rfl inX11 75 (by decide) q1690 rfl dX11_plain_31 ?_
      refine lv_iload_n hx hb dX11_plain_34 rfl (lv_at hl 0 rfl) ?_
      refine lv_aload_n hx hb dX11_plain_35 rfl (lv_at hl 1 rfl) ?_
      refine g_get hx hb hg hown hK hP 0 rfl rfl inX11 75 (by decide) q1690 rfl dX11_plain_36 ?_
      refine lv_iload_n hx hb dX11_plain_39 rfl (lv_at hl 0 rfl) ?_
      refine va_iald hx hb hK hP 2 0 rfl rfl (by rw [vp_in_iff]; omega) dX11_plain_40 ?_
      refine lv_topi (fun x25 e26 => ?_)
      refine lv_iload_n hx hb dX11_plain_41 rfl (lv_at hl 2 rfl) ?_
      refine lv_bipush (v := 72) hx hb dX11_plain_42 (by decide) ?_
      refine lv_icmp_ge (tgt := 51) hx hb dX11_plain_44 (by decide) (fun k27 => ?_) (fun k27 => ?_)
      · have g28 : 72 ≤ a0.toInt := gi_le (by decide : (72 : Int32).toInt = 72) (rfl : a0.toInt = a0.toInt) k27
        refine lv_iconst (v := (-1)) hx hb dX11_plain_51 (by decide) ?_
        refine lv_iadd hx hb dX11_plain_52 ?_
        have g29 := g_i32 x25
        refine lv_topi (fun x30 e31 => ?_)
        refine lv_ldcw hx hb hown (hg _ q1907) dX11_plain_53 ?_
        refine lv_iand hx hb dX11_plain_56 ?_
        refine lv_topi (fun x32 e33 => ?_)
        have g34 : 0 ≤ x32.toInt ∧ x32.toInt ≤ 65535 := g_msk e33 16 (by decide) (by decide) (by decide)
        refine va_iast hx hb hK hP hD hS 2 0 rfl rfl (by rw [vp_in_iff]; omega) dX11_plain_57 (fun H locs hP hD hS => ?_)
        have hP : va_P D vwC [(t0, .inr (11, [.int i0, .ref c1, .int i2, .int i3, .int i4, .int i5, .int i6, .int i7, .long i8, .int i9, .int i10, .ref c11, .ref c12, .ref c13, .ref c14, .ref c15, .ref c16, .int i17, .int i18, .ref c19, .ref c20, .ref c21, .ref c22, .int i23, .ref c24, .ref c25, .ref c26, .ref c27, .ref c28, .ref c29, .ref c30, .int i31, .int i32, .int i33, .int i34, .ref c35, .ref c36, .int i37, .int i38, .int i39, .int i40, .int i41, .int i42, .ref c43, .ref c44, .ref c45, .ref c46, .ref c47, .ref c48, .ref c49, .ref c50, .ref c51, .ref c52, .ref c53, .ref c54, .ref c55, .ref c56, .ref c57, .ref c58, .ref c59, .int i60, .ref c61, .int i62, .ref c63, .int i64, .int i65, .int i66, .ref c67, .ref c68, .ref c69, .ref c70, .ref c71, .ref c72, .int i73, .ref c74, .ref c75, .int i76, .int i77, .int i78, .ref c79, .int i80, .int i81, .int i82, .int i83, .int i84])), (c74, .inl (dA 0, 4096, .inl m74)), (c75, .inl (dA 0, 16, .inl (upd m75 (x1 : Int32).toNatClampNeg x32)))] H := hP
        have hD : va_D A [(t0, .inr (11, [.int i0, .ref c1, .int i2, .int i3, .int i4, .int i5, .int i6, .int i7, .long i8, .int i9, .int i10, .ref c11, .ref c12, .ref c13, .ref c14, .ref c15, .ref c16, .int i17, .int i18, .ref c19, .ref c20, .ref c21, .ref c22, .int i23, .ref c24, .ref c25, .ref c26, .ref c27, .ref c28, .ref c29, .ref c30, .int i31, .int i32, .int i33, .int i34, .ref c35, .ref c36, .int i37, .int i38, .int i39, .int i40, .int i41, .int i42, .ref c43, .ref c44, .ref c45, .ref c46, .ref c47, .ref c48, .ref c49, .ref c50, .ref c51, .ref c52, .ref c53, .ref c54, .ref c55, .ref c56, .ref c57, .ref c58, .ref c59, .int i60, .ref c61, .int i62, .ref c63, .int i64, .int i65, .int i66, .ref c67, .ref c68, .ref c69, .ref c70, .ref c71, .ref c72, .int i73, .ref c74, .ref c75, .int i76, .int i77, .int i78, .ref c79, .int i80, .int i81, .int i82, .int i83, .int i84])), (c74, .inl (dA 0, 4096, .inl m74)), (c75, .inl (dA 0, 16, .inl (upd m75 (x1 : Int32).toNatClampNeg x32)))] := hD
        obtain ⟨f35, ef35⟩ : ∃ f : Nat → Int32, f = (upd m75 (x1 : Int32).toNatClampNeg x32) := ⟨_, rfl⟩
        rw [← ef35] at hP hD
        refine lv_aload_n hx hb dX11_plain_58 rfl (lv_at hl 1 rfl) ?_
        refine lv_aload_n hx hb dX11_plain_59 rfl (lv_at hl 1 rfl) ?_
        refine g_get hx hb hg hown hK hP 0 rfl rfl inX11 75 (by decide) q1690 rfl dX11_plain_60 ?_
        refine lv_iload_n hx hb dX11_plain_63 rfl (lv_at hl 0 rfl) ?_
        refine va_iald hx hb hK hP 2 0 rfl rfl (by rw [vp_in_iff]; omega) dX11_plain_64 ?_
        refine lv_topi (fun x36 e37 => ?_)
        refine g_Vv (n := 1) (As := [.int x36]) (rest := []) (wr := [(c74, .inl (dA 0, 4096, .inl m74))]) hx hb hml hg hown hK hP hD hS hA (s_X11_flags l D dA t0 x36 i0 c1 i2 i3 i4 i5 i6 i7 i8 i9 i10 c11 c12 c13 c14 c15 c16 i17 i18 c19 c20 c21 c22 i23 c24 c25 c26 c27 c28 c29 c30 i31 i32 i33 i34 c35 c36 i37 i38 i39 i40 i41 i42 c43 c44 c45 c46 c47 c48 c49 c50 c51 c52 c53 c54 c55 c56 c57 c58 c59 i60 c61 i62 c63 i64 i65 i66 c67 c68 c69 c70 c71 c72 i73 c74 c75 i76 i77 i78 c79 i80 i81 i82 i83 i84 f35 (by omega) (by omega) (by omega) (by omega) (by omega) (by omega) (by omega) _) [0, 2] [1] rfl (by decide) rfl (by decide) (by decide) 0 rfl rfl q2168 q160 q2165 q2167 q138 (by decide +kernel) ⟨(Nat.le_of_ble_eq_true rfl), (Nat.le_of_ble_eq_true rfl)⟩ rfl hl.1 rfl (Nat.le_of_ble_eq_true rfl) dX11_plain_65 ⟨(Nat.le_of_ble_eq_true rfl), (Nat.le_of_ble_eq_true rfl)⟩ (fun u38 H locs w40 hP hD hS => ?_)
        refine W.widen (k := 0) (n := 0) (Nat.le_of_ble_eq_true rfl) (Nat.le_of_ble_eq_true rfl) ?_
        obtain ⟨f41, rfl⟩ : ∃ z, z = u38 := ⟨_, rfl⟩
        have hP : va_P D vwC [(c74, .inl (dA 0, 4096, .inl m74)), (t0, .inr (11, [.int i0, .ref c1, .int i2, .int i3, .int i4, .int i5, .int i6, .int i7, .long i8, .int i9, .int i10, .ref c11, .ref c12, .ref c13, .ref c14, .ref c15, .ref c16, .int i17, .int i18, .ref c19, .ref c20, .ref c21, .ref c22, .int i23, .ref c24, .ref c25, .ref c26, .ref c27, .ref c28, .ref c29, .ref c30, .int i31, .int i32, .int i33, .int i34, .ref c35, .ref c36, .int i37, .int i38, .int i39, .int i40, .int i41, .int i42, .ref c43, .ref c44, .ref c45, .ref c46, .ref c47, .ref c48, .ref c49, .ref c50, .ref c51, .ref c52, .ref c53, .ref c54, .ref c55, .ref c56, .ref c57, .ref c58, .ref c59, .int i60, .ref c61, .int i62, .ref c63, .int i64, .int i65, .int i66, .ref c67, .ref c68, .ref c69, .ref c70, .ref c71, .ref c72, .int i73, .ref c74, .ref c75, .int i76, .int i77, .int i78, .ref c79, .int i80, .int i81, .int i82, .int i83, .int i84])), (c75, .inl (dA 0, 16, .inl f41))] H := hP
        have hD : va_D A [(c74, .inl (dA 0, 4096, .inl m74)), (t0, .inr (11, [.int i0, .ref c1, .int i2, .int i3, .int i4, .int i5, .int i6, .int i7, .long i8, .int i9, .int i10, .ref c11, .ref c12, .ref c13, .ref c14, .ref c15, .ref c16, .int i17, .int i18, .ref c19, .ref c20, .ref c21, .ref c22, .int i23, .ref c24, .ref c25, .ref c26, .ref c27, .ref c28, .ref c29, .ref c30, .int i31, .int i32, .int i33, .int i34, .ref c35, .ref c36, .int i37, .int i38, .int i39, .int i40, .int i41, .int i42, .ref c43, .ref c44, .ref c45, .ref c46, .ref c47, .ref c48, .ref c49, .ref c50, .ref c51, .ref c52, .ref c53, .ref c54, .ref c55, .ref c56, .ref c57, .ref c58, .ref c59, .int i60, .ref c61, .int i62, .ref c63, .int i64, .int i65, .int i66, .ref c67, .ref c68, .ref c69, .ref c70, .ref c71, .ref c72, .int i73, .ref c74, .ref c75, .int i76, .int i77, .int i78, .ref c79, .int i80, .int i81, .int i82, .int i83, .int i84])), (c75, .inl (dA 0, 16, .inl f41))] := hD
        refine lv_iconst (v := 0) hx hb dX11_plain_68 (by decide) ?_
        obtain ⟨hP, hD⟩ := g_cut (is := [1, 0, 2]) (w' := [(t0, .inr (11, [.int i0, .ref c1, .int i2, .int i3, .int i4, .int i5, .int i6, .int i7, .long i8, .int i9, .int i10, .ref c11, .ref c12, .ref c13, .ref c14, .ref c15, .ref c16, .int i17, .int i18, .ref c19, .ref c20, .ref c21, .ref c22, .int i23, .ref c24, .ref c25, .ref c26, .ref c27, .ref c28, .ref c29, .ref c30, .int i31, .int i32, .int i33, .int i34, .ref c35, .ref c36, .int i37, .int i38, .int i39, .int i40, .int i41, .int i42, .ref c43, .ref c44, .ref c45, .ref c46, .ref c47, .ref c48, .ref c49, .ref c50, .ref c51, .ref c52, .ref c53, .ref c54, .ref c55, .ref c56, .ref c57, .ref c58, .ref c59, .int i60, .ref c61, .int i62, .ref c63, .int i64, .int i65, .int i66, .ref c67, .ref c68, .ref c69, .ref c70, .ref c71, .ref c72, .int i73, .ref c74, .ref c75, .int i76, .int i77, .int i78, .ref c79, .int i80, .int i81, .int i82, .int i83, .int i84])), (c74, .inl (dA 0, 4096, .inl m74)), (c75, .inl (dA 0, 16, .inl f41))]) hP hD (by decide) rfl rfl
        exact g_iret hx hb hr rfl hlocks hK (i80, m74, f41) hP hD hS ⟨(show 0 ≤ ((0 : Int32)).toInt ∧ ((0 : Int32)).toInt ≤ 3 from by decide), p7⟩ (Nat.le_of_ble_eq_true rfl) (Nat.le_of_ble_eq_true rfl) dX11_plain_69
      · have g42 : 72 > a0.toInt := gi_nle (by decide : (72 : Int32).toInt = 72) (rfl : a0.toInt = a0.toInt) k27
        refine lv_iconst (v := 1) hx hb dX11_plain_47 (by decide) ?_
        refine lv_goto (tgt := 52) hx hb dX11_plain_48 (by decide) ?_
        refine lv_iadd hx hb dX11_plain_52 ?_
        have g43 := g_i32 x25
        refine lv_topi (fun x44 e45 => ?_)
        refine lv_ldcw hx hb hown (hg _ q1907) dX11_plain_53 ?_
        refine lv_iand hx hb dX11_plain_56 ?_
        refine lv_topi (fun x46 e47 => ?_)
        have g48 : 0 ≤ x46.toInt ∧ x46.toInt ≤ 65535 := g_msk e47 16 (by decide) (by decide) (by decide)
        refine va_iast hx hb hK hP hD hS 2 0 rfl rfl (by rw [vp_in_iff]; omega) dX11_plain_57 (fun H locs hP hD hS => ?_)
        have hP : va_P D vwC [(t0, .inr (11, [.int i0, .ref c1, .int i2, .int i3, .int i4, .int i5, .int i6, .int i7, .long i8, .int i9, .int i10, .ref c11, .ref c12, .ref c13, .ref c14, .ref c15, .ref c16, .int i17, .int i18, .ref c19, .ref c20, .ref c21, .ref c22, .int i23, .ref c24, .ref c25, .ref c26, .ref c27, .ref c28, .ref c29, .ref c30, .int i31, .int i32, .int i33, .int i34, .ref c35, .ref c36, .int i37, .int i38, .int i39, .int i40, .int i41, .int i42, .ref c43, .ref c44, .ref c45, .ref c46, .ref c47, .ref c48, .ref c49, .ref c50, .ref c51, .ref c52, .ref c53, .ref c54, .ref c55, .ref c56, .ref c57, .ref c58, .ref c59, .int i60, .ref c61, .int i62, .ref c63, .int i64, .int i65, .int i66, .ref c67, .ref c68, .ref c69, .ref c70, .ref c71, .ref c72, .int i73, .ref c74, .ref c75, .int i76, .int i77, .int i78, .ref c79, .int i80, .int i81, .int i82, .int i83, .int i84])), (c74, .inl (dA 0, 4096, .inl m74)), (c75, .inl (dA 0, 16, .inl (upd m75 (x1 : Int32).toNatClampNeg x46)))] H := hP
        have hD : va_D A [(t0, .inr (11, [.int i0, .ref c1, .int i2, .int i3, .int i4, .int i5, .int i6, .int i7, .long i8, .int i9, .int i10, .ref c11, .ref c12, .ref c13, .ref c14, .ref c15, .ref c16, .int i17, .int i18, .ref c19, .ref c20, .ref c21, .ref c22, .int i23, .ref c24, .ref c25, .ref c26, .ref c27, .ref c28, .ref c29, .ref c30, .int i31, .int i32, .int i33, .int i34, .ref c35, .ref c36, .int i37, .int i38, .int i39, .int i40, .int i41, .int i42, .ref c43, .ref c44, .ref c45, .ref c46, .ref c47, .ref c48, .ref c49, .ref c50, .ref c51, .ref c52, .ref c53, .ref c54, .ref c55, .ref c56, .ref c57, .ref c58, .ref c59, .int i60, .ref c61, .int i62, .ref c63, .int i64, .int i65, .int i66, .ref c67, .ref c68, .ref c69, .ref c70, .ref c71, .ref c72, .int i73, .ref c74, .ref c75, .int i76, .int i77, .int i78, .ref c79, .int i80, .int i81, .int i82, .int i83, .int i84])), (c74, .inl (dA 0, 4096, .inl m74)), (c75, .inl (dA 0, 16, .inl (upd m75 (x1 : Int32).toNatClampNeg x46)))] := hD
        obtain ⟨f49, ef49⟩ : ∃ f : Nat → Int32, f = (upd m75 (x1 : Int32).toNatClampNeg x46) := ⟨_, rfl⟩
        rw [← ef49] at hP hD
        refine lv_aload_n hx hb dX11_plain_58 rfl (lv_at hl 1 rfl) ?_
        refine lv_aload_n hx hb dX11_plain_59 rfl (lv_at hl 1 rfl) ?_
        refine g_get hx hb hg hown hK hP 0 rfl rfl inX11 75 (by decide) q1690 rfl dX11_plain_60 ?_
        refine lv_iload_n hx hb dX11_plain_63 rfl (lv_at hl 0 rfl) ?_
        refine va_iald hx hb hK hP 2 0 rfl rfl (by rw [vp_in_iff]; omega) dX11_plain_64 ?_
        refine lv_topi (fun x50 e51 => ?_)
        refine g_Vv (n := 1) (As := [.int x50]) (rest := []) (wr := [(c74, .inl (dA 0, 4096, .inl m74))]) hx hb hml hg hown hK hP hD hS hA (s_X11_flags l D dA t0 x50 i0 c1 i2 i3 i4 i5 i6 i7 i8 i9 i10 c11 c12 c13 c14 c15 c16 i17 i18 c19 c20 c21 c22 i23 c24 c25 c26 c27 c28 c29 c30 i31 i32 i33 i34 c35 c36 i37 i38 i39 i40 i41 i42 c43 c44 c45 c46 c47 c48 c49 c50 c51 c52 c53 c54 c55 c56 c57 c58 c59 i60 c61 i62 c63 i64 i65 i66 c67 c68 c69 c70 c71 c72 i73 c74 c75 i76 i77 i78 c79 i80 i81 i82 i83 i84 f49 (by omega) (by omega) (by omega) (by omega) (by omega) (by omega) (by omega) _) [0, 2] [1] rfl (by decide) rfl (by decide) (by decide) 0 rfl rfl q2168 q160 q2165 q2167 q138 (by decide +kernel) ⟨(Nat.le_of_ble_eq_true rfl), (Nat.le_of_ble_eq_true rfl)⟩ rfl hl.1 rfl (Nat.le_of_ble_eq_true rfl) dX11_plain_65 ⟨(Nat.le_of_ble_eq_true rfl), (Nat.le_of_ble_eq_true rfl)⟩ (fun u52 H locs w54 hP hD hS => ?_)
        refine W.widen (k := 0) (n := 0) (Nat.le_of_ble_eq_true rfl) (Nat.le_of_ble_eq_true rfl) ?_
        obtain ⟨f55, rfl⟩ : ∃ z, z = u52 := ⟨_, rfl⟩
        have hP : va_P D vwC [(c74, .inl (dA 0, 4096, .inl m74)), (t0, .inr (11, [.int i0, .ref c1, .int i2, .int i3, .int i4, .int i5, .int i6, .int i7, .long i8, .int i9, .int i10, .ref c11, .ref c12, .ref c13, .ref c14, .ref c15, .ref c16, .int i17, .int i18, .ref c19, .ref c20, .ref c21, .ref c22, .int i23, .ref c24, .ref c25, .ref c26, .ref c27, .ref c28, .ref c29, .ref c30, .int i31, .int i32, .int i33, .int i34, .ref c35, .ref c36, .int i37, .int i38, .int i39, .int i40, .int i41, .int i42, .ref c43, .ref c44, .ref c45, .ref c46, .ref c47, .ref c48, .ref c49, .ref c50, .ref c51, .ref c52, .ref c53, .ref c54, .ref c55, .ref c56, .ref c57, .ref c58, .ref c59, .int i60, .ref c61, .int i62, .ref c63, .int i64, .int i65, .int i66, .ref c67, .ref c68, .ref c69, .ref c70, .ref c71, .ref c72, .int i73, .ref c74, .ref c75, .int i76, .int i77, .int i78, .ref c79, .int i80, .int i81, .int i82, .int i83, .int i84])), (c75, .inl (dA 0, 16, .inl f55))] H := hP
        have hD : va_D A [(c74, .inl (dA 0, 4096, .inl m74)), (t0, .inr (11, [.int i0, .ref c1, .int i2, .int i3, .int i4, .int i5, .int i6, .int i7, .long i8, .int i9, .int i10, .ref c11, .ref c12, .ref c13, .ref c14, .ref c15, .ref c16, .int i17, .int i18, .ref c19, .ref c20, .ref c21, .ref c22, .int i23, .ref c24, .ref c25, .ref c26, .ref c27, .ref c28, .ref c29, .ref c30, .int i31, .int i32, .int i33, .int i34, .ref c35, .ref c36, .int i37, .int i38, .int i39, .int i40, .int i41, .int i42, .ref c43, .ref c44, .ref c45, .ref c46, .ref c47, .ref c48, .ref c49, .ref c50, .ref c51, .ref c52, .ref c53, .ref c54, .ref c55, .ref c56, .ref c57, .ref c58, .ref c59, .int i60, .ref c61, .int i62, .ref c63, .int i64, .int i65, .int i66, .ref c67, .ref c68, .ref c69, .ref c70, .ref c71, .ref c72, .int i73, .ref c74, .ref c75, .int i76, .int i77, .int i78, .ref c79, .int i80, .int i81, .int i82, .int i83, .int i84])), (c75, .inl (dA 0, 16, .inl f55))] := hD
        refine lv_iconst (v := 0) hx hb dX11_plain_68 (by decide) ?_
        obtain ⟨hP, hD⟩ := g_cut (is := [1, 0, 2]) (w' := [(t0, .inr (11, [.int i0, .ref c1, .int i2, .int i3, .int i4, .int i5, .int i6, .int i7, .long i8, .int i9, .int i10, .ref c11, .ref c12, .ref c13, .ref c14, .ref c15, .ref c16, .int i17, .int i18, .ref c19, .ref c20, .ref c21, .ref c22, .int i23, .ref c24, .ref c25, .ref c26, .ref c27, .ref c28, .ref c29, .ref c30, .int i31, .int i32, .int i33, .int i34, .ref c35, .ref c36, .int i37, .int i38, .int i39, .int i40, .int i41, .int i42, .ref c43, .ref c44, .ref c45, .ref c46, .ref c47, .ref c48, .ref c49, .ref c50, .ref c51, .ref c52, .ref c53, .ref c54, .ref c55, .ref c56, .ref c57, .ref c58, .ref c59, .int i60, .ref c61, .int i62, .ref c63, .int i64, .int i65, .int i66, .ref c67, .ref c68, .ref c69, .ref c70, .ref c71, .ref c72, .int i73, .ref c74, .ref c75, .int i76, .int i77, .int i78, .ref c79, .int i80, .int i81, .int i82, .int i83, .int i84])), (c74, .inl (dA 0, 4096, .inl m74)), (c75, .inl (dA 0, 16, .inl f55))]) hP hD (by decide) rfl rfl
        exact g_iret hx hb hr rfl hlocks hK (i80, m74, f55) hP hD hS ⟨(show 0 ≤ ((0 : Int32)).toInt ∧ ((0 : Int32)).toInt ≤ 3 from by decide), p7⟩ (Nat.le_of_ble_eq_true rfl) (Nat.le_of_ble_eq_true rfl) dX11_plain_69
  · have g56 : a0.toInt ≥ 184 := gi_nlt (rfl : a0.toInt = a0.toInt) (by decide : (184 : Int32).toInt = 184) k4
    refine lv_aload_n hx hb dX11_plain_12 rfl (lv_at hl 1 rfl) ?_
    refine g_get hx hb hg hown hK hP 0 rfl rfl inX11 75 (by decide) q1690 rfl dX11_plain_13 ?_
    refine lv_iload_n hx hb dX11_plain_16 rfl (lv_at hl 0 rfl) ?_
    refine lv_aload_n hx hb dX11_plain_17 rfl (lv_at hl 1 rfl) ?_
    refine g_Vi (n := 0) (As := []) (rest := [.int x1, .ref c75]) (wr := []) hx hb hml hg hown hK hP hD hS hA (s_X11_fetchTwo l D dA t0 i0 c1 i2 i3 i4 i5 i6 i7 i8 i9 i10 c11 c12 c13 c14 c15 c16 i17 i18 c19 c20 c21 c22 i23 c24 c25 c26 c27 c28 c29 c30 i31 i32 i33 i34 c35 c36 i37 i38 i39 i40 i41 i42 c43 c44 c45 c46 c47 c48 c49 c50 c51 c52 c53 c54 c55 c56 c57 c58 c59 i60 c61 i62 c63 i64 i65 i66 c67 c68 c69 c70 c71 c72 i73 c74 c75 i76 i77 i78 c79 i80 i81 i82 i83 i84 m74 m75 (by omega) (by omega) (by omega) (by omega) (by omega) (by omega) (by omega) p7 _) [0, 1, 2] [] rfl (by decide) rfl (by decide) (by decide) 0 rfl rfl q2148 q160 q2145 q2147 q133 (by decide +kernel) ⟨(Nat.le_of_ble_eq_true rfl), (Nat.le_of_ble_eq_true rfl)⟩ rfl hl.1 rfl (Nat.le_of_ble_eq_true rfl) dX11_plain_18 ⟨(Nat.le_of_ble_eq_true rfl), (Nat.le_of_ble_eq_true rfl)⟩ (fun x58 u57 H locs w59 hP hD hS => ?_)
    refine W.widen (k := 0) (n := 0) (Nat.le_of_ble_eq_true rfl) (Nat.le_of_ble_eq_true rfl) ?_
    obtain ⟨x60, rfl⟩ : ∃ z, z = u57 := ⟨_, rfl⟩
    have hP : va_P D vwC [(t0, .inr (11, [.int i0, .ref c1, .int i2, .int i3, .int i4, .int i5, .int i6, .int i7, .long i8, .int i9, .int i10, .ref c11, .ref c12, .ref c13, .ref c14, .ref c15, .ref c16, .int i17, .int i18, .ref c19, .ref c20, .ref c21, .ref c22, .int i23, .ref c24, .ref c25, .ref c26, .ref c27, .ref c28, .ref c29, .ref c30, .int i31, .int i32, .int i33, .int i34, .ref c35, .ref c36, .int i37, .int i38, .int i39, .int i40, .int i41, .int i42, .ref c43, .ref c44, .ref c45, .ref c46, .ref c47, .ref c48, .ref c49, .ref c50, .ref c51, .ref c52, .ref c53, .ref c54, .ref c55, .ref c56, .ref c57, .ref c58, .ref c59, .int i60, .ref c61, .int i62, .ref c63, .int i64, .int i65, .int i66, .ref c67, .ref c68, .ref c69, .ref c70, .ref c71, .ref c72, .int i73, .ref c74, .ref c75, .int i76, .int i77, .int i78, .ref c79, .int x60, .int i81, .int i82, .int i83, .int i84])), (c74, .inl (dA 0, 4096, .inl m74)), (c75, .inl (dA 0, 16, .inl m75))] H := hP
    have hD : va_D A [(t0, .inr (11, [.int i0, .ref c1, .int i2, .int i3, .int i4, .int i5, .int i6, .int i7, .long i8, .int i9, .int i10, .ref c11, .ref c12, .ref c13, .ref c14, .ref c15, .ref c16, .int i17, .int i18, .ref c19, .ref c20, .ref c21, .ref c22, .int i23, .ref c24, .ref c25, .ref c26, .ref c27, .ref c28, .ref c29, .ref c30, .int i31, .int i32, .int i33, .int i34, .ref c35, .ref c36, .int i37, .int i38, .int i39, .int i40, .int i41, .int i42, .ref c43, .ref c44, .ref c45, .ref c46, .ref c47, .ref c48, .ref c49, .ref c50, .ref c51, .ref c52, .ref c53, .ref c54, .ref c55, .ref c56, .ref c57, .ref c58, .ref c59, .int i60, .ref c61, .int i62, .ref c63, .int i64, .int i65, .int i66, .ref c67, .ref c68, .ref c69, .ref c70, .ref c71, .ref c72, .int i73, .ref c74, .ref c75, .int i76, .int i77, .int i78, .ref c79, .int x60, .int i81, .int i82, .int i83, .int i84])), (c74, .inl (dA 0, 4096, .inl m74)), (c75, .inl (dA 0, 16, .inl m75))] := hD
    refine va_iast hx hb hK hP hD hS 2 0 rfl rfl (by rw [vp_in_iff]; omega) dX11_plain_21 (fun H locs hP hD hS => ?_)
    have hP : va_P D vwC [(t0, .inr (11, [.int i0, .ref c1, .int i2, .int i3, .int i4, .int i5, .int i6, .int i7, .long i8, .int i9, .int i10, .ref c11, .ref c12, .ref c13, .ref c14, .ref c15, .ref c16, .int i17, .int i18, .ref c19, .ref c20, .ref c21, .ref c22, .int i23, .ref c24, .ref c25, .ref c26, .ref c27, .ref c28, .ref c29, .ref c30, .int i31, .int i32, .int i33, .int i34, .ref c35, .ref c36, .int i37, .int i38, .int i39, .int i40, .int i41, .int i42, .ref c43, .ref c44, .ref c45, .ref c46, .ref c47, .ref c48, .ref c49, .ref c50, .ref c51, .ref c52, .ref c53, .ref c54, .ref c55, .ref c56, .ref c57, .ref c58, .ref c59, .int i60, .ref c61, .int i62, .ref c63, .int i64, .int i65, .int i66, .ref c67, .ref c68, .ref c69, .ref c70, .ref c71, .ref c72, .int i73, .ref c74, .ref c75, .int i76, .int i77, .int i78, .ref c79, .int x60, .int i81, .int i82, .int i83, .int i84])), (c74, .inl (dA 0, 4096, .inl m74)), (c75, .inl (dA 0, 16, .inl (upd m75 (x1 : Int32).toNatClampNeg x58)))] H := hP
    have hD : va_D A [(t0, .inr (11, [.int i0, .ref c1, .int i2, .int i3, .int i4, .int i5, .int i6, .int i7, .long i8, .int i9, .int i10, .ref c11, .ref c12, .ref c13, .ref c14, .ref c15, .ref c16, .int i17, .int i18, .ref c19, .ref c20, .ref c21, .ref c22, .int i23, .ref c24, .ref c25, .ref c26, .ref c27, .ref c28, .ref c29, .ref c30, .int i31, .int i32, .int i33, .int i34, .ref c35, .ref c36, .int i37, .int i38, .int i39, .int i40, .int i41, .int i42, .ref c43, .ref c44, .ref c45, .ref c46, .ref c47, .ref c48, .ref c49, .ref c50, .ref c51, .ref c52, .ref c53, .ref c54, .ref c55, .ref c56, .ref c57, .ref c58, .ref c59, .int i60, .ref c61, .int i62, .ref c63, .int i64, .int i65, .int i66, .ref c67, .ref c68, .ref c69, .ref c70, .ref c71, .ref c72, .int i73, .ref c74, .ref c75, .int i76, .int i77, .int i78, .ref c79, .int x60, .int i81, .int i82, .int i83, .int i84])), (c74, .inl (dA 0, 4096, .inl m74)), (c75, .inl (dA 0, 16, .inl (upd m75 (x1 : Int32).toNatClampNeg x58)))] := hD
    obtain ⟨f61, ef61⟩ : ∃ f : Nat → Int32, f = (upd m75 (x1 : Int32).toNatClampNeg x58) := ⟨_, rfl⟩
    rw [← ef61] at hP hD
    refine lv_iconst (v := 0) hx hb dX11_plain_22 (by decide) ?_
    exact g_iret hx hb hr rfl hlocks hK (x60, m74, f61) hP hD hS ⟨(show 0 ≤ ((0 : Int32)).toInt ∧ ((0 : Int32)).toInt ≤ 3 from by decide), p7⟩ (Nat.le_of_ble_eq_true rfl) (Nat.le_of_ble_eq_true rfl) dX11_plain_23
set_option maxHeartbeats 4000000 in
set_option maxRecDepth 100000 in
theorem s_X11_hasForm (l : Launch) (D : va_G) (dA : Nat → ClassId) (a0 : Int32) (p0 : 0 ≤ a0.toInt ∧ a0.toInt ≤ 255) (sz : Nat) : Met l yX11_hasForm (gws yX11_hasForm cX11_hasForm 1 (some .boolean)) (gR 2 0 0) (gPre D dA [.int a0] [] sz) (va_Qi (fun (r : Int32) (u : Unit) => (0 ≤ r.toInt ∧ r.toInt ≤ 1)) (gAt D dA (va_A [] sz) (fun u : Unit => [])) (va_A [] sz)) 0 0 (va_A [] sz) := by
  refine Met.ofW (cc := cX11_hasForm) (maxL := 1) (ret := (some .boolean)) (by decide) rfl ?_
  intro p e s m args below meth c s₁ B hml hv
  obtain ⟨rfl, hsz, hP, hK, hD0⟩ := hv
  have hx := B.exec
  have hb := B.bytes
  have hr := B.returns
  have hts := atoms_spec (ws := gws yX11_hasForm cX11_hasForm 1 (some .boolean)) B.pre
  have hg : ∀ w ∈ gw, w.before _ s = true := fun w h => hts w (List.mem_cons_of_mem _ h)
  have hown : s.vm.findClass RX11 = some m.cls := findClass_of_methodNamed B.named
  have hlocks := B.notSynchronized
  subst hsz
  have hD := hD0.self (sz := s.heap.size)
  generalize hAe : va_A [] s.heap.size = A at hD ⊢
  have hA : ∀ q : Nat, s.heap.size ≤ q → A q := fun q h => by rw [← hAe]; exact Or.inr h
  have hS : va_S A s.heap s.heap [] := va_S.rf
  have hP : va_P D vwC [] s.heap := hP
  have hl := lv_entry ([.int a0]) (n := 1) (Nat.le_of_ble_eq_true rfl)
  rw [lg_entry_eq]
  generalize (lg_sl ([.int a0]) ++ List.replicate (1 - (lg_sl ([.int a0])).length) Slot.unset).toArray = ls at hl ⊢
  have hl : lv_has ls 1 [(0, .int a0)] := hl
  refine lv_iload_n hx hb dX11_hasForm_0 rfl (lv_at hl 0 rfl) ?_
  refine lv_bipush (v := 64) hx hb dX11_hasForm_1 (by decide) ?_
  refine lv_icmp_ge (tgt := 37) hx hb dX11_hasForm_3 (by decide) (fun k1 => ?_) (fun k1 => ?_)
  · have g2 : 64 ≤ a0.toInt := gi_le (by decide : (64 : Int32).toInt = 64) (rfl : a0.toInt = a0.toInt) k1
    refine lv_iload_n hx hb dX11_hasForm_37 rfl (lv_at hl 0 rfl) ?_
    refine lv_sipush (v := 129) hx hb dX11_hasForm_38 (by decide) ?_
    refine lv_icmp_eq (tgt := 93) hx hb dX11_hasForm_41 (by decide) (fun k3 => ?_) (fun k3 => ?_)
    · have g4 : a0.toInt = 129 := gi_eq (rfl : a0.toInt = a0.toInt) (by decide : (129 : Int32).toInt = 129) k3
      refine lv_iconst (v := 1) hx hb dX11_hasForm_93 (by decide) ?_
      refine lv_goto (tgt := 98) hx hb dX11_hasForm_94 (by decide) ?_
      exact g_iret hx hb hr rfl hlocks hK () hP hD hS (show 0 ≤ ((1 : Int32)).toInt ∧ ((1 : Int32)).toInt ≤ 1 from by decide) (Nat.le_of_ble_eq_true rfl) (Nat.le_of_ble_eq_true rfl) dX11_hasForm_98
    · have g5 : a0.toInt ≠ 129 := gi_neq (rfl : a0.toInt = a0.toInt) (by decide : (129 : Int32).toInt = 129) k3
      refine lv_iload_n hx hb dX11_hasForm_44 rfl (lv_at hl 0 rfl) ?_
      refine lv_sipush (v := 137) hx hb dX11_hasForm_45 (by decide) ?_
      refine lv_icmp_eq (tgt := 93) hx hb dX11_hasForm_48 (by decide) (fun k6 => ?_) (fun k6 => ?_)
      · have g7 : a0.toInt = 137 := gi_eq (rfl : a0.toInt = a0.toInt) (by decide : (137 : Int32).toInt = 137) k6
        refine lv_iconst (v := 1) hx hb dX11_hasForm_93 (by decide) ?_
        refine lv_goto (tgt := 98) hx hb dX11_hasForm_94 (by decide) ?_
        exact g_iret hx hb hr rfl hlocks hK () hP hD hS (show 0 ≤ ((1 : Int32)).toInt ∧ ((1 : Int32)).toInt ≤ 1 from by decide) (Nat.le_of_ble_eq_true rfl) (Nat.le_of_ble_eq_true rfl) dX11_hasForm_98
      · have g8 : a0.toInt ≠ 137 := gi_neq (rfl : a0.toInt = a0.toInt) (by decide : (137 : Int32).toInt = 137) k6
        refine lv_iload_n hx hb dX11_hasForm_51 rfl (lv_at hl 0 rfl) ?_
        refine lv_sipush (v := 139) hx hb dX11_hasForm_52 (by decide) ?_
        refine lv_icmp_eq (tgt := 93) hx hb dX11_hasForm_55 (by decide) (fun k9 => ?_) (fun k9 => ?_)
        · have g10 : a0.toInt = 139 := gi_eq (rfl : a0.toInt = a0.toInt) (by decide : (139 : Int32).toInt = 139) k9
          refine lv_iconst (v := 1) hx hb dX11_hasForm_93 (by decide) ?_
          refine lv_goto (tgt := 98) hx hb dX11_hasForm_94 (by decide) ?_
          exact g_iret hx hb hr rfl hlocks hK () hP hD hS (show 0 ≤ ((1 : Int32)).toInt ∧ ((1 : Int32)).toInt ≤ 1 from by decide) (Nat.le_of_ble_eq_true rfl) (Nat.le_of_ble_eq_true rfl) dX11_hasForm_98
        · have g11 : a0.toInt ≠ 139 := gi_neq (rfl : a0.toInt = a0.toInt) (by decide : (139 : Int32).toInt = 139) k9
          refine lv_iload_n hx hb dX11_hasForm_58 rfl (lv_at hl 0 rfl) ?_
          refine lv_sipush (v := 140) hx hb dX11_hasForm_59 (by decide) ?_
          refine lv_icmp_eq (tgt := 93) hx hb dX11_hasForm_62 (by decide) (fun k12 => ?_) (fun k12 => ?_)
          · have g13 : a0.toInt = 140 := gi_eq (rfl : a0.toInt = a0.toInt) (by decide : (140 : Int32).toInt = 140) k12
            refine lv_iconst (v := 1) hx hb dX11_hasForm_93 (by decide) ?_
            refine lv_goto (tgt := 98) hx hb dX11_hasForm_94 (by decide) ?_
            exact g_iret hx hb hr rfl hlocks hK () hP hD hS (show 0 ≤ ((1 : Int32)).toInt ∧ ((1 : Int32)).toInt ≤ 1 from by decide) (Nat.le_of_ble_eq_true rfl) (Nat.le_of_ble_eq_true rfl) dX11_hasForm_98
          · have g14 : a0.toInt ≠ 140 := gi_neq (rfl : a0.toInt = a0.toInt) (by decide : (140 : Int32).toInt = 140) k12
            refine lv_iload_n hx hb dX11_hasForm_65 rfl (lv_at hl 0 rfl) ?_
            refine lv_sipush (v := 142) hx hb dX11_hasForm_66 (by decide) ?_
            refine lv_icmp_eq (tgt := 93) hx hb dX11_hasForm_69 (by decide) (fun k15 => ?_) (fun k15 => ?_)
            · have g16 : a0.toInt = 142 := gi_eq (rfl : a0.toInt = a0.toInt) (by decide : (142 : Int32).toInt = 142) k15
              refine lv_iconst (v := 1) hx hb dX11_hasForm_93 (by decide) ?_
              refine lv_goto (tgt := 98) hx hb dX11_hasForm_94 (by decide) ?_
              exact g_iret hx hb hr rfl hlocks hK () hP hD hS (show 0 ≤ ((1 : Int32)).toInt ∧ ((1 : Int32)).toInt ≤ 1 from by decide) (Nat.le_of_ble_eq_true rfl) (Nat.le_of_ble_eq_true rfl) dX11_hasForm_98
            · have g17 : a0.toInt ≠ 142 := gi_neq (rfl : a0.toInt = a0.toInt) (by decide : (142 : Int32).toInt = 142) k15
              refine lv_iload_n hx hb dX11_hasForm_72 rfl (lv_at hl 0 rfl) ?_
              refine lv_sipush (v := 199) hx hb dX11_hasForm_73 (by decide) ?_
              refine lv_icmp_eq (tgt := 93) hx hb dX11_hasForm_76 (by decide) (fun k18 => ?_) (fun k18 => ?_)
              · have g19 : a0.toInt = 199 := gi_eq (rfl : a0.toInt = a0.toInt) (by decide : (199 : Int32).toInt = 199) k18
                refine lv_iconst (v := 1) hx hb dX11_hasForm_93 (by decide) ?_
                refine lv_goto (tgt := 98) hx hb dX11_hasForm_94 (by decide) ?_
                exact g_iret hx hb hr rfl hlocks hK () hP hD hS (show 0 ≤ ((1 : Int32)).toInt ∧ ((1 : Int32)).toInt ≤ 1 from by decide) (Nat.le_of_ble_eq_true rfl) (Nat.le_of_ble_eq_true rfl) dX11_hasForm_98
              · have g20 : a0.toInt ≠ 199 := gi_neq (rfl : a0.toInt = a0.toInt) (by decide : (199 : Int32).toInt = 199) k18
                refine lv_iload_n hx hb dX11_hasForm_79 rfl (lv_at hl 0 rfl) ?_
                refine lv_sipush (v := 209) hx hb dX11_hasForm_80 (by decide) ?_
                refine lv_icmp_eq (tgt := 93) hx hb dX11_hasForm_83 (by decide) (fun k21 => ?_) (fun k21 => ?_)
                · have g22 : a0.toInt = 209 := gi_eq (rfl : a0.toInt = a0.toInt) (by decide : (209 : Int32).toInt = 209) k21
                  refine lv_iconst (v := 1) hx hb dX11_hasForm_93 (by decide) ?_
                  refine lv_goto (tgt := 98) hx hb dX11_hasForm_94 (by decide) ?_
                  exact g_iret hx hb hr rfl hlocks hK () hP hD hS (show 0 ≤ ((1 : Int32)).toInt ∧ ((1 : Int32)).toInt ≤ 1 from by decide) (Nat.le_of_ble_eq_true rfl) (Nat.le_of_ble_eq_true rfl) dX11_hasForm_98
                · have g23 : a0.toInt ≠ 209 := gi_neq (rfl : a0.toInt = a0.toInt) (by decide : (209 : Int32).toInt = 209) k21
                  refine lv_iload_n hx hb dX11_hasForm_86 rfl (lv_at hl 0 rfl) ?_
                  refine lv_sipush (v := 247) hx hb dX11_hasForm_87 (by decide) ?_
                  refine lv_icmp_ne (tgt := 97) hx hb dX11_hasForm_90 (by decide) (fun k24 => ?_) (fun k24 => ?_)
                  · have g25 : a0.toInt ≠ 247 := gi_neq (rfl : a0.toInt = a0.toInt) (by decide : (247 : Int32).toInt = 247) k24
                    refine lv_iconst (v := 0) hx hb dX11_hasForm_97 (by decide) ?_
                    exact g_iret hx hb hr rfl hlocks hK () hP hD hS (show 0 ≤ ((0 : Int32)).toInt ∧ ((0 : Int32)).toInt ≤ 1 from by decide) (Nat.le_of_ble_eq_true rfl) (Nat.le_of_ble_eq_true rfl) dX11_hasForm_98
                  · have g26 : a0.toInt = 247 := gi_eq (rfl : a0.toInt = a0.toInt) (by decide : (247 : Int32).toInt = 247) k24
                    refine lv_iconst (v := 1) hx hb dX11_hasForm_93 (by decide) ?_
                    refine lv_goto (tgt := 98) hx hb dX11_hasForm_94 (by decide) ?_
                    exact g_iret hx hb hr rfl hlocks hK () hP hD hS (show 0 ≤ ((1 : Int32)).toInt ∧ ((1 : Int32)).toInt ≤ 1 from by decide) (Nat.le_of_ble_eq_true rfl) (Nat.le_of_ble_eq_true rfl) dX11_hasForm_98
  · have g27 : 64 > a0.toInt := gi_nle (by decide : (64 : Int32).toInt = 64) (rfl : a0.toInt = a0.toInt) k1
    refine lv_iload_n hx hb dX11_hasForm_6 rfl (lv_at hl 0 rfl) ?_
    refine lv_bipush (v := 8) hx hb dX11_hasForm_7 (by decide) ?_
    refine lv_irem hx hb dX11_hasForm_9 (by decide) ?_
    refine lv_topi (fun x28 e29 => ?_)
    have g30 : 0 ≤ x28.toInt ∧ x28.toInt < 8 := g_rem e29 (by decide : (8 : Int32).toInt = 8) (by decide) (by omega)
    refine lv_iconst (v := 1) hx hb dX11_hasForm_10 (by decide) ?_
    refine lv_icmp_eq (tgt := 22) hx hb dX11_hasForm_11 (by decide) (fun k31 => ?_) (fun k31 => ?_)
    · have g32 : x28.toInt = 1 := gi_eq (rfl : x28.toInt = x28.toInt) (by decide : (1 : Int32).toInt = 1) k31
      refine lv_iload_n hx hb dX11_hasForm_22 rfl (lv_at hl 0 rfl) ?_
      refine lv_iconst (v := 3) hx hb dX11_hasForm_23 (by decide) ?_
      refine lv_ishr hx hb dX11_hasForm_24 ?_
      refine lv_topi (fun x33 e34 => ?_)
      have g35 : x33.toInt * 8 ≤ a0.toInt ∧ a0.toInt < x33.toInt * 8 + 8 := g_shr e34 3 (by decide) (by decide) (by decide)
      refine g_Si (n := 1) (As := [.int x33]) (rest := []) (wr := []) hx hb hml hg hown hK hP hD hS hA (s_X11_operation l D dA x33 _) [] [] rfl (by decide) rfl (by decide) (by decide) q2136 q160 q2134 q2135 (by decide +kernel) ⟨(Nat.le_of_ble_eq_true rfl), (Nat.le_of_ble_eq_true rfl)⟩ rfl hl.1 rfl (Nat.le_of_ble_eq_true rfl) dX11_hasForm_25 ⟨(Nat.le_of_ble_eq_true rfl), (Nat.le_of_ble_eq_true rfl)⟩ (fun x37 u36 H locs w38 hP hD hS => ?_)
      refine W.widen (k := 0) (n := 0) (Nat.le_of_ble_eq_true rfl) (Nat.le_of_ble_eq_true rfl) ?_
      have hP : va_P D vwC [] H := hP
      have hD : va_D A [] := hD
      have g39 := w38
      have g39 : 0 ≤ x37.toInt ∧ x37.toInt ≤ 1 := g39
      refine lv_if_eq (tgt := 35) hx hb dX11_hasForm_28 (by decide) (fun k40 => ?_) (fun k40 => ?_)
      · have g41 : x37.toInt = 0 := gi_eq (rfl : x37.toInt = x37.toInt) (by decide : (0 : Int32).toInt = 0) k40
        refine lv_iconst (v := 0) hx hb dX11_hasForm_35 (by decide) ?_
        exact g_iret hx hb hr rfl hlocks hK () hP hD hS (show 0 ≤ ((0 : Int32)).toInt ∧ ((0 : Int32)).toInt ≤ 1 from by decide) (Nat.le_of_ble_eq_true rfl) (Nat.le_of_ble_eq_true rfl) dX11_hasForm_36
      · have g42 : x37.toInt ≠ 0 := gi_neq (rfl : x37.toInt = x37.toInt) (by decide : (0 : Int32).toInt = 0) k40
        refine lv_iconst (v := 1) hx hb dX11_hasForm_31 (by decide) ?_
        refine lv_goto (tgt := 36) hx hb dX11_hasForm_32 (by decide) ?_
        exact g_iret hx hb hr rfl hlocks hK () hP hD hS (show 0 ≤ ((1 : Int32)).toInt ∧ ((1 : Int32)).toInt ≤ 1 from by decide) (Nat.le_of_ble_eq_true rfl) (Nat.le_of_ble_eq_true rfl) dX11_hasForm_36
    · have g43 : x28.toInt ≠ 1 := gi_neq (rfl : x28.toInt = x28.toInt) (by decide : (1 : Int32).toInt = 1) k31
      refine lv_iload_n hx hb dX11_hasForm_14 rfl (lv_at hl 0 rfl) ?_
      refine lv_bipush (v := 8) hx hb dX11_hasForm_15 (by decide) ?_
      refine lv_irem hx hb dX11_hasForm_17 (by decide) ?_
      refine lv_topi (fun x44 e45 => ?_)
      have g46 : 0 ≤ x44.toInt ∧ x44.toInt < 8 := g_rem e45 (by decide : (8 : Int32).toInt = 8) (by decide) (by omega)
      refine lv_iconst (v := 3) hx hb dX11_hasForm_18 (by decide) ?_
      refine lv_icmp_ne (tgt := 35) hx hb dX11_hasForm_19 (by decide) (fun k47 => ?_) (fun k47 => ?_)
      · have g48 : x44.toInt ≠ 3 := gi_neq (rfl : x44.toInt = x44.toInt) (by decide : (3 : Int32).toInt = 3) k47
        refine lv_iconst (v := 0) hx hb dX11_hasForm_35 (by decide) ?_
        exact g_iret hx hb hr rfl hlocks hK () hP hD hS (show 0 ≤ ((0 : Int32)).toInt ∧ ((0 : Int32)).toInt ≤ 1 from by decide) (Nat.le_of_ble_eq_true rfl) (Nat.le_of_ble_eq_true rfl) dX11_hasForm_36
      · have g49 : x44.toInt = 3 := gi_eq (rfl : x44.toInt = x44.toInt) (by decide : (3 : Int32).toInt = 3) k47
        refine lv_iload_n hx hb dX11_hasForm_22 rfl (lv_at hl 0 rfl) ?_
        refine lv_iconst (v := 3) hx hb dX11_hasForm_23 (by decide) ?_
        refine lv_ishr hx hb dX11_hasForm_24 ?_
        refine lv_topi (fun x50 e51 => ?_)
        have g52 : x50.toInt * 8 ≤ a0.toInt ∧ a0.toInt < x50.toInt * 8 + 8 := g_shr e51 3 (by decide) (by decide) (by decide)
        refine g_Si (n := 1) (As := [.int x50]) (rest := []) (wr := []) hx hb hml hg hown hK hP hD hS hA (s_X11_operation l D dA x50 _) [] [] rfl (by decide) rfl (by decide) (by decide) q2136 q160 q2134 q2135 (by decide +kernel) ⟨(Nat.le_of_ble_eq_true rfl), (Nat.le_of_ble_eq_true rfl)⟩ rfl hl.1 rfl (Nat.le_of_ble_eq_true rfl) dX11_hasForm_25 ⟨(Nat.le_of_ble_eq_true rfl), (Nat.le_of_ble_eq_true rfl)⟩ (fun x54 u53 H locs w55 hP hD hS => ?_)
        refine W.widen (k := 0) (n := 0) (Nat.le_of_ble_eq_true rfl) (Nat.le_of_ble_eq_true rfl) ?_
        have hP : va_P D vwC [] H := hP
        have hD : va_D A [] := hD
        have g56 := w55
        have g56 : 0 ≤ x54.toInt ∧ x54.toInt ≤ 1 := g56
        refine lv_if_eq (tgt := 35) hx hb dX11_hasForm_28 (by decide) (fun k57 => ?_) (fun k57 => ?_)
        · have g58 : x54.toInt = 0 := gi_eq (rfl : x54.toInt = x54.toInt) (by decide : (0 : Int32).toInt = 0) k57
          refine lv_iconst (v := 0) hx hb dX11_hasForm_35 (by decide) ?_
          exact g_iret hx hb hr rfl hlocks hK () hP hD hS (show 0 ≤ ((0 : Int32)).toInt ∧ ((0 : Int32)).toInt ≤ 1 from by decide) (Nat.le_of_ble_eq_true rfl) (Nat.le_of_ble_eq_true rfl) dX11_hasForm_36
        · have g59 : x54.toInt ≠ 0 := gi_neq (rfl : x54.toInt = x54.toInt) (by decide : (0 : Int32).toInt = 0) k57
          refine lv_iconst (v := 1) hx hb dX11_hasForm_31 (by decide) ?_
          refine lv_goto (tgt := 36) hx hb dX11_hasForm_32 (by decide) ?_
          exact g_iret hx hb hr rfl hlocks hK () hP hD hS (show 0 ≤ ((1 : Int32)).toInt ∧ ((1 : Int32)).toInt ≤ 1 from by decide) (Nat.le_of_ble_eq_true rfl) (Nat.le_of_ble_eq_true rfl) dX11_hasForm_36
