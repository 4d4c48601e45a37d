theorem q136 : Cond.selects RX11 yX11_get yX11_get ∈ gw := gw_in (i := 136) (by decide +kernel) rfl
theorem q138 : Cond.selects RX11 yX11_flags yX11_flags ∈ gw := gw_in (i := 138) (by decide +kernel) rfl
theorem q140 : Cond.selects RX11 yX11_store yX11_store ∈ gw := gw_in (i := 140) (by decide +kernel) rfl
theorem q1696 : Cond.fieldLink RX11 542 "SegmentBenchModel" "form" "I" ∈ gw := gw_in (i := 1696) (by decide +kernel) rfl
theorem q1698 : Cond.fieldLink RX11 557 "SegmentBenchModel" "formS" "I" ∈ gw := gw_in (i := 1698) (by decide +kernel) rfl
theorem q1699 : Cond.fieldLink RX11 554 "SegmentBenchModel" "formX" "I" ∈ gw := gw_in (i := 1699) (by decide +kernel) rfl
theorem q2157 : Cond.methodLink RX11 560 yX11_get ∈ gw := gw_in (i := 2157) (by decide +kernel) rfl
theorem q2159 : Cond.instanceMethod yX11_get ∈ gw := gw_in (i := 2159) (by decide +kernel) rfl
theorem q2160 : Cond.code yX11_get cX11_get 3 (some .int) ∈ gw := gw_in (i := 2160) (by decide +kernel) rfl
theorem q2165 : Cond.methodLink RX11 566 yX11_flags ∈ gw := gw_in (i := 2165) (by decide +kernel) rfl
theorem q2167 : Cond.instanceMethod yX11_flags ∈ gw := gw_in (i := 2167) (by decide +kernel) rfl
theorem q2168 : Cond.code yX11_flags cX11_flags 2 none ∈ gw := gw_in (i := 2168) (by decide +kernel) rfl
theorem q2173 : Cond.methodLink RX11 563 yX11_store ∈ gw := gw_in (i := 2173) (by decide +kernel) rfl
theorem q2175 : Cond.instanceMethod yX11_store ∈ gw := gw_in (i := 2175) (by decide +kernel) rfl
theorem q2176 : Cond.code yX11_store cX11_store 4 none ∈ gw := gw_in (i := 2176) (by decide +kernel) rfl
theorem dX11_flags_0 : decode cX11_flags 0 = .ok (.aload_n 0, 1) := by decide +kernel
theorem dX11_flags_1 : decode cX11_flags 1 = .ok (.getfield 253, 3) := by decide +kernel
theorem dX11_flags_4 : decode cX11_flags 4 = .ok (.bipush 14, 2) := by decide +kernel
theorem dX11_flags_6 : decode cX11_flags 6 = .ok (.iload_n 1, 1) := by decide +kernel
theorem dX11_flags_7 : decode cX11_flags 7 = .ok (.ldc_w 300, 3) := by decide +kernel
theorem dX11_flags_10 : decode cX11_flags 10 = .ok (.iand, 1) := by decide +kernel
theorem dX11_flags_11 : decode cX11_flags 11 = .ok (.ifCond .ne 7, 3) := by decide +kernel
theorem dX11_flags_18 : decode cX11_flags 18 = .ok (.iconst 0, 1) := by decide +kernel
theorem dX11_flags_19 : decode cX11_flags 19 = .ok (.iastore, 1) := by decide +kernel
theorem dX11_flags_20 : decode cX11_flags 20 = .ok (.aload_n 0, 1) := by decide +kernel
theorem dX11_flags_21 : decode cX11_flags 21 = .ok (.getfield 253, 3) := by decide +kernel
theorem dX11_flags_24 : decode cX11_flags 24 = .ok (.bipush 15, 2) := by decide +kernel
theorem dX11_flags_26 : decode cX11_flags 26 = .ok (.iload_n 1, 1) := by decide +kernel
theorem dX11_flags_27 : decode cX11_flags 27 = .ok (.bipush 15, 2) := by decide +kernel
theorem dX11_flags_29 : decode cX11_flags 29 = .ok (.ishr, 1) := by decide +kernel
theorem dX11_flags_30 : decode cX11_flags 30 = .ok (.iconst 1, 1) := by decide +kernel
theorem dX11_flags_31 : decode cX11_flags 31 = .ok (.iand, 1) := by decide +kernel
theorem dX11_flags_32 : decode cX11_flags 32 = .ok (.iastore, 1) := by decide +kernel
theorem dX11_flags_33 : decode cX11_flags 33 = .ok (.return_, 1) := by decide +kernel
theorem dX11_flags_14 : decode cX11_flags 14 = .ok (.iconst 1, 1) := by decide +kernel
theorem dX11_flags_15 : decode cX11_flags 15 = .ok (.goto 4, 3) := by decide +kernel
theorem dX11_reckoned_0 : decode cX11_reckoned 0 = .ok (.iload_n 1, 1) := by decide +kernel
theorem dX11_reckoned_1 : decode cX11_reckoned 1 = .ok (.tableswitch 75 0 6 #[43, 51, 75, 75, 59, 75, 67], 43) := by decide +kernel
theorem dX11_reckoned_44 : decode cX11_reckoned 44 = .ok (.iload_n 2, 1) := by decide +kernel
theorem dX11_reckoned_45 : decode cX11_reckoned 45 = .ok (.iload_n 3, 1) := by decide +kernel
theorem dX11_reckoned_46 : decode cX11_reckoned 46 = .ok (.iadd, 1) := by decide +kernel
theorem dX11_reckoned_47 : decode cX11_reckoned 47 = .ok (.istore 4, 2) := by decide +kernel
theorem dX11_reckoned_49 : decode cX11_reckoned 49 = .ok (.goto 32, 3) := by decide +kernel
theorem dX11_reckoned_81 : decode cX11_reckoned 81 = .ok (.aload_n 0, 1) := by decide +kernel
theorem dX11_reckoned_82 : decode cX11_reckoned 82 = .ok (.getfield 253, 3) := by decide +kernel
theorem dX11_reckoned_85 : decode cX11_reckoned 85 = .ok (.bipush 13, 2) := by decide +kernel
theorem dX11_reckoned_87 : decode cX11_reckoned 87 = .ok (.iload 4, 2) := by decide +kernel
theorem dX11_reckoned_89 : decode cX11_reckoned 89 = .ok (.bipush 16, 2) := by decide +kernel
theorem dX11_reckoned_91 : decode cX11_reckoned 91 = .ok (.ishr, 1) := by decide +kernel
theorem dX11_reckoned_92 : decode cX11_reckoned 92 = .ok (.iconst 1, 1) := by decide +kernel
theorem dX11_reckoned_93 : decode cX11_reckoned 93 = .ok (.iand, 1) := by decide +kernel
theorem dX11_reckoned_94 : decode cX11_reckoned 94 = .ok (.iastore, 1) := by decide +kernel
theorem dX11_reckoned_95 : decode cX11_reckoned 95 = .ok (.aload_n 0, 1) := by decide +kernel
theorem dX11_reckoned_96 : decode cX11_reckoned 96 = .ok (.iload 4, 2) := by decide +kernel
theorem dX11_reckoned_98 : decode cX11_reckoned 98 = .ok (.invokevirtual 566, 3) := by decide +kernel
theorem dX11_reckoned_101 : decode cX11_reckoned 101 = .ok (.iload 4, 2) := by decide +kernel
theorem dX11_reckoned_103 : decode cX11_reckoned 103 = .ok (.ldc_w 300, 3) := by decide +kernel
theorem dX11_reckoned_106 : decode cX11_reckoned 106 = .ok (.iand, 1) := by decide +kernel
theorem dX11_reckoned_107 : decode cX11_reckoned 107 = .ok (.ireturn, 1) := by decide +kernel
theorem dX11_reckoned_52 : decode cX11_reckoned 52 = .ok (.iload_n 2, 1) := by decide +kernel
theorem dX11_reckoned_53 : decode cX11_reckoned 53 = .ok (.iload_n 3, 1) := by decide +kernel
theorem dX11_reckoned_54 : decode cX11_reckoned 54 = .ok (.ior, 1) := by decide +kernel
theorem dX11_reckoned_55 : decode cX11_reckoned 55 = .ok (.istore 4, 2) := by decide +kernel
theorem dX11_reckoned_57 : decode cX11_reckoned 57 = .ok (.goto 24, 3) := by decide +kernel
theorem dX11_reckoned_76 : decode cX11_reckoned 76 = .ok (.iload_n 2, 1) := by decide +kernel
theorem dX11_reckoned_77 : decode cX11_reckoned 77 = .ok (.iload_n 3, 1) := by decide +kernel
theorem dX11_reckoned_78 : decode cX11_reckoned 78 = .ok (.isub, 1) := by decide +kernel
theorem dX11_reckoned_79 : decode cX11_reckoned 79 = .ok (.istore 4, 2) := by decide +kernel
theorem dX11_reckoned_60 : decode cX11_reckoned 60 = .ok (.iload_n 2, 1) := by decide +kernel
theorem dX11_reckoned_61 : decode cX11_reckoned 61 = .ok (.iload_n 3, 1) := by decide +kernel
theorem dX11_reckoned_62 : decode cX11_reckoned 62 = .ok (.iand, 1) := by decide +kernel
theorem dX11_reckoned_63 : decode cX11_reckoned 63 = .ok (.istore 4, 2) := by decide +kernel
theorem dX11_reckoned_65 : decode cX11_reckoned 65 = .ok (.goto 16, 3) := by decide +kernel
theorem dX11_reckoned_68 : decode cX11_reckoned 68 = .ok (.iload_n 2, 1) := by decide +kernel
theorem dX11_reckoned_69 : decode cX11_reckoned 69 = .ok (.iload_n 3, 1) := by decide +kernel
theorem dX11_reckoned_70 : decode cX11_reckoned 70 = .ok (.ixor, 1) := by decide +kernel
theorem dX11_reckoned_71 : decode cX11_reckoned 71 = .ok (.istore 4, 2) := by decide +kernel
theorem dX11_reckoned_73 : decode cX11_reckoned 73 = .ok (.goto 8, 3) := by decide +kernel
theorem dX11_operation_0 : decode cX11_operation 0 = .ok (.iload_n 0, 1) := by decide +kernel
theorem dX11_operation_1 : decode cX11_operation 1 = .ok (.ifCond .eq 19, 3) := by decide +kernel
theorem dX11_operation_20 : decode cX11_operation 20 = .ok (.iconst 1, 1) := by decide +kernel
theorem dX11_operation_21 : decode cX11_operation 21 = .ok (.goto 4, 3) := by decide +kernel
theorem dX11_operation_25 : decode cX11_operation 25 = .ok (.ireturn, 1) := by decide +kernel
theorem dX11_operation_4 : decode cX11_operation 4 = .ok (.iload_n 0, 1) := by decide +kernel
theorem dX11_operation_5 : decode cX11_operation 5 = .ok (.iconst 1, 1) := by decide +kernel
theorem dX11_operation_6 : decode cX11_operation 6 = .ok (.if_icmp .eq 14, 3) := by decide +kernel
theorem dX11_operation_9 : decode cX11_operation 9 = .ok (.iload_n 0, 1) := by decide +kernel
theorem dX11_operation_10 : decode cX11_operation 10 = .ok (.iconst 4, 1) := by decide +kernel
theorem dX11_operation_11 : decode cX11_operation 11 = .ok (.if_icmp .lt 13, 3) := by decide +kernel
theorem dX11_operation_24 : decode cX11_operation 24 = .ok (.iconst 0, 1) := by decide +kernel
theorem dX11_operation_14 : decode cX11_operation 14 = .ok (.iload_n 0, 1) := by decide +kernel
theorem dX11_operation_15 : decode cX11_operation 15 = .ok (.bipush 7, 2) := by decide +kernel
theorem dX11_operation_17 : decode cX11_operation 17 = .ok (.if_icmp .gt 7, 3) := by decide +kernel
theorem dX11_push_0 : decode cX11_push 0 = .ok (.aload_n 0, 1) := by decide +kernel
theorem dX11_push_1 : decode cX11_push 1 = .ok (.getfield 253, 3) := by decide +kernel
theorem dX11_push_4 : decode cX11_push 4 = .ok (.iconst 4, 1) := by decide +kernel
theorem dX11_push_5 : decode cX11_push 5 = .ok (.aload_n 0, 1) := by decide +kernel
theorem dX11_push_6 : decode cX11_push 6 = .ok (.getfield 253, 3) := by decide +kernel
theorem dX11_push_9 : decode cX11_push 9 = .ok (.iconst 4, 1) := by decide +kernel
theorem dX11_push_10 : decode cX11_push 10 = .ok (.iaload, 1) := by decide +kernel
theorem dX11_push_11 : decode cX11_push 11 = .ok (.iconst 2, 1) := by decide +kernel
theorem dX11_push_12 : decode cX11_push 12 = .ok (.isub, 1) := by decide +kernel
theorem dX11_push_13 : decode cX11_push 13 = .ok (.ldc_w 300, 3) := by decide +kernel
theorem dX11_push_16 : decode cX11_push 16 = .ok (.iand, 1) := by decide +kernel
theorem dX11_push_17 : decode cX11_push 17 = .ok (.iastore, 1) := by decide +kernel
theorem dX11_push_18 : decode cX11_push 18 = .ok (.aload_n 0, 1) := by decide +kernel
theorem dX11_push_19 : decode cX11_push 19 = .ok (.aload_n 0, 1) := by decide +kernel
theorem dX11_push_20 : decode cX11_push 20 = .ok (.getfield 253, 3) := by decide +kernel
theorem dX11_push_23 : decode cX11_push 23 = .ok (.bipush 10, 2) := by decide +kernel
theorem dX11_push_25 : decode cX11_push 25 = .ok (.iaload, 1) := by decide +kernel
theorem dX11_push_26 : decode cX11_push 26 = .ok (.aload_n 0, 1) := by decide +kernel
theorem dX11_push_27 : decode cX11_push 27 = .ok (.getfield 253, 3) := by decide +kernel
theorem dX11_push_30 : decode cX11_push 30 = .ok (.iconst 4, 1) := by decide +kernel
theorem dX11_push_31 : decode cX11_push 31 = .ok (.iaload, 1) := by decide +kernel
theorem dX11_push_32 : decode cX11_push 32 = .ok (.iload_n 1, 1) := by decide +kernel
theorem dX11_push_33 : decode cX11_push 33 = .ok (.invokevirtual 563, 3) := by decide +kernel
theorem dX11_push_36 : decode cX11_push 36 = .ok (.return_, 1) := by decide +kernel
theorem dX11_pop_0 : decode cX11_pop 0 = .ok (.aload_n 0, 1) := by decide +kernel
theorem dX11_pop_1 : decode cX11_pop 1 = .ok (.aload_n 0, 1) := by decide +kernel
theorem dX11_pop_2 : decode cX11_pop 2 = .ok (.getfield 253, 3) := by decide +kernel
theorem dX11_pop_5 : decode cX11_pop 5 = .ok (.bipush 10, 2) := by decide +kernel
theorem dX11_pop_7 : decode cX11_pop 7 = .ok (.iaload, 1) := by decide +kernel
theorem dX11_pop_8 : decode cX11_pop 8 = .ok (.aload_n 0, 1) := by decide +kernel
theorem dX11_pop_9 : decode cX11_pop 9 = .ok (.getfield 253, 3) := by decide +kernel
theorem dX11_pop_12 : decode cX11_pop 12 = .ok (.iconst 4, 1) := by decide +kernel
theorem dX11_pop_13 : decode cX11_pop 13 = .ok (.iaload, 1) := by decide +kernel
theorem dX11_pop_14 : decode cX11_pop 14 = .ok (.invokevirtual 560, 3) := by decide +kernel
theorem dX11_pop_17 : decode cX11_pop 17 = .ok (.istore_n 1, 1) := by decide +kernel
theorem dX11_pop_18 : decode cX11_pop 18 = .ok (.aload_n 0, 1) := by decide +kernel
theorem dX11_pop_19 : decode cX11_pop 19 = .ok (.getfield 253, 3) := by decide +kernel
theorem dX11_pop_22 : decode cX11_pop 22 = .ok (.iconst 4, 1) := by decide +kernel
theorem dX11_pop_23 : decode cX11_pop 23 = .ok (.aload_n 0, 1) := by decide +kernel
theorem dX11_pop_24 : decode cX11_pop 24 = .ok (.getfield 253, 3) := by decide +kernel
theorem dX11_pop_27 : decode cX11_pop 27 = .ok (.iconst 4, 1) := by decide +kernel
theorem dX11_pop_28 : decode cX11_pop 28 = .ok (.iaload, 1) := by decide +kernel
theorem dX11_pop_29 : decode cX11_pop 29 = .ok (.iconst 2, 1) := by decide +kernel
theorem dX11_pop_30 : decode cX11_pop 30 = .ok (.iadd, 1) := by decide +kernel
theorem dX11_pop_31 : decode cX11_pop 31 = .ok (.ldc_w 300, 3) := by decide +kernel
theorem dX11_pop_34 : decode cX11_pop 34 = .ok (.iand, 1) := by decide +kernel
theorem dX11_pop_35 : decode cX11_pop 35 = .ok (.iastore, 1) := by decide +kernel
theorem dX11_pop_36 : decode cX11_pop 36 = .ok (.iload_n 1, 1) := by decide +kernel
theorem dX11_pop_37 : decode cX11_pop 37 = .ok (.ireturn, 1) := by decide +kernel
theorem dX11_formGet_0 : decode cX11_formGet 0 = .ok (.aload_n 0, 1) := by decide +kernel
theorem dX11_formGet_1 : decode cX11_formGet 1 = .ok (.getfield 542, 3) := by decide +kernel
theorem dX11_formGet_4 : decode cX11_formGet 4 = .ok (.bipush 6, 2) := by decide +kernel
theorem dX11_formGet_6 : decode cX11_formGet 6 = .ok (.ishr, 1) := by decide +kernel
theorem dX11_formGet_7 : decode cX11_formGet 7 = .ok (.iconst 3, 1) := by decide +kernel
theorem dX11_formGet_8 : decode cX11_formGet 8 = .ok (.if_icmp .ne 18, 3) := by decide +kernel
theorem dX11_formGet_26 : decode cX11_formGet 26 = .ok (.aload_n 0, 1) := by decide +kernel
theorem dX11_formGet_27 : decode cX11_formGet 27 = .ok (.aload_n 0, 1) := by decide +kernel
theorem dX11_formGet_28 : decode cX11_formGet 28 = .ok (.getfield 253, 3) := by decide +kernel
theorem dX11_formGet_31 : decode cX11_formGet 31 = .ok (.aload_n 0, 1) := by decide +kernel
theorem dX11_formGet_32 : decode cX11_formGet 32 = .ok (.getfield 557, 3) := by decide +kernel
theorem dX11_formGet_35 : decode cX11_formGet 35 = .ok (.iaload, 1) := by decide +kernel
theorem dX11_formGet_36 : decode cX11_formGet 36 = .ok (.aload_n 0, 1) := by decide +kernel
theorem dX11_formGet_37 : decode cX11_formGet 37 = .ok (.getfield 554, 3) := by decide +kernel
theorem dX11_formGet_40 : decode cX11_formGet 40 = .ok (.invokevirtual 560, 3) := by decide +kernel
theorem dX11_formGet_43 : decode cX11_formGet 43 = .ok (.ireturn, 1) := by decide +kernel
theorem dX11_formGet_11 : decode cX11_formGet 11 = .ok (.aload_n 0, 1) := by decide +kernel
theorem dX11_formGet_12 : decode cX11_formGet 12 = .ok (.getfield 253, 3) := by decide +kernel
theorem dX11_formGet_15 : decode cX11_formGet 15 = .ok (.aload_n 0, 1) := by decide +kernel
theorem dX11_formGet_16 : decode cX11_formGet 16 = .ok (.getfield 542, 3) := by decide +kernel
theorem dX11_formGet_19 : decode cX11_formGet 19 = .ok (.bipush 7, 2) := by decide +kernel
theorem dX11_formGet_21 : decode cX11_formGet 21 = .ok (.iand, 1) := by decide +kernel
theorem dX11_formGet_22 : decode cX11_formGet 22 = .ok (.iaload, 1) := by decide +kernel
theorem dX11_formGet_23 : decode cX11_formGet 23 = .ok (.goto 20, 3) := by decide +kernel
theorem dX11_formSet_0 : decode cX11_formSet 0 = .ok (.aload_n 0, 1) := by decide +kernel
theorem dX11_formSet_1 : decode cX11_formSet 1 = .ok (.getfield 542, 3) := by decide +kernel
theorem dX11_formSet_4 : decode cX11_formSet 4 = .ok (.bipush 6, 2) := by decide +kernel
theorem dX11_formSet_6 : decode cX11_formSet 6 = .ok (.ishr, 1) := by decide +kernel
theorem dX11_formSet_7 : decode cX11_formSet 7 = .ok (.iconst 3, 1) := by decide +kernel
theorem dX11_formSet_8 : decode cX11_formSet 8 = .ok (.if_icmp .ne 23, 3) := by decide +kernel
theorem dX11_formSet_31 : decode cX11_formSet 31 = .ok (.aload_n 0, 1) := by decide +kernel
theorem dX11_formSet_32 : decode cX11_formSet 32 = .ok (.aload_n 0, 1) := by decide +kernel
theorem dX11_formSet_33 : decode cX11_formSet 33 = .ok (.getfield 253, 3) := by decide +kernel
theorem dX11_formSet_36 : decode cX11_formSet 36 = .ok (.aload_n 0, 1) := by decide +kernel
theorem dX11_formSet_37 : decode cX11_formSet 37 = .ok (.getfield 557, 3) := by decide +kernel
theorem dX11_formSet_40 : decode cX11_formSet 40 = .ok (.iaload, 1) := by decide +kernel
theorem dX11_formSet_41 : decode cX11_formSet 41 = .ok (.aload_n 0, 1) := by decide +kernel
theorem dX11_formSet_42 : decode cX11_formSet 42 = .ok (.getfield 554, 3) := by decide +kernel
theorem dX11_formSet_45 : decode cX11_formSet 45 = .ok (.iload_n 1, 1) := by decide +kernel
theorem dX11_formSet_46 : decode cX11_formSet 46 = .ok (.invokevirtual 563, 3) := by decide +kernel
theorem dX11_formSet_49 : decode cX11_formSet 49 = .ok (.return_, 1) := by decide +kernel
theorem dX11_formSet_11 : decode cX11_formSet 11 = .ok (.aload_n 0, 1) := by decide +kernel
theorem dX11_formSet_12 : decode cX11_formSet 12 = .ok (.getfield 253, 3) := by decide +kernel
theorem dX11_formSet_15 : decode cX11_formSet 15 = .ok (.aload_n 0, 1) := by decide +kernel
theorem dX11_formSet_16 : decode cX11_formSet 16 = .ok (.getfield 542, 3) := by decide +kernel
theorem dX11_formSet_19 : decode cX11_formSet 19 = .ok (.bipush 7, 2) := by decide +kernel
theorem dX11_formSet_21 : decode cX11_formSet 21 = .ok (.iand, 1) := by decide +kernel
theorem dX11_formSet_22 : decode cX11_formSet 22 = .ok (.iload_n 1, 1) := by decide +kernel
theorem dX11_formSet_23 : decode cX11_formSet 23 = .ok (.ldc_w 300, 3) := by decide +kernel
theorem dX11_formSet_26 : decode cX11_formSet 26 = .ok (.iand, 1) := by decide +kernel
theorem dX11_formSet_27 : decode cX11_formSet 27 = .ok (.iastore, 1) := by decide +kernel
theorem dX11_formSet_28 : decode cX11_formSet 28 = .ok (.goto 21, 3) := by decide +kernel
set_option maxHeartbeats 4000000 in
set_option maxRecDepth 100000 in
theorem s_X11_flags (l : Launch) (D : va_G) (dA : Nat → ClassId) (t0 : Nat) (a0 : Int32) (i0 : Int32) (c1 : Nat) (i2 : Int32) (i3 : Int32) (i4 : Int32) (i5 : Int32) (i6 : Int32) (i7 : Int32) (i8 : Int64) (i9 : Int32) (i10 : Int32) (c11 : Nat) (c12 : Nat) (c13 : Nat) (c14 : Nat) (c15 : Nat) (c16 : Nat) (i17 : Int32) (i18 : Int32) (c19 : Nat) (c20 : Nat) (c21 : Nat) (c22 : Nat) (i23 : Int32) (c24 : Nat) (c25 : Nat) (c26 : Nat) (c27 : Nat) (c28 : Nat) (c29 : Nat) (c30 : Nat) (i31 : Int32) (i32 : Int32) (i33 : Int32) (i34 : Int32) (c35 : Nat) (c36 : Nat) (i37 : Int32) (i38 : Int32) (i39 : Int32) (i40 : Int32) (i41 : Int32) (i42 : Int32) (c43 : Nat) (c44 : Nat) (c45 : Nat) (c46 : Nat) (c47 : Nat) (c48 : Nat) (c49 : Nat) (c50 : Nat) (c51 : Nat) (c52 : Nat) (c53 : Nat) (c54 : Nat) (c55 : Nat) (c56 : Nat) (c57 : Nat) (c58 : Nat) (c59 : Nat) (i60 : Int32) (c61 : Nat) (i62 : Int32) (c63 : Nat) (i64 : Int32) (i65 : Int32) (i66 : Int32) (c67 : Nat) (c68 : Nat) (c69 : Nat) (c70 : Nat) (c71 : Nat) (c72 : Nat) (i73 : Int32) (c74 : Nat) (c75 : Nat) (i76 : Int32) (i77 : Int32) (i78 : Int32) (c79 : Nat) (i80 : Int32) (i81 : Int32) (i82 : Int32) (i83 : Int32) (i84 : Int32) (m75 : Nat → Int32) (p0 : 0 ≤ i33.toInt ∧ i33.toInt ≤ 1) (p1 : 0 ≤ i60.toInt ∧ i60.toInt ≤ 1) (p2 : 0 ≤ i76.toInt ∧ i76.toInt ≤ 1) (p3 : 0 ≤ i78.toInt ∧ i78.toInt ≤ 1000000) (p4 : 0 ≤ i81.toInt ∧ i81.toInt ≤ 255) (p5 : 0 ≤ i82.toInt ∧ i82.toInt ≤ 7) (p6 : 0 ≤ i83.toInt ∧ i83.toInt ≤ 15) (sz : Nat) : Met l yX11_flags (gws yX11_flags cX11_flags 2 none) (gR 1 0 0) (gPre D dA [.ref t0, .int a0] [(t0, .inr (11, [.int i0, .ref c1, .int i2, .int i3, .int i4, .int i5, .int i6, .int i7, .long i8, .int i9, .int i10, .ref c11, .ref c12, .ref c13, .ref c14, .ref c15, .ref c16, .int i17, .int i18, .ref c19, .ref c20, .ref c21, .ref c22, .int i23, .ref c24, .ref c25, .ref c26, .ref c27, .ref c28, .ref c29, .ref c30, .int i31, .int i32, .int i33, .int i34, .ref c35, .ref c36, .int i37, .int i38, .int i39, .int i40, .int i41, .int i42, .ref c43, .ref c44, .ref c45, .ref c46, .ref c47, .ref c48, .ref c49, .ref c50, .ref c51, .ref c52, .ref c53, .ref c54, .ref c55, .ref c56, .ref c57, .ref c58, .ref c59, .int i60, .ref c61, .int i62, .ref c63, .int i64, .int i65, .int i66, .ref c67, .ref c68, .ref c69, .ref c70, .ref c71, .ref c72, .int i73, .ref c74, .ref c75, .int i76, .int i77, .int i78, .ref c79, .int i80, .int i81, .int i82, .int i83, .int i84])), (c75, .inl (dA 0, 16, .inl m75))] sz) (va_Qv (fun u : (Nat → Int32) => True) (gAt D dA (va_A [(t0, .inr (11, [.int i0, .ref c1, .int i2, .int i3, .int i4, .int i5, .int i6, .int i7, .long i8, .int i9, .int i10, .ref c11, .ref c12, .ref c13, .ref c14, .ref c15, .ref c16, .int i17, .int i18, .ref c19, .ref c20, .ref c21, .ref c22, .int i23, .ref c24, .ref c25, .ref c26, .ref c27, .ref c28, .ref c29, .ref c30, .int i31, .int i32, .int i33, .int i34, .ref c35, .ref c36, .int i37, .int i38, .int i39, .int i40, .int i41, .int i42, .ref c43, .ref c44, .ref c45, .ref c46, .ref c47, .ref c48, .ref c49, .ref c50, .ref c51, .ref c52, .ref c53, .ref c54, .ref c55, .ref c56, .ref c57, .ref c58, .ref c59, .int i60, .ref c61, .int i62, .ref c63, .int i64, .int i65, .int i66, .ref c67, .ref c68, .ref c69, .ref c70, .ref c71, .ref c72, .int i73, .ref c74, .ref c75, .int i76, .int i77, .int i78, .ref c79, .int i80, .int i81, .int i82, .int i83, .int i84])), (c75, .inl (dA 0, 16, .inl m75))] sz) (fun u : (Nat → Int32) => [(t0, .inr (11, [.int i0, .ref c1, .int i2, .int i3, .int i4, .int i5, .int i6, .int i7, .long i8, .int i9, .int i10, .ref c11, .ref c12, .ref c13, .ref c14, .ref c15, .ref c16, .int i17, .int i18, .ref c19, .ref c20, .ref c21, .ref c22, .int i23, .ref c24, .ref c25, .ref c26, .ref c27, .ref c28, .ref c29, .ref c30, .int i31, .int i32, .int i33, .int i34, .ref c35, .ref c36, .int i37, .int i38, .int i39, .int i40, .int i41, .int i42, .ref c43, .ref c44, .ref c45, .ref c46, .ref c47, .ref c48, .ref c49, .ref c50, .ref c51, .ref c52, .ref c53, .ref c54, .ref c55, .ref c56, .ref c57, .ref c58, .ref c59, .int i60, .ref c61, .int i62, .ref c63, .int i64, .int i65, .int i66, .ref c67, .ref c68, .ref c69, .ref c70, .ref c71, .ref c72, .int i73, .ref c74, .ref c75, .int i76, .int i77, .int i78, .ref c79, .int i80, .int i81, .int i82, .int i83, .int i84])), (c75, .inl (dA 0, 16, .inl u))])) (va_A [(t0, .inr (11, [.int i0, .ref c1, .int i2, .int i3, .int i4, .int i5, .int i6, .int i7, .long i8, .int i9, .int i10, .ref c11, .ref c12, .ref c13, .ref c14, .ref c15, .ref c16, .int i17, .int i18, .ref c19, .ref c20, .ref c21, .ref c22, .int i23, .ref c24, .ref c25, .ref c26, .ref c27, .ref c28, .ref c29, .ref c30, .int i31, .int i32, .int i33, .int i34, .ref c35, .ref c36, .int i37, .int i38, .int i39, .int i40, .int i41, .int i42, .ref c43, .ref c44, .ref c45, .ref c46, .ref c47, .ref c48, .ref c49, .ref c50, .ref c51, .ref c52, .ref c53, .ref c54, .ref c55, .ref c56, .ref c57, .ref c58, .ref c59, .int i60, .ref c61, .int i62, .ref c63, .int i64, .int i65, .int i66, .ref c67, .ref c68, .ref c69, .ref c70, .ref c71, .ref c72, .int i73, .ref c74, .ref c75, .int i76, .int i77, .int i78, .ref c79, .int i80, .int i81, .int i82, .int i83, .int i84])), (c75, .inl (dA 0, 16, .inl m75))] sz)) 0 0 (va_A [(t0, .inr (11, [.int i0, .ref c1, .int i2, .int i3, .int i4, .int i5, .int i6, .int i7, .long i8, .int i9, .int i10, .ref c11, .ref c12, .ref c13, .ref c14, .ref c15, .ref c16, .int i17, .int i18, .ref c19, .ref c20, .ref c21, .ref c22, .int i23, .ref c24, .ref c25, .ref c26, .ref c27, .ref c28, .ref c29, .ref c30, .int i31, .int i32, .int i33, .int i34, .ref c35, .ref c36, .int i37, .int i38, .int i39, .int i40, .int i41, .int i42, .ref c43, .ref c44, .ref c45, .ref c46, .ref c47, .ref c48, .ref c49, .ref c50, .ref c51, .ref c52, .ref c53, .ref c54, .ref c55, .ref c56, .ref c57, .ref c58, .ref c59, .int i60, .ref c61, .int i62, .ref c63, .int i64, .int i65, .int i66, .ref c67, .ref c68, .ref c69, .ref c70, .ref c71, .ref c72, .int i73, .ref c74, .ref c75, .int i76, .int i77, .int i78, .ref c79, .int i80, .int i81, .int i82, .int i83, .int i84])), (c75, .inl (dA 0, 16, .inl m75))] sz) := by
  refine Met.ofW (cc := cX11_flags) (maxL := 2) (ret := none) (by decide) rfl ?_
  intro p e s m args below meth c s₁ B hml hv
  obtain ⟨rfl, hsz, hP, hK, hD0⟩ := hv
  have hx := B.exec
  have hb := B.bytes
  have hr := B.returns
  have hts := atoms_spec (ws := gws yX11_flags cX11_flags 2 none) B.pre
  have hg : ∀ w ∈ gw, w.before _ s = true := fun w h => hts w (List.mem_cons_of_mem _ h)
  have hown : s.vm.findClass RX11 = some m.cls := findClass_of_methodNamed B.named
  have hlocks := B.notSynchronized
  subst hsz
  have hD := hD0.self (sz := s.heap.size)
  generalize hAe : va_A [(t0, .inr (11, [.int i0, .ref c1, .int i2, .int i3, .int i4, .int i5, .int i6, .int i7, .long i8, .int i9, .int i10, .ref c11, .ref c12, .ref c13, .ref c14, .ref c15, .ref c16, .int i17, .int i18, .ref c19, .ref c20, .ref c21, .ref c22, .int i23, .ref c24, .ref c25, .ref c26, .ref c27, .ref c28, .ref c29, .ref c30, .int i31, .int i32, .int i33, .int i34, .ref c35, .ref c36, .int i37, .int i38, .int i39, .int i40, .int i41, .int i42, .ref c43, .ref c44, .ref c45, .ref c46, .ref c47, .ref c48, .ref c49, .ref c50, .ref c51, .ref c52, .ref c53, .ref c54, .ref c55, .ref c56, .ref c57, .ref c58, .ref c59, .int i60, .ref c61, .int i62, .ref c63, .int i64, .int i65, .int i66, .ref c67, .ref c68, .ref c69, .ref c70, .ref c71, .ref c72, .int i73, .ref c74, .ref c75, .int i76, .int i77, .int i78, .ref c79, .int i80, .int i81, .int i82, .int i83, .int i84])), (c75, .inl (dA 0, 16, .inl m75))] s.heap.size = A at hD ⊢
  have hA : ∀ q : Nat, s.heap.size ≤ q → A q := fun q h => by rw [← hAe]; exact Or.inr h
  have hS : va_S A s.heap s.heap [] := va_S.rf
  have hP : va_P D vwC [(t0, .inr (11, [.int i0, .ref c1, .int i2, .int i3, .int i4, .int i5, .int i6, .int i7, .long i8, .int i9, .int i10, .ref c11, .ref c12, .ref c13, .ref c14, .ref c15, .ref c16, .int i17, .int i18, .ref c19, .ref c20, .ref c21, .ref c22, .int i23, .ref c24, .ref c25, .ref c26, .ref c27, .ref c28, .ref c29, .ref c30, .int i31, .int i32, .int i33, .int i34, .ref c35, .ref c36, .int i37, .int i38, .int i39, .int i40, .int i41, .int i42, .ref c43, .ref c44, .ref c45, .ref c46, .ref c47, .ref c48, .ref c49, .ref c50, .ref c51, .ref c52, .ref c53, .ref c54, .ref c55, .ref c56, .ref c57, .ref c58, .ref c59, .int i60, .ref c61, .int i62, .ref c63, .int i64, .int i65, .int i66, .ref c67, .ref c68, .ref c69, .ref c70, .ref c71, .ref c72, .int i73, .ref c74, .ref c75, .int i76, .int i77, .int i78, .ref c79, .int i80, .int i81, .int i82, .int i83, .int i84])), (c75, .inl (dA 0, 16, .inl m75))] s.heap := hP
  have hl := lv_entry ([.ref t0, .int a0]) (n := 2) (Nat.le_of_ble_eq_true rfl)
  rw [lg_entry_eq]
  generalize (lg_sl ([.ref t0, .int a0]) ++ List.replicate (2 - (lg_sl ([.ref t0, .int a0])).length) Slot.unset).toArray = ls at hl ⊢
  have hl : lv_has ls 2 [(0, .ref t0), (1, .int a0)] := hl
  refine lv_aload_n hx hb dX11_flags_0 rfl (lv_at hl 0 rfl) ?_
  refine g_get hx hb hg hown hK hP 0 rfl rfl inX11 75 (by decide) q1690 rfl dX11_flags_1 ?_
  refine lv_bipush (v := 14) hx hb dX11_flags_4 (by decide) ?_
  refine lv_iload_n hx hb dX11_flags_6 rfl (lv_at hl 1 rfl) ?_
  refine lv_ldcw hx hb hown (hg _ q1907) dX11_flags_7 ?_
  refine lv_iand hx hb dX11_flags_10 ?_
  refine lv_topi (fun x1 e2 => ?_)
  have g3 : 0 ≤ x1.toInt ∧ x1.toInt ≤ 65535 := g_msk e2 16 (by decide) (by decide) (by decide)
  refine lv_if_ne (tgt := 18) hx hb dX11_flags_11 (by decide) (fun k4 => ?_) (fun k4 => ?_)
  · have g5 : x1.toInt ≠ 0 := gi_neq (rfl : x1.toInt = x1.toInt) (by decide : (0 : Int32).toInt = 0) k4
    refine lv_iconst (v := 0) hx hb dX11_flags_18 (by decide) ?_
    refine va_iast hx hb hK hP hD hS 1 0 rfl rfl (by unfold vp_in; decide) dX11_flags_19 (fun H locs hP hD hS => ?_)
    have hP : va_P D vwC [(t0, .inr (11, [.int i0, .ref c1, .int i2, .int i3, .int i4, .int i5, .int i6, .int i7, .long i8, .int i9, .int i10, .ref c11, .ref c12, .ref c13, .ref c14, .ref c15, .ref c16, .int i17, .int i18, .ref c19, .ref c20, .ref c21, .ref c22, .int i23, .ref c24, .ref c25, .ref c26, .ref c27, .ref c28, .ref c29, .ref c30, .int i31, .int i32, .int i33, .int i34, .ref c35, .ref c36, .int i37, .int i38, .int i39, .int i40, .int i41, .int i42, .ref c43, .ref c44, .ref c45, .ref c46, .ref c47, .ref c48, .ref c49, .ref c50, .ref c51, .ref c52, .ref c53, .ref c54, .ref c55, .ref c56, .ref c57, .ref c58, .ref c59, .int i60, .ref c61, .int i62, .ref c63, .int i64, .int i65, .int i66, .ref c67, .ref c68, .ref c69, .ref c70, .ref c71, .ref c72, .int i73, .ref c74, .ref c75, .int i76, .int i77, .int i78, .ref c79, .int i80, .int i81, .int i82, .int i83, .int i84])), (c75, .inl (dA 0, 16, .inl (upd m75 (14 : Int32).toNatClampNeg 0)))] H := hP
    have hD : va_D A [(t0, .inr (11, [.int i0, .ref c1, .int i2, .int i3, .int i4, .int i5, .int i6, .int i7, .long i8, .int i9, .int i10, .ref c11, .ref c12, .ref c13, .ref c14, .ref c15, .ref c16, .int i17, .int i18, .ref c19, .ref c20, .ref c21, .ref c22, .int i23, .ref c24, .ref c25, .ref c26, .ref c27, .ref c28, .ref c29, .ref c30, .int i31, .int i32, .int i33, .int i34, .ref c35, .ref c36, .int i37, .int i38, .int i39, .int i40, .int i41, .int i42, .ref c43, .ref c44, .ref c45, .ref c46, .ref c47, .ref c48, .ref c49, .ref c50, .ref c51, .ref c52, .ref c53, .ref c54, .ref c55, .ref c56, .ref c57, .ref c58, .ref c59, .int i60, .ref c61, .int i62, .ref c63, .int i64, .int i65, .int i66, .ref c67, .ref c68, .ref c69, .ref c70, .ref c71, .ref c72, .int i73, .ref c74, .ref c75, .int i76, .int i77, .int i78, .ref c79, .int i80, .int i81, .int i82, .int i83, .int i84])), (c75, .inl (dA 0, 16, .inl (upd m75 (14 : Int32).toNatClampNeg 0)))] := hD
    obtain ⟨f6, ef6⟩ : ∃ f : Nat → Int32, f = (upd m75 (14 : Int32).toNatClampNeg 0) := ⟨_, rfl⟩
    rw [← ef6] at hP hD
    refine lv_aload_n hx hb dX11_flags_20 rfl (lv_at hl 0 rfl) ?_
    refine g_get hx hb hg hown hK hP 0 rfl rfl inX11 75 (by decide) q1690 rfl dX11_flags_21 ?_
    refine lv_bipush (v := 15) hx hb dX11_flags_24 (by decide) ?_
    refine lv_iload_n hx hb dX11_flags_26 rfl (lv_at hl 1 rfl) ?_
    refine lv_bipush (v := 15) hx hb dX11_flags_27 (by decide) ?_
    refine lv_ishr hx hb dX11_flags_29 ?_
    refine lv_topi (fun x7 e8 => ?_)
    have g9 : x7.toInt * 32768 ≤ a0.toInt ∧ a0.toInt < x7.toInt * 32768 + 32768 := g_shr e8 15 (by decide) (by decide) (by decide)
    refine lv_iconst (v := 1) hx hb dX11_flags_30 (by decide) ?_
    refine lv_iand hx hb dX11_flags_31 ?_
    refine lv_topi (fun x10 e11 => ?_)
    have g12 : 0 ≤ x10.toInt ∧ x10.toInt ≤ 1 := g_msk e11 1 (by decide) (by decide) (by decide)
    refine va_iast hx hb hK hP hD hS 1 0 rfl rfl (by unfold vp_in; decide) dX11_flags_32 (fun H locs hP hD hS => ?_)
    have hP : va_P D vwC [(t0, .inr (11, [.int i0, .ref c1, .int i2, .int i3, .int i4, .int i5, .int i6, .int i7, .long i8, .int i9, .int i10, .ref c11, .ref c12, .ref c13, .ref c14, .ref c15, .ref c16, .int i17, .int i18, .ref c19, .ref c20, .ref c21, .ref c22, .int i23, .ref c24, .ref c25, .ref c26, .ref c27, .ref c28, .ref c29, .ref c30, .int i31, .int i32, .int i33, .int i34, .ref c35, .ref c36, .int i37, .int i38, .int i39, .int i40, .int i41, .int i42, .ref c43, .ref c44, .ref c45, .ref c46, .ref c47, .ref c48, .ref c49, .ref c50, .ref c51, .ref c52, .ref c53, .ref c54, .ref c55, .ref c56, .ref c57, .ref c58, .ref c59, .int i60, .ref c61, .int i62, .ref c63, .int i64, .int i65, .int i66, .ref c67, .ref c68, .ref c69, .ref c70, .ref c71, .ref c72, .int i73, .ref c74, .ref c75, .int i76, .int i77, .int i78, .ref c79, .int i80, .int i81, .int i82, .int i83, .int i84])), (c75, .inl (dA 0, 16, .inl (upd f6 (15 : Int32).toNatClampNeg x10)))] H := hP
    have hD : va_D A [(t0, .inr (11, [.int i0, .ref c1, .int i2, .int i3, .int i4, .int i5, .int i6, .int i7, .long i8, .int i9, .int i10, .ref c11, .ref c12, .ref c13, .ref c14, .ref c15, .ref c16, .int i17, .int i18, .ref c19, .ref c20, .ref c21, .ref c22, .int i23, .ref c24, .ref c25, .ref c26, .ref c27, .ref c28, .ref c29, .ref c30, .int i31, .int i32, .int i33, .int i34, .ref c35, .ref c36, .int i37, .int i38, .int i39, .int i40, .int i41, .int i42, .ref c43, .ref c44, .ref c45, .ref c46, .ref c47, .ref c48, .ref c49, .ref c50, .ref c51, .ref c52, .ref c53, .ref c54, .ref c55, .ref c56, .ref c57, .ref c58, .ref c59, .int i60, .ref c61, .int i62, .ref c63, .int i64, .int i65, .int i66, .ref c67, .ref c68, .ref c69, .ref c70, .ref c71, .ref c72, .int i73, .ref c74, .ref c75, .int i76, .int i77, .int i78, .ref c79, .int i80, .int i81, .int i82, .int i83, .int i84])), (c75, .inl (dA 0, 16, .inl (upd f6 (15 : Int32).toNatClampNeg x10)))] := hD
    obtain ⟨f13, ef13⟩ : ∃ f : Nat → Int32, f = (upd f6 (15 : Int32).toNatClampNeg x10) := ⟨_, rfl⟩
    rw [← ef13] at hP hD
    exact g_vret hx hb hr hlocks hK f13 hP hD hS trivial (Nat.le_of_ble_eq_true rfl) (Nat.le_of_ble_eq_true rfl) dX11_flags_33
  · have g14 : x1.toInt = 0 := gi_eq (rfl : x1.toInt = x1.toInt) (by decide : (0 : Int32).toInt = 0) k4
    refine lv_iconst (v := 1) hx hb dX11_flags_14 (by decide) ?_
    refine lv_goto (tgt := 19) hx hb dX11_flags_15 (by decide) ?_
    refine va_iast hx hb hK hP hD hS 1 0 rfl rfl (by unfold vp_in; decide) dX11_flags_19 (fun H locs hP hD hS => ?_)
    have hP : va_P D vwC [(t0, .inr (11, [.int i0, .ref c1, .int i2, .int i3, .int i4, .int i5, .int i6, .int i7, .long i8, .int i9, .int i10, .ref c11, .ref c12, .ref c13, .ref c14, .ref c15, .ref c16, .int i17, .int i18, .ref c19, .ref c20, .ref c21, .ref c22, .int i23, .ref c24, .ref c25, .ref c26, .ref c27, .ref c28, .ref c29, .ref c30, .int i31, .int i32, .int i33, .int i34, .ref c35, .ref c36, .int i37, .int i38, .int i39, .int i40, .int i41, .int i42, .ref c43, .ref c44, .ref c45, .ref c46, .ref c47, .ref c48, .ref c49, .ref c50, .ref c51, .ref c52, .ref c53, .ref c54, .ref c55, .ref c56, .ref c57, .ref c58, .ref c59, .int i60, .ref c61, .int i62, .ref c63, .int i64, .int i65, .int i66, .ref c67, .ref c68, .ref c69, .ref c70, .ref c71, .ref c72, .int i73, .ref c74, .ref c75, .int i76, .int i77, .int i78, .ref c79, .int i80, .int i81, .int i82, .int i83, .int i84])), (c75, .inl (dA 0, 16, .inl (upd m75 (14 : Int32).toNatClampNeg 1)))] H := hP
    have hD : va_D A [(t0, .inr (11, [.int i0, .ref c1, .int i2, .int i3, .int i4, .int i5, .int i6, .int i7, .long i8, .int i9, .int i10, .ref c11, .ref c12, .ref c13, .ref c14, .ref c15, .ref c16, .int i17, .int i18, .ref c19, .ref c20, .ref c21, .ref c22, .int i23, .ref c24, .ref c25, .ref c26, .ref c27, .ref c28, .ref c29, .ref c30, .int i31, .int i32, .int i33, .int i34, .ref c35, .ref c36, .int i37, .int i38, .int i39, .int i40, .int i41, .int i42, .ref c43, .ref c44, .ref c45, .ref c46, .ref c47, .ref c48, .ref c49, .ref c50, .ref c51, .ref c52, .ref c53, .ref c54, .ref c55, .ref c56, .ref c57, .ref c58, .ref c59, .int i60, .ref c61, .int i62, .ref c63, .int i64, .int i65, .int i66, .ref c67, .ref c68, .ref c69, .ref c70, .ref c71, .ref c72, .int i73, .ref c74, .ref c75, .int i76, .int i77, .int i78, .ref c79, .int i80, .int i81, .int i82, .int i83, .int i84])), (c75, .inl (dA 0, 16, .inl (upd m75 (14 : Int32).toNatClampNeg 1)))] := hD
    obtain ⟨f15, ef15⟩ : ∃ f : Nat → Int32, f = (upd m75 (14 : Int32).toNatClampNeg 1) := ⟨_, rfl⟩
    rw [← ef15] at hP hD
    refine lv_aload_n hx hb dX11_flags_20 rfl (lv_at hl 0 rfl) ?_
    refine g_get hx hb hg hown hK hP 0 rfl rfl inX11 75 (by decide) q1690 rfl dX11_flags_21 ?_
    refine lv_bipush (v := 15) hx hb dX11_flags_24 (by decide) ?_
    refine lv_iload_n hx hb dX11_flags_26 rfl (lv_at hl 1 rfl) ?_
    refine lv_bipush (v := 15) hx hb dX11_flags_27 (by decide) ?_
    refine lv_ishr hx hb dX11_flags_29 ?_
    refine lv_topi (fun x16 e17 => ?_)
    have g18 : x16.toInt * 32768 ≤ a0.toInt ∧ a0.toInt < x16.toInt * 32768 + 32768 := g_shr e17 15 (by decide) (by decide) (by decide)
    refine lv_iconst (v := 1) hx hb dX11_flags_30 (by decide) ?_
    refine lv_iand hx hb dX11_flags_31 ?_
    refine lv_topi (fun x19 e20 => ?_)
    have g21 : 0 ≤ x19.toInt ∧ x19.toInt ≤ 1 := g_msk e20 1 (by decide) (by decide) (by decide)
    refine va_iast hx hb hK hP hD hS 1 0 rfl rfl (by unfold vp_in; decide) dX11_flags_32 (fun H locs hP hD hS => ?_)
    have hP : va_P D vwC [(t0, .inr (11, [.int i0, .ref c1, .int i2, .int i3, .int i4, .int i5, .int i6, .int i7, .long i8, .int i9, .int i10, .ref c11, .ref c12, .ref c13, .ref c14, .ref c15, .ref c16, .int i17, .int i18, .ref c19, .ref c20, .ref c21, .ref c22, .int i23, .ref c24, .ref c25, .ref c26, .ref c27, .ref c28, .ref c29, .ref c30, .int i31, .int i32, .int i33, .int i34, .ref c35, .ref c36, .int i37, .int i38, .int i39, .int i40, .int i41, .int i42, .ref c43, .ref c44, .ref c45, .ref c46, .ref c47, .ref c48, .ref c49, .ref c50, .ref c51, .ref c52, .ref c53, .ref c54, .ref c55, .ref c56, .ref c57, .ref c58, .ref c59, .int i60, .ref c61, .int i62, .ref c63, .int i64, .int i65, .int i66, .ref c67, .ref c68, .ref c69, .ref c70, .ref c71, .ref c72, .int i73, .ref c74, .ref c75, .int i76, .int i77, .int i78, .ref c79, .int i80, .int i81, .int i82, .int i83, .int i84])), (c75, .inl (dA 0, 16, .inl (upd f15 (15 : Int32).toNatClampNeg x19)))] H := hP
    have hD : va_D A [(t0, .inr (11, [.int i0, .ref c1, .int i2, .int i3, .int i4, .int i5, .int i6, .int i7, .long i8, .int i9, .int i10, .ref c11, .ref c12, .ref c13, .ref c14, .ref c15, .ref c16, .int i17, .int i18, .ref c19, .ref c20, .ref c21, .ref c22, .int i23, .ref c24, .ref c25, .ref c26, .ref c27, .ref c28, .ref c29, .ref c30, .int i31, .int i32, .int i33, .int i34, .ref c35, .ref c36, .int i37, .int i38, .int i39, .int i40, .int i41, .int i42, .ref c43, .ref c44, .ref c45, .ref c46, .ref c47, .ref c48, .ref c49, .ref c50, .ref c51, .ref c52, .ref c53, .ref c54, .ref c55, .ref c56, .ref c57, .ref c58, .ref c59, .int i60, .ref c61, .int i62, .ref c63, .int i64, .int i65, .int i66, .ref c67, .ref c68, .ref c69, .ref c70, .ref c71, .ref c72, .int i73, .ref c74, .ref c75, .int i76, .int i77, .int i78, .ref c79, .int i80, .int i81, .int i82, .int i83, .int i84])), (c75, .inl (dA 0, 16, .inl (upd f15 (15 : Int32).toNatClampNeg x19)))] := hD
    obtain ⟨f22, ef22⟩ : ∃ f : Nat → Int32, f = (upd f15 (15 : Int32).toNatClampNeg x19) := ⟨_, rfl⟩
    rw [← ef22] at hP hD
    exact g_vret hx hb hr hlocks hK f22 hP hD hS trivial (Nat.le_of_ble_eq_true rfl) (Nat.le_of_ble_eq_true rfl) dX11_flags_33
set_option maxHeartbeats 4000000 in
set_option maxRecDepth 100000 in
theorem s_X11_reckoned (l : Launch) (D : va_G) (dA : Nat → ClassId) (t0 : Nat) (a0 : Int32) (a1 : Int32) (a2 : Int32) (i0 : Int32) (c1 : Nat) (i2 : Int32) (i3 : Int32) (i4 : Int32) (i5 : Int32) (i6 : Int32) (i7 : Int32) (i8 : Int64) (i9 : Int32) (i10 : Int32) (c11 : Nat) (c12 : Nat) (c13 : Nat) (c14 : Nat) (c15 : Nat) (c16 : Nat) (i17 : Int32) (i18 : Int32) (c19 : Nat) (c20 : Nat) (c21 : Nat) (c22 : Nat) (i23 : Int32) (c24 : Nat) (c25 : Nat) (c26 : Nat) (c27 : Nat) (c28 : Nat) (c29 : Nat) (c30 : Nat) (i31 : Int32) (i32 : Int32) (i33 : Int32) (i34 : Int32) (c35 : Nat) (c36 : Nat) (i37 : Int32) (i38 : Int32) (i39 : Int32) (i40 : Int32) (i41 : Int32) (i42 : Int32) (c43 : Nat) (c44 : Nat) (c45 : Nat) (c46 : Nat) (c47 : Nat) (c48 : Nat) (c49 : Nat) (c50 : Nat) (c51 : Nat) (c52 : Nat) (c53 : Nat) (c54 : Nat) (c55 : Nat) (c56 : Nat) (c57 : Nat) (c58 : Nat) (c59 : Nat) (i60 : Int32) (c61 : Nat) (i62 : Int32) (c63 : Nat) (i64 : Int32) (i65 : Int32) (i66 : Int32) (c67 : Nat) (c68 : Nat) (c69 : Nat) (c70 : Nat) (c71 : Nat) (c72 : Nat) (i73 : Int32) (c74 : Nat) (c75 : Nat) (i76 : Int32) (i77 : Int32) (i78 : Int32) (c79 : Nat) (i80 : Int32) (i81 : Int32) (i82 : Int32) (i83 : Int32) (i84 : Int32) (m75 : Nat → Int32) (p0 : 0 ≤ i33.toInt ∧ i33.toInt ≤ 1) (p1 : 0 ≤ i60.toInt ∧ i60.toInt ≤ 1) (p2 : 0 ≤ i76.toInt ∧ i76.toInt ≤ 1) (p3 : 0 ≤ i78.toInt ∧ i78.toInt ≤ 1000000) (p4 : 0 ≤ i81.toInt ∧ i81.toInt ≤ 255) (p5 : 0 ≤ i82.toInt ∧ i82.toInt ≤ 7) (p6 : 0 ≤ i83.toInt ∧ i83.toInt ≤ 15) (sz : Nat) : Met l yX11_reckoned (gws yX11_reckoned cX11_reckoned 5 (some .int)) (gR 2 0 0) (gPre D dA [.ref t0, .int a0, .int a1, .int a2] [(t0, .inr (11, [.int i0, .ref c1, .int i2, .int i3, .int i4, .int i5, .int i6, .int i7, .long i8, .int i9, .int i10, .ref c11, .ref c12, .ref c13, .ref c14, .ref c15, .ref c16, .int i17, .int i18, .ref c19, .ref c20, .ref c21, .ref c22, .int i23, .ref c24, .ref c25, .ref c26, .ref c27, .ref c28, .ref c29, .ref c30, .int i31, .int i32, .int i33, .int i34, .ref c35, .ref c36, .int i37, .int i38, .int i39, .int i40, .int i41, .int i42, .ref c43, .ref c44, .ref c45, .ref c46, .ref c47, .ref c48, .ref c49, .ref c50, .ref c51, .ref c52, .ref c53, .ref c54, .ref c55, .ref c56, .ref c57, .ref c58, .ref c59, .int i60, .ref c61, .int i62, .ref c63, .int i64, .int i65, .int i66, .ref c67, .ref c68, .ref c69, .ref c70, .ref c71, .ref c72, .int i73, .ref c74, .ref c75, .int i76, .int i77, .int i78, .ref c79, .int i80, .int i81, .int i82, .int i83, .int i84])), (c75, .inl (dA 0, 16, .inl m75))] sz) (va_Qi (fun (r : Int32) (u : (Nat → Int32)) => True) (gAt D dA (va_A [(t0, .inr (11, [.int i0, .ref c1, .int i2, .int i3, .int i4, .int i5, .int i6, .int i7, .long i8, .int i9, .int i10, .ref c11, .ref c12, .ref c13, .ref c14, .ref c15, .ref c16, .int i17, .int i18, .ref c19, .ref c20, .ref c21, .ref c22, .int i23, .ref c24, .ref c25, .ref c26, .ref c27, .ref c28, .ref c29, .ref c30, .int i31, .int i32, .int i33, .int i34, .ref c35, .ref c36, .int i37, .int i38, .int i39, .int i40, .int i41, .int i42, .ref c43, .ref c44, .ref c45, .ref c46, .ref c47, .ref c48, .ref c49, .ref c50, .ref c51, .ref c52, .ref c53, .ref c54, .ref c55, .ref c56, .ref c57, .ref c58, .ref c59, .int i60, .ref c61, .int i62, .ref c63, .int i64, .int i65, .int i66, .ref c67, .ref c68, .ref c69, .ref c70, .ref c71, .ref c72, .int i73, .ref c74, .ref c75, .int i76, .int i77, .int i78, .ref c79, .int i80, .int i81, .int i82, .int i83, .int i84])), (c75, .inl (dA 0, 16, .inl m75))] sz) (fun u : (Nat → Int32) => [(t0, .inr (11, [.int i0, .ref c1, .int i2, .int i3, .int i4, .int i5, .int i6, .int i7, .long i8, .int i9, .int i10, .ref c11, .ref c12, .ref c13, .ref c14, .ref c15, .ref c16, .int i17, .int i18, .ref c19, .ref c20, .ref c21, .ref c22, .int i23, .ref c24, .ref c25, .ref c26, .ref c27, .ref c28, .ref c29, .ref c30, .int i31, .int i32, .int i33, .int i34, .ref c35, .ref c36, .int i37, .int i38, .int i39, .int i40, .int i41, .int i42, .ref c43, .ref c44, .ref c45, .ref c46, .ref c47, .ref c48, .ref c49, .ref c50, .ref c51, .ref c52, .ref c53, .ref c54, .ref c55, .ref c56, .ref c57, .ref c58, .ref c59, .int i60, .ref c61, .int i62, .ref c63, .int i64, .int i65, .int i66, .ref c67, .ref c68, .ref c69, .ref c70, .ref c71, .ref c72, .int i73, .ref c74, .ref c75, .int i76, .int i77, .int i78, .ref c79, .int i80, .int i81, .int i82, .int i83, .int i84])), (c75, .inl (dA 0, 16, .inl u))])) (va_A [(t0, .inr (11, [.int i0, .ref c1, .int i2, .int i3, .int i4, .int i5, .int i6, .int i7, .long i8, .int i9, .int i10, .ref c11, .ref c12, .ref c13, .ref c14, .ref c15, .ref c16, .int i17, .int i18, .ref c19, .ref c20, .ref c21, .ref c22, .int i23, .ref c24, .ref c25, .ref c26, .ref c27, .ref c28, .ref c29, .ref c30, .int i31, .int i32, .int i33, .int i34, .ref c35, .ref c36, .int i37, .int i38, .int i39, .int i40, .int i41, .int i42, .ref c43, .ref c44, .ref c45, .ref c46, .ref c47, .ref c48, .ref c49, .ref c50, .ref c51, .ref c52, .ref c53, .ref c54, .ref c55, .ref c56, .ref c57, .ref c58, .ref c59, .int i60, .ref c61, .int i62, .ref c63, .int i64, .int i65, .int i66, .ref c67, .ref c68, .ref c69, .ref c70, .ref c71, .ref c72, .int i73, .ref c74, .ref c75, .int i76, .int i77, .int i78, .ref c79, .int i80, .int i81, .int i82, .int i83, .int i84])), (c75, .inl (dA 0, 16, .inl m75))] sz)) 0 0 (va_A [(t0, .inr (11, [.int i0, .ref c1, .int i2, .int i3, .int i4, .int i5, .int i6, .int i7, .long i8, .int i9, .int i10, .ref c11, .ref c12, .ref c13, .ref c14, .ref c15, .ref c16, .int i17, .int i18, .ref c19, .ref c20, .ref c21, .ref c22, .int i23, .ref c24, .ref c25, .ref c26, .ref c27, .ref c28, .ref c29, .ref c30, .int i31, .int i32, .int i33, .int i34, .ref c35, .ref c36, .int i37, .int i38, .int i39, .int i40, .int i41, .int i42, .ref c43, .ref c44, .ref c45, .ref c46, .ref c47, .ref c48, .ref c49, .ref c50, .ref c51, .ref c52, .ref c53, .ref c54, .ref c55, .ref c56, .ref c57, .ref c58, .ref c59, .int i60, .ref c61, .int i62, .ref c63, .int i64, .int i65, .int i66, .ref c67, .ref c68, .ref c69, .ref c70, .ref c71, .ref c72, .int i73, .ref c74, .ref c75, .int i76, .int i77, .int i78, .ref c79, .int i80, .int i81, .int i82, .int i83, .int i84])), (c75, .inl (dA 0, 16, .inl m75))] sz) := by
  refine Met.ofW (cc := cX11_reckoned) (maxL := 5) (ret := (some .int)) (by decide) rfl ?_
  intro p e s m args below meth c s₁ B hml hv
  obtain ⟨rfl, hsz, hP, hK, hD0⟩ := hv
  have hx := B.exec
  have hb := B.bytes
  have hr := B.returns
  have hts := atoms_spec (ws := gws yX11_reckoned cX11_reckoned 5 (some .int)) B.pre
  have hg : ∀ w ∈ gw, w.before _ s = true := fun w h => hts w (List.mem_cons_of_mem _ h)
  have hown : s.vm.findClass RX11 = some m.cls := findClass_of_methodNamed B.named
  have hlocks := B.notSynchronized
  subst hsz
  have hD := hD0.self (sz := s.heap.size)
  generalize hAe : va_A [(t0, .inr (11, [.int i0, .ref c1, .int i2, .int i3, .int i4, .int i5, .int i6, .int i7, .long i8, .int i9, .int i10, .ref c11, .ref c12, .ref c13, .ref c14, .ref c15, .ref c16, .int i17, .int i18, .ref c19, .ref c20, .ref c21, .ref c22, .int i23, .ref c24, .ref c25, .ref c26, .ref c27, .ref c28, .ref c29, .ref c30, .int i31, .int i32, .int i33, .int i34, .ref c35, .ref c36, .int i37, .int i38, .int i39, .int i40, .int i41, .int i42, .ref c43, .ref c44, .ref c45, .ref c46, .ref c47, .ref c48, .ref c49, .ref c50, .ref c51, .ref c52, .ref c53, .ref c54, .ref c55, .ref c56, .ref c57, .ref c58, .ref c59, .int i60, .ref c61, .int i62, .ref c63, .int i64, .int i65, .int i66, .ref c67, .ref c68, .ref c69, .ref c70, .ref c71, .ref c72, .int i73, .ref c74, .ref c75, .int i76, .int i77, .int i78, .ref c79, .int i80, .int i81, .int i82, .int i83, .int i84])), (c75, .inl (dA 0, 16, .inl m75))] s.heap.size = A at hD ⊢
  have hA : ∀ q : Nat, s.heap.size ≤ q → A q := fun q h => by rw [← hAe]; exact Or.inr h
  have hS : va_S A s.heap s.heap [] := va_S.rf
  have hP : va_P D vwC [(t0, .inr (11, [.int i0, .ref c1, .int i2, .int i3, .int i4, .int i5, .int i6, .int i7, .long i8, .int i9, .int i10, .ref c11, .ref c12, .ref c13, .ref c14, .ref c15, .ref c16, .int i17, .int i18, .ref c19, .ref c20, .ref c21, .ref c22, .int i23, .ref c24, .ref c25, .ref c26, .ref c27, .ref c28, .ref c29, .ref c30, .int i31, .int i32, .int i33, .int i34, .ref c35, .ref c36, .int i37, .int i38, .int i39, .int i40, .int i41, .int i42, .ref c43, .ref c44, .ref c45, .ref c46, .ref c47, .ref c48, .ref c49, .ref c50, .ref c51, .ref c52, .ref c53, .ref c54, .ref c55, .ref c56, .ref c57, .ref c58, .ref c59, .int i60, .ref c61, .int i62, .ref c63, .int i64, .int i65, .int i66, .ref c67, .ref c68, .ref c69, .ref c70, .ref c71, .ref c72, .int i73, .ref c74, .ref c75, .int i76, .int i77, .int i78, .ref c79, .int i80, .int i81, .int i82, .int i83, .int i84])), (c75, .inl (dA 0, 16, .inl m75))] s.heap := hP
  have hl := lv_entry ([.ref t0, .int a0, .int a1, .int a2]) (n := 5) (Nat.le_of_ble_eq_true rfl)
  rw [lg_entry_eq]
  generalize (lg_sl ([.ref t0, .int a0, .int a1, .int a2]) ++ List.replicate (5 - (lg_sl ([.ref t0, .int a0, .int a1, .int a2])).length) Slot.unset).toArray = ls at hl ⊢
  have hl : lv_has ls 5 [(0, .ref t0), (1, .int a0), (2, .int a1), (3, .int a2)] := hl
  refine lv_iload_n hx hb dX11_reckoned_0 rfl (lv_at hl 1 rfl) ?_
  by_cases s1 : a0 = 0
  · have g2 : a0.toInt = 0 := by rw [s1]; decide
    refine lv_tableIn (tgt := 44) hx hb dX11_reckoned_1 (by rw [s1]; decide) (by rw [s1]; decide) (by rw [s1]; rfl) (by decide) ?_
    refine lv_iload_n hx hb dX11_reckoned_44 rfl (lv_at hl 2 rfl) ?_
    refine lv_iload_n hx hb dX11_reckoned_45 rfl (lv_at hl 3 rfl) ?_
    refine lv_iadd hx hb dX11_reckoned_46 ?_
    have g3 := g_i32 a1
    have g4 := g_i32 a2
    refine lv_topi (fun x5 e6 => ?_)
    refine lv_istore (lv' := [(4, .int x5), (0, .ref t0), (1, .int a0), (2, .int a1), (3, .int a2)]) hx hb dX11_reckoned_47 hl (by decide) rfl (fun ls hl => ?_)
    refine lv_goto (tgt := 81) hx hb dX11_reckoned_49 (by decide) ?_
    refine lv_aload_n hx hb dX11_reckoned_81 rfl (lv_at hl 1 rfl) ?_
    refine g_get hx hb hg hown hK hP 0 rfl rfl inX11 75 (by decide) q1690 rfl dX11_reckoned_82 ?_
    refine lv_bipush (v := 13) hx hb dX11_reckoned_85 (by decide) ?_
    refine lv_iload hx hb dX11_reckoned_87 (lv_at hl 0 rfl) ?_
    refine lv_bipush (v := 16) hx hb dX11_reckoned_89 (by decide) ?_
    refine lv_ishr hx hb dX11_reckoned_91 ?_
    refine lv_topi (fun x7 e8 => ?_)
    have g9 : x7.toInt * 65536 ≤ x5.toInt ∧ x5.toInt < x7.toInt * 65536 + 65536 := g_shr e8 16 (by decide) (by decide) (by decide)
    refine lv_iconst (v := 1) hx hb dX11_reckoned_92 (by decide) ?_
    refine lv_iand hx hb dX11_reckoned_93 ?_
    refine lv_topi (fun x10 e11 => ?_)
    have g12 : 0 ≤ x10.toInt ∧ x10.toInt ≤ 1 := g_msk e11 1 (by decide) (by decide) (by decide)
    refine va_iast hx hb hK hP hD hS 1 0 rfl rfl (by unfold vp_in; decide) dX11_reckoned_94 (fun H locs hP hD hS => ?_)
    have hP : va_P D vwC [(t0, .inr (11, [.int i0, .ref c1, .int i2, .int i3, .int i4, .int i5, .int i6, .int i7, .long i8, .int i9, .int i10, .ref c11, .ref c12, .ref c13, .ref c14, .ref c15, .ref c16, .int i17, .int i18, .ref c19, .ref c20, .ref c21, .ref c22, .int i23, .ref c24, .ref c25, .ref c26, .ref c27, .ref c28, .ref c29, .ref c30, .int i31, .int i32, .int i33, .int i34, .ref c35, .ref c36, .int i37, .int i38, .int i39, .int i40, .int i41, .int i42, .ref c43, .ref c44, .ref c45, .ref c46, .ref c47, .ref c48, .ref c49, .ref c50, .ref c51, .ref c52, .ref c53, .ref c54, .ref c55, .ref c56, .ref c57, .ref c58, .ref c59, .int i60, .ref c61, .int i62, .ref c63, .int i64, .int i65, .int i66, .ref c67, .ref c68, .ref c69, .ref c70, .ref c71, .ref c72, .int i73, .ref c74, .ref c75, .int i76, .int i77, .int i78, .ref c79, .int i80, .int i81, .int i82, .int i83, .int i84])), (c75, .inl (dA 0, 16, .inl (upd m75 (13 : Int32).toNatClampNeg x10)))] H := hP
    have hD : va_D A [(t0, .inr (11, [.int i0, .ref c1, .int i2, .int i3, .int i4, .int i5, .int i6, .int i7, .long i8, .int i9, .int i10, .ref c11, .ref c12, .ref c13, .ref c14, .ref c15, .ref c16, .int i17, .int i18, .ref c19, .ref c20, .ref c21, .ref c22, .int i23, .ref c24, .ref c25, .ref c26, .ref c27, .ref c28, .ref c29, .ref c30, .int i31, .int i32, .int i33, .int i34, .ref c35, .ref c36, .int i37, .int i38, .int i39, .int i40, .int i41, .int i42, .ref c43, .ref c44, .ref c45, .ref c46, .ref c47, .ref c48, .ref c49, .ref c50, .ref c51, .ref c52, .ref c53, .ref c54, .ref c55, .ref c56, .ref c57, .ref c58, .ref c59, .int i60, .ref c61, .int i62, .ref c63, .int i64, .int i65, .int i66, .ref c67, .ref c68, .ref c69, .ref c70, .ref c71, .ref c72, .int i73, .ref c74, .ref c75, .int i76, .int i77, .int i78, .ref c79, .int i80, .int i81, .int i82, .int i83, .int i84])), (c75, .inl (dA 0, 16, .inl (upd m75 (13 : Int32).toNatClampNeg x10)))] := hD
    obtain ⟨f13, ef13⟩ : ∃ f : Nat → Int32, f = (upd m75 (13 : Int32).toNatClampNeg x10) := ⟨_, rfl⟩
    rw [← ef13] at hP hD
    refine lv_aload_n hx hb dX11_reckoned_95 rfl (lv_at hl 1 rfl) ?_
    refine lv_iload hx hb dX11_reckoned_96 (lv_at hl 0 rfl) ?_
    refine g_Vv (n := 1) (As := [.int x5]) (rest := []) (wr := []) hx hb hml hg hown hK hP hD hS hA (s_X11_flags l D dA t0 x5 i0 c1 i2 i3 i4 i5 i6 i7 i8 i9 i10 c11 c12 c13 c14 c15 c16 i17 i18 c19 c20 c21 c22 i23 c24 c25 c26 c27 c28 c29 c30 i31 i32 i33 i34 c35 c36 i37 i38 i39 i40 i41 i42 c43 c44 c45 c46 c47 c48 c49 c50 c51 c52 c53 c54 c55 c56 c57 c58 c59 i60 c61 i62 c63 i64 i65 i66 c67 c68 c69 c70 c71 c72 i73 c74 c75 i76 i77 i78 c79 i80 i81 i82 i83 i84 f13 (by omega) (by omega) (by omega) (by omega) (by omega) (by omega) (by omega) _) [0, 1] [] rfl (by decide) rfl (by decide) (by decide) 0 rfl rfl q2168 q160 q2165 q2167 q138 (by decide +kernel) ⟨(Nat.le_of_ble_eq_true rfl), (Nat.le_of_ble_eq_true rfl)⟩ rfl hl.1 rfl (Nat.le_of_ble_eq_true rfl) dX11_reckoned_98 ⟨(Nat.le_of_ble_eq_true rfl), (Nat.le_of_ble_eq_true rfl)⟩ (fun u14 H locs w16 hP hD hS => ?_)
    refine W.widen (k := 0) (n := 0) (Nat.le_of_ble_eq_true rfl) (Nat.le_of_ble_eq_true rfl) ?_
    obtain ⟨f17, rfl⟩ : ∃ z, z = u14 := ⟨_, rfl⟩
    have hP : va_P D vwC [(t0, .inr (11, [.int i0, .ref c1, .int i2, .int i3, .int i4, .int i5, .int i6, .int i7, .long i8, .int i9, .int i10, .ref c11, .ref c12, .ref c13, .ref c14, .ref c15, .ref c16, .int i17, .int i18, .ref c19, .ref c20, .ref c21, .ref c22, .int i23, .ref c24, .ref c25, .ref c26, .ref c27, .ref c28, .ref c29, .ref c30, .int i31, .int i32, .int i33, .int i34, .ref c35, .ref c36, .int i37, .int i38, .int i39, .int i40, .int i41, .int i42, .ref c43, .ref c44, .ref c45, .ref c46, .ref c47, .ref c48, .ref c49, .ref c50, .ref c51, .ref c52, .ref c53, .ref c54, .ref c55, .ref c56, .ref c57, .ref c58, .ref c59, .int i60, .ref c61, .int i62, .ref c63, .int i64, .int i65, .int i66, .ref c67, .ref c68, .ref c69, .ref c70, .ref c71, .ref c72, .int i73, .ref c74, .ref c75, .int i76, .int i77, .int i78, .ref c79, .int i80, .int i81, .int i82, .int i83, .int i84])), (c75, .inl (dA 0, 16, .inl f17))] H := hP
    have hD : va_D A [(t0, .inr (11, [.int i0, .ref c1, .int i2, .int i3, .int i4, .int i5, .int i6, .int i7, .long i8, .int i9, .int i10, .ref c11, .ref c12, .ref c13, .ref c14, .ref c15, .ref c16, .int i17, .int i18, .ref c19, .ref c20, .ref c21, .ref c22, .int i23, .ref c24, .ref c25, .ref c26, .ref c27, .ref c28, .ref c29, .ref c30, .int i31, .int i32, .int i33, .int i34, .ref c35, .ref c36, .int i37, .int i38, .int i39, .int i40, .int i41, .int i42, .ref c43, .ref c44, .ref c45, .ref c46, .ref c47, .ref c48, .ref c49, .ref c50, .ref c51, .ref c52, .ref c53, .ref c54, .ref c55, .ref c56, .ref c57, .ref c58, .ref c59, .int i60, .ref c61, .int i62, .ref c63, .int i64, .int i65, .int i66, .ref c67, .ref c68, .ref c69, .ref c70, .ref c71, .ref c72, .int i73, .ref c74, .ref c75, .int i76, .int i77, .int i78, .ref c79, .int i80, .int i81, .int i82, .int i83, .int i84])), (c75, .inl (dA 0, 16, .inl f17))] := hD
    refine lv_iload hx hb dX11_reckoned_101 (lv_at hl 0 rfl) ?_
    refine lv_ldcw hx hb hown (hg _ q1907) dX11_reckoned_103 ?_
    refine lv_iand hx hb dX11_reckoned_106 ?_
    refine lv_topi (fun x18 e19 => ?_)
    have g20 : 0 ≤ x18.toInt ∧ x18.toInt ≤ 65535 := g_msk e19 16 (by decide) (by decide) (by decide)
    exact g_iret hx hb hr rfl hlocks hK f17 hP hD hS trivial (Nat.le_of_ble_eq_true rfl) (Nat.le_of_ble_eq_true rfl) dX11_reckoned_107
  by_cases s21 : a0 = 1
  · have g22 : a0.toInt = 1 := by rw [s21]; decide
    refine lv_tableIn (tgt := 52) hx hb dX11_reckoned_1 (by rw [s21]; decide) (by rw [s21]; decide) (by rw [s21]; rfl) (by decide) ?_
    refine lv_iload_n hx hb dX11_reckoned_52 rfl (lv_at hl 2 rfl) ?_
    refine lv_iload_n hx hb dX11_reckoned_53 rfl (lv_at hl 3 rfl) ?_
    refine lv_ior hx hb dX11_reckoned_54 ?_
    refine lv_topi (fun x23 e24 => ?_)
    refine lv_istore (lv' := [(4, .int x23), (0, .ref t0), (1, .int a0), (2, .int a1), (3, .int a2)]) hx hb dX11_reckoned_55 hl (by decide) rfl (fun ls hl => ?_)
    refine lv_goto (tgt := 81) hx hb dX11_reckoned_57 (by decide) ?_
    refine lv_aload_n hx hb dX11_reckoned_81 rfl (lv_at hl 1 rfl) ?_
    refine g_get hx hb hg hown hK hP 0 rfl rfl inX11 75 (by decide) q1690 rfl dX11_reckoned_82 ?_
    refine lv_bipush (v := 13) hx hb dX11_reckoned_85 (by decide) ?_
    refine lv_iload hx hb dX11_reckoned_87 (lv_at hl 0 rfl) ?_
    refine lv_bipush (v := 16) hx hb dX11_reckoned_89 (by decide) ?_
    refine lv_ishr hx hb dX11_reckoned_91 ?_
    refine lv_topi (fun x25 e26 => ?_)
    have g27 : x25.toInt * 65536 ≤ x23.toInt ∧ x23.toInt < x25.toInt * 65536 + 65536 := g_shr e26 16 (by decide) (by decide) (by decide)
    refine lv_iconst (v := 1) hx hb dX11_reckoned_92 (by decide) ?_
    refine lv_iand hx hb dX11_reckoned_93 ?_
    refine lv_topi (fun x28 e29 => ?_)
    have g30 : 0 ≤ x28.toInt ∧ x28.toInt ≤ 1 := g_msk e29 1 (by decide) (by decide) (by decide)
    refine va_iast hx hb hK hP hD hS 1 0 rfl rfl (by unfold vp_in; decide) dX11_reckoned_94 (fun H locs hP hD hS => ?_)
    have hP : va_P D vwC [(t0, .inr (11, [.int i0, .ref c1, .int i2, .int i3, .int i4, .int i5, .int i6, .int i7, .long i8, .int i9, .int i10, .ref c11, .ref c12, .ref c13, .ref c14, .ref c15, .ref c16, .int i17, .int i18, .ref c19, .ref c20, .ref c21, .ref c22, .int i23, .ref c24, .ref c25, .ref c26, .ref c27, .ref c28, .ref c29, .ref c30, .int i31, .int i32, .int i33, .int i34, .ref c35, .ref c36, .int i37, .int i38, .int i39, .int i40, .int i41, .int i42, .ref c43, .ref c44, .ref c45, .ref c46, .ref c47, .ref c48, .ref c49, .ref c50, .ref c51, .ref c52, .ref c53, .ref c54, .ref c55, .ref c56, .ref c57, .ref c58, .ref c59, .int i60, .ref c61, .int i62, .ref c63, .int i64, .int i65, .int i66, .ref c67, .ref c68, .ref c69, .ref c70, .ref c71, .ref c72, .int i73, .ref c74, .ref c75, .int i76, .int i77, .int i78, .ref c79, .int i80, .int i81, .int i82, .int i83, .int i84])), (c75, .inl (dA 0, 16, .inl (upd m75 (13 : Int32).toNatClampNeg x28)))] H := hP
    have hD : va_D A [(t0, .inr (11, [.int i0, .ref c1, .int i2, .int i3, .int i4, .int i5, .int i6, .int i7, .long i8, .int i9, .int i10, .ref c11, .ref c12, .ref c13, .ref c14, .ref c15, .ref c16, .int i17, .int i18, .ref c19, .ref c20, .ref c21, .ref c22, .int i23, .ref c24, .ref c25, .ref c26, .ref c27, .ref c28, .ref c29, .ref c30, .int i31, .int i32, .int i33, .int i34, .ref c35, .ref c36, .int i37, .int i38, .int i39, .int i40, .int i41, .int i42, .ref c43, .ref c44, .ref c45, .ref c46, .ref c47, .ref c48, .ref c49, .ref c50, .ref c51, .ref c52, .ref c53, .ref c54, .ref c55, .ref c56, .ref c57, .ref c58, .ref c59, .int i60, .ref c61, .int i62, .ref c63, .int i64, .int i65, .int i66, .ref c67, .ref c68, .ref c69, .ref c70, .ref c71, .ref c72, .int i73, .ref c74, .ref c75, .int i76, .int i77, .int i78, .ref c79, .int i80, .int i81, .int i82, .int i83, .int i84])), (c75, .inl (dA 0, 16, .inl (upd m75 (13 : Int32).toNatClampNeg x28)))] := hD
    obtain ⟨f31, ef31⟩ : ∃ f : Nat → Int32, f = (upd m75 (13 : Int32).toNatClampNeg x28) := ⟨_, rfl⟩
    rw [← ef31] at hP hD
    refine lv_aload_n hx hb dX11_reckoned_95 rfl (lv_at hl 1 rfl) ?_
    refine lv_iload hx hb dX11_reckoned_96 (lv_at hl 0 rfl) ?_
    refine g_Vv (n := 1) (As := [.int x23]) (rest := []) (wr := []) hx hb hml hg hown hK hP hD hS hA (s_X11_flags l D dA t0 x23 i0 c1 i2 i3 i4 i5 i6 i7 i8 i9 i10 c11 c12 c13 c14 c15 c16 i17 i18 c19 c20 c21 c22 i23 c24 c25 c26 c27 c28 c29 c30 i31 i32 i33 i34 c35 c36 i37 i38 i39 i40 i41 i42 c43 c44 c45 c46 c47 c48 c49 c50 c51 c52 c53 c54 c55 c56 c57 c58 c59 i60 c61 i62 c63 i64 i65 i66 c67 c68 c69 c70 c71 c72 i73 c74 c75 i76 i77 i78 c79 i80 i81 i82 i83 i84 f31 (by omega) (by omega) (by omega) (by omega) (by omega) (by omega) (by omega) _) [0, 1] [] rfl (by decide) rfl (by decide) (by decide) 0 rfl rfl q2168 q160 q2165 q2167 q138 (by decide +kernel) ⟨(Nat.le_of_ble_eq_true rfl), (Nat.le_of_ble_eq_true rfl)⟩ rfl hl.1 rfl (Nat.le_of_ble_eq_true rfl) dX11_reckoned_98 ⟨(Nat.le_of_ble_eq_true rfl), (Nat.le_of_ble_eq_true rfl)⟩ (fun u32 H locs w34 hP hD hS => ?_)
    refine W.widen (k := 0) (n := 0) (Nat.le_of_ble_eq_true rfl) (Nat.le_of_ble_eq_true rfl) ?_
    obtain ⟨f35, rfl⟩ : ∃ z, z = u32 := ⟨_, rfl⟩
    have hP : va_P D vwC [(t0, .inr (11, [.int i0, .ref c1, .int i2, .int i3, .int i4, .int i5, .int i6, .int i7, .long i8, .int i9, .int i10, .ref c11, .ref c12, .ref c13, .ref c14, .ref c15, .ref c16, .int i17, .int i18, .ref c19, .ref c20, .ref c21, .ref c22, .int i23, .ref c24, .ref c25, .ref c26, .ref c27, .ref c28, .ref c29, .ref c30, .int i31, .int i32, .int i33, .int i34, .ref c35, .ref c36, .int i37, .int i38, .int i39, .int i40, .int i41, .int i42, .ref c43, .ref c44, .ref c45, .ref c46, .ref c47, .ref c48, .ref c49, .ref c50, .ref c51, .ref c52, .ref c53, .ref c54, .ref c55, .ref c56, .ref c57, .ref c58, .ref c59, .int i60, .ref c61, .int i62, .ref c63, .int i64, .int i65, .int i66, .ref c67, .ref c68, .ref c69, .ref c70, .ref c71, .ref c72, .int i73, .ref c74, .ref c75, .int i76, .int i77, .int i78, .ref c79, .int i80, .int i81, .int i82, .int i83, .int i84])), (c75, .inl (dA 0, 16, .inl f35))] H := hP
    have hD : va_D A [(t0, .inr (11, [.int i0, .ref c1, .int i2, .int i3, .int i4, .int i5, .int i6, .int i7, .long i8, .int i9, .int i10, .ref c11, .ref c12, .ref c13, .ref c14, .ref c15, .ref c16, .int i17, .int i18, .ref c19, .ref c20, .ref c21, .ref c22, .int i23, .ref c24, .ref c25, .ref c26, .ref c27, .ref c28, .ref c29, .ref c30, .int i31, .int i32, .int i33, .int i34, .ref c35, .ref c36, .int i37, .int i38, .int i39, .int i40, .int i41, .int i42, .ref c43, .ref c44, .ref c45, .ref c46, .ref c47, .ref c48, .ref c49, .ref c50, .ref c51, .ref c52, .ref c53, .ref c54, .ref c55, .ref c56, .ref c57, .ref c58, .ref c59, .int i60, .ref c61, .int i62, .ref c63, .int i64, .int i65, .int i66, .ref c67, .ref c68, .ref c69, .ref c70, .ref c71, .ref c72, .int i73, .ref c74, .ref c75, .int i76, .int i77, .int i78, .ref c79, .int i80, .int i81, .int i82, .int i83, .int i84])), (c75, .inl (dA 0, 16, .inl f35))] := hD
    refine lv_iload hx hb dX11_reckoned_101 (lv_at hl 0 rfl) ?_
    refine lv_ldcw hx hb hown (hg _ q1907) dX11_reckoned_103 ?_
    refine lv_iand hx hb dX11_reckoned_106 ?_
    refine lv_topi (fun x36 e37 => ?_)
    have g38 : 0 ≤ x36.toInt ∧ x36.toInt ≤ 65535 := g_msk e37 16 (by decide) (by decide) (by decide)
    exact g_iret hx hb hr rfl hlocks hK f35 hP hD hS trivial (Nat.le_of_ble_eq_true rfl) (Nat.le_of_ble_eq_true rfl) dX11_reckoned_107
  by_cases s39 : a0 = 2
  · have g40 : a0.toInt = 2 := by rw [s39]; decide
    refine lv_tableIn (tgt := 76) hx hb dX11_reckoned_1 (by rw [s39]; decide) (by rw [s39]; decide) (by rw [s39]; rfl) (by decide) ?_
    refine lv_iload_n hx hb dX11_reckoned_76 rfl (lv_at hl 2 rfl) ?_
    refine lv_iload_n hx hb dX11_reckoned_77 rfl (lv_at hl 3 rfl) ?_
    refine lv_isub hx hb dX11_reckoned_78 ?_
    have g41 := g_i32 a1
    have g42 := g_i32 a2
    refine lv_topi (fun x43 e44 => ?_)
    refine lv_istore (lv' := [(4, .int x43), (0, .ref t0), (1, .int a0), (2, .int a1), (3, .int a2)]) hx hb dX11_reckoned_79 hl (by decide) rfl (fun ls hl => ?_)
    refine lv_aload_n hx hb dX11_reckoned_81 rfl (lv_at hl 1 rfl) ?_
    refine g_get hx hb hg hown hK hP 0 rfl rfl inX11 75 (by decide) q1690 rfl dX11_reckoned_82 ?_
    refine lv_bipush (v := 13) hx hb dX11_reckoned_85 (by decide) ?_
    refine lv_iload hx hb dX11_reckoned_87 (lv_at hl 0 rfl) ?_
    refine lv_bipush (v := 16) hx hb dX11_reckoned_89 (by decide) ?_
    refine lv_ishr hx hb dX11_reckoned_91 ?_
    refine lv_topi (fun x45 e46 => ?_)
    have g47 : x45.toInt * 65536 ≤ x43.toInt ∧ x43.toInt < x45.toInt * 65536 + 65536 := g_shr e46 16 (by decide) (by decide) (by decide)
    refine lv_iconst (v := 1) hx hb dX11_reckoned_92 (by decide) ?_
    refine lv_iand hx hb dX11_reckoned_93 ?_
    refine lv_topi (fun x48 e49 => ?_)
    have g50 : 0 ≤ x48.toInt ∧ x48.toInt ≤ 1 := g_msk e49 1 (by decide) (by decide) (by decide)
    refine va_iast hx hb hK hP hD hS 1 0 rfl rfl (by unfold vp_in; decide) dX11_reckoned_94 (fun H locs hP hD hS => ?_)
    have hP : va_P D vwC [(t0, .inr (11, [.int i0, .ref c1, .int i2, .int i3, .int i4, .int i5, .int i6, .int i7, .long i8, .int i9, .int i10, .ref c11, .ref c12, .ref c13, .ref c14, .ref c15, .ref c16, .int i17, .int i18, .ref c19, .ref c20, .ref c21, .ref c22, .int i23, .ref c24, .ref c25, .ref c26, .ref c27, .ref c28, .ref c29, .ref c30, .int i31, .int i32, .int i33, .int i34, .ref c35, .ref c36, .int i37, .int i38, .int i39, .int i40, .int i41, .int i42, .ref c43, .ref c44, .ref c45, .ref c46, .ref c47, .ref c48, .ref c49, .ref c50, .ref c51, .ref c52, .ref c53, .ref c54, .ref c55, .ref c56, .ref c57, .ref c58, .ref c59, .int i60, .ref c61, .int i62, .ref c63, .int i64, .int i65, .int i66, .ref c67, .ref c68, .ref c69, .ref c70, .ref c71, .ref c72, .int i73, .ref c74, .ref c75, .int i76, .int i77, .int i78, .ref c79, .int i80, .int i81, .int i82, .int i83, .int i84])), (c75, .inl (dA 0, 16, .inl (upd m75 (13 : Int32).toNatClampNeg x48)))] H := hP
    have hD : va_D A [(t0, .inr (11, [.int i0, .ref c1, .int i2, .int i3, .int i4, .int i5, .int i6, .int i7, .long i8, .int i9, .int i10, .ref c11, .ref c12, .ref c13, .ref c14, .ref c15, .ref c16, .int i17, .int i18, .ref c19, .ref c20, .ref c21, .ref c22, .int i23, .ref c24, .ref c25, .ref c26, .ref c27, .ref c28, .ref c29, .ref c30, .int i31, .int i32, .int i33, .int i34, .ref c35, .ref c36, .int i37, .int i38, .int i39, .int i40, .int i41, .int i42, .ref c43, .ref c44, .ref c45, .ref c46, .ref c47, .ref c48, .ref c49, .ref c50, .ref c51, .ref c52, .ref c53, .ref c54, .ref c55, .ref c56, .ref c57, .ref c58, .ref c59, .int i60, .ref c61, .int i62, .ref c63, .int i64, .int i65, .int i66, .ref c67, .ref c68, .ref c69, .ref c70, .ref c71, .ref c72, .int i73, .ref c74, .ref c75, .int i76, .int i77, .int i78, .ref c79, .int i80, .int i81, .int i82, .int i83, .int i84])), (c75, .inl (dA 0, 16, .inl (upd m75 (13 : Int32).toNatClampNeg x48)))] := hD
    obtain ⟨f51, ef51⟩ : ∃ f : Nat → Int32, f = (upd m75 (13 : Int32).toNatClampNeg x48) := ⟨_, rfl⟩
    rw [← ef51] at hP hD
    refine lv_aload_n hx hb dX11_reckoned_95 rfl (lv_at hl 1 rfl) ?_
    refine lv_iload hx hb dX11_reckoned_96 (lv_at hl 0 rfl) ?_
    refine g_Vv (n := 1) (As := [.int x43]) (rest := []) (wr := []) hx hb hml hg hown hK hP hD hS hA (s_X11_flags l D dA t0 x43 i0 c1 i2 i3 i4 i5 i6 i7 i8 i9 i10 c11 c12 c13 c14 c15 c16 i17 i18 c19 c20 c21 c22 i23 c24 c25 c26 c27 c28 c29 c30 i31 i32 i33 i34 c35 c36 i37 i38 i39 i40 i41 i42 c43 c44 c45 c46 c47 c48 c49 c50 c51 c52 c53 c54 c55 c56 c57 c58 c59 i60 c61 i62 c63 i64 i65 i66 c67 c68 c69 c70 c71 c72 i73 c74 c75 i76 i77 i78 c79 i80 i81 i82 i83 i84 f51 (by omega) (by omega) (by omega) (by omega) (by omega) (by omega) (by omega) _) [0, 1] [] rfl (by decide) rfl (by decide) (by decide) 0 rfl rfl q2168 q160 q2165 q2167 q138 (by decide +kernel) ⟨(Nat.le_of_ble_eq_true rfl), (Nat.le_of_ble_eq_true rfl)⟩ rfl hl.1 rfl (Nat.le_of_ble_eq_true rfl) dX11_reckoned_98 ⟨(Nat.le_of_ble_eq_true rfl), (Nat.le_of_ble_eq_true rfl)⟩ (fun u52 H locs w54 hP hD hS => ?_)
    refine W.widen (k := 0) (n := 0) (Nat.le_of_ble_eq_true rfl) (Nat.le_of_ble_eq_true rfl) ?_
    obtain ⟨f55, rfl⟩ : ∃ z, z = u52 := ⟨_, rfl⟩
    have hP : va_P D vwC [(t0, .inr (11, [.int i0, .ref c1, .int i2, .int i3, .int i4, .int i5, .int i6, .int i7, .long i8, .int i9, .int i10, .ref c11, .ref c12, .ref c13, .ref c14, .ref c15, .ref c16, .int i17, .int i18, .ref c19, .ref c20, .ref c21, .ref c22, .int i23, .ref c24, .ref c25, .ref c26, .ref c27, .ref c28, .ref c29, .ref c30, .int i31, .int i32, .int i33, .int i34, .ref c35, .ref c36, .int i37, .int i38, .int i39, .int i40, .int i41, .int i42, .ref c43, .ref c44, .ref c45, .ref c46, .ref c47, .ref c48, .ref c49, .ref c50, .ref c51, .ref c52, .ref c53, .ref c54, .ref c55, .ref c56, .ref c57, .ref c58, .ref c59, .int i60, .ref c61, .int i62, .ref c63, .int i64, .int i65, .int i66, .ref c67, .ref c68, .ref c69, .ref c70, .ref c71, .ref c72, .int i73, .ref c74, .ref c75, .int i76, .int i77, .int i78, .ref c79, .int i80, .int i81, .int i82, .int i83, .int i84])), (c75, .inl (dA 0, 16, .inl f55))] H := hP
    have hD : va_D A [(t0, .inr (11, [.int i0, .ref c1, .int i2, .int i3, .int i4, .int i5, .int i6, .int i7, .long i8, .int i9, .int i10, .ref c11, .ref c12, .ref c13, .ref c14, .ref c15, .ref c16, .int i17, .int i18, .ref c19, .ref c20, .ref c21, .ref c22, .int i23, .ref c24, .ref c25, .ref c26, .ref c27, .ref c28, .ref c29, .ref c30, .int i31, .int i32, .int i33, .int i34, .ref c35, .ref c36, .int i37, .int i38, .int i39, .int i40, .int i41, .int i42, .ref c43, .ref c44, .ref c45, .ref c46, .ref c47, .ref c48, .ref c49, .ref c50, .ref c51, .ref c52, .ref c53, .ref c54, .ref c55, .ref c56, .ref c57, .ref c58, .ref c59, .int i60, .ref c61, .int i62, .ref c63, .int i64, .int i65, .int i66, .ref c67, .ref c68, .ref c69, .ref c70, .ref c71, .ref c72, .int i73, .ref c74, .ref c75, .int i76, .int i77, .int i78, .ref c79, .int i80, .int i81, .int i82, .int i83, .int i84])), (c75, .inl (dA 0, 16, .inl f55))] := hD
    refine lv_iload hx hb dX11_reckoned_101 (lv_at hl 0 rfl) ?_
    refine lv_ldcw hx hb hown (hg _ q1907) dX11_reckoned_103 ?_
    refine lv_iand hx hb dX11_reckoned_106 ?_
    refine lv_topi (fun x56 e57 => ?_)
    have g58 : 0 ≤ x56.toInt ∧ x56.toInt ≤ 65535 := g_msk e57 16 (by decide) (by decide) (by decide)
    exact g_iret hx hb hr rfl hlocks hK f55 hP hD hS trivial (Nat.le_of_ble_eq_true rfl) (Nat.le_of_ble_eq_true rfl) dX11_reckoned_107
  by_cases s59 : a0 = 3
  · have g60 : a0.toInt = 3 := by rw [s59]; decide
    refine lv_tableIn (tgt := 76) hx hb dX11_reckoned_1 (by rw [s59]; decide) (by rw [s59]; decide) (by rw [s59]; rfl) (by decide) ?_
    refine lv_iload_n hx hb dX11_reckoned_76 rfl (lv_at hl 2 rfl) ?_
    refine lv_iload_n hx hb dX11_reckoned_77 rfl (lv_at hl 3 rfl) ?_
    refine lv_isub hx hb dX11_reckoned_78 ?_
    have g61 := g_i32 a1
    have g62 := g_i32 a2
    refine lv_topi (fun x63 e64 => ?_)
    refine lv_istore (lv' := [(4, .int x63), (0, .ref t0), (1, .int a0), (2, .int a1), (3, .int a2)]) hx hb dX11_reckoned_79 hl (by decide) rfl (fun ls hl => ?_)
    refine lv_aload_n hx hb dX11_reckoned_81 rfl (lv_at hl 1 rfl) ?_
    refine g_get hx hb hg hown hK hP 0 rfl rfl inX11 75 (by decide) q1690 rfl dX11_reckoned_82 ?_
    refine lv_bipush (v := 13) hx hb dX11_reckoned_85 (by decide) ?_
    refine lv_iload hx hb dX11_reckoned_87 (lv_at hl 0 rfl) ?_
    refine lv_bipush (v := 16) hx hb dX11_reckoned_89 (by decide) ?_
    refine lv_ishr hx hb dX11_reckoned_91 ?_
    refine lv_topi (fun x65 e66 => ?_)
    have g67 : x65.toInt * 65536 ≤ x63.toInt ∧ x63.toInt < x65.toInt * 65536 + 65536 := g_shr e66 16 (by decide) (by decide) (by decide)
    refine lv_iconst (v := 1) hx hb dX11_reckoned_92 (by decide) ?_
    refine lv_iand hx hb dX11_reckoned_93 ?_
    refine lv_topi (fun x68 e69 => ?_)
    have g70 : 0 ≤ x68.toInt ∧ x68.toInt ≤ 1 := g_msk e69 1 (by decide) (by decide) (by decide)
    refine va_iast hx hb hK hP hD hS 1 0 rfl rfl (by unfold vp_in; decide) dX11_reckoned_94 (fun H locs hP hD hS => ?_)
    have hP : va_P D vwC [(t0, .inr (11, [.int i0, .ref c1, .int i2, .int i3, .int i4, .int i5, .int i6, .int i7, .long i8, .int i9, .int i10, .ref c11, .ref c12, .ref c13, .ref c14, .ref c15, .ref c16, .int i17, .int i18, .ref c19, .ref c20, .ref c21, .ref c22, .int i23, .ref c24, .ref c25, .ref c26, .ref c27, .ref c28, .ref c29, .ref c30, .int i31, .int i32, .int i33, .int i34, .ref c35, .ref c36, .int i37, .int i38, .int i39, .int i40, .int i41, .int i42, .ref c43, .ref c44, .ref c45, .ref c46, .ref c47, .ref c48, .ref c49, .ref c50, .ref c51, .ref c52, .ref c53, .ref c54, .ref c55, .ref c56, .ref c57, .ref c58, .ref c59, .int i60, .ref c61, .int i62, .ref c63, .int i64, .int i65, .int i66, .ref c67, .ref c68, .ref c69, .ref c70, .ref c71, .ref c72, .int i73, .ref c74, .ref c75, .int i76, .int i77, .int i78, .ref c79, .int i80, .int i81, .int i82, .int i83, .int i84])), (c75, .inl (dA 0, 16, .inl (upd m75 (13 : Int32).toNatClampNeg x68)))] H := hP
    have hD : va_D A [(t0, .inr (11, [.int i0, .ref c1, .int i2, .int i3, .int i4, .int i5, .int i6, .int i7, .long i8, .int i9, .int i10, .ref c11, .ref c12, .ref c13, .ref c14, .ref c15, .ref c16, .int i17, .int i18, .ref c19, .ref c20, .ref c21, .ref c22, .int i23, .ref c24, .ref c25, .ref c26, .ref c27, .ref c28, .ref c29, .ref c30, .int i31, .int i32, .int i33, .int i34, .ref c35, .ref c36, .int i37, .int i38, .int i39, .int i40, .int i41, .int i42, .ref c43, .ref c44, .ref c45, .ref c46, .ref c47, .ref c48, .ref c49, .ref c50, .ref c51, .ref c52, .ref c53, .ref c54, .ref c55, .ref c56, .ref c57, .ref c58, .ref c59, .int i60, .ref c61, .int i62, .ref c63, .int i64, .int i65, .int i66, .ref c67, .ref c68, .ref c69, .ref c70, .ref c71, .ref c72, .int i73, .ref c74, .ref c75, .int i76, .int i77, .int i78, .ref c79, .int i80, .int i81, .int i82, .int i83, .int i84])), (c75, .inl (dA 0, 16, .inl (upd m75 (13 : Int32).toNatClampNeg x68)))] := hD
    obtain ⟨f71, ef71⟩ : ∃ f : Nat → Int32, f = (upd m75 (13 : Int32).toNatClampNeg x68) := ⟨_, rfl⟩
    rw [← ef71] at hP hD
    refine lv_aload_n hx hb dX11_reckoned_95 rfl (lv_at hl 1 rfl) ?_
    refine lv_iload hx hb dX11_reckoned_96 (lv_at hl 0 rfl) ?_
    refine g_Vv (n := 1) (As := [.int x63]) (rest := []) (wr := []) hx hb hml hg hown hK hP hD hS hA (s_X11_flags l D dA t0 x63 i0 c1 i2 i3 i4 i5 i6 i7 i8 i9 i10 c11 c12 c13 c14 c15 c16 i17 i18 c19 c20 c21 c22 i23 c24 c25 c26 c27 c28 c29 c30 i31 i32 i33 i34 c35 c36 i37 i38 i39 i40 i41 i42 c43 c44 c45 c46 c47 c48 c49 c50 c51 c52 c53 c54 c55 c56 c57 c58 c59 i60 c61 i62 c63 i64 i65 i66 c67 c68 c69 c70 c71 c72 i73 c74 c75 i76 i77 i78 c79 i80 i81 i82 i83 i84 f71 (by omega) (by omega) (by omega) (by omega) (by omega) (by omega) (by omega) _) [0, 1] [] rfl (by decide) rfl (by decide) (by decide) 0 rfl rfl q2168 q160 q2165 q2167 q138 (by decide +kernel) ⟨(Nat.le_of_ble_eq_true rfl), (Nat.le_of_ble_eq_true rfl)⟩ rfl hl.1 rfl (Nat.le_of_ble_eq_true rfl) dX11_reckoned_98 ⟨(Nat.le_of_ble_eq_true rfl), (Nat.le_of_ble_eq_true rfl)⟩ (fun u72 H locs w74 hP hD hS => ?_)
    refine W.widen (k := 0) (n := 0) (Nat.le_of_ble_eq_true rfl) (Nat.le_of_ble_eq_true rfl) ?_
    obtain ⟨f75, rfl⟩ : ∃ z, z = u72 := ⟨_, rfl⟩
    have hP : va_P D vwC [(t0, .inr (11, [.int i0, .ref c1, .int i2, .int i3, .int i4, .int i5, .int i6, .int i7, .long i8, .int i9, .int i10, .ref c11, .ref c12, .ref c13, .ref c14, .ref c15, .ref c16, .int i17, .int i18, .ref c19, .ref c20, .ref c21, .ref c22, .int i23, .ref c24, .ref c25, .ref c26, .ref c27, .ref c28, .ref c29, .ref c30, .int i31, .int i32, .int i33, .int i34, .ref c35, .ref c36, .int i37, .int i38, .int i39, .int i40, .int i41, .int i42, .ref c43, .ref c44, .ref c45, .ref c46, .ref c47, .ref c48, .ref c49, .ref c50, .ref c51, .ref c52, .ref c53, .ref c54, .ref c55, .ref c56, .ref c57, .ref c58, .ref c59, .int i60, .ref c61, .int i62, .ref c63, .int i64, .int i65, .int i66, .ref c67, .ref c68, .ref c69, .ref c70, .ref c71, .ref c72, .int i73, .ref c74, .ref c75, .int i76, .int i77, .int i78, .ref c79, .int i80, .int i81, .int i82, .int i83, .int i84])), (c75, .inl (dA 0, 16, .inl f75))] H := hP
    have hD : va_D A [(t0, .inr (11, [.int i0, .ref c1, .int i2, .int i3, .int i4, .int i5, .int i6, .int i7, .long i8, .int i9, .int i10, .ref c11, .ref c12, .ref c13, .ref c14, .ref c15, .ref c16, .int i17, .int i18, .ref c19, .ref c20, .ref c21, .ref c22, .int i23, .ref c24, .ref c25, .ref c26, .ref c27, .ref c28, .ref c29, .ref c30, .int i31, .int i32, .int i33, .int i34, .ref c35, .ref c36, .int i37, .int i38, .int i39, .int i40, .int i41, .int i42, .ref c43, .ref c44, .ref c45, .ref c46, .ref c47, .ref c48, .ref c49, .ref c50, .ref c51, .ref c52, .ref c53, .ref c54, .ref c55, .ref c56, .ref c57, .ref c58, .ref c59, .int i60, .ref c61, .int i62, .ref c63, .int i64, .int i65, .int i66, .ref c67, .ref c68, .ref c69, .ref c70, .ref c71, .ref c72, .int i73, .ref c74, .ref c75, .int i76, .int i77, .int i78, .ref c79, .int i80, .int i81, .int i82, .int i83, .int i84])), (c75, .inl (dA 0, 16, .inl f75))] := hD
    refine lv_iload hx hb dX11_reckoned_101 (lv_at hl 0 rfl) ?_
    refine lv_ldcw hx hb hown (hg _ q1907) dX11_reckoned_103 ?_
    refine lv_iand hx hb dX11_reckoned_106 ?_
    refine lv_topi (fun x76 e77 => ?_)
    have g78 : 0 ≤ x76.toInt ∧ x76.toInt ≤ 65535 := g_msk e77 16 (by decide) (by decide) (by decide)
    exact g_iret hx hb hr rfl hlocks hK f75 hP hD hS trivial (Nat.le_of_ble_eq_true rfl) (Nat.le_of_ble_eq_true rfl) dX11_reckoned_107
  by_cases s79 : a0 = 4
  · have g80 : a0.toInt = 4 := by rw [s79]; decide
    refine lv_tableIn (tgt := 60) hx hb dX11_reckoned_1 (by rw [s79]; decide) (by rw [s79]; decide) (by rw [s79]; rfl) (by decide) ?_
    refine lv_iload_n hx hb dX11_reckoned_60 rfl (lv_at hl 2 rfl) ?_
    refine lv_iload_n hx hb dX11_reckoned_61 rfl (lv_at hl 3 rfl) ?_
    refine lv_iand hx hb dX11_reckoned_62 ?_
    refine lv_topi (fun x81 e82 => ?_)
    refine lv_istore (lv' := [(4, .int x81), (0, .ref t0), (1, .int a0), (2, .int a1), (3, .int a2)]) hx hb dX11_reckoned_63 hl (by decide) rfl (fun ls hl => ?_)
    refine lv_goto (tgt := 81) hx hb dX11_reckoned_65 (by decide) ?_
    refine lv_aload_n hx hb dX11_reckoned_81 rfl (lv_at hl 1 rfl) ?_
    refine g_get hx hb hg hown hK hP 0 rfl rfl inX11 75 (by decide) q1690 rfl dX11_reckoned_82 ?_
    refine lv_bipush (v := 13) hx hb dX11_reckoned_85 (by decide) ?_
    refine lv_iload hx hb dX11_reckoned_87 (lv_at hl 0 rfl) ?_
    refine lv_bipush (v := 16) hx hb dX11_reckoned_89 (by decide) ?_
    refine lv_ishr hx hb dX11_reckoned_91 ?_
    refine lv_topi (fun x83 e84 => ?_)
    have g85 : x83.toInt * 65536 ≤ x81.toInt ∧ x81.toInt < x83.toInt * 65536 + 65536 := g_shr e84 16 (by decide) (by decide) (by decide)
    refine lv_iconst (v := 1) hx hb dX11_reckoned_92 (by decide) ?_
    refine lv_iand hx hb dX11_reckoned_93 ?_
    refine lv_topi (fun x86 e87 => ?_)
    have g88 : 0 ≤ x86.toInt ∧ x86.toInt ≤ 1 := g_msk e87 1 (by decide) (by decide) (by decide)
    refine va_iast hx hb hK hP hD hS 1 0 rfl rfl (by unfold vp_in; decide) dX11_reckoned_94 (fun H locs hP hD hS => ?_)
    have hP : va_P D vwC [(t0, .inr (11, [.int i0, .ref c1, .int i2, .int i3, .int i4, .int i5, .int i6, .int i7, .long i8, .int i9, .int i10, .ref c11, .ref c12, .ref c13, .ref c14, .ref c15, .ref c16, .int i17, .int i18, .ref c19, .ref c20, .ref c21, .ref c22, .int i23, .ref c24, .ref c25, .ref c26, .ref c27, .ref c28, .ref c29, .ref c30, .int i31, .int i32, .int i33, .int i34, .ref c35, .ref c36, .int i37, .int i38, .int i39, .int i40, .int i41, .int i42, .ref c43, .ref c44, .ref c45, .ref c46, .ref c47, .ref c48, .ref c49, .ref c50, .ref c51, .ref c52, .ref c53, .ref c54, .ref c55, .ref c56, .ref c57, .ref c58, .ref c59, .int i60, .ref c61, .int i62, .ref c63, .int i64, .int i65, .int i66, .ref c67, .ref c68, .ref c69, .ref c70, .ref c71, .ref c72, .int i73, .ref c74, .ref c75, .int i76, .int i77, .int i78, .ref c79, .int i80, .int i81, .int i82, .int i83, .int i84])), (c75, .inl (dA 0, 16, .inl (upd m75 (13 : Int32).toNatClampNeg x86)))] H := hP
    have hD : va_D A [(t0, .inr (11, [.int i0, .ref c1, .int i2, .int i3, .int i4, .int i5, .int i6, .int i7, .long i8, .int i9, .int i10, .ref c11, .ref c12, .ref c13, .ref c14, .ref c15, .ref c16, .int i17, .int i18, .ref c19, .ref c20, .ref c21, .ref c22, .int i23, .ref c24, .ref c25, .ref c26, .ref c27, .ref c28, .ref c29, .ref c30, .int i31, .int i32, .int i33, .int i34, .ref c35, .ref c36, .int i37, .int i38, .int i39, .int i40, .int i41, .int i42, .ref c43, .ref c44, .ref c45, .ref c46, .ref c47, .ref c48, .ref c49, .ref c50, .ref c51, .ref c52, .ref c53, .ref c54, .ref c55, .ref c56, .ref c57, .ref c58, .ref c59, .int i60, .ref c61, .int i62, .ref c63, .int i64, .int i65, .int i66, .ref c67, .ref c68, .ref c69, .ref c70, .ref c71, .ref c72, .int i73, .ref c74, .ref c75, .int i76, .int i77, .int i78, .ref c79, .int i80, .int i81, .int i82, .int i83, .int i84])), (c75, .inl (dA 0, 16, .inl (upd m75 (13 : Int32).toNatClampNeg x86)))] := hD
    obtain ⟨f89, ef89⟩ : ∃ f : Nat → Int32, f = (upd m75 (13 : Int32).toNatClampNeg x86) := ⟨_, rfl⟩
    rw [← ef89] at hP hD
    refine lv_aload_n hx hb dX11_reckoned_95 rfl (lv_at hl 1 rfl) ?_
    refine lv_iload hx hb dX11_reckoned_96 (lv_at hl 0 rfl) ?_
    refine g_Vv (n := 1) (As := [.int x81]) (rest := []) (wr := []) hx hb hml hg hown hK hP hD hS hA (s_X11_flags l D dA t0 x81 i0 c1 i2 i3 i4 i5 i6 i7 i8 i9 i10 c11 c12 c13 c14 c15 c16 i17 i18 c19 c20 c21 c22 i23 c24 c25 c26 c27 c28 c29 c30 i31 i32 i33 i34 c35 c36 i37 i38 i39 i40 i41 i42 c43 c44 c45 c46 c47 c48 c49 c50 c51 c52 c53 c54 c55 c56 c57 c58 c59 i60 c61 i62 c63 i64 i65 i66 c67 c68 c69 c70 c71 c72 i73 c74 c75 i76 i77 i78 c79 i80 i81 i82 i83 i84 f89 (by omega) (by omega) (by omega) (by omega) (by omega) (by omega) (by omega) _) [0, 1] [] rfl (by decide) rfl (by decide) (by decide) 0 rfl rfl q2168 q160 q2165 q2167 q138 (by decide +kernel) ⟨(Nat.le_of_ble_eq_true rfl), (Nat.le_of_ble_eq_true rfl)⟩ rfl hl.1 rfl (Nat.le_of_ble_eq_true rfl) dX11_reckoned_98 ⟨(Nat.le_of_ble_eq_true rfl), (Nat.le_of_ble_eq_true rfl)⟩ (fun u90 H locs w92 hP hD hS => ?_)
    refine W.widen (k := 0) (n := 0) (Nat.le_of_ble_eq_true rfl) (Nat.le_of_ble_eq_true rfl) ?_
    obtain ⟨f93, rfl⟩ : ∃ z, z = u90 := ⟨_, rfl⟩
    have hP : va_P D vwC [(t0, .inr (11, [.int i0, .ref c1, .int i2, .int i3, .int i4, .int i5, .int i6, .int i7, .long i8, .int i9, .int i10, .ref c11, .ref c12, .ref c13, .ref c14, .ref c15, .ref c16, .int i17, .int i18, .ref c19, .ref c20, .ref c21, .ref c22, .int i23, .ref c24, .ref c25, .ref c26, .ref c27, .ref c28, .ref c29, .ref c30, .int i31, .int i32, .int i33, .int i34, .ref c35, .ref c36, .int i37, .int i38, .int i39, .int i40, .int i41, .int i42, .ref c43, .ref c44, .ref c45, .ref c46, .ref c47, .ref c48, .ref c49, .ref c50, .ref c51, .ref c52, .ref c53, .ref c54, .ref c55, .ref c56, .ref c57, .ref c58, .ref c59, .int i60, .ref c61, .int i62, .ref c63, .int i64, .int i65, .int i66, .ref c67, .ref c68, .ref c69, .ref c70, .ref c71, .ref c72, .int i73, .ref c74, .ref c75, .int i76, .int i77, .int i78, .ref c79, .int i80, .int i81, .int i82, .int i83, .int i84])), (c75, .inl (dA 0, 16, .inl f93))] H := hP
    have hD : va_D A [(t0, .inr (11, [.int i0, .ref c1, .int i2, .int i3, .int i4, .int i5, .int i6, .int i7, .long i8, .int i9, .int i10, .ref c11, .ref c12, .ref c13, .ref c14, .ref c15, .ref c16, .int i17, .int i18, .ref c19, .ref c20, .ref c21, .ref c22, .int i23, .ref c24, .ref c25, .ref c26, .ref c27, .ref c28, .ref c29, .ref c30, .int i31, .int i32, .int i33, .int i34, .ref c35, .ref c36, .int i37, .int i38, .int i39, .int i40, .int i41, .int i42, .ref c43, .ref c44, .ref c45, .ref c46, .ref c47, .ref c48, .ref c49, .ref c50, .ref c51, .ref c52, .ref c53, .ref c54, .ref c55, .ref c56, .ref c57, .ref c58, .ref c59, .int i60, .ref c61, .int i62, .ref c63, .int i64, .int i65, .int i66, .ref c67, .ref c68, .ref c69, .ref c70, .ref c71, .ref c72, .int i73, .ref c74, .ref c75, .int i76, .int i77, .int i78, .ref c79, .int i80, .int i81, .int i82, .int i83, .int i84])), (c75, .inl (dA 0, 16, .inl f93))] := hD
    refine lv_iload hx hb dX11_reckoned_101 (lv_at hl 0 rfl) ?_
    refine lv_ldcw hx hb hown (hg _ q1907) dX11_reckoned_103 ?_
    refine lv_iand hx hb dX11_reckoned_106 ?_
    refine lv_topi (fun x94 e95 => ?_)
    have g96 : 0 ≤ x94.toInt ∧ x94.toInt ≤ 65535 := g_msk e95 16 (by decide) (by decide) (by decide)
    exact g_iret hx hb hr rfl hlocks hK f93 hP hD hS trivial (Nat.le_of_ble_eq_true rfl) (Nat.le_of_ble_eq_true rfl) dX11_reckoned_107
  by_cases s97 : a0 = 5
  · have g98 : a0.toInt = 5 := by rw [s97]; decide
    refine lv_tableIn (tgt := 76) hx hb dX11_reckoned_1 (by rw [s97]; decide) (by rw [s97]; decide) (by rw [s97]; rfl) (by decide) ?_
    refine lv_iload_n hx hb dX11_reckoned_76 rfl (lv_at hl 2 rfl) ?_
    refine lv_iload_n hx hb dX11_reckoned_77 rfl (lv_at hl 3 rfl) ?_
    refine lv_isub hx hb dX11_reckoned_78 ?_
    have g99 := g_i32 a1
    have g100 := g_i32 a2
    refine lv_topi (fun x101 e102 => ?_)
    refine lv_istore (lv' := [(4, .int x101), (0, .ref t0), (1, .int a0), (2, .int a1), (3, .int a2)]) hx hb dX11_reckoned_79 hl (by decide) rfl (fun ls hl => ?_)
    refine lv_aload_n hx hb dX11_reckoned_81 rfl (lv_at hl 1 rfl) ?_
    refine g_get hx hb hg hown hK hP 0 rfl rfl inX11 75 (by decide) q1690 rfl dX11_reckoned_82 ?_
    refine lv_bipush (v := 13) hx hb dX11_reckoned_85 (by decide) ?_
    refine lv_iload hx hb dX11_reckoned_87 (lv_at hl 0 rfl) ?_
    refine lv_bipush (v := 16) hx hb dX11_reckoned_89 (by decide) ?_
    refine lv_ishr hx hb dX11_reckoned_91 ?_
    refine lv_topi (fun x103 e104 => ?_)
    have g105 : x103.toInt * 65536 ≤ x101.toInt ∧ x101.toInt < x103.toInt * 65536 + 65536 := g_shr e104 16 (by decide) (by decide) (by decide)
    refine lv_iconst (v := 1) hx hb dX11_reckoned_92 (by decide) ?_
    refine lv_iand hx hb dX11_reckoned_93 ?_
    refine lv_topi (fun x106 e107 => ?_)
    have g108 : 0 ≤ x106.toInt ∧ x106.toInt ≤ 1 := g_msk e107 1 (by decide) (by decide) (by decide)
    refine va_iast hx hb hK hP hD hS 1 0 rfl rfl (by unfold vp_in; decide) dX11_reckoned_94 (fun H locs hP hD hS => ?_)
    have hP : va_P D vwC [(t0, .inr (11, [.int i0, .ref c1, .int i2, .int i3, .int i4, .int i5, .int i6, .int i7, .long i8, .int i9, .int i10, .ref c11, .ref c12, .ref c13, .ref c14, .ref c15, .ref c16, .int i17, .int i18, .ref c19, .ref c20, .ref c21, .ref c22, .int i23, .ref c24, .ref c25, .ref c26, .ref c27, .ref c28, .ref c29, .ref c30, .int i31, .int i32, .int i33, .int i34, .ref c35, .ref c36, .int i37, .int i38, .int i39, .int i40, .int i41, .int i42, .ref c43, .ref c44, .ref c45, .ref c46, .ref c47, .ref c48, .ref c49, .ref c50, .ref c51, .ref c52, .ref c53, .ref c54, .ref c55, .ref c56, .ref c57, .ref c58, .ref c59, .int i60, .ref c61, .int i62, .ref c63, .int i64, .int i65, .int i66, .ref c67, .ref c68, .ref c69, .ref c70, .ref c71, .ref c72, .int i73, .ref c74, .ref c75, .int i76, .int i77, .int i78, .ref c79, .int i80, .int i81, .int i82, .int i83, .int i84])), (c75, .inl (dA 0, 16, .inl (upd m75 (13 : Int32).toNatClampNeg x106)))] H := hP
    have hD : va_D A [(t0, .inr (11, [.int i0, .ref c1, .int i2, .int i3, .int i4, .int i5, .int i6, .int i7, .long i8, .int i9, .int i10, .ref c11, .ref c12, .ref c13, .ref c14, .ref c15, .ref c16, .int i17, .int i18, .ref c19, .ref c20, .ref c21, .ref c22, .int i23, .ref c24, .ref c25, .ref c26, .ref c27, .ref c28, .ref c29, .ref c30, .int i31, .int i32, .int i33, .int i34, .ref c35, .ref c36, .int i37, .int i38, .int i39, .int i40, .int i41, .int i42, .ref c43, .ref c44, .ref c45, .ref c46, .ref c47, .ref c48, .ref c49, .ref c50, .ref c51, .ref c52, .ref c53, .ref c54, .ref c55, .ref c56, .ref c57, .ref c58, .ref c59, .int i60, .ref c61, .int i62, .ref c63, .int i64, .int i65, .int i66, .ref c67, .ref c68, .ref c69, .ref c70, .ref c71, .ref c72, .int i73, .ref c74, .ref c75, .int i76, .int i77, .int i78, .ref c79, .int i80, .int i81, .int i82, .int i83, .int i84])), (c75, .inl (dA 0, 16, .inl (upd m75 (13 : Int32).toNatClampNeg x106)))] := hD
    obtain ⟨f109, ef109⟩ : ∃ f : Nat → Int32, f = (upd m75 (13 : Int32).toNatClampNeg x106) := ⟨_, rfl⟩
    rw [← ef109] at hP hD
    refine lv_aload_n hx hb dX11_reckoned_95 rfl (lv_at hl 1 rfl) ?_
    refine lv_iload hx hb dX11_reckoned_96 (lv_at hl 0 rfl) ?_
    refine g_Vv (n := 1) (As := [.int x101]) (rest := []) (wr := []) hx hb hml hg hown hK hP hD hS hA (s_X11_flags l D dA t0 x101 i0 c1 i2 i3 i4 i5 i6 i7 i8 i9 i10 c11 c12 c13 c14 c15 c16 i17 i18 c19 c20 c21 c22 i23 c24 c25 c26 c27 c28 c29 c30 i31 i32 i33 i34 c35 c36 i37 i38 i39 i40 i41 i42 c43 c44 c45 c46 c47 c48 c49 c50 c51 c52 c53 c54 c55 c56 c57 c58 c59 i60 c61 i62 c63 i64 i65 i66 c67 c68 c69 c70 c71 c72 i73 c74 c75 i76 i77 i78 c79 i80 i81 i82 i83 i84 f109 (by omega) (by omega) (by omega) (by omega) (by omega) (by omega) (by omega) _) [0, 1] [] rfl (by decide) rfl (by decide) (by decide) 0 rfl rfl q2168 q160 q2165 q2167 q138 (by decide +kernel) ⟨(Nat.le_of_ble_eq_true rfl), (Nat.le_of_ble_eq_true rfl)⟩ rfl hl.1 rfl (Nat.le_of_ble_eq_true rfl) dX11_reckoned_98 ⟨(Nat.le_of_ble_eq_true rfl), (Nat.le_of_ble_eq_true rfl)⟩ (fun u110 H locs w112 hP hD hS => ?_)
    refine W.widen (k := 0) (n := 0) (Nat.le_of_ble_eq_true rfl) (Nat.le_of_ble_eq_true rfl) ?_
    obtain ⟨f113, rfl⟩ : ∃ z, z = u110 := ⟨_, rfl⟩
    have hP : va_P D vwC [(t0, .inr (11, [.int i0, .ref c1, .int i2, .int i3, .int i4, .int i5, .int i6, .int i7, .long i8, .int i9, .int i10, .ref c11, .ref c12, .ref c13, .ref c14, .ref c15, .ref c16, .int i17, .int i18, .ref c19, .ref c20, .ref c21, .ref c22, .int i23, .ref c24, .ref c25, .ref c26, .ref c27, .ref c28, .ref c29, .ref c30, .int i31, .int i32, .int i33, .int i34, .ref c35, .ref c36, .int i37, .int i38, .int i39, .int i40, .int i41, .int i42, .ref c43, .ref c44, .ref c45, .ref c46, .ref c47, .ref c48, .ref c49, .ref c50, .ref c51, .ref c52, .ref c53, .ref c54, .ref c55, .ref c56, .ref c57, .ref c58, .ref c59, .int i60, .ref c61, .int i62, .ref c63, .int i64, .int i65, .int i66, .ref c67, .ref c68, .ref c69, .ref c70, .ref c71, .ref c72, .int i73, .ref c74, .ref c75, .int i76, .int i77, .int i78, .ref c79, .int i80, .int i81, .int i82, .int i83, .int i84])), (c75, .inl (dA 0, 16, .inl f113))] H := hP
    have hD : va_D A [(t0, .inr (11, [.int i0, .ref c1, .int i2, .int i3, .int i4, .int i5, .int i6, .int i7, .long i8, .int i9, .int i10, .ref c11, .ref c12, .ref c13, .ref c14, .ref c15, .ref c16, .int i17, .int i18, .ref c19, .ref c20, .ref c21, .ref c22, .int i23, .ref c24, .ref c25, .ref c26, .ref c27, .ref c28, .ref c29, .ref c30, .int i31, .int i32, .int i33, .int i34, .ref c35, .ref c36, .int i37, .int i38, .int i39, .int i40, .int i41, .int i42, .ref c43, .ref c44, .ref c45, .ref c46, .ref c47, .ref c48, .ref c49, .ref c50, .ref c51, .ref c52, .ref c53, .ref c54, .ref c55, .ref c56, .ref c57, .ref c58, .ref c59, .int i60, .ref c61, .int i62, .ref c63, .int i64, .int i65, .int i66, .ref c67, .ref c68, .ref c69, .ref c70, .ref c71, .ref c72, .int i73, .ref c74, .ref c75, .int i76, .int i77, .int i78, .ref c79, .int i80, .int i81, .int i82, .int i83, .int i84])), (c75, .inl (dA 0, 16, .inl f113))] := hD
    refine lv_iload hx hb dX11_reckoned_101 (lv_at hl 0 rfl) ?_
    refine lv_ldcw hx hb hown (hg _ q1907) dX11_reckoned_103 ?_
    refine lv_iand hx hb dX11_reckoned_106 ?_
    refine lv_topi (fun x114 e115 => ?_)
    have g116 : 0 ≤ x114.toInt ∧ x114.toInt ≤ 65535 := g_msk e115 16 (by decide) (by decide) (by decide)
    exact g_iret hx hb hr rfl hlocks hK f113 hP hD hS trivial (Nat.le_of_ble_eq_true rfl) (Nat.le_of_ble_eq_true rfl) dX11_reckoned_107
  by_cases s117 : a0 = 6
  · have g118 : a0.toInt = 6 := by rw [s117]; decide
    refine lv_tableIn (tgt := 68) hx hb dX11_reckoned_1 (by rw [s117]; decide) (by rw [s117]; decide) (by rw [s117]; rfl) (by decide) ?_
    refine lv_iload_n hx hb dX11_reckoned_68 rfl (lv_at hl 2 rfl) ?_
    refine lv_iload_n hx hb dX11_reckoned_69 rfl (lv_at hl 3 rfl) ?_
    refine lv_ixor hx hb dX11_reckoned_70 ?_
    refine lv_topi (fun x119 e120 => ?_)
    refine lv_istore (lv' := [(4, .int x119), (0, .ref t0), (1, .int a0), (2, .int a1), (3, .int a2)]) hx hb dX11_reckoned_71 hl (by decide) rfl (fun ls hl => ?_)
    refine lv_goto (tgt := 81) hx hb dX11_reckoned_73 (by decide) ?_
    refine lv_aload_n hx hb dX11_reckoned_81 rfl (lv_at hl 1 rfl) ?_
    refine g_get hx hb hg hown hK hP 0 rfl rfl inX11 75 (by decide) q1690 rfl dX11_reckoned_82 ?_
    refine lv_bipush (v := 13) hx hb dX11_reckoned_85 (by decide) ?_
    refine lv_iload hx hb dX11_reckoned_87 (lv_at hl 0 rfl) ?_
    refine lv_bipush (v := 16) hx hb dX11_reckoned_89 (by decide) ?_
    refine lv_ishr hx hb dX11_reckoned_91 ?_
    refine lv_topi (fun x121 e122 => ?_)
    have g123 : x121.toInt * 65536 ≤ x119.toInt ∧ x119.toInt < x121.toInt * 65536 + 65536 := g_shr e122 16 (by decide) (by decide) (by decide)
    refine lv_iconst (v := 1) hx hb dX11_reckoned_92 (by decide) ?_
    refine lv_iand hx hb dX11_reckoned_93 ?_
    refine lv_topi (fun x124 e125 => ?_)
    have g126 : 0 ≤ x124.toInt ∧ x124.toInt ≤ 1 := g_msk e125 1 (by decide) (by decide) (by decide)
    refine va_iast hx hb hK hP hD hS 1 0 rfl rfl (by unfold vp_in; decide) dX11_reckoned_94 (fun H locs hP hD hS => ?_)
    have hP : va_P D vwC [(t0, .inr (11, [.int i0, .ref c1, .int i2, .int i3, .int i4, .int i5, .int i6, .int i7, .long i8, .int i9, .int i10, .ref c11, .ref c12, .ref c13, .ref c14, .ref c15, .ref c16, .int i17, .int i18, .ref c19, .ref c20, .ref c21, .ref c22, .int i23, .ref c24, .ref c25, .ref c26, .ref c27, .ref c28, .ref c29, .ref c30, .int i31, .int i32, .int i33, .int i34, .ref c35, .ref c36, .int i37, .int i38, .int i39, .int i40, .int i41, .int i42, .ref c43, .ref c44, .ref c45, .ref c46, .ref c47, .ref c48, .ref c49, .ref c50, .ref c51, .ref c52, .ref c53, .ref c54, .ref c55, .ref c56, .ref c57, .ref c58, .ref c59, .int i60, .ref c61, .int i62, .ref c63, .int i64, .int i65, .int i66, .ref c67, .ref c68, .ref c69, .ref c70, .ref c71, .ref c72, .int i73, .ref c74, .ref c75, .int i76, .int i77, .int i78, .ref c79, .int i80, .int i81, .int i82, .int i83, .int i84])), (c75, .inl (dA 0, 16, .inl (upd m75 (13 : Int32).toNatClampNeg x124)))] H := hP
    have hD : va_D A [(t0, .inr (11, [.int i0, .ref c1, .int i2, .int i3, .int i4, .int i5, .int i6, .int i7, .long i8, .int i9, .int i10, .ref c11, .ref c12, .ref c13, .ref c14, .ref c15, .ref c16, .int i17, .int i18, .ref c19, .ref c20, .ref c21, .ref c22, .int i23, .ref c24, .ref c25, .ref c26, .ref c27, .ref c28, .ref c29, .ref c30, .int i31, .int i32, .int i33, .int i34, .ref c35, .ref c36, .int i37, .int i38, .int i39, .int i40, .int i41, .int i42, .ref c43, .ref c44, .ref c45, .ref c46, .ref c47, .ref c48, .ref c49, .ref c50, .ref c51, .ref c52, .ref c53, .ref c54, .ref c55, .ref c56, .ref c57, .ref c58, .ref c59, .int i60, .ref c61, .int i62, .ref c63, .int i64, .int i65, .int i66, .ref c67, .ref c68, .ref c69, .ref c70, .ref c71, .ref c72, .int i73, .ref c74, .ref c75, .int i76, .int i77, .int i78, .ref c79, .int i80, .int i81, .int i82, .int i83, .int i84])), (c75, .inl (dA 0, 16, .inl (upd m75 (13 : Int32).toNatClampNeg x124)))] := hD
    obtain ⟨f127, ef127⟩ : ∃ f : Nat → Int32, f = (upd m75 (13 : Int32).toNatClampNeg x124) := ⟨_, rfl⟩
    rw [← ef127] at hP hD
    refine lv_aload_n hx hb dX11_reckoned_95 rfl (lv_at hl 1 rfl) ?_
    refine lv_iload hx hb dX11_reckoned_96 (lv_at hl 0 rfl) ?_
    refine g_Vv (n := 1) (As := [.int x119]) (rest := []) (wr := []) hx hb hml hg hown hK hP hD hS hA (s_X11_flags l D dA t0 x119 i0 c1 i2 i3 i4 i5 i6 i7 i8 i9 i10 c11 c12 c13 c14 c15 c16 i17 i18 c19 c20 c21 c22 i23 c24 c25 c26 c27 c28 c29 c30 i31 i32 i33 i34 c35 c36 i37 i38 i39 i40 i41 i42 c43 c44 c45 c46 c47 c48 c49 c50 c51 c52 c53 c54 c55 c56 c57 c58 c59 i60 c61 i62 c63 i64 i65 i66 c67 c68 c69 c70 c71 c72 i73 c74 c75 i76 i77 i78 c79 i80 i81 i82 i83 i84 f127 (by omega) (by omega) (by omega) (by omega) (by omega) (by omega) (by omega) _) [0, 1] [] rfl (by decide) rfl (by decide) (by decide) 0 rfl rfl q2168 q160 q2165 q2167 q138 (by decide +kernel) ⟨(Nat.le_of_ble_eq_true rfl), (Nat.le_of_ble_eq_true rfl)⟩ rfl hl.1 rfl (Nat.le_of_ble_eq_true rfl) dX11_reckoned_98 ⟨(Nat.le_of_ble_eq_true rfl), (Nat.le_of_ble_eq_true rfl)⟩ (fun u128 H locs w130 hP hD hS => ?_)
    refine W.widen (k := 0) (n := 0) (Nat.le_of_ble_eq_true rfl) (Nat.le_of_ble_eq_true rfl) ?_
    obtain ⟨f131, rfl⟩ : ∃ z, z = u128 := ⟨_, rfl⟩
    have hP : va_P D vwC [(t0, .inr (11, [.int i0, .ref c1, .int i2, .int i3, .int i4, .int i5, .int i6, .int i7, .long i8, .int i9, .int i10, .ref c11, .ref c12, .ref c13, .ref c14, .ref c15, .ref c16, .int i17, .int i18, .ref c19, .ref c20, .ref c21, .ref c22, .int i23, .ref c24, .ref c25, .ref c26, .ref c27, .ref c28, .ref c29, .ref c30, .int i31, .int i32, .int i33, .int i34, .ref c35, .ref c36, .int i37, .int i38, .int i39, .int i40, .int i41, .int i42, .ref c43, .ref c44, .ref c45, .ref c46, .ref c47, .ref c48, .ref c49, .ref c50, .ref c51, .ref c52, .ref c53, .ref c54, .ref c55, .ref c56, .ref c57, .ref c58, .ref c59, .int i60, .ref c61, .int i62, .ref c63, .int i64, .int i65, .int i66, .ref c67, .ref c68, .ref c69, .ref c70, .ref c71, .ref c72, .int i73, .ref c74, .ref c75, .int i76, .int i77, .int i78, .ref c79, .int i80, .int i81, .int i82, .int i83, .int i84])), (c75, .inl (dA 0, 16, .inl f131))] H := hP
    have hD : va_D A [(t0, .inr (11, [.int i0, .ref c1, .int i2, .int i3, .int i4, .int i5, .int i6, .int i7, .long i8, .int i9, .int i10, .ref c11, .ref c12, .ref c13, .ref c14, .ref c15, .ref c16, .int i17, .int i18, .ref c19, .ref c20, .ref c21, .ref c22, .int i23, .ref c24, .ref c25, .ref c26, .ref c27, .ref c28, .ref c29, .ref c30, .int i31, .int i32, .int i33, .int i34, .ref c35, .ref c36, .int i37, .int i38, .int i39, .int i40, .int i41, .int i42, .ref c43, .ref c44, .ref c45, .ref c46, .ref c47, .ref c48, .ref c49, .ref c50, .ref c51, .ref c52, .ref c53, .ref c54, .ref c55, .ref c56, .ref c57, .ref c58, .ref c59, .int i60, .ref c61, .int i62, .ref c63, .int i64, .int i65, .int i66, .ref c67, .ref c68, .ref c69, .ref c70, .ref c71, .ref c72, .int i73, .ref c74, .ref c75, .int i76, .int i77, .int i78, .ref c79, .int i80, .int i81, .int i82, .int i83, .int i84])), (c75, .inl (dA 0, 16, .inl f131))] := hD
    refine lv_iload hx hb dX11_reckoned_101 (lv_at hl 0 rfl) ?_
    refine lv_ldcw hx hb hown (hg _ q1907) dX11_reckoned_103 ?_
    refine lv_iand hx hb dX11_reckoned_106 ?_
    refine lv_topi (fun x132 e133 => ?_)
    have g134 : 0 ≤ x132.toInt ∧ x132.toInt ≤ 65535 := g_msk e133 16 (by decide) (by decide) (by decide)
    exact g_iret hx hb hr rfl hlocks hK f131 hP hD hS trivial (Nat.le_of_ble_eq_true rfl) (Nat.le_of_ble_eq_true rfl) dX11_reckoned_107
  have g135 : a0.toInt ≠ 0 := lv_neT s1 (by decide)
  have g136 : a0.toInt ≠ 1 := lv_neT s21 (by decide)
  have g137 : a0.toInt ≠ 2 := lv_neT s39 (by decide)
  have g138 : a0.toInt ≠ 3 := lv_neT s59 (by decide)
  have g139 : a0.toInt ≠ 4 := lv_neT s79 (by decide)
  have g140 : a0.toInt ≠ 5 := lv_neT s97 (by decide)
  have g141 : a0.toInt ≠ 6 := lv_neT s117 (by decide)
  refine lv_tableOut (tgt := 76) hx hb dX11_reckoned_1 (by omega) (by decide) ?_
  refine lv_iload_n hx hb dX11_reckoned_76 rfl (lv_at hl 2 rfl) ?_
  refine lv_iload_n hx hb dX11_reckoned_77 rfl (lv_at hl 3 rfl) ?_
  refine lv_isub hx hb dX11_reckoned_78 ?_
  have g142 := g_i32 a1
  have g143 := g_i32 a2
  refine lv_topi (fun x144 e145 => ?_)
  refine lv_istore (lv' := [(4, .int x144), (0, .ref t0), (1, .int a0), (2, .int a1), (3, .int a2)]) hx hb dX11_reckoned_79 hl (by decide) rfl (fun ls hl => ?_)
  refine lv_aload_n hx hb dX11_reckoned_81 rfl (lv_at hl 1 rfl) ?_
  refine g_get hx hb hg hown hK hP 0 rfl rfl inX11 75 (by decide) q1690 rfl dX11_reckoned_82 ?_
  refine lv_bipush (v := 13) hx hb dX11_reckoned_85 (by decide) ?_
  refine lv_iload hx hb dX11_reckoned_87 (lv_at hl 0 rfl) ?_
  refine lv_bipush (v := 16) hx hb dX11_reckoned_89 (by decide) ?_
  refine lv_ishr hx hb dX11_reckoned_91 ?_
  refine lv_topi (fun x146 e147 => ?_)
  have g148 : x146.toInt * 65536 ≤ x144.toInt ∧ x144.toInt < x146.toInt * 65536 + 65536 := g_shr e147 16 (by decide) (by decide) (by decide)
  refine lv_iconst (v := 1) hx hb dX11_reckoned_92 (by decide) ?_
  refine lv_iand hx hb dX11_reckoned_93 ?_
  refine lv_topi (fun x149 e150 => ?_)
  have g151 : 0 ≤ x149.toInt ∧ x149.toInt ≤ 1 := g_msk e150 1 (by decide) (by decide) (by decide)
  refine va_iast hx hb hK hP hD hS 1 0 rfl rfl (by unfold vp_in; decide) dX11_reckoned_94 (fun H locs hP hD hS => ?_)
  have hP : va_P D vwC [(t0, .inr (11, [.int i0, .ref c1, .int i2, .int i3, .int i4, .int i5, .int i6, .int i7, .long i8, .int i9, .int i10, .ref c11, .ref c12, .ref c13, .ref c14, .ref c15, .ref c16, .int i17, .int i18, .ref c19, .ref c20, .ref c21, .ref c22, .int i23, .ref c24, .ref c25, .ref c26, .ref c27, .ref c28, .ref c29, .ref c30, .int i31, .int i32, .int i33, .int i34, .ref c35, .ref c36, .int i37, .int i38, .int i39, .int i40, .int i41, .int i42, .ref c43, .ref c44, .ref c45, .ref c46, .ref c47, .ref c48, .ref c49, .ref c50, .ref c51, .ref c52, .ref c53, .ref c54, .ref c55, .ref c56, .ref c57, .ref c58, .ref c59, .int i60, .ref c61, .int i62, .ref c63, .int i64, .int i65, .int i66, .ref c67, .ref c68, .ref c69, .ref c70, .ref c71, .ref c72, .int i73, .ref c74, .ref c75, .int i76, .int i77, .int i78, .ref c79, .int i80, .int i81, .int i82, .int i83, .int i84])), (c75, .inl (dA 0, 16, .inl (upd m75 (13 : Int32).toNatClampNeg x149)))] H := hP
  have hD : va_D A [(t0, .inr (11, [.int i0, .ref c1, .int i2, .int i3, .int i4, .int i5, .int i6, .int i7, .long i8, .int i9, .int i10, .ref c11, .ref c12, .ref c13, .ref c14, .ref c15, .ref c16, .int i17, .int i18, .ref c19, .ref c20, .ref c21, .ref c22, .int i23, .ref c24, .ref c25, .ref c26, .ref c27, .ref c28, .ref c29, .ref c30, .int i31, .int i32, .int i33, .int i34, .ref c35, .ref c36, .int i37, .int i38, .int i39, .int i40, .int i41, .int i42, .ref c43, .ref c44, .ref c45, .ref c46, .ref c47, .ref c48, .ref c49, .ref c50, .ref c51, .ref c52, .ref c53, .ref c54, .ref c55, .ref c56, .ref c57, .ref c58, .ref c59, .int i60, .ref c61, .int i62, .ref c63, .int i64, .int i65, .int i66, .ref c67, .ref c68, .ref c69, .ref c70, .ref c71, .ref c72, .int i73, .ref c74, .ref c75, .int i76, .int i77, .int i78, .ref c79, .int i80, .int i81, .int i82, .int i83, .int i84])), (c75, .inl (dA 0, 16, .inl (upd m75 (13 : Int32).toNatClampNeg x149)))] := hD
  obtain ⟨f152, ef152⟩ : ∃ f : Nat → Int32, f = (upd m75 (13 : Int32).toNatClampNeg x149) := ⟨_, rfl⟩
  rw [← ef152] at hP hD
  refine lv_aload_n hx hb dX11_reckoned_95 rfl (lv_at hl 1 rfl) ?_
  refine lv_iload hx hb dX11_reckoned_96 (lv_at hl 0 rfl) ?_
  refine g_Vv (n := 1) (As := [.int x144]) (rest := []) (wr := []) hx hb hml hg hown hK hP hD hS hA (s_X11_flags l D dA t0 x144 i0 c1 i2 i3 i4 i5 i6 i7 i8 i9 i10 c11 c12 c13 c14 c15 c16 i17 i18 c19 c20 c21 c22 i23 c24 c25 c26 c27 c28 c29 c30 i31 i32 i33 i34 c35 c36 i37 i38 i39 i40 i41 i42 c43 c44 c45 c46 c47 c48 c49 c50 c51 c52 c53 c54 c55 c56 c57 c58 c59 i60 c61 i62 c63 i64 i65 i66 c67 c68 c69 c70 c71 c72 i73 c74 c75 i76 i77 i78 c79 i80 i81 i82 i83 i84 f152 (by omega) (by omega) (by omega) (by omega) (by omega) (by omega) (by omega) _) [0, 1] [] rfl (by decide) rfl (by decide) (by decide) 0 rfl rfl q2168 q160 q2165 q2167 q138 (by decide +kernel) ⟨(Nat.le_of_ble_eq_true rfl), (Nat.le_of_ble_eq_true rfl)⟩ rfl hl.1 rfl (Nat.le_of_ble_eq_true rfl) dX11_reckoned_98 ⟨(Nat.le_of_ble_eq_true rfl), (Nat.le_of_ble_eq_true rfl)⟩ (fun u153 H locs w155 hP hD hS => ?_)
  refine W.widen (k := 0) (n := 0) (Nat.le_of_ble_eq_true rfl) (Nat.le_of_ble_eq_true rfl) ?_
  obtain ⟨f156, rfl⟩ : ∃ z, z = u153 := ⟨_, rfl⟩
  have hP : va_P D vwC [(t0, .inr (11, [.int i0, .ref c1, .int i2, .int i3, .int i4, .int i5, .int i6, .int i7, .long i8, .int i9, .int i10, .ref c11, .ref c12, .ref c13, .ref c14, .ref c15, .ref c16, .int i17, .int i18, .ref c19, .ref c20, .ref c21, .ref c22, .int i23, .ref c24, .ref c25, .ref c26, .ref c27, .ref c28, .ref c29, .ref c30, .int i31, .int i32, .int i33, .int i34, .ref c35, .ref c36, .int i37, .int i38, .int i39, .int i40, .int i41, .int i42, .ref c43, .ref c44, .ref c45, .ref c46, .ref c47, .ref c48, .ref c49, .ref c50, .ref c51, .ref c52, .ref c53, .ref c54, .ref c55, .ref c56, .ref c57, .ref c58, .ref c59, .int i60, .ref c61, .int i62, .ref c63, .int i64, .int i65, .int i66, .ref c67, .ref c68, .ref c69, .ref c70, .ref c71, .ref c72, .int i73, .ref c74, .ref c75, .int i76, .int i77, .int i78, .ref c79, .int i80, .int i81, .int i82, .int i83, .int i84])), (c75, .inl (dA 0, 16, .inl f156))] H := hP
  have hD : va_D A [(t0, .inr (11, [.int i0, .ref c1, .int i2, .int i3, .int i4, .int i5, .int i6, .int i7, .long i8, .int i9, .int i10, .ref c11, .ref c12, .ref c13, .ref c14, .ref c15, .ref c16, .int i17, .int i18, .ref c19, .ref c20, .ref c21, .ref c22, .int i23, .ref c24, .ref c25, .ref c26, .ref c27, .ref c28, .ref c29, .ref c30, .int i31, .int i32, .int i33, .int i34, .ref c35, .ref c36, .int i37, .int i38, .int i39, .int i40, .int i41, .int i42, .ref c43, .ref c44, .ref c45, .ref c46, .ref c47, .ref c48, .ref c49, .ref c50, .ref c51, .ref c52, .ref c53, .ref c54, .ref c55, .ref c56, .ref c57, .ref c58, .ref c59, .int i60, .ref c61, .int i62, .ref c63, .int i64, .int i65, .int i66, .ref c67, .ref c68, .ref c69, .ref c70, .ref c71, .ref c72, .int i73, .ref c74, .ref c75, .int i76, .int i77, .int i78, .ref c79, .int i80, .int i81, .int i82, .int i83, .int i84])), (c75, .inl (dA 0, 16, .inl f156))] := hD
  refine lv_iload hx hb dX11_reckoned_101 (lv_at hl 0 rfl) ?_
  refine lv_ldcw hx hb hown (hg _ q1907) dX11_reckoned_103 ?_
  refine lv_iand hx hb dX11_reckoned_106 ?_
  refine lv_topi (fun x157 e158 => ?_)
  have g159 : 0 ≤ x157.toInt ∧ x157.toInt ≤ 65535 := g_msk e158 16 (by decide) (by decide) (by decide)
  exact g_iret hx hb hr rfl hlocks hK f156 hP hD hS trivial (Nat.le_of_ble_eq_true rfl) (Nat.le_of_ble_eq_true rfl) dX11_reckoned_107
set_option maxHeartbeats 4000000 in
set_option maxRecDepth 100000 in
theorem s_X11_operation (l : Launch) (D : va_G) (dA : Nat → ClassId) (a0 : Int32) (sz : Nat) : Met l yX11_operation (gws yX11_operation cX11_operation 1 (some .boolean)) (gR 1 0 0) (gPre D dA [.int a0] [] sz) (va_Qi (fun (r : Int32) (u : Unit) => (0 ≤ r.toInt ∧ r.toInt ≤ 1)) (gAt D dA (va_A [] sz) (fun u : Unit => [])) (va_A [] sz)) 0 0 (va_A [] sz) := by
  refine Met.ofW (cc := cX11_operation) (maxL := 1) (ret := (some .boolean)) (by decide) rfl ?_
  intro p e s m args below meth c s₁ B hml hv
  obtain ⟨rfl, hsz, hP, hK, hD0⟩ := hv
  have hx := B.exec
  have hb := B.bytes
  have hr := B.returns
  have hts := atoms_spec (ws := gws yX11_operation cX11_operation 1 (some .boolean)) B.pre
  have hg : ∀ w ∈ gw, w.before _ s = true := fun w h => hts w (List.mem_cons_of_mem _ h)
  have hown : s.vm.findClass RX11 = some m.cls := findClass_of_methodNamed B.named
  have hlocks := B.notSynchronized
  subst hsz
  have hD := hD0.self (sz := s.heap.size)
  generalize hAe : va_A [] s.heap.size = A at hD ⊢
  have hA : ∀ q : Nat, s.heap.size ≤ q → A q := fun q h => by rw [← hAe]; exact Or.inr h
  have hS : va_S A s.heap s.heap [] := va_S.rf
  have hP : va_P D vwC [] s.heap := hP
  have hl := lv_entry ([.int a0]) (n := 1) (Nat.le_of_ble_eq_true rfl)
  rw [lg_entry_eq]
  generalize (lg_sl ([.int a0]) ++ List.replicate (1 - (lg_sl ([.int a0])).length) Slot.unset).toArray = ls at hl ⊢
  have hl : lv_has ls 1 [(0, .int a0)] := hl
  refine lv_iload_n hx hb dX11_operation_0 rfl (lv_at hl 0 rfl) ?_
  refine lv_if_eq (tgt := 20) hx hb dX11_operation_1 (by decide) (fun k1 => ?_) (fun k1 => ?_)
  · have g2 : a0.toInt = 0 := gi_eq (rfl : a0.toInt = a0.toInt) (by decide : (0 : Int32).toInt = 0) k1
    refine lv_iconst (v := 1) hx hb dX11_operation_20 (by decide) ?_
    refine lv_goto (tgt := 25) hx hb dX11_operation_21 (by decide) ?_
    exact g_iret hx hb hr rfl hlocks hK () hP hD hS (show 0 ≤ ((1 : Int32)).toInt ∧ ((1 : Int32)).toInt ≤ 1 from by decide) (Nat.le_of_ble_eq_true rfl) (Nat.le_of_ble_eq_true rfl) dX11_operation_25
  · have g3 : a0.toInt ≠ 0 := gi_neq (rfl : a0.toInt = a0.toInt) (by decide : (0 : Int32).toInt = 0) k1
    refine lv_iload_n hx hb dX11_operation_4 rfl (lv_at hl 0 rfl) ?_
    refine lv_iconst (v := 1) hx hb dX11_operation_5 (by decide) ?_
    refine lv_icmp_eq (tgt := 20) hx hb dX11_operation_6 (by decide) (fun k4 => ?_) (fun k4 => ?_)
    · have g5 : a0.toInt = 1 := gi_eq (rfl : a0.toInt = a0.toInt) (by decide : (1 : Int32).toInt = 1) k4
      refine lv_iconst (v := 1) hx hb dX11_operation_20 (by decide) ?_
      refine lv_goto (tgt := 25) hx hb dX11_operation_21 (by decide) ?_
      exact g_iret hx hb hr rfl hlocks hK () hP hD hS (show 0 ≤ ((1 : Int32)).toInt ∧ ((1 : Int32)).toInt ≤ 1 from by decide) (Nat.le_of_ble_eq_true rfl) (Nat.le_of_ble_eq_true rfl) dX11_operation_25
    · have g6 : a0.toInt ≠ 1 := gi_neq (rfl : a0.toInt = a0.toInt) (by decide : (1 : Int32).toInt = 1) k4
      refine lv_iload_n hx hb dX11_operation_9 rfl (lv_at hl 0 rfl) ?_
      refine lv_iconst (v := 4) hx hb dX11_operation_10 (by decide) ?_
      refine lv_icmp_lt (tgt := 24) hx hb dX11_operation_11 (by decide) (fun k7 => ?_) (fun k7 => ?_)
      · have g8 : a0.toInt < 4 := gi_lt (rfl : a0.toInt = a0.toInt) (by decide : (4 : Int32).toInt = 4) k7
        refine lv_iconst (v := 0) hx hb dX11_operation_24 (by decide) ?_
        exact g_iret hx hb hr rfl hlocks hK () hP hD hS (show 0 ≤ ((0 : Int32)).toInt ∧ ((0 : Int32)).toInt ≤ 1 from by decide) (Nat.le_of_ble_eq_true rfl) (Nat.le_of_ble_eq_true rfl) dX11_operation_25
      · have g9 : a0.toInt ≥ 4 := gi_nlt (rfl : a0.toInt = a0.toInt) (by decide : (4 : Int32).toInt = 4) k7
        refine lv_iload_n hx hb dX11_operation_14 rfl (lv_at hl 0 rfl) ?_
        refine lv_bipush (v := 7) hx hb dX11_operation_15 (by decide) ?_
        refine lv_icmp_gt (tgt := 24) hx hb dX11_operation_17 (by decide) (fun k10 => ?_) (fun k10 => ?_)
        · have g11 : 7 < a0.toInt := gi_lt (by decide : (7 : Int32).toInt = 7) (rfl : a0.toInt = a0.toInt) k10
          refine lv_iconst (v := 0) hx hb dX11_operation_24 (by decide) ?_
          exact g_iret hx hb hr rfl hlocks hK () hP hD hS (show 0 ≤ ((0 : Int32)).toInt ∧ ((0 : Int32)).toInt ≤ 1 from by decide) (Nat.le_of_ble_eq_true rfl) (Nat.le_of_ble_eq_true rfl) dX11_operation_25
        · have g12 : 7 ≥ a0.toInt := gi_nlt (by decide : (7 : Int32).toInt = 7) (rfl : a0.toInt = a0.toInt) k10
          refine lv_iconst (v := 1) hx hb dX11_operation_20 (by decide) ?_
          refine lv_goto (tgt := 25) hx hb dX11_operation_21 (by decide) ?_
          exact g_iret hx hb hr rfl hlocks hK () hP hD hS (show 0 ≤ ((1 : Int32)).toInt ∧ ((1 : Int32)).toInt ≤ 1 from by decide) (Nat.le_of_ble_eq_true rfl) (Nat.le_of_ble_eq_true rfl) dX11_operation_25
set_option maxHeartbeats 4000000 in
set_option maxRecDepth 100000 in
theorem s_X11_push (l : Launch) (D : va_G) (dA : Nat → ClassId) (t0 : Nat) (a0 : Int32) (i0 : Int32) (c1 : Nat) (i2 : Int32) (i3 : Int32) (i4 : Int32) (i5 : Int32) (i6 : Int32) (i7 : Int32) (i8 : Int64) (i9 : Int32) (i10 : Int32) (c11 : Nat) (c12 : Nat) (c13 : Nat) (c14 : Nat) (c15 : Nat) (c16 : Nat) (i17 : Int32) (i18 : Int32) (c19 : Nat) (c20 : Nat) (c21 : Nat) (c22 : Nat) (i23 : Int32) (c24 : Nat) (c25 : Nat) (c26 : Nat) (c27 : Nat) (c28 : Nat) (c29 : Nat) (c30 : Nat) (i31 : Int32) (i32 : Int32) (i33 : Int32) (i34 : Int32) (c35 : Nat) (c36 : Nat) (i37 : Int32) (i38 : Int32) (i39 : Int32) (i40 : Int32) (i41 : Int32) (i42 : Int32) (c43 : Nat) (c44 : Nat) (c45 : Nat) (c46 : Nat) (c47 : Nat) (c48 : Nat) (c49 : Nat) (c50 : Nat) (c51 : Nat) (c52 : Nat) (c53 : Nat) (c54 : Nat) (c55 : Nat) (c56 : Nat) (c57 : Nat) (c58 : Nat) (c59 : Nat) (i60 : Int32) (c61 : Nat) (i62 : Int32) (c63 : Nat) (i64 : Int32) (i65 : Int32) (i66 : Int32) (c67 : Nat) (c68 : Nat) (c69 : Nat) (c70 : Nat) (c71 : Nat) (c72 : Nat) (i73 : Int32) (c74 : Nat) (c75 : Nat) (i76 : Int32) (i77 : Int32) (i78 : Int32) (c79 : Nat) (i80 : Int32) (i81 : Int32) (i82 : Int32) (i83 : Int32) (i84 : Int32) (m74 : Nat → Int32) (m75 : Nat → Int32) (p0 : 0 ≤ i33.toInt ∧ i33.toInt ≤ 1) (p1 : 0 ≤ i60.toInt ∧ i60.toInt ≤ 1) (p2 : 0 ≤ i76.toInt ∧ i76.toInt ≤ 1) (p3 : 0 ≤ i78.toInt ∧ i78.toInt ≤ 1000000) (p4 : 0 ≤ i81.toInt ∧ i81.toInt ≤ 255) (p5 : 0 ≤ i82.toInt ∧ i82.toInt ≤ 7) (p6 : 0 ≤ i83.toInt ∧ i83.toInt ≤ 15) (p7 : ∀ j : Nat, 0 ≤ (m74 j).toInt ∧ (m74 j).toInt ≤ 255) (sz : Nat) : Met l yX11_push (gws yX11_push cX11_push 2 none) (gR 3 0 0) (gPre D dA [.ref t0, .int a0] [(t0, .inr (11, [.int i0, .ref c1, .int i2, .int i3, .int i4, .int i5, .int i6, .int i7, .long i8, .int i9, .int i10, .ref c11, .ref c12, .ref c13, .ref c14, .ref c15, .ref c16, .int i17, .int i18, .ref c19, .ref c20, .ref c21, .ref c22, .int i23, .ref c24, .ref c25, .ref c26, .ref c27, .ref c28, .ref c29, .ref c30, .int i31, .int i32, .int i33, .int i34, .ref c35, .ref c36, .int i37, .int i38, .int i39, .int i40, .int i41, .int i42, .ref c43, .ref c44, .ref c45, .ref c46, .ref c47, .ref c48, .ref c49, .ref c50, .ref c51, .ref c52, .ref c53, .ref c54, .ref c55, .ref c56, .ref c57, .ref c58, .ref c59, .int i60, .ref c61, .int i62, .ref c63, .int i64, .int i65, .int i66, .ref c67, .ref c68, .ref c69, .ref c70, .ref c71, .ref c72, .int i73, .ref c74, .ref c75, .int i76, .int i77, .int i78, .ref c79, .int i80, .int i81, .int i82, .int i83, .int i84])), (c74, .inl (dA 0, 4096, .inl m74)), (c75, .inl (dA 0, 16, .inl m75))] sz) (va_Qv (fun u : (Nat → Int32) × (Nat → Int32) => (∀ j : Nat, 0 ≤ (u.1 j).toInt ∧ (u.1 j).toInt ≤ 255)) (gAt D dA (va_A [(t0, .inr (11, [.int i0, .ref c1, .int i2, .int i3, .int i4, .int i5, .int i6, .int i7, .long i8, .int i9, .int i10, .ref c11, .ref c12, .ref c13, .ref c14, .ref c15, .ref c16, .int i17, .int i18, .ref c19, .ref c20, .ref c21, .ref c22, .int i23, .ref c24, .ref c25, .ref c26, .ref c27, .ref c28, .ref c29, .ref c30, .int i31, .int i32, .int i33, .int i34, .ref c35, .ref c36, .int i37, .int i38, .int i39, .int i40, .int i41, .int i42, .ref c43, .ref c44, .ref c45, .ref c46, .ref c47, .ref c48, .ref c49, .ref c50, .ref c51, .ref c52, .ref c53, .ref c54, .ref c55, .ref c56, .ref c57, .ref c58, .ref c59, .int i60, .ref c61, .int i62, .ref c63, .int i64, .int i65, .int i66, .ref c67, .ref c68, .ref c69, .ref c70, .ref c71, .ref c72, .int i73, .ref c74, .ref c75, .int i76, .int i77, .int i78, .ref c79, .int i80, .int i81, .int i82, .int i83, .int i84])), (c74, .inl (dA 0, 4096, .inl m74)), (c75, .inl (dA 0, 16, .inl m75))] sz) (fun u : (Nat → Int32) × (Nat → Int32) => [(t0, .inr (11, [.int i0, .ref c1, .int i2, .int i3, .int i4, .int i5, .int i6, .int i7, .long i8, .int i9, .int i10, .ref c11, .ref c12, .ref c13, .ref c14, .ref c15, .ref c16, .int i17, .int i18, .ref c19, .ref c20, .ref c21, .ref c22, .int i23, .ref c24, .ref c25, .ref c26, .ref c27, .ref c28, .ref c29, .ref c30, .int i31, .int i32, .int i33, .int i34, .ref c35, .ref c36, .int i37, .int i38, .int i39, .int i40, .int i41, .int i42, .ref c43, .ref c44, .ref c45, .ref c46, .ref c47, .ref c48, .ref c49, .ref c50, .ref c51, .ref c52, .ref c53, .ref c54, .ref c55, .ref c56, .ref c57, .ref c58, .ref c59, .int i60, .ref c61, .int i62, .ref c63, .int i64, .int i65, .int i66, .ref c67, .ref c68, .ref c69, .ref c70, .ref c71, .ref c72, .int i73, .ref c74, .ref c75, .int i76, .int i77, .int i78, .ref c79, .int i80, .int i81, .int i82, .int i83, .int i84])), (c74, .inl (dA 0, 4096, .inl (u.1))), (c75, .inl (dA 0, 16, .inl (u.2)))])) (va_A [(t0, .inr (11, [.int i0, .ref c1, .int i2, .int i3, .int i4, .int i5, .int i6, .int i7, .long i8, .int i9, .int i10, .ref c11, .ref c12, .ref c13, .ref c14, .ref c15, .ref c16, .int i17, .int i18, .ref c19, .ref c20, .ref c21, .ref c22, .int i23, .ref c24, .ref c25, .ref c26, .ref c27, .ref c28, .ref c29, .ref c30, .int i31, .int i32, .int i33, .int i34, .ref c35, .ref c36, .int i37, .int i38, .int i39, .int i40, .int i41, .int i42, .ref c43, .ref c44, .ref c45, .ref c46, .ref c47, .ref c48, .ref c49, .ref c50, .ref c51, .ref c52, .ref c53, .ref c54, .ref c55, .ref c56, .ref c57, .ref c58, .ref c59, .int i60, .ref c61, .int i62, .ref c63, .int i64, .int i65, .int i66, .ref c67, .ref c68, .ref c69, .ref c70, .ref c71, .ref c72, .int i73, .ref c74, .ref c75, .int i76, .int i77, .int i78, .ref c79, .int i80, .int i81, .int i82, .int i83, .int i84])), (c74, .inl (dA 0, 4096, .inl m74)), (c75, .inl (dA 0, 16, .inl m75))] sz)) 0 0 (va_A [(t0, .inr (11, [.int i0, .ref c1, .int i2, .int i3, .int i4, .int i5, .int i6, .int i7, .long i8, .int i9, .int i10, .ref c11, .ref c12, .ref c13, .ref c14, .ref c15, .ref c16, .int i17, .int i18, .ref c19, .ref c20, .ref c21, .ref c22, .int i23, .ref c24, .ref c25, .ref c26, .ref c27, .ref c28, .ref c29, .ref c30, .int i31, .int i32, .int i33, .int i34, .ref c35, .ref c36, .int i37, .int i38, .int i39, .int i40, .int i41, .int i42, .ref c43, .ref c44, .ref c45, .ref c46, .ref c47, .ref c48, .ref c49, .ref c50, .ref c51, .ref c52, .ref c53, .ref c54, .ref c55, .ref c56, .ref c57, .ref c58, .ref c59, .int i60, .ref c61, .int i62, .ref c63, .int i64, .int i65, .int i66, .ref c67, .ref c68, .ref c69, .ref c70, .ref c71, .ref c72, .int i73, .ref c74, .ref c75, .int i76, .int i77, .int i78, .ref c79, .int i80, .int i81, .int i82, .int i83, .int i84])), (c74, .inl (dA 0, 4096, .inl m74)), (c75, .inl (dA 0, 16, .inl m75))] sz) := by
  refine Met.ofW (cc := cX11_push) (maxL := 2) (ret := none) (by decide) rfl ?_
  intro p e s m args below meth c s₁ B hml hv
  obtain ⟨rfl, hsz, hP, hK, hD0⟩ := hv
  have hx := B.exec
  have hb := B.bytes
  have hr := B.returns
  have hts := atoms_spec (ws := gws yX11_push cX11_push 2 none) B.pre
  have hg : ∀ w ∈ gw, w.before _ s = true := fun w h => hts w (List.mem_cons_of_mem _ h)
  have hown : s.vm.findClass RX11 = some m.cls := findClass_of_methodNamed B.named
  have hlocks := B.notSynchronized
  subst hsz
  have hD := hD0.self (sz := s.heap.size)
  generalize hAe : va_A [(t0, .inr (11, [.int i0, .ref c1, .int i2, .int i3, .int i4, .int i5, .int i6, .int i7, .long i8, .int i9, .int i10, .ref c11, .ref c12, .ref c13, .ref c14, .ref c15, .ref c16, .int i17, .int i18, .ref c19, .ref c20, .ref c21, .ref c22, .int i23, .ref c24, .ref c25, .ref c26, .ref c27, .ref c28, .ref c29, .ref c30, .int i31, .int i32, .int i33, .int i34, .ref c35, .ref c36, .int i37, .int i38, .int i39, .int i40, .int i41, .int i42, .ref c43, .ref c44, .ref c45, .ref c46, .ref c47, .ref c48, .ref c49, .ref c50, .ref c51, .ref c52, .ref c53, .ref c54, .ref c55, .ref c56, .ref c57, .ref c58, .ref c59, .int i60, .ref c61, .int i62, .ref c63, .int i64, .int i65, .int i66, .ref c67, .ref c68, .ref c69, .ref c70, .ref c71, .ref c72, .int i73, .ref c74, .ref c75, .int i76, .int i77, .int i78, .ref c79, .int i80, .int i81, .int i82, .int i83, .int i84])), (c74, .inl (dA 0, 4096, .inl m74)), (c75, .inl (dA 0, 16, .inl m75))] s.heap.size = A at hD ⊢
  have hA : ∀ q : Nat, s.heap.size ≤ q → A q := fun q h => by rw [← hAe]; exact Or.inr h
  have hS : va_S A s.heap s.heap [] := va_S.rf
  have hP : va_P D vwC [(t0, .inr (11, [.int i0, .ref c1, .int i2, .int i3, .int i4, .int i5, .int i6, .int i7, .long i8, .int i9, .int i10, .ref c11, .ref c12, .ref c13, .ref c14, .ref c15, .ref c16, .int i17, .int i18, .ref c19, .ref c20, .ref c21, .ref c22, .int i23, .ref c24, .ref c25, .ref c26, .ref c27, .ref c28, .ref c29, .ref c30, .int i31, .int i32, .int i33, .int i34, .ref c35, .ref c36, .int i37, .int i38, .int i39, .int i40, .int i41, .int i42, .ref c43, .ref c44, .ref c45, .ref c46, .ref c47, .ref c48, .ref c49, .ref c50, .ref c51, .ref c52, .ref c53, .ref c54, .ref c55, .ref c56, .ref c57, .ref c58, .ref c59, .int i60, .ref c61, .int i62, .ref c63, .int i64, .int i65, .int i66, .ref c67, .ref c68, .ref c69, .ref c70, .ref c71, .ref c72, .int i73, .ref c74, .ref c75, .int i76, .int i77, .int i78, .ref c79, .int i80, .int i81, .int i82, .int i83, .int i84])), (c74, .inl (dA 0, 4096, .inl m74)), (c75, .inl (dA 0, 16, .inl m75))] s.heap := hP
  have hl := lv_entry ([.ref t0, .int a0]) (n := 2) (Nat.le_of_ble_eq_true rfl)
  rw [lg_entry_eq]
  generalize (lg_sl ([.ref t0, .int a0]) ++ List.replicate (2 - (lg_sl ([.ref t0, .int a0])).length) Slot.unset).toArray = ls at hl ⊢
  have hl : lv_has ls 2 [(0, .ref t0), (1, .int a0)] := hl
  refine lv_aload_n hx hb dX11_push_0 rfl (lv_at hl 0 rfl) ?_
  refine g_get hx hb hg hown hK hP 0 rfl rfl inX11 75 (by decide) q1690 rfl dX11_push_1 ?_
  refine lv_iconst (v := 4) hx hb dX11_push_4 (by decide) ?_
  refine lv_aload_n hx hb dX11_push_5 rfl (lv_at hl 0 rfl) ?_
  refine g_get hx hb hg hown hK hP 0 rfl rfl inX11 75 (by decide) q1690 rfl dX11_push_6 ?_
  refine lv_iconst (v := 4) hx hb dX11_push_9 (by decide) ?_
  refine va_iald hx hb hK hP 2 0 rfl rfl (by unfold vp_in; decide) dX11_push_10 ?_
  refine lv_topi (fun x1 e2 => ?_)
  refine lv_iconst (v := 2) hx hb dX11_push_11 (by decide) ?_
  refine lv_isub hx hb dX11_push_12 ?_
  have g3 := g_i32 x1
  refine lv_topi (fun x4 e5 => ?_)
  refine lv_ldcw hx hb hown (hg _ q1907) dX11_push_13 ?_
  refine lv_iand hx hb dX11_push_16 ?_
  refine lv_topi (fun x6 e7 => ?_)
  have g8 : 0 ≤ x6.toInt ∧ x6.toInt ≤ 65535 := g_msk e7 16 (by decide) (by decide) (by decide)
  refine va_iast hx hb hK hP hD hS 2 0 rfl rfl (by unfold vp_in; decide) dX11_push_17 (fun H locs hP hD hS => ?_)
  have hP : va_P D vwC [(t0, .inr (11, [.int i0, .ref c1, .int i2, .int i3, .int i4, .int i5, .int i6, .int i7, .long i8, .int i9, .int i10, .ref c11, .ref c12, .ref c13, .ref c14, .ref c15, .ref c16, .int i17, .int i18, .ref c19, .ref c20, .ref c21, .ref c22, .int i23, .ref c24, .ref c25, .ref c26, .ref c27, .ref c28, .ref c29, .ref c30, .int i31, .int i32, .int i33, .int i34, .ref c35, .ref c36, .int i37, .int i38, .int i39, .int i40, .int i41, .int i42, .ref c43, .ref c44, .ref c45, .ref c46, .ref c47, .ref c48, .ref c49, .ref c50, .ref c51, .ref c52, .ref c53, .ref c54, .ref c55, .ref c56, .ref c57, .ref c58, .ref c59, .int i60, .ref c61, .int i62, .ref c63, .int i64, .int i65, .int i66, .ref c67, .ref c68, .ref c69, .ref c70, .ref c71, .ref c72, .int i73, .ref c74, .ref c75, .int i76, .int i77, .int i78, .ref c79, .int i80, .int i81, .int i82, .int i83, .int i84])), (c74, .inl (dA 0, 4096, .inl m74)), (c75, .inl (dA 0, 16, .inl (upd m75 (4 : Int32).toNatClampNeg x6)))] H := hP
  have hD : va_D A [(t0, .inr (11, [.int i0, .ref c1, .int i2, .int i3, .int i4, .int i5, .int i6, .int i7, .long i8, .int i9, .int i10, .ref c11, .ref c12, .ref c13, .ref c14, .ref c15, .ref c16, .int i17, .int i18, .ref c19, .ref c20, .ref c21, .ref c22, .int i23, .ref c24, .ref c25, .ref c26, .ref c27, .ref c28, .ref c29, .ref c30, .int i31, .int i32, .int i33, .int i34, .ref c35, .ref c36, .int i37, .int i38, .int i39, .int i40, .int i41, .int i42, .ref c43, .ref c44, .ref c45, .ref c46, .ref c47, .ref c48, .ref c49, .ref c50, .ref c51, .ref c52, .ref c53, .ref c54, .ref c55, .ref c56, .ref c57, .ref c58, .ref c59, .int i60, .ref c61, .int i62, .ref c63, .int i64, .int i65, .int i66, .ref c67, .ref c68, .ref c69, .ref c70, .ref c71, .ref c72, .int i73, .ref c74, .ref c75, .int i76, .int i77, .int i78, .ref c79, .int i80, .int i81, .int i82, .int i83, .int i84])), (c74, .inl (dA 0, 4096, .inl m74)), (c75, .inl (dA 0, 16, .inl (upd m75 (4 : Int32).toNatClampNeg x6)))] := hD
  obtain ⟨f9, ef9⟩ : ∃ f : Nat → Int32, f = (upd m75 (4 : Int32).toNatClampNeg x6) := ⟨_, rfl⟩
  rw [← ef9] at hP hD
  refine lv_aload_n hx hb dX11_push_18 rfl (lv_at hl 0 rfl) ?_
  refine lv_aload_n hx hb dX11_push_19 rfl (lv_at hl 0 rfl) ?_
  refine g_get hx hb hg hown hK hP 0 rfl rfl inX11 75 (by decide) q1690 rfl dX11_push_20 ?_
  refine lv_bipush (v := 10) hx hb dX11_push_23 (by decide) ?_
  refine va_iald hx hb hK hP 2 0 rfl rfl (by unfold vp_in; decide) dX11_push_25 ?_
  refine lv_topi (fun x10 e11 => ?_)
  refine lv_aload_n hx hb dX11_push_26 rfl (lv_at hl 0 rfl) ?_
  refine g_get hx hb hg hown hK hP 0 rfl rfl inX11 75 (by decide) q1690 rfl dX11_push_27 ?_
  refine lv_iconst (v := 4) hx hb dX11_push_30 (by decide) ?_
  refine va_iald hx hb hK hP 2 0 rfl rfl (by unfold vp_in; decide) dX11_push_31 ?_
  refine lv_topi (fun x12 e13 => ?_)
  refine lv_iload_n hx hb dX11_push_32 rfl (lv_at hl 1 rfl) ?_
  refine g_Vv (n := 3) (As := [.int x10, .int x12, .int a0]) (rest := []) (wr := [(c75, .inl (dA 0, 16, .inl f9))]) hx hb hml hg hown hK hP hD hS hA (s_X11_store l D dA t0 x10 x12 a0 i0 c1 i2 i3 i4 i5 i6 i7 i8 i9 i10 c11 c12 c13 c14 c15 c16 i17 i18 c19 c20 c21 c22 i23 c24 c25 c26 c27 c28 c29 c30 i31 i32 i33 i34 c35 c36 i37 i38 i39 i40 i41 i42 c43 c44 c45 c46 c47 c48 c49 c50 c51 c52 c53 c54 c55 c56 c57 c58 c59 i60 c61 i62 c63 i64 i65 i66 c67 c68 c69 c70 c71 c72 i73 c74 c75 i76 i77 i78 c79 i80 i81 i82 i83 i84 m74 (by omega) (by omega) (by omega) (by omega) (by omega) (by omega) (by omega) p7 _) [0, 1] [2] rfl (by decide) rfl (by decide) (by decide) 0 rfl rfl q2176 q160 q2173 q2175 q140 (by decide +kernel) ⟨(Nat.le_of_ble_eq_true rfl), (Nat.le_of_ble_eq_true rfl)⟩ rfl hl.1 rfl (Nat.le_of_ble_eq_true rfl) dX11_push_33 ⟨(Nat.le_of_ble_eq_true rfl), (Nat.le_of_ble_eq_true rfl)⟩ (fun u14 H locs w16 hP hD hS => ?_)
  refine W.widen (k := 0) (n := 0) (Nat.le_of_ble_eq_true rfl) (Nat.le_of_ble_eq_true rfl) ?_
  obtain ⟨f17, rfl⟩ : ∃ z, z = u14 := ⟨_, rfl⟩
  have hP : va_P D vwC [(c75, .inl (dA 0, 16, .inl f9)), (t0, .inr (11, [.int i0, .ref c1, .int i2, .int i3, .int i4, .int i5, .int i6, .int i7, .long i8, .int i9, .int i10, .ref c11, .ref c12, .ref c13, .ref c14, .ref c15, .ref c16, .int i17, .int i18, .ref c19, .ref c20, .ref c21, .ref c22, .int i23, .ref c24, .ref c25, .ref c26, .ref c27, .ref c28, .ref c29, .ref c30, .int i31, .int i32, .int i33, .int i34, .ref c35, .ref c36, .int i37, .int i38, .int i39, .int i40, .int i41, .int i42, .ref c43, .ref c44, .ref c45, .ref c46, .ref c47, .ref c48, .ref c49, .ref c50, .ref c51, .ref c52, .ref c53, .ref c54, .ref c55, .ref c56, .ref c57, .ref c58, .ref c59, .int i60, .ref c61, .int i62, .ref c63, .int i64, .int i65, .int i66, .ref c67, .ref c68, .ref c69, .ref c70, .ref c71, .ref c72, .int i73, .ref c74, .ref c75, .int i76, .int i77, .int i78, .ref c79, .int i80, .int i81, .int i82, .int i83, .int i84])), (c74, .inl (dA 0, 4096, .inl f17))] H := hP
  have hD : va_D A [(c75, .inl (dA 0, 16, .inl f9)), (t0, .inr (11, [.int i0, .ref c1, .int i2, .int i3, .int i4, .int i5, .int i6, .int i7, .long i8, .int i9, .int i10, .ref c11, .ref c12, .ref c13, .ref c14, .ref c15, .ref c16, .int i17, .int i18, .ref c19, .ref c20, .ref c21, .ref c22, .int i23, .ref c24, .ref c25, .ref c26, .ref c27, .ref c28, .ref c29, .ref c30, .int i31, .int i32, .int i33, .int i34, .ref c35, .ref c36, .int i37, .int i38, .int i39, .int i40, .int i41, .int i42, .ref c43, .ref c44, .ref c45, .ref c46, .ref c47, .ref c48, .ref c49, .ref c50, .ref c51, .ref c52, .ref c53, .ref c54, .ref c55, .ref c56, .ref c57, .ref c58, .ref c59, .int i60, .ref c61, .int i62, .ref c63, .int i64, .int i65, .int i66, .ref c67, .ref c68, .ref c69, .ref c70, .ref c71, .ref c72, .int i73, .ref c74, .ref c75, .int i76, .int i77, .int i78, .ref c79, .int i80, .int i81, .int i82, .int i83, .int i84])), (c74, .inl (dA 0, 4096, .inl f17))] := hD
  have g18 := w16
  have g18 : ∀ j : Nat, 0 ≤ (f17 j).toInt ∧ (f17 j).toInt ≤ 255 := g18
  obtain ⟨hP, hD⟩ := g_cut (is := [1, 2, 0]) (w' := [(t0, .inr (11, [.int i0, .ref c1, .int i2, .int i3, .int i4, .int i5, .int i6, .int i7, .long i8, .int i9, .int i10, .ref c11, .ref c12, .ref c13, .ref c14, .ref c15, .ref c16, .int i17, .int i18, .ref c19, .ref c20, .ref c21, .ref c22, .int i23, .ref c24, .ref c25, .ref c26, .ref c27, .ref c28, .ref c29, .ref c30, .int i31, .int i32, .int i33, .int i34, .ref c35, .ref c36, .int i37, .int i38, .int i39, .int i40, .int i41, .int i42, .ref c43, .ref c44, .ref c45, .ref c46, .ref c47, .ref c48, .ref c49, .ref c50, .ref c51, .ref c52, .ref c53, .ref c54, .ref c55, .ref c56, .ref c57, .ref c58, .ref c59, .int i60, .ref c61, .int i62, .ref c63, .int i64, .int i65, .int i66, .ref c67, .ref c68, .ref c69, .ref c70, .ref c71, .ref c72, .int i73, .ref c74, .ref c75, .int i76, .int i77, .int i78, .ref c79, .int i80, .int i81, .int i82, .int i83, .int i84])), (c74, .inl (dA 0, 4096, .inl f17)), (c75, .inl (dA 0, 16, .inl f9))]) hP hD (by decide) rfl rfl
  exact g_vret hx hb hr hlocks hK (f17, f9) hP hD hS g18 (Nat.le_of_ble_eq_true rfl) (Nat.le_of_ble_eq_true rfl) dX11_push_36
set_option maxHeartbeats 4000000 in
set_option maxRecDepth 100000 in
theorem s_X11_pop (l : Launch) (D : va_G) (dA : Nat → ClassId) (t0 : Nat) (i0 : Int32) (c1 : Nat) (i2 : Int32) (i3 : Int32) (i4 : Int32) (i5 : Int32) (i6 : Int32) (i7 : Int32) (i8 : Int64) (i9 : Int32) (i10 : Int32) (c11 : Nat) (c12 : Nat) (c13 : Nat) (c14 : Nat) (c15 : Nat) (c16 : Nat) (i17 : Int32) (i18 : Int32) (c19 : Nat) (c20 : Nat) (c21 : Nat) (c22 : Nat) (i23 : Int32) (c24 : Nat) (c25 : Nat) (c26 : Nat) (c27 : Nat) (c28 : Nat) (c29 : Nat) (c30 : Nat) (i31 : Int32) (i32 : Int32) (i33 : Int32) (i34 : Int32) (c35 : Nat) (c36 : Nat) (i37 : Int32) (i38 : Int32) (i39 : Int32) (i40 : Int32) (i41 : Int32) (i42 : Int32) (c43 : Nat) (c44 : Nat) (c45 : Nat) (c46 : Nat) (c47 : Nat) (c48 : Nat) (c49 : Nat) (c50 : Nat) (c51 : Nat) (c52 : Nat) (c53 : Nat) (c54 : Nat) (c55 : Nat) (c56 : Nat) (c57 : Nat) (c58 : Nat) (c59 : Nat) (i60 : Int32) (c61 : Nat) (i62 : Int32) (c63 : Nat) (i64 : Int32) (i65 : Int32) (i66 : Int32) (c67 : Nat) (c68 : Nat) (c69 : Nat) (c70 : Nat) (c71 : Nat) (c72 : Nat) (i73 : Int32) (c74 : Nat) (c75 : Nat) (i76 : Int32) (i77 : Int32) (i78 : Int32) (c79 : Nat) (i80 : Int32) (i81 : Int32) (i82 : Int32) (i83 : Int32) (i84 : Int32) (m74 : Nat → Int32) (m75 : Nat → Int32) (p0 : 0 ≤ i33.toInt ∧ i33.toInt ≤ 1) (p1 : 0 ≤ i60.toInt ∧ i60.toInt ≤ 1) (p2 : 0 ≤ i76.toInt ∧ i76.toInt ≤ 1) (p3 : 0 ≤ i78.toInt ∧ i78.toInt ≤ 1000000) (p4 : 0 ≤ i81.toInt ∧ i81.toInt ≤ 255) (p5 : 0 ≤ i82.toInt ∧ i82.toInt ≤ 7) (p6 : 0 ≤ i83.toInt ∧ i83.toInt ≤ 15) (p7 : ∀ j : Nat, 0 ≤ (m74 j).toInt ∧ (m74 j).toInt ≤ 255) (sz : Nat) : Met l yX11_pop (gws yX11_pop cX11_pop 2 (some .int)) (gR 3 0 0) (gPre D dA [.ref t0] [(t0, .inr (11, [.int i0, .ref c1, .int i2, .int i3, .int i4, .int i5, .int i6, .int i7, .long i8, .int i9, .int i10, .ref c11, .ref c12, .ref c13, .ref c14, .ref c15, .ref c16, .int i17, .int i18, .ref c19, .ref c20, .ref c21, .ref c22, .int i23, .ref c24, .ref c25, .ref c26, .ref c27, .ref c28, .ref c29, .ref c30, .int i31, .int i32, .int i33, .int i34, .ref c35, .ref c36, .int i37, .int i38, .int i39, .int i40, .int i41, .int i42, .ref c43, .ref c44, .ref c45, .ref c46, .ref c47, .ref c48, .ref c49, .ref c50, .ref c51, .ref c52, .ref c53, .ref c54, .ref c55, .ref c56, .ref c57, .ref c58, .ref c59, .int i60, .ref c61, .int i62, .ref c63, .int i64, .int i65, .int i66, .ref c67, .ref c68, .ref c69, .ref c70, .ref c71, .ref c72, .int i73, .ref c74, .ref c75, .int i76, .int i77, .int i78, .ref c79, .int i80, .int i81, .int i82, .int i83, .int i84])), (c74, .inl (dA 0, 4096, .inl m74)), (c75, .inl (dA 0, 16, .inl m75))] sz) (va_Qi (fun (r : Int32) (u : (Nat → Int32)) => True) (gAt D dA (va_A [(t0, .inr (11, [.int i0, .ref c1, .int i2, .int i3, .int i4, .int i5, .int i6, .int i7, .long i8, .int i9, .int i10, .ref c11, .ref c12, .ref c13, .ref c14, .ref c15, .ref c16, .int i17, .int i18, .ref c19, .ref c20, .ref c21, .ref c22, .int i23, .ref c24, .ref c25, .ref c26, .ref c27, .ref c28, .ref c29, .ref c30, .int i31, .int i32, .int i33, .int i34, .ref c35, .ref c36, .int i37, .int i38, .int i39, .int i40, .int i41, .int i42, .ref c43, .ref c44, .ref c45, .ref c46, .ref c47, .ref c48, .ref c49, .ref c50, .ref c51, .ref c52, .ref c53, .ref c54, .ref c55, .ref c56, .ref c57, .ref c58, .ref c59, .int i60, .ref c61, .int i62, .ref c63, .int i64, .int i65, .int i66, .ref c67, .ref c68, .ref c69, .ref c70, .ref c71, .ref c72, .int i73, .ref c74, .ref c75, .int i76, .int i77, .int i78, .ref c79, .int i80, .int i81, .int i82, .int i83, .int i84])), (c74, .inl (dA 0, 4096, .inl m74)), (c75, .inl (dA 0, 16, .inl m75))] sz) (fun u : (Nat → Int32) => [(t0, .inr (11, [.int i0, .ref c1, .int i2, .int i3, .int i4, .int i5, .int i6, .int i7, .long i8, .int i9, .int i10, .ref c11, .ref c12, .ref c13, .ref c14, .ref c15, .ref c16, .int i17, .int i18, .ref c19, .ref c20, .ref c21, .ref c22, .int i23, .ref c24, .ref c25, .ref c26, .ref c27, .ref c28, .ref c29, .ref c30, .int i31, .int i32, .int i33, .int i34, .ref c35, .ref c36, .int i37, .int i38, .int i39, .int i40, .int i41, .int i42, .ref c43, .ref c44, .ref c45, .ref c46, .ref c47, .ref c48, .ref c49, .ref c50, .ref c51, .ref c52, .ref c53, .ref c54, .ref c55, .ref c56, .ref c57, .ref c58, .ref c59, .int i60, .ref c61, .int i62, .ref c63, .int i64, .int i65, .int i66, .ref c67, .ref c68, .ref c69, .ref c70, .ref c71, .ref c72, .int i73, .ref c74, .ref c75, .int i76, .int i77, .int i78, .ref c79, .int i80, .int i81, .int i82, .int i83, .int i84])), (c74, .inl (dA 0, 4096, .inl m74)), (c75, .inl (dA 0, 16, .inl u))])) (va_A [(t0, .inr (11, [.int i0, .ref c1, .int i2, .int i3, .int i4, .int i5, .int i6, .int i7, .long i8, .int i9, .int i10, .ref c11, .ref c12, .ref c13, .ref c14, .ref c15, .ref c16, .int i17, .int i18, .ref c19, .ref c20, .ref c21, .ref c22, .int i23, .ref c24, .ref c25, .ref c26, .ref c27, .ref c28, .ref c29, .ref c30, .int i31, .int i32, .int i33, .int i34, .ref c35, .ref c36, .int i37, .int i38, .int i39, .int i40, .int i41, .int i42, .ref c43, .ref c44, .ref c45, .ref c46, .ref c47, .ref c48, .ref c49, .ref c50, .ref c51, .ref c52, .ref c53, .ref c54, .ref c55, .ref c56, .ref c57, .ref c58, .ref c59, .int i60, .ref c61, .int i62, .ref c63, .int i64, .int i65, .int i66, .ref c67, .ref c68, .ref c69, .ref c70, .ref c71, .ref c72, .int i73, .ref c74, .ref c75, .int i76, .int i77, .int i78, .ref c79, .int i80, .int i81, .int i82, .int i83, .int i84])), (c74, .inl (dA 0, 4096, .inl m74)), (c75, .inl (dA 0, 16, .inl m75))] sz)) 0 0 (va_A [(t0, .inr (11, [.int i0, .ref c1, .int i2, .int i3, .int i4, .int i5, .int i6, .int i7, .long i8, .int i9, .int i10, .ref c11, .ref c12, .ref c13, .ref c14, .ref c15, .ref c16, .int i17, .int i18, .ref c19, .ref c20, .ref c21, .ref c22, .int i23, .ref c24, .ref c25, .ref c26, .ref c27, .ref c28, .ref c29, .ref c30, .int i31, .int i32, .int i33, .int i34, .ref c35, .ref c36, .int i37, .int i38, .int i39, .int i40, .int i41, .int i42, .ref c43, .ref c44, .ref c45, .ref c46, .ref c47, .ref c48, .ref c49, .ref c50, .ref c51, .ref c52, .ref c53, .ref c54, .ref c55, .ref c56, .ref c57, .ref c58, .ref c59, .int i60, .ref c61, .int i62, .ref c63, .int i64, .int i65, .int i66, .ref c67, .ref c68, .ref c69, .ref c70, .ref c71, .ref c72, .int i73, .ref c74, .ref c75, .int i76, .int i77, .int i78, .ref c79, .int i80, .int i81, .int i82, .int i83, .int i84])), (c74, .inl (dA 0, 4096, .inl m74)), (c75, .inl (dA 0, 16, .inl m75))] sz) := by
  refine Met.ofW (cc := cX11_pop) (maxL := 2) (ret := (some .int)) (by decide) rfl ?_
  intro p e s m args below meth c s₁ B hml hv
  obtain ⟨rfl, hsz, hP, hK, hD0⟩ := hv
  have hx := B.exec
  have hb := B.bytes
  have hr := B.returns
  have hts := atoms_spec (ws := gws yX11_pop cX11_pop 2 (some .int)) B.pre
  have hg : ∀ w ∈ gw, w.before _ s = true := fun w h => hts w (List.mem_cons_of_mem _ h)
  have hown : s.vm.findClass RX11 = some m.cls := findClass_of_methodNamed B.named
  have hlocks := B.notSynchronized
  subst hsz
  have hD := hD0.self (sz := s.heap.size)
  generalize hAe : va_A [(t0, .inr (11, [.int i0, .ref c1, .int i2, .int i3, .int i4, .int i5, .int i6, .int i7, .long i8, .int i9, .int i10, .ref c11, .ref c12, .ref c13, .ref c14, .ref c15, .ref c16, .int i17, .int i18, .ref c19, .ref c20, .ref c21, .ref c22, .int i23, .ref c24, .ref c25, .ref c26, .ref c27, .ref c28, .ref c29, .ref c30, .int i31, .int i32, .int i33, .int i34, .ref c35, .ref c36, .int i37, .int i38, .int i39, .int i40, .int i41, .int i42, .ref c43, .ref c44, .ref c45, .ref c46, .ref c47, .ref c48, .ref c49, .ref c50, .ref c51, .ref c52, .ref c53, .ref c54, .ref c55, .ref c56, .ref c57, .ref c58, .ref c59, .int i60, .ref c61, .int i62, .ref c63, .int i64, .int i65, .int i66, .ref c67, .ref c68, .ref c69, .ref c70, .ref c71, .ref c72, .int i73, .ref c74, .ref c75, .int i76, .int i77, .int i78, .ref c79, .int i80, .int i81, .int i82, .int i83, .int i84])), (c74, .inl (dA 0, 4096, .inl m74)), (c75, .inl (dA 0, 16, .inl m75))] s.heap.size = A at hD ⊢
  have hA : ∀ q : Nat, s.heap.size ≤ q → A q := fun q h => by rw [← hAe]; exact Or.inr h
  have hS : va_S A s.heap s.heap [] := va_S.rf
  have hP : va_P D vwC [(t0, .inr (11, [.int i0, .ref c1, .int i2, .int i3, .int i4, .int i5, .int i6, .int i7, .long i8, .int i9, .int i10, .ref c11, .ref c12, .ref c13, .ref c14, .ref c15, .ref c16, .int i17, .int i18, .ref c19, .ref c20, .ref c21, .ref c22, .int i23, .ref c24, .ref c25, .ref c26, .ref c27, .ref c28, .ref c29, .ref c30, .int i31, .int i32, .int i33, .int i34, .ref c35, .ref c36, .int i37, .int i38, .int i39, .int i40, .int i41, .int i42, .ref c43, .ref c44, .ref c45, .ref c46, .ref c47, .ref c48, .ref c49, .ref c50, .ref c51, .ref c52, .ref c53, .ref c54, .ref c55, .ref c56, .ref c57, .ref c58, .ref c59, .int i60, .ref c61, .int i62, .ref c63, .int i64, .int i65, .int i66, .ref c67, .ref c68, .ref c69, .ref c70, .ref c71, .ref c72, .int i73, .ref c74, .ref c75, .int i76, .int i77, .int i78, .ref c79, .int i80, .int i81, .int i82, .int i83, .int i84])), (c74, .inl (dA 0, 4096, .inl m74)), (c75, .inl (dA 0, 16, .inl m75))] s.heap := hP
  have hl := lv_entry ([.ref t0]) (n := 2) (Nat.le_of_ble_eq_true rfl)
  rw [lg_entry_eq]
  generalize (lg_sl ([.ref t0]) ++ List.replicate (2 - (lg_sl ([.ref t0])).length) Slot.unset).toArray = ls at hl ⊢
  have hl : lv_has ls 2 [(0, .ref t0)] := hl
  refine lv_aload_n hx hb dX11_pop_0 rfl (lv_at hl 0 rfl) ?_
  refine lv_aload_n hx hb dX11_pop_1 rfl (lv_at hl 0 rfl) ?_
  refine g_get hx hb hg hown hK hP 0 rfl rfl inX11 75 (by decide) q1690 rfl dX11_pop_2 ?_
  refine lv_bipush (v := 10) hx hb dX11_pop_5 (by decide) ?_
  refine va_iald hx hb hK hP 2 0 rfl rfl (by unfold vp_in; decide) dX11_pop_7 ?_
  refine lv_topi (fun x1 e2 => ?_)
  refine lv_aload_n hx hb dX11_pop_8 rfl (lv_at hl 0 rfl) ?_
  refine g_get hx hb hg hown hK hP 0 rfl rfl inX11 75 (by decide) q1690 rfl dX11_pop_9 ?_
  refine lv_iconst (v := 4) hx hb dX11_pop_12 (by decide) ?_
  refine va_iald hx hb hK hP 2 0 rfl rfl (by unfold vp_in; decide) dX11_pop_13 ?_
  refine lv_topi (fun x3 e4 => ?_)
  refine g_Vi (n := 2) (As := [.int x1, .int x3]) (rest := []) (wr := [(c75, .inl (dA 0, 16, .inl m75))]) hx hb hml hg hown hK hP hD hS hA (s_X11_get l D dA t0 x1 x3 i0 c1 i2 i3 i4 i5 i6 i7 i8 i9 i10 c11 c12 c13 c14 c15 c16 i17 i18 c19 c20 c21 c22 i23 c24 c25 c26 c27 c28 c29 c30 i31 i32 i33 i34 c35 c36 i37 i38 i39 i40 i41 i42 c43 c44 c45 c46 c47 c48 c49 c50 c51 c52 c53 c54 c55 c56 c57 c58 c59 i60 c61 i62 c63 i64 i65 i66 c67 c68 c69 c70 c71 c72 i73 c74 c75 i76 i77 i78 c79 i80 i81 i82 i83 i84 m74 (by omega) (by omega) (by omega) (by omega) (by omega) (by omega) (by omega) p7 _) [0, 1] [2] rfl (by decide) rfl (by decide) (by decide) 0 rfl rfl q2160 q160 q2157 q2159 q136 (by decide +kernel) ⟨(Nat.le_of_ble_eq_true rfl), (Nat.le_of_ble_eq_true rfl)⟩ rfl hl.1 rfl (Nat.le_of_ble_eq_true rfl) dX11_pop_14 ⟨(Nat.le_of_ble_eq_true rfl), (Nat.le_of_ble_eq_true rfl)⟩ (fun x6 u5 H locs w7 hP hD hS => ?_)
  refine W.widen (k := 0) (n := 0) (Nat.le_of_ble_eq_true rfl) (Nat.le_of_ble_eq_true rfl) ?_
  have hP : va_P D vwC [(c75, .inl (dA 0, 16, .inl m75)), (t0, .inr (11, [.int i0, .ref c1, .int i2, .int i3, .int i4, .int i5, .int i6, .int i7, .long i8, .int i9, .int i10, .ref c11, .ref c12, .ref c13, .ref c14, .ref c15, .ref c16, .int i17, .int i18, .ref c19, .ref c20, .ref c21, .ref c22, .int i23, .ref c24, .ref c25, .ref c26, .ref c27, .ref c28, .ref c29, .ref c30, .int i31, .int i32, .int i33, .int i34, .ref c35, .ref c36, .int i37, .int i38, .int i39, .int i40, .int i41, .int i42, .ref c43, .ref c44, .ref c45, .ref c46, .ref c47, .ref c48, .ref c49, .ref c50, .ref c51, .ref c52, .ref c53, .ref c54, .ref c55, .ref c56, .ref c57, .ref c58, .ref c59, .int i60, .ref c61, .int i62, .ref c63, .int i64, .int i65, .int i66, .ref c67, .ref c68, .ref c69, .ref c70, .ref c71, .ref c72, .int i73, .ref c74, .ref c75, .int i76, .int i77, .int i78, .ref c79, .int i80, .int i81, .int i82, .int i83, .int i84])), (c74, .inl (dA 0, 4096, .inl m74))] H := hP
  have hD : va_D A [(c75, .inl (dA 0, 16, .inl m75)), (t0, .inr (11, [.int i0, .ref c1, .int i2, .int i3, .int i4, .int i5, .int i6, .int i7, .long i8, .int i9, .int i10, .ref c11, .ref c12, .ref c13, .ref c14, .ref c15, .ref c16, .int i17, .int i18, .ref c19, .ref c20, .ref c21, .ref c22, .int i23, .ref c24, .ref c25, .ref c26, .ref c27, .ref c28, .ref c29, .ref c30, .int i31, .int i32, .int i33, .int i34, .ref c35, .ref c36, .int i37, .int i38, .int i39, .int i40, .int i41, .int i42, .ref c43, .ref c44, .ref c45, .ref c46, .ref c47, .ref c48, .ref c49, .ref c50, .ref c51, .ref c52, .ref c53, .ref c54, .ref c55, .ref c56, .ref c57, .ref c58, .ref c59, .int i60, .ref c61, .int i62, .ref c63, .int i64, .int i65, .int i66, .ref c67, .ref c68, .ref c69, .ref c70, .ref c71, .ref c72, .int i73, .ref c74, .ref c75, .int i76, .int i77, .int i78, .ref c79, .int i80, .int i81, .int i82, .int i83, .int i84])), (c74, .inl (dA 0, 4096, .inl m74))] := hD
  refine lv_istore_n (lv' := [(1, .int x6), (0, .ref t0)]) hx hb dX11_pop_17 rfl hl (by decide) rfl (fun ls hl => ?_)
  refine lv_aload_n hx hb dX11_pop_18 rfl (lv_at hl 1 rfl) ?_
  refine g_get hx hb hg hown hK hP 1 rfl rfl inX11 75 (by decide) q1690 rfl dX11_pop_19 ?_
  refine lv_iconst (v := 4) hx hb dX11_pop_22 (by decide) ?_
  refine lv_aload_n hx hb dX11_pop_23 rfl (lv_at hl 1 rfl) ?_
  refine g_get hx hb hg hown hK hP 1 rfl rfl inX11 75 (by decide) q1690 rfl dX11_pop_24 ?_
  refine lv_iconst (v := 4) hx hb dX11_pop_27 (by decide) ?_
  refine va_iald hx hb hK hP 0 0 rfl rfl (by unfold vp_in; decide) dX11_pop_28 ?_
  refine lv_topi (fun x8 e9 => ?_)
  refine lv_iconst (v := 2) hx hb dX11_pop_29 (by decide) ?_
  refine lv_iadd hx hb dX11_pop_30 ?_
  have g10 := g_i32 x8
  refine lv_topi (fun x11 e12 => ?_)
  refine lv_ldcw hx hb hown (hg _ q1907) dX11_pop_31 ?_
  refine lv_iand hx hb dX11_pop_34 ?_
  refine lv_topi (fun x13 e14 => ?_)
  have g15 : 0 ≤ x13.toInt ∧ x13.toInt ≤ 65535 := g_msk e14 16 (by decide) (by decide) (by decide)
  refine va_iast hx hb hK hP hD hS 0 0 rfl rfl (by unfold vp_in; decide) dX11_pop_35 (fun H locs hP hD hS => ?_)
  have hP : va_P D vwC [(c75, .inl (dA 0, 16, .inl (upd m75 (4 : Int32).toNatClampNeg x13))), (t0, .inr (11, [.int i0, .ref c1, .int i2, .int i3, .int i4, .int i5, .int i6, .int i7, .long i8, .int i9, .int i10, .ref c11, .ref c12, .ref c13, .ref c14, .ref c15, .ref c16, .int i17, .int i18, .ref c19, .ref c20, .ref c21, .ref c22, .int i23, .ref c24, .ref c25, .ref c26, .ref c27, .ref c28, .ref c29, .ref c30, .int i31, .int i32, .int i33, .int i34, .ref c35, .ref c36, .int i37, .int i38, .int i39, .int i40, .int i41, .int i42, .ref c43, .ref c44, .ref c45, .ref c46, .ref c47, .ref c48, .ref c49, .ref c50, .ref c51, .ref c52, .ref c53, .ref c54, .ref c55, .ref c56, .ref c57, .ref c58, .ref c59, .int i60, .ref c61, .int i62, .ref c63, .int i64, .int i65, .int i66, .ref c67, .ref c68, .ref c69, .ref c70, .ref c71, .ref c72, .int i73, .ref c74, .ref c75, .int i76, .int i77, .int i78, .ref c79, .int i80, .int i81, .int i82, .int i83, .int i84])), (c74, .inl (dA 0, 4096, .inl m74))] H := hP
  have hD : va_D A [(c75, .inl (dA 0, 16, .inl (upd m75 (4 : Int32).toNatClampNeg x13))), (t0, .inr (11, [.int i0, .ref c1, .int i2, .int i3, .int i4, .int i5, .int i6, .int i7, .long i8, .int i9, .int i10, .ref c11, .ref c12, .ref c13, .ref c14, .ref c15, .ref c16, .int i17, .int i18, .ref c19, .ref c20, .ref c21, .ref c22, .int i23, .ref c24, .ref c25, .ref c26, .ref c27, .ref c28, .ref c29, .ref c30, .int i31, .int i32, .int i33, .int i34, .ref c35, .ref c36, .int i37, .int i38, .int i39, .int i40, .int i41, .int i42, .ref c43, .ref c44, .ref c45, .ref c46, .ref c47, .ref c48, .ref c49, .ref c50, .ref c51, .ref c52, .ref c53, .ref c54, .ref c55, .ref c56, .ref c57, .ref c58, .ref c59, .int i60, .ref c61, .int i62, .ref c63, .int i64, .int i65, .int i66, .ref c67, .ref c68, .ref c69, .ref c70, .ref c71, .ref c72, .int i73, .ref c74, .ref c75, .int i76, .int i77, .int i78, .ref c79, .int i80, .int i81, .int i82, .int i83, .int i84])), (c74, .inl (dA 0, 4096, .inl m74))] := hD
  obtain ⟨f16, ef16⟩ : ∃ f : Nat → Int32, f = (upd m75 (4 : Int32).toNatClampNeg x13) := ⟨_, rfl⟩
  rw [← ef16] at hP hD
  refine lv_iload_n hx hb dX11_pop_36 rfl (lv_at hl 0 rfl) ?_
  obtain ⟨hP, hD⟩ := g_cut (is := [1, 2, 0]) (w' := [(t0, .inr (11, [.int i0, .ref c1, .int i2, .int i3, .int i4, .int i5, .int i6, .int i7, .long i8, .int i9, .int i10, .ref c11, .ref c12, .ref c13, .ref c14, .ref c15, .ref c16, .int i17, .int i18, .ref c19, .ref c20, .ref c21, .ref c22, .int i23, .ref c24, .ref c25, .ref c26, .ref c27, .ref c28, .ref c29, .ref c30, .int i31, .int i32, .int i33, .int i34, .ref c35, .ref c36, .int i37, .int i38, .int i39, .int i40, .int i41, .int i42, .ref c43, .ref c44, .ref c45, .ref c46, .ref c47, .ref c48, .ref c49, .ref c50, .ref c51, .ref c52, .ref c53, .ref c54, .ref c55, .ref c56, .ref c57, .ref c58, .ref c59, .int i60, .ref c61, .int i62, .ref c63, .int i64, .int i65, .int i66, .ref c67, .ref c68, .ref c69, .ref c70, .ref c71, .ref c72, .int i73, .ref c74, .ref c75, .int i76, .int i77, .int i78, .ref c79, .int i80, .int i81, .int i82, .int i83, .int i84])), (c74, .inl (dA 0, 4096, .inl m74)), (c75, .inl (dA 0, 16, .inl f16))]) hP hD (by decide) rfl rfl
  exact g_iret hx hb hr rfl hlocks hK f16 hP hD hS trivial (Nat.le_of_ble_eq_true rfl) (Nat.le_of_ble_eq_true rfl) dX11_pop_37
set_option maxHeartbeats 4000000 in
set_option maxRecDepth 100000 in
theorem s_X11_formGet (l : Launch) (D : va_G) (dA : Nat → ClassId) (t0 : Nat) (i0 : Int32) (c1 : Nat) (i2 : Int32) (i3 : Int32) (i4 : Int32) (i5 : Int32) (i6 : Int32) (i7 : Int32) (i8 : Int64) (i9 : Int32) (i10 : Int32) (c11 : Nat) (c12 : Nat) (c13 : Nat) (c14 : Nat) (c15 : Nat) (c16 : Nat) (i17 : Int32) (i18 : Int32) (c19 : Nat) (c20 : Nat) (c21 : Nat) (c22 : Nat) (i23 : Int32) (c24 : Nat) (c25 : Nat) (c26 : Nat) (c27 : Nat) (c28 : Nat) (c29 : Nat) (c30 : Nat) (i31 : Int32) (i32 : Int32) (i33 : Int32) (i34 : Int32) (c35 : Nat) (c36 : Nat) (i37 : Int32) (i38 : Int32) (i39 : Int32) (i40 : Int32) (i41 : Int32) (i42 : Int32) (c43 : Nat) (c44 : Nat) (c45 : Nat) (c46 : Nat) (c47 : Nat) (c48 : Nat) (c49 : Nat) (c50 : Nat) (c51 : Nat) (c52 : Nat) (c53 : Nat) (c54 : Nat) (c55 : Nat) (c56 : Nat) (c57 : Nat) (c58 : Nat) (c59 : Nat) (i60 : Int32) (c61 : Nat) (i62 : Int32) (c63 : Nat) (i64 : Int32) (i65 : Int32) (i66 : Int32) (c67 : Nat) (c68 : Nat) (c69 : Nat) (c70 : Nat) (c71 : Nat) (c72 : Nat) (i73 : Int32) (c74 : Nat) (c75 : Nat) (i76 : Int32) (i77 : Int32) (i78 : Int32) (c79 : Nat) (i80 : Int32) (i81 : Int32) (i82 : Int32) (i83 : Int32) (i84 : Int32) (m74 : Nat → Int32) (m75 : Nat → Int32) (p0 : 0 ≤ i33.toInt ∧ i33.toInt ≤ 1) (p1 : 0 ≤ i60.toInt ∧ i60.toInt ≤ 1) (p2 : 0 ≤ i76.toInt ∧ i76.toInt ≤ 1) (p3 : 0 ≤ i78.toInt ∧ i78.toInt ≤ 1000000) (p4 : 0 ≤ i81.toInt ∧ i81.toInt ≤ 255) (p5 : 0 ≤ i82.toInt ∧ i82.toInt ≤ 7) (p6 : 0 ≤ i83.toInt ∧ i83.toInt ≤ 15) (p7 : ∀ j : Nat, 0 ≤ (m74 j).toInt ∧ (m74 j).toInt ≤ 255) (sz : Nat) : Met l yX11_formGet (gws yX11_formGet cX11_formGet 1 (some .int)) (gR 3 0 0) (gPre D dA [.ref t0] [(t0, .inr (11, [.int i0, .ref c1, .int i2, .int i3, .int i4, .int i5, .int i6, .int i7, .long i8, .int i9, .int i10, .ref c11, .ref c12, .ref c13, .ref c14, .ref c15, .ref c16, .int i17, .int i18, .ref c19, .ref c20, .ref c21, .ref c22, .int i23, .ref c24, .ref c25, .ref c26, .ref c27, .ref c28, .ref c29, .ref c30, .int i31, .int i32, .int i33, .int i34, .ref c35, .ref c36, .int i37, .int i38, .int i39, .int i40, .int i41, .int i42, .ref c43, .ref c44, .ref c45, .ref c46, .ref c47, .ref c48, .ref c49, .ref c50, .ref c51, .ref c52, .ref c53, .ref c54, .ref c55, .ref c56, .ref c57, .ref c58, .ref c59, .int i60, .ref c61, .int i62, .ref c63, .int i64, .int i65, .int i66, .ref c67, .ref c68, .ref c69, .ref c70, .ref c71, .ref c72, .int i73, .ref c74, .ref c75, .int i76, .int i77, .int i78, .ref c79, .int i80, .int i81, .int i82, .int i83, .int i84])), (c74, .inl (dA 0, 4096, .inl m74)), (c75, .inl (dA 0, 16, .inl m75))] sz) (va_Qi (fun (r : Int32) (u : Unit) => True) (gAt D dA (va_A [(t0, .inr (11, [.int i0, .ref c1, .int i2, .int i3, .int i4, .int i5, .int i6, .int i7, .long i8, .int i9, .int i10, .ref c11, .ref c12, .ref c13, .ref c14, .ref c15, .ref c16, .int i17, .int i18, .ref c19, .ref c20, .ref c21, .ref c22, .int i23, .ref c24, .ref c25, .ref c26, .ref c27, .ref c28, .ref c29, .ref c30, .int i31, .int i32, .int i33, .int i34, .ref c35, .ref c36, .int i37, .int i38, .int i39, .int i40, .int i41, .int i42, .ref c43, .ref c44, .ref c45, .ref c46, .ref c47, .ref c48, .ref c49, .ref c50, .ref c51, .ref c52, .ref c53, .ref c54, .ref c55, .ref c56, .ref c57, .ref c58, .ref c59, .int i60, .ref c61, .int i62, .ref c63, .int i64, .int i65, .int i66, .ref c67, .ref c68, .ref c69, .ref c70, .ref c71, .ref c72, .int i73, .ref c74, .ref c75, .int i76, .int i77, .int i78, .ref c79, .int i80, .int i81, .int i82, .int i83, .int i84])), (c74, .inl (dA 0, 4096, .inl m74)), (c75, .inl (dA 0, 16, .inl m75))] sz) (fun u : Unit => [(t0, .inr (11, [.int i0, .ref c1, .int i2, .int i3, .int i4, .int i5, .int i6, .int i7, .long i8, .int i9, .int i10, .ref c11, .ref c12, .ref c13, .ref c14, .ref c15, .ref c16, .int i17, .int i18, .ref c19, .ref c20, .ref c21, .ref c22, .int i23, .ref c24, .ref c25, .ref c26, .ref c27, .ref c28, .ref c29, .ref c30, .int i31, .int i32, .int i33, .int i34, .ref c35, .ref c36, .int i37, .int i38, .int i39, .int i40, .int i41, .int i42, .ref c43, .ref c44, .ref c45, .ref c46, .ref c47, .ref c48, .ref c49, .ref c50, .ref c51, .ref c52, .ref c53, .ref c54, .ref c55, .ref c56, .ref c57, .ref c58, .ref c59, .int i60, .ref c61, .int i62, .ref c63, .int i64, .int i65, .int i66, .ref c67, .ref c68, .ref c69, .ref c70, .ref c71, .ref c72, .int i73, .ref c74, .ref c75, .int i76, .int i77, .int i78, .ref c79, .int i80, .int i81, .int i82, .int i83, .int i84])), (c74, .inl (dA 0, 4096, .inl m74)), (c75, .inl (dA 0, 16, .inl m75))])) (va_A [(t0, .inr (11, [.int i0, .ref c1, .int i2, .int i3, .int i4, .int i5, .int i6, .int i7, .long i8, .int i9, .int i10, .ref c11, .ref c12, .ref c13, .ref c14, .ref c15, .ref c16, .int i17, .int i18, .ref c19, .ref c20, .ref c21, .ref c22, .int i23, .ref c24, .ref c25, .ref c26, .ref c27, .ref c28, .ref c29, .ref c30, .int i31, .int i32, .int i33, .int i34, .ref c35, .ref c36, .int i37, .int i38, .int i39, .int i40, .int i41, .int i42, .ref c43, .ref c44, .ref c45, .ref c46, .ref c47, .ref c48, .ref c49, .ref c50, .ref c51, .ref c52, .ref c53, .ref c54, .ref c55, .ref c56, .ref c57, .ref c58, .ref c59, .int i60, .ref c61, .int i62, .ref c63, .int i64, .int i65, .int i66, .ref c67, .ref c68, .ref c69, .ref c70, .ref c71, .ref c72, .int i73, .ref c74, .ref c75, .int i76, .int i77, .int i78, .ref c79, .int i80, .int i81, .int i82, .int i83, .int i84])), (c74, .inl (dA 0, 4096, .inl m74)), (c75, .inl (dA 0, 16, .inl m75))] sz)) 0 0 (va_A [(t0, .inr (11, [.int i0, .ref c1, .int i2, .int i3, .int i4, .int i5, .int i6, .int i7, .long i8, .int i9, .int i10, .ref c11, .ref c12, .ref c13, .ref c14, .ref c15, .ref c16, .int i17, .int i18, .ref c19, .ref c20, .ref c21, .ref c22, .int i23, .ref c24, .ref c25, .ref c26, .ref c27, .ref c28, .ref c29, .ref c30, .int i31, .int i32, .int i33, .int i34, .ref c35, .ref c36, .int i37, .int i38, .int i39, .int i40, .int i41, .int i42, .ref c43, .ref c44, .ref c45, .ref c46, .ref c47, .ref c48, .ref c49, .ref c50, .ref c51, .ref c52, .ref c53, .ref c54, .ref c55, .ref c56, .ref c57, .ref c58, .ref c59, .int i60, .ref c61, .int i62, .ref c63, .int i64, .int i65, .int i66, .ref c67, .ref c68, .ref c69, .ref c70, .ref c71, .ref c72, .int i73, .ref c74, .ref c75, .int i76, .int i77, .int i78, .ref c79, .int i80, .int i81, .int i82, .int i83, .int i84])), (c74, .inl (dA 0, 4096, .inl m74)), (c75, .inl (dA 0, 16, .inl m75))] sz) := by
  refine Met.ofW (cc := cX11_formGet) (maxL := 1) (ret := (some .int)) (by decide) rfl ?_
  intro p e s m args below meth c s₁ B hml hv
  obtain ⟨rfl, hsz, hP, hK, hD0⟩ := hv
  have hx := B.exec
  have hb := B.bytes
  have hr := B.returns
  have hts := atoms_spec (ws := gws yX11_formGet cX11_formGet 1 (some .int)) B.pre
  have hg : ∀ w ∈ gw, w.before _ s = true := fun w h => hts w (List.mem_cons_of_mem _ h)
  have hown : s.vm.findClass RX11 = some m.cls := findClass_of_methodNamed B.named
  have hlocks := B.notSynchronized
  subst hsz
  have hD := hD0.self (sz := s.heap.size)
  generalize hAe : va_A [(t0, .inr (11, [.int i0, .ref c1, .int i2, .int i3, .int i4, .int i5, .int i6, .int i7, .long i8, .int i9, .int i10, .ref c11, .ref c12, .ref c13, .ref c14, .ref c15, .ref c16, .int i17, .int i18, .ref c19, .ref c20, .ref c21, .ref c22, .int i23, .ref c24, .ref c25, .ref c26, .ref c27, .ref c28, .ref c29, .ref c30, .int i31, .int i32, .int i33, .int i34, .ref c35, .ref c36, .int i37, .int i38, .int i39, .int i40, .int i41, .int i42, .ref c43, .ref c44, .ref c45, .ref c46, .ref c47, .ref c48, .ref c49, .ref c50, .ref c51, .ref c52, .ref c53, .ref c54, .ref c55, .ref c56, .ref c57, .ref c58, .ref c59, .int i60, .ref c61, .int i62, .ref c63, .int i64, .int i65, .int i66, .ref c67, .ref c68, .ref c69, .ref c70, .ref c71, .ref c72, .int i73, .ref c74, .ref c75, .int i76, .int i77, .int i78, .ref c79, .int i80, .int i81, .int i82, .int i83, .int i84])), (c74, .inl (dA 0, 4096, .inl m74)), (c75, .inl (dA 0, 16, .inl m75))] s.heap.size = A at hD ⊢
  have hA : ∀ q : Nat, s.heap.size ≤ q → A q := fun q h => by rw [← hAe]; exact Or.inr h
  have hS : va_S A s.heap s.heap [] := va_S.rf
  have hP : va_P D vwC [(t0, .inr (11, [.int i0, .ref c1, .int i2, .int i3, .int i4, .int i5, .int i6, .int i7, .long i8, .int i9, .int i10, .ref c11, .ref c12, .ref c13, .ref c14, .ref c15, .ref c16, .int i17, .int i18, .ref c19, .ref c20, .ref c21, .ref c22, .int i23, .ref c24, .ref c25, .ref c26, .ref c27, .ref c28, .ref c29, .ref c30, .int i31, .int i32, .int i33, .int i34, .ref c35, .ref c36, .int i37, .int i38, .int i39, .int i40, .int i41, .int i42, .ref c43, .ref c44, .ref c45, .ref c46, .ref c47, .ref c48, .ref c49, .ref c50, .ref c51, .ref c52, .ref c53, .ref c54, .ref c55, .ref c56, .ref c57, .ref c58, .ref c59, .int i60, .ref c61, .int i62, .ref c63, .int i64, .int i65, .int i66, .ref c67, .ref c68, .ref c69, .ref c70, .ref c71, .ref c72, .int i73, .ref c74, .ref c75, .int i76, .int i77, .int i78, .ref c79, .int i80, .int i81, .int i82, .int i83, .int i84])), (c74, .inl (dA 0, 4096, .inl m74)), (c75, .inl (dA 0, 16, .inl m75))] s.heap := hP
  have hl := lv_entry ([.ref t0]) (n := 1) (Nat.le_of_ble_eq_true rfl)
  rw [lg_entry_eq]
  generalize (lg_sl ([.ref t0]) ++ List.replicate (1 - (lg_sl ([.ref t0])).length) Slot.unset).toArray = ls at hl ⊢
  have hl : lv_has ls 1 [(0, .ref t0)] := hl
  refine lv_aload_n hx hb dX11_formGet_0 rfl (lv_at hl 0 rfl) ?_
  refine g_get hx hb hg hown hK hP 0 rfl rfl inX11 81 (by decide) q1696 rfl dX11_formGet_1 ?_
  refine lv_bipush (v := 6) hx hb dX11_formGet_4 (by decide) ?_
  refine lv_ishr hx hb dX11_formGet_6 ?_
  refine lv_topi (fun x1 e2 => ?_)
  have g3 : x1.toInt * 64 ≤ i81.toInt ∧ i81.toInt < x1.toInt * 64 + 64 := g_shr e2 6 (by decide) (by decide) (by decide)
  refine lv_iconst (v := 3) hx hb dX11_formGet_7 (by decide) ?_
  refine lv_icmp_ne (tgt := 26) hx hb dX11_formGet_8 (by decide) (fun k4 => ?_) (fun k4 => ?_)
  · have g5 : x1.toInt ≠ 3 := gi_neq (rfl : x1.toInt = x1.toInt) (by decide : (3 : Int32).toInt = 3) k4
    refine lv_aload_n hx hb dX11_formGet_26 rfl (lv_at hl 0 rfl) ?_
    refine lv_aload_n hx hb dX11_formGet_27 rfl (lv_at hl 0 rfl) ?_
    refine g_get hx hb hg hown hK hP 0 rfl rfl inX11 75 (by decide) q1690 rfl dX11_formGet_28 ?_
    refine lv_aload_n hx hb dX11_formGet_31 rfl (lv_at hl 0 rfl) ?_
    refine g_get hx hb hg hown hK hP 0 rfl rfl inX11 83 (by decide) q1698 rfl dX11_formGet_32 ?_
    refine va_iald hx hb hK hP 2 0 rfl rfl (by rw [vp_in_iff]; omega) dX11_formGet_35 ?_
    refine lv_topi (fun x6 e7 => ?_)
    refine lv_aload_n hx hb dX11_formGet_36 rfl (lv_at hl 0 rfl) ?_
    refine g_get hx hb hg hown hK hP 0 rfl rfl inX11 84 (by decide) q1699 rfl dX11_formGet_37 ?_
    refine g_Vi (n := 2) (As := [.int x6, .int i84]) (rest := []) (wr := [(c75, .inl (dA 0, 16, .inl m75))]) hx hb hml hg hown hK hP hD hS hA (s_X11_get l D dA t0 x6 i84 i0 c1 i2 i3 i4 i5 i6 i7 i8 i9 i10 c11 c12 c13 c14 c15 c16 i17 i18 c19 c20 c21 c22 i23 c24 c25 c26 c27 c28 c29 c30 i31 i32 i33 i34 c35 c36 i37 i38 i39 i40 i41 i42 c43 c44 c45 c46 c47 c48 c49 c50 c51 c52 c53 c54 c55 c56 c57 c58 c59 i60 c61 i62 c63 i64 i65 i66 c67 c68 c69 c70 c71 c72 i73 c74 c75 i76 i77 i78 c79 i80 i81 i82 i83 i84 m74 (by omega) (by omega) (by omega) (by omega) (by omega) (by omega) (by omega) p7 _) [0, 1] [2] rfl (by decide) rfl (by decide) (by decide) 0 rfl rfl q2160 q160 q2157 q2159 q136 (by decide +kernel) ⟨(Nat.le_of_ble_eq_true rfl), (Nat.le_of_ble_eq_true rfl)⟩ rfl hl.1 rfl (Nat.le_of_ble_eq_true rfl) dX11_formGet_40 ⟨(Nat.le_of_ble_eq_true rfl), (Nat.le_of_ble_eq_true rfl)⟩ (fun x9 u8 H locs w10 hP hD hS => ?_)
    refine W.widen (k := 0) (n := 0) (Nat.le_of_ble_eq_true rfl) (Nat.le_of_ble_eq_true rfl) ?_
    have hP : va_P D vwC [(c75, .inl (dA 0, 16, .inl m75)), (t0, .inr (11, [.int i0, .ref c1, .int i2, .int i3, .int i4, .int i5, .int i6, .int i7, .long i8, .int i9, .int i10, .ref c11, .ref c12, .ref c13, .ref c14, .ref c15, .ref c16, .int i17, .int i18, .ref c19, .ref c20, .ref c21, .ref c22, .int i23, .ref c24, .ref c25, .ref c26, .ref c27, .ref c28, .ref c29, .ref c30, .int i31, .int i32, .int i33, .int i34, .ref c35, .ref c36, .int i37, .int i38, .int i39, .int i40, .int i41, .int i42, .ref c43, .ref c44, .ref c45, .ref c46, .ref c47, .ref c48, .ref c49, .ref c50, .ref c51, .ref c52, .ref c53, .ref c54, .ref c55, .ref c56, .ref c57, .ref c58, .ref c59, .int i60, .ref c61, .int i62, .ref c63, .int i64, .int i65, .int i66, .ref c67, .ref c68, .ref c69, .ref c70, .ref c71, .ref c72, .int i73, .ref c74, .ref c75, .int i76, .int i77, .int i78, .ref c79, .int i80, .int i81, .int i82, .int i83, .int i84])), (c74, .inl (dA 0, 4096, .inl m74))] H := hP
    have hD : va_D A [(c75, .inl (dA 0, 16, .inl m75)), (t0, .inr (11, [.int i0, .ref c1, .int i2, .int i3, .int i4, .int i5, .int i6, .int i7, .long i8, .int i9, .int i10, .ref c11, .ref c12, .ref c13, .ref c14, .ref c15, .ref c16, .int i17, .int i18, .ref c19, .ref c20, .ref c21, .ref c22, .int i23, .ref c24, .ref c25, .ref c26, .ref c27, .ref c28, .ref c29, .ref c30, .int i31, .int i32, .int i33, .int i34, .ref c35, .ref c36, .int i37, .int i38, .int i39, .int i40, .int i41, .int i42, .ref c43, .ref c44, .ref c45, .ref c46, .ref c47, .ref c48, .ref c49, .ref c50, .ref c51, .ref c52, .ref c53, .ref c54, .ref c55, .ref c56, .ref c57, .ref c58, .ref c59, .int i60, .ref c61, .int i62, .ref c63, .int i64, .int i65, .int i66, .ref c67, .ref c68, .ref c69, .ref c70, .ref c71, .ref c72, .int i73, .ref c74, .ref c75, .int i76, .int i77, .int i78, .ref c79, .int i80, .int i81, .int i82, .int i83, .int i84])), (c74, .inl (dA 0, 4096, .inl m74))] := hD
    obtain ⟨hP, hD⟩ := g_cut (is := [1, 2, 0]) (w' := [(t0, .inr (11, [.int i0, .ref c1, .int i2, .int i3, .int i4, .int i5, .int i6, .int i7, .long i8, .int i9, .int i10, .ref c11, .ref c12, .ref c13, .ref c14, .ref c15, .ref c16, .int i17, .int i18, .ref c19, .ref c20, .ref c21, .ref c22, .int i23, .ref c24, .ref c25, .ref c26, .ref c27, .ref c28, .ref c29, .ref c30, .int i31, .int i32, .int i33, .int i34, .ref c35, .ref c36, .int i37, .int i38, .int i39, .int i40, .int i41, .int i42, .ref c43, .ref c44, .ref c45, .ref c46, .ref c47, .ref c48, .ref c49, .ref c50, .ref c51, .ref c52, .ref c53, .ref c54, .ref c55, .ref c56, .ref c57, .ref c58, .ref c59, .int i60, .ref c61, .int i62, .ref c63, .int i64, .int i65, .int i66, .ref c67, .ref c68, .ref c69, .ref c70, .ref c71, .ref c72, .int i73, .ref c74, .ref c75, .int i76, .int i77, .int i78, .ref c79, .int i80, .int i81, .int i82, .int i83, .int i84])), (c74, .inl (dA 0, 4096, .inl m74)), (c75, .inl (dA 0, 16, .inl m75))]) hP hD (by decide) rfl rfl
    exact g_iret hx hb hr rfl hlocks hK () hP hD hS trivial (Nat.le_of_ble_eq_true rfl) (Nat.le_of_ble_eq_true rfl) dX11_formGet_43
  · have g11 : x1.toInt = 3 := gi_eq (rfl : x1.toInt = x1.toInt) (by decide : (3 : Int32).toInt = 3) k4
    refine lv_aload_n hx hb dX11_formGet_11 rfl (lv_at hl 0 rfl) ?_
    refine g_get hx hb hg hown hK hP 0 rfl rfl inX11 75 (by decide) q1690 rfl dX11_formGet_12 ?_
    refine lv_aload_n hx hb dX11_formGet_15 rfl (lv_at hl 0 rfl) ?_
    refine g_get hx hb hg hown hK hP 0 rfl rfl inX11 81 (by decide) q1696 rfl dX11_formGet_16 ?_
    refine lv_bipush (v := 7) hx hb dX11_formGet_19 (by decide) ?_
    refine lv_iand hx hb dX11_formGet_21 ?_
    refine lv_topi (fun x12 e13 => ?_)
    have g14 : 0 ≤ x12.toInt ∧ x12.toInt ≤ 7 := g_msk e13 3 (by decide) (by decide) (by decide)
    refine va_iald hx hb hK hP 2 0 rfl rfl (by rw [vp_in_iff]; omega) dX11_formGet_22 ?_
    refine lv_topi (fun x15 e16 => ?_)
    refine lv_goto (tgt := 43) hx hb dX11_formGet_23 (by decide) ?_
    exact g_iret hx hb hr rfl hlocks hK () hP hD hS trivial (Nat.le_of_ble_eq_true rfl) (Nat.le_of_ble_eq_true rfl) dX11_formGet_43
set_option maxHeartbeats 4000000 in
set_option maxRecDepth 100000 in
theorem s_X11_formSet (l : Launch) (D : va_G) (dA : Nat → ClassId) (t0 : Nat) (a0 : Int32) (i0 : Int32) (c1 : Nat) (i2 : Int32) (i3 : Int32) (i4 : Int32) (i5 : Int32) (i6 : Int32) (i7 : Int32) (i8 : Int64) (i9 : Int32) (i10 : Int32) (c11 : Nat) (c12 : Nat) (c13 : Nat) (c14 : Nat) (c15 : Nat) (c16 : Nat) (i17 : Int32) (i18 : Int32) (c19 : Nat) (c20 : Nat) (c21 : Nat) (c22 : Nat) (i23 : Int32) (c24 : Nat) (c25 : Nat) (c26 : Nat) (c27 : Nat) (c28 : Nat) (c29 : Nat) (c30 : Nat) (i31 : Int32) (i32 : Int32) (i33 : Int32) (i34 : Int32) (c35 : Nat) (c36 : Nat) (i37 : Int32) (i38 : Int32) (i39 : Int32) (i40 : Int32) (i41 : Int32) (i42 : Int32) (c43 : Nat) (c44 : Nat) (c45 : Nat) (c46 : Nat) (c47 : Nat) (c48 : Nat) (c49 : Nat) (c50 : Nat) (c51 : Nat) (c52 : Nat) (c53 : Nat) (c54 : Nat) (c55 : Nat) (c56 : Nat) (c57 : Nat) (c58 : Nat) (c59 : Nat) (i60 : Int32) (c61 : Nat) (i62 : Int32) (c63 : Nat) (i64 : Int32) (i65 : Int32) (i66 : Int32) (c67 : Nat) (c68 : Nat) (c69 : Nat) (c70 : Nat) (c71 : Nat) (c72 : Nat) (i73 : Int32) (c74 : Nat) (c75 : Nat) (i76 : Int32) (i77 : Int32) (i78 : Int32) (c79 : Nat) (i80 : Int32) (i81 : Int32) (i82 : Int32) (i83 : Int32) (i84 : Int32) (m74 : Nat → Int32) (m75 : Nat → Int32) (p0 : 0 ≤ i33.toInt ∧ i33.toInt ≤ 1) (p1 : 0 ≤ i60.toInt ∧ i60.toInt ≤ 1) (p2 : 0 ≤ i76.toInt ∧ i76.toInt ≤ 1) (p3 : 0 ≤ i78.toInt ∧ i78.toInt ≤ 1000000) (p4 : 0 ≤ i81.toInt ∧ i81.toInt ≤ 255) (p5 : 0 ≤ i82.toInt ∧ i82.toInt ≤ 7) (p6 : 0 ≤ i83.toInt ∧ i83.toInt ≤ 15) (p7 : ∀ j : Nat, 0 ≤ (m74 j).toInt ∧ (m74 j).toInt ≤ 255) (sz : Nat) : Met l yX11_formSet (gws yX11_formSet cX11_formSet 2 none) (gR 3 0 0) (gPre D dA [.ref t0, .int a0] [(t0, .inr (11, [.int i0, .ref c1, .int i2, .int i3, .int i4, .int i5, .int i6, .int i7, .long i8, .int i9, .int i10, .ref c11, .ref c12, .ref c13, .ref c14, .ref c15, .ref c16, .int i17, .int i18, .ref c19, .ref c20, .ref c21, .ref c22, .int i23, .ref c24, .ref c25, .ref c26, .ref c27, .ref c28, .ref c29, .ref c30, .int i31, .int i32, .int i33, .int i34, .ref c35, .ref c36, .int i37, .int i38, .int i39, .int i40, .int i41, .int i42, .ref c43, .ref c44, .ref c45, .ref c46, .ref c47, .ref c48, .ref c49, .ref c50, .ref c51, .ref c52, .ref c53, .ref c54, .ref c55, .ref c56, .ref c57, .ref c58, .ref c59, .int i60, .ref c61, .int i62, .ref c63, .int i64, .int i65, .int i66, .ref c67, .ref c68, .ref c69, .ref c70, .ref c71, .ref c72, .int i73, .ref c74, .ref c75, .int i76, .int i77, .int i78, .ref c79, .int i80, .int i81, .int i82, .int i83, .int i84])), (c74, .inl (dA 0, 4096, .inl m74)), (c75, .inl (dA 0, 16, .inl m75))] sz) (va_Qv (fun u : (Nat → Int32) × (Nat → Int32) => (∀ j : Nat, 0 ≤ (u.1 j).toInt ∧ (u.1 j).toInt ≤ 255)) (gAt D dA (va_A [(t0, .inr (11, [.int i0, .ref c1, .int i2, .int i3, .int i4, .int i5, .int i6, .int i7, .long i8, .int i9, .int i10, .ref c11, .ref c12, .ref c13, .ref c14, .ref c15, .ref c16, .int i17, .int i18, .ref c19, .ref c20, .ref c21, .ref c22, .int i23, .ref c24, .ref c25, .ref c26, .ref c27, .ref c28, .ref c29, .ref c30, .int i31, .int i32, .int i33, .int i34, .ref c35, .ref c36, .int i37, .int i38, .int i39, .int i40, .int i41, .int i42, .ref c43, .ref c44, .ref c45, .ref c46, .ref c47, .ref c48, .ref c49, .ref c50, .ref c51, .ref c52, .ref c53, .ref c54, .ref c55, .ref c56, .ref c57, .ref c58, .ref c59, .int i60, .ref c61, .int i62, .ref c63, .int i64, .int i65, .int i66, .ref c67, .ref c68, .ref c69, .ref c70, .ref c71, .ref c72, .int i73, .ref c74, .ref c75, .int i76, .int i77, .int i78, .ref c79, .int i80, .int i81, .int i82, .int i83, .int i84])), (c74, .inl (dA 0, 4096, .inl m74)), (c75, .inl (dA 0, 16, .inl m75))] sz) (fun u : (Nat → Int32) × (Nat → Int32) => [(t0, .inr (11, [.int i0, .ref c1, .int i2, .int i3, .int i4, .int i5, .int i6, .int i7, .long i8, .int i9, .int i10, .ref c11, .ref c12, .ref c13, .ref c14, .ref c15, .ref c16, .int i17, .int i18, .ref c19, .ref c20, .ref c21, .ref c22, .int i23, .ref c24, .ref c25, .ref c26, .ref c27, .ref c28, .ref c29, .ref c30, .int i31, .int i32, .int i33, .int i34, .ref c35, .ref c36, .int i37, .int i38, .int i39, .int i40, .int i41, .int i42, .ref c43, .ref c44, .ref c45, .ref c46, .ref c47, .ref c48, .ref c49, .ref c50, .ref c51, .ref c52, .ref c53, .ref c54, .ref c55, .ref c56, .ref c57, .ref c58, .ref c59, .int i60, .ref c61, .int i62, .ref c63, .int i64, .int i65, .int i66, .ref c67, .ref c68, .ref c69, .ref c70, .ref c71, .ref c72, .int i73, .ref c74, .ref c75, .int i76, .int i77, .int i78, .ref c79, .int i80, .int i81, .int i82, .int i83, .int i84])), (c74, .inl (dA 0, 4096, .inl (u.1))), (c75, .inl (dA 0, 16, .inl (u.2)))])) (va_A [(t0, .inr (11, [.int i0, .ref c1, .int i2, .int i3, .int i4, .int i5, .int i6, .int i7, .long i8, .int i9, .int i10, .ref c11, .ref c12, .ref c13, .ref c14, .ref c15, .ref c16, .int i17, .int i18, .ref c19, .ref c20, .ref c21, .ref c22, .int i23, .ref c24, .ref c25, .ref c26, .ref c27, .ref c28, .ref c29, .ref c30, .int i31, .int i32, .int i33, .int i34, .ref c35, .ref c36, .int i37, .int i38, .int i39, .int i40, .int i41, .int i42, .ref c43, .ref c44, .ref c45, .ref c46, .ref c47, .ref c48, .ref c49, .ref c50, .ref c51, .ref c52, .ref c53, .ref c54, .ref c55, .ref c56, .ref c57, .ref c58, .ref c59, .int i60, .ref c61, .int i62, .ref c63, .int i64, .int i65, .int i66, .ref c67, .ref c68, .ref c69, .ref c70, .ref c71, .ref c72, .int i73, .ref c74, .ref c75, .int i76, .int i77, .int i78, .ref c79, .int i80, .int i81, .int i82, .int i83, .int i84])), (c74, .inl (dA 0, 4096, .inl m74)), (c75, .inl (dA 0, 16, .inl m75))] sz)) 0 0 (va_A [(t0, .inr (11, [.int i0, .ref c1, .int i2, .int i3, .int i4, .int i5, .int i6, .int i7, .long i8, .int i9, .int i10, .ref c11, .ref c12, .ref c13, .ref c14, .ref c15, .ref c16, .int i17, .int i18, .ref c19, .ref c20, .ref c21, .ref c22, .int i23, .ref c24, .ref c25, .ref c26, .ref c27, .ref c28, .ref c29, .ref c30, .int i31, .int i32, .int i33, .int i34, .ref c35, .ref c36, .int i37, .int i38, .int i39, .int i40, .int i41, .int i42, .ref c43, .ref c44, .ref c45, .ref c46, .ref c47, .ref c48, .ref c49, .ref c50, .ref c51, .ref c52, .ref c53, .ref c54, .ref c55, .ref c56, .ref c57, .ref c58, .ref c59, .int i60, .ref c61, .int i62, .ref c63, .int i64, .int i65, .int i66, .ref c67, .ref c68, .ref c69, .ref c70, .ref c71, .ref c72, .int i73, .ref c74, .ref c75, .int i76, .int i77, .int i78, .ref c79, .int i80, .int i81, .int i82, .int i83, .int i84])), (c74, .inl (dA 0, 4096, .inl m74)), (c75, .inl (dA 0, 16, .inl m75))] sz) := by
  refine Met.ofW (cc := cX11_formSet) (maxL := 2) (ret := none) (by decide) rfl ?_
  intro p e s m args below meth c s₁ B hml hv
  obtain ⟨rfl, hsz, hP, hK, hD0⟩ := hv
  have hx := B.exec
  have hb := B.bytes
  have hr := B.returns
  have hts := atoms_spec (ws := gws yX11_formSet cX11_formSet 2 none) B.pre
  have hg : ∀ w ∈ gw, w.before _ s = true := fun w h => hts w (List.mem_cons_of_mem _ h)
  have hown : s.vm.findClass RX11 = some m.cls := findClass_of_methodNamed B.named
  have hlocks := B.notSynchronized
  subst hsz
  have hD := hD0.self (sz := s.heap.size)
  generalize hAe : va_A [(t0, .inr (11, [.int i0, .ref c1, .int i2, .int i3, .int i4, .int i5, .int i6, .int i7, .long i8, .int i9, .int i10, .ref c11, .ref c12, .ref c13, .ref c14, .ref c15, .ref c16, .int i17, .int i18, .ref c19, .ref c20, .ref c21, .ref c22, .int i23, .ref c24, .ref c25, .ref c26, .ref c27, .ref c28, .ref c29, .ref c30, .int i31, .int i32, .int i33, .int i34, .ref c35, .ref c36, .int i37, .int i38, .int i39, .int i40, .int i41, .int i42, .ref c43, .ref c44, .ref c45, .ref c46, .ref c47, .ref c48, .ref c49, .ref c50, .ref c51, .ref c52, .ref c53, .ref c54, .ref c55, .ref c56, .ref c57, .ref c58, .ref c59, .int i60, .ref c61, .int i62, .ref c63, .int i64, .int i65, .int i66, .ref c67, .ref c68, .ref c69, .ref c70, .ref c71, .ref c72, .int i73, .ref c74, .ref c75, .int i76, .int i77, .int i78, .ref c79, .int i80, .int i81, .int i82, .int i83, .int i84])), (c74, .inl (dA 0, 4096, .inl m74)), (c75, .inl (dA 0, 16, .inl m75))] s.heap.size = A at hD ⊢
  have hA : ∀ q : Nat, s.heap.size ≤ q → A q := fun q h => by rw [← hAe]; exact Or.inr h
  have hS : va_S A s.heap s.heap [] := va_S.rf
  have hP : va_P D vwC [(t0, .inr (11, [.int i0, .ref c1, .int i2, .int i3, .int i4, .int i5, .int i6, .int i7, .long i8, .int i9, .int i10, .ref c11, .ref c12, .ref c13, .ref c14, .ref c15, .ref c16, .int i17, .int i18, .ref c19, .ref c20, .ref c21, .ref c22, .int i23, .ref c24, .ref c25, .ref c26, .ref c27, .ref c28, .ref c29, .ref c30, .int i31, .int i32, .int i33, .int i34, .ref c35, .ref c36, .int i37, .int i38, .int i39, .int i40, .int i41, .int i42, .ref c43, .ref c44, .ref c45, .ref c46, .ref c47, .ref c48, .ref c49, .ref c50, .ref c51, .ref c52, .ref c53, .ref c54, .ref c55, .ref c56, .ref c57, .ref c58, .ref c59, .int i60, .ref c61, .int i62, .ref c63, .int i64, .int i65, .int i66, .ref c67, .ref c68, .ref c69, .ref c70, .ref c71, .ref c72, .int i73, .ref c74, .ref c75, .int i76, .int i77, .int i78, .ref c79, .int i80, .int i81, .int i82, .int i83, .int i84])), (c74, .inl (dA 0, 4096, .inl m74)), (c75, .inl (dA 0, 16, .inl m75))] s.heap := hP
  have hl := lv_entry ([.ref t0, .int a0]) (n := 2) (Nat.le_of_ble_eq_true rfl)
  rw [lg_entry_eq]
  generalize (lg_sl ([.ref t0, .int a0]) ++ List.replicate (2 - (lg_sl ([.ref t0, .int a0])).length) Slot.unset).toArray = ls at hl ⊢
  have hl : lv_has ls 2 [(0, .ref t0), (1, .int a0)] := hl
  refine lv_aload_n hx hb dX11_formSet_0 rfl (lv_at hl 0 rfl) ?_
  refine g_get hx hb hg hown hK hP 0 rfl rfl inX11 81 (by decide) q1696 rfl dX11_formSet_1 ?_
  refine lv_bipush (v := 6) hx hb dX11_formSet_4 (by decide) ?_
  refine lv_ishr hx hb dX11_formSet_6 ?_
  refine lv_topi (fun x1 e2 => ?_)
  have g3 : x1.toInt * 64 ≤ i81.toInt ∧ i81.toInt < x1.toInt * 64 + 64 := g_shr e2 6 (by decide) (by decide) (by decide)
  refine lv_iconst (v := 3) hx hb dX11_formSet_7 (by decide) ?_
  refine lv_icmp_ne (tgt := 31) hx hb dX11_formSet_8 (by decide) (fun k4 => ?_) (fun k4 => ?_)
  · have g5 : x1.toInt ≠ 3 := gi_neq (rfl : x1.toInt = x1.toInt) (by decide : (3 : Int32).toInt = 3) k4
    refine lv_aload_n hx hb dX11_formSet_31 rfl (lv_at hl 0 rfl) ?_
    refine lv_aload_n hx hb dX11_formSet_32 rfl (lv_at hl 0 rfl) ?_
    refine g_get hx hb hg hown hK hP 0 rfl rfl inX11 75 (by decide) q1690 rfl dX11_formSet_33 ?_
    refine lv_aload_n hx hb dX11_formSet_36 rfl (lv_at hl 0 rfl) ?_
    refine g_get hx hb hg hown hK hP 0 rfl rfl inX11 83 (by decide) q1698 rfl dX11_formSet_37 ?_
    refine va_iald hx hb hK hP 2 0 rfl rfl (by rw [vp_in_iff]; omega) dX11_formSet_40 ?_
    refine lv_topi (fun x6 e7 => ?_)
    refine lv_aload_n hx hb dX11_formSet_41 rfl (lv_at hl 0 rfl) ?_
    refine g_get hx hb hg hown hK hP 0 rfl rfl inX11 84 (by decide) q1699 rfl dX11_formSet_42 ?_
    refine lv_iload_n hx hb dX11_formSet_45 rfl (lv_at hl 1 rfl) ?_
    refine g_Vv (n := 3) (As := [.int x6, .int i84, .int a0]) (rest := []) (wr := [(c75, .inl (dA 0, 16, .inl m75))]) hx hb hml hg hown hK hP hD hS hA (s_X11_store l D dA t0 x6 i84 a0 i0 c1 i2 i3 i4 i5 i6 i7 i8 i9 i10 c11 c12 c13 c14 c15 c16 i17 i18 c19 c20 c21 c22 i23 c24 c25 c26 c27 c28 c29 c30 i31 i32 i33 i34 c35 c36 i37 i38 i39 i40 i41 i42 c43 c44 c45 c46 c47 c48 c49 c50 c51 c52 c53 c54 c55 c56 c57 c58 c59 i60 c61 i62 c63 i64 i65 i66 c67 c68 c69 c70 c71 c72 i73 c74 c75 i76 i77 i78 c79 i80 i81 i82 i83 i84 m74 (by omega) (by omega) (by omega) (by omega) (by omega) (by omega) (by omega) p7 _) [0, 1] [2] rfl (by decide) rfl (by decide) (by decide) 0 rfl rfl q2176 q160 q2173 q2175 q140 (by decide +kernel) ⟨(Nat.le_of_ble_eq_true rfl), (Nat.le_of_ble_eq_true rfl)⟩ rfl hl.1 rfl (Nat.le_of_ble_eq_true rfl) dX11_formSet_46 ⟨(Nat.le_of_ble_eq_true rfl), (Nat.le_of_ble_eq_true rfl)⟩ (fun u8 H locs w10 hP hD hS => ?_)
    refine W.widen (k := 0) (n := 0) (Nat.le_of_ble_eq_true rfl) (Nat.le_of_ble_eq_true rfl) ?_
    obtain ⟨f11, rfl⟩ : ∃ z, z = u8 := ⟨_, rfl⟩
    have hP : va_P D vwC [(c75, .inl (dA 0, 16, .inl m75)), (t0, .inr (11, [.int i0, .ref c1, .int i2, .int i3, .int i4, .int i5, .int i6, .int i7, .long i8, .int i9, .int i10, .ref c11, .ref c12, .ref c13, .ref c14, .ref c15, .ref c16, .int i17, .int i18, .ref c19, .ref c20, .ref c21, .ref c22, .int i23, .ref c24, .ref c25, .ref c26, .ref c27, .ref c28, .ref c29, .ref c30, .int i31, .int i32, .int i33, .int i34, .ref c35, .ref c36, .int i37, .int i38, .int i39, .int i40, .int i41, .int i42, .ref c43, .ref c44, .ref c45, .ref c46, .ref c47, .ref c48, .ref c49, .ref c50, .ref c51, .ref c52, .ref c53, .ref c54, .ref c55, .ref c56, .ref c57, .ref c58, .ref c59, .int i60, .ref c61, .int i62, .ref c63, .int i64, .int i65, .int i66, .ref c67, .ref c68, .ref c69, .ref c70, .ref c71, .ref c72, .int i73, .ref c74, .ref c75, .int i76, .int i77, .int i78, .ref c79, .int i80, .int i81, .int i82, .int i83, .int i84])), (c74, .inl (dA 0, 4096, .inl f11))] H := hP
    have hD : va_D A [(c75, .inl (dA 0, 16, .inl m75)), (t0, .inr (11, [.int i0, .ref c1, .int i2, .int i3, .int i4, .int i5, .int i6, .int i7, .long i8, .int i9, .int i10, .ref c11, .ref c12, .ref c13, .ref c14, .ref c15, .ref c16, .int i17, .int i18, .ref c19, .ref c20, .ref c21, .ref c22, .int i23, .ref c24, .ref c25, .ref c26, .ref c27, .ref c28, .ref c29, .ref c30, .int i31, .int i32, .int i33, .int i34, .ref c35, .ref c36, .int i37, .int i38, .int i39, .int i40, .int i41, .int i42, .ref c43, .ref c44, .ref c45, .ref c46, .ref c47, .ref c48, .ref c49, .ref c50, .ref c51, .ref c52, .ref c53, .ref c54, .ref c55, .ref c56, .ref c57, .ref c58, .ref c59, .int i60, .ref c61, .int i62, .ref c63, .int i64, .int i65, .int i66, .ref c67, .ref c68, .ref c69, .ref c70, .ref c71, .ref c72, .int i73, .ref c74, .ref c75, .int i76, .int i77, .int i78, .ref c79, .int i80, .int i81, .int i82, .int i83, .int i84])), (c74, .inl (dA 0, 4096, .inl f11))] := hD
    have g12 := w10
    have g12 : ∀ j : Nat, 0 ≤ (f11 j).toInt ∧ (f11 j).toInt ≤ 255 := g12
    obtain ⟨hP, hD⟩ := g_cut (is := [1, 2, 0]) (w' := [(t0, .inr (11, [.int i0, .ref c1, .int i2, .int i3, .int i4, .int i5, .int i6, .int i7, .long i8, .int i9, .int i10, .ref c11, .ref c12, .ref c13, .ref c14, .ref c15, .ref c16, .int i17, .int i18, .ref c19, .ref c20, .ref c21, .ref c22, .int i23, .ref c24, .ref c25, .ref c26, .ref c27, .ref c28, .ref c29, .ref c30, .int i31, .int i32, .int i33, .int i34, .ref c35, .ref c36, .int i37, .int i38, .int i39, .int i40, .int i41, .int i42, .ref c43, .ref c44, .ref c45, .ref c46, .ref c47, .ref c48, .ref c49, .ref c50, .ref c51, .ref c52, .ref c53, .ref c54, .ref c55, .ref c56, .ref c57, .ref c58, .ref c59, .int i60, .ref c61, .int i62, .ref c63, .int i64, .int i65, .int i66, .ref c67, .ref c68, .ref c69, .ref c70, .ref c71, .ref c72, .int i73, .ref c74, .ref c75, .int i76, .int i77, .int i78, .ref c79, .int i80, .int i81, .int i82, .int i83, .int i84])), (c74, .inl (dA 0, 4096, .inl f11)), (c75, .inl (dA 0, 16, .inl m75))]) hP hD (by decide) rfl rfl
    exact g_vret hx hb hr hlocks hK (f11, m75) hP hD hS g12 (Nat.le_of_ble_eq_true rfl) (Nat.le_of_ble_eq_true rfl) dX11_formSet_49
  · have g13 : x1.toInt = 3 := gi_eq (rfl : x1.toInt = x1.toInt) (by decide : (3 : Int32).toInt = 3) k4
    refine lv_aload_n hx hb dX11_formSet_11 rfl (lv_at hl 0 rfl) ?_
    refine g_get hx hb hg hown hK hP 0 rfl rfl inX11 75 (by decide) q1690 rfl dX11_formSet_12 ?_
    refine lv_aload_n hx hb dX11_formSet_15 rfl (lv_at hl 0 rfl) ?_
    refine g_get hx hb hg hown hK hP 0 rfl rfl inX11 81 (by decide) q1696 rfl dX11_formSet_16 ?_
    refine lv_bipush (v := 7) hx hb dX11_formSet_19 (by decide) ?_
    refine lv_iand hx hb dX11_formSet_21 ?_
    refine lv_topi (fun x14 e15 => ?_)
    have g16 : 0 ≤ x14.toInt ∧ x14.toInt ≤ 7 := g_msk e15 3 (by decide) (by decide) (by decide)
    refine lv_iload_n hx hb dX11_formSet_22 rfl (lv_at hl 1 rfl) ?_
    refine lv_ldcw hx hb hown (hg _ q1907) dX11_formSet_23 ?_
    refine lv_iand hx hb dX11_formSet_26 ?_
    refine lv_topi (fun x17 e18 => ?_)
    have g19 : 0 ≤ x17.toInt ∧ x17.toInt ≤ 65535 := g_msk e18 16 (by decide) (by decide) (by decide)
    refine va_iast hx hb hK hP hD hS 2 0 rfl rfl (by rw [vp_in_iff]; omega) dX11_formSet_27 (fun H locs hP hD hS => ?_)
    have hP : va_P D vwC [(t0, .inr (11, [.int i0, .ref c1, .int i2, .int i3, .int i4, .int i5, .int i6, .int i7, .long i8, .int i9, .int i10, .ref c11, .ref c12, .ref c13, .ref c14, .ref c15, .ref c16, .int i17, .int i18, .ref c19, .ref c20, .ref c21, .ref c22, .int i23, .ref c24, .ref c25, .ref c26, .ref c27, .ref c28, .ref c29, .ref c30, .int i31, .int i32, .int i33, .int i34, .ref c35, .ref c36, .int i37, .int i38, .int i39, .int i40, .int i41, .int i42, .ref c43, .ref c44, .ref c45, .ref c46, .ref c47, .ref c48, .ref c49, .ref c50, .ref c51, .ref c52, .ref c53, .ref c54, .ref c55, .ref c56, .ref c57, .ref c58, .ref c59, .int i60, .ref c61, .int i62, .ref c63, .int i64, .int i65, .int i66, .ref c67, .ref c68, .ref c69, .ref c70, .ref c71, .ref c72, .int i73, .ref c74, .ref c75, .int i76, .int i77, .int i78, .ref c79, .int i80, .int i81, .int i82, .int i83, .int i84])), (c74, .inl (dA 0, 4096, .inl m74)), (c75, .inl (dA 0, 16, .inl (upd m75 (x14 : Int32).toNatClampNeg x17)))] H := hP
    have hD : va_D A [(t0, .inr (11, [.int i0, .ref c1, .int i2, .int i3, .int i4, .int i5, .int i6, .int i7, .long i8, .int i9, .int i10, .ref c11, .ref c12, .ref c13, .ref c14, .ref c15, .ref c16, .int i17, .int i18, .ref c19, .ref c20, .ref c21, .ref c22, .int i23, .ref c24, .ref c25, .ref c26, .ref c27, .ref c28, .ref c29, .ref c30, .int i31, .int i32, .int i33, .int i34, .ref c35, .ref c36, .int i37, .int i38, .int i39, .int i40, .int i41, .int i42, .ref c43, .ref c44, .ref c45, .ref c46, .ref c47, .ref c48, .ref c49, .ref c50, .ref c51, .ref c52, .ref c53, .ref c54, .ref c55, .ref c56, .ref c57, .ref c58, .ref c59, .int i60, .ref c61, .int i62, .ref c63, .int i64, .int i65, .int i66, .ref c67, .ref c68, .ref c69, .ref c70, .ref c71, .ref c72, .int i73, .ref c74, .ref c75, .int i76, .int i77, .int i78, .ref c79, .int i80, .int i81, .int i82, .int i83, .int i84])), (c74, .inl (dA 0, 4096, .inl m74)), (c75, .inl (dA 0, 16, .inl (upd m75 (x14 : Int32).toNatClampNeg x17)))] := hD
    obtain ⟨f20, ef20⟩ : ∃ f : Nat → Int32, f = (upd m75 (x14 : Int32).toNatClampNeg x17) := ⟨_, rfl⟩
    rw [← ef20] at hP hD
    refine lv_goto (tgt := 49) hx hb dX11_formSet_28 (by decide) ?_
    exact g_vret hx hb hr hlocks hK (m74, f20) hP hD hS p7 (Nat.le_of_ble_eq_true rfl) (Nat.le_of_ble_eq_true rfl) dX11_formSet_49
