theorem q54 : Cond.selects RX4 yX4_executeLow yX4_executeLow ∈ gw := gw_in (i := 54) (by decide +kernel) rfl
theorem q57 : Cond.selects RX4 yX4_fetchM yX4_fetchM ∈ gw := gw_in (i := 57) (by decide +kernel) rfl
theorem q66 : Cond.selects RX4 yX4_executeRegister yX4_executeRegister ∈ gw := gw_in (i := 66) (by decide +kernel) rfl
theorem q67 : Cond.selects RX4 yX4_branch yX4_branch ∈ gw := gw_in (i := 67) (by decide +kernel) rfl
theorem q69 : Cond.selects RX4 yX4_executeM yX4_executeM ∈ gw := gw_in (i := 69) (by decide +kernel) rfl
theorem q73 : Cond.selects RX4 yX4_executeFlow yX4_executeFlow ∈ gw := gw_in (i := 73) (by decide +kernel) rfl
theorem q1405 : Cond.methodLink RX4 96 yX4_executeLow ∈ gw := gw_in (i := 1405) (by decide +kernel) rfl
theorem q1407 : Cond.instanceMethod yX4_executeLow ∈ gw := gw_in (i := 1407) (by decide +kernel) rfl
theorem q1408 : Cond.code yX4_executeLow cX4_executeLow 4 (some .int) ∈ gw := gw_in (i := 1408) (by decide +kernel) rfl
theorem q1420 : Cond.methodLink RX4 109 yX4_fetchM ∈ gw := gw_in (i := 1420) (by decide +kernel) rfl
theorem q1422 : Cond.instanceMethod yX4_fetchM ∈ gw := gw_in (i := 1422) (by decide +kernel) rfl
theorem q1423 : Cond.code yX4_fetchM cX4_fetchM 7 none ∈ gw := gw_in (i := 1423) (by decide +kernel) rfl
theorem q1456 : Cond.methodLink RX4 100 yX4_executeRegister ∈ gw := gw_in (i := 1456) (by decide +kernel) rfl
theorem q1458 : Cond.instanceMethod yX4_executeRegister ∈ gw := gw_in (i := 1458) (by decide +kernel) rfl
theorem q1459 : Cond.code yX4_executeRegister cX4_executeRegister 3 (some .int) ∈ gw := gw_in (i := 1459) (by decide +kernel) rfl
theorem q1460 : Cond.methodLink RX4 103 yX4_branch ∈ gw := gw_in (i := 1460) (by decide +kernel) rfl
theorem q1462 : Cond.instanceMethod yX4_branch ∈ gw := gw_in (i := 1462) (by decide +kernel) rfl
theorem q1463 : Cond.code yX4_branch cX4_branch 4 (some .int) ∈ gw := gw_in (i := 1463) (by decide +kernel) rfl
theorem q1468 : Cond.methodLink RX4 112 yX4_executeM ∈ gw := gw_in (i := 1468) (by decide +kernel) rfl
theorem q1470 : Cond.instanceMethod yX4_executeM ∈ gw := gw_in (i := 1470) (by decide +kernel) rfl
theorem q1471 : Cond.code yX4_executeM cX4_executeM 2 (some .int) ∈ gw := gw_in (i := 1471) (by decide +kernel) rfl
theorem q1486 : Cond.methodLink RX4 115 yX4_executeFlow ∈ gw := gw_in (i := 1486) (by decide +kernel) rfl
theorem q1488 : Cond.instanceMethod yX4_executeFlow ∈ gw := gw_in (i := 1488) (by decide +kernel) rfl
theorem q1489 : Cond.code yX4_executeFlow cX4_executeFlow 3 (some .int) ∈ gw := gw_in (i := 1489) (by decide +kernel) rfl
theorem dX4_executeLow_0 : decode cX4_executeLow 0 = .ok (.iload_n 2, 1) := by decide +kernel
theorem dX4_executeLow_1 : decode cX4_executeLow 1 = .ok (.bipush 6, 2) := by decide +kernel
theorem dX4_executeLow_3 : decode cX4_executeLow 3 = .ok (.if_icmp .ne 20, 3) := by decide +kernel
theorem dX4_executeLow_23 : decode cX4_executeLow 23 = .ok (.iload_n 2, 1) := by decide +kernel
theorem dX4_executeLow_24 : decode cX4_executeLow 24 = .ok (.bipush 7, 2) := by decide +kernel
theorem dX4_executeLow_26 : decode cX4_executeLow 26 = .ok (.if_icmp .ne 25, 3) := by decide +kernel
theorem dX4_executeLow_51 : decode cX4_executeLow 51 = .ok (.iload_n 2, 1) := by decide +kernel
theorem dX4_executeLow_52 : decode cX4_executeLow 52 = .ok (.iconst 1, 1) := by decide +kernel
theorem dX4_executeLow_53 : decode cX4_executeLow 53 = .ok (.if_icmp .eq 8, 3) := by decide +kernel
theorem dX4_executeLow_61 : decode cX4_executeLow 61 = .ok (.iload_n 1, 1) := by decide +kernel
theorem dX4_executeLow_62 : decode cX4_executeLow 62 = .ok (.invokestatic 125, 3) := by decide +kernel
theorem dX4_executeLow_65 : decode cX4_executeLow 65 = .ok (.ifCond .ne 5, 3) := by decide +kernel
theorem dX4_executeLow_70 : decode cX4_executeLow 70 = .ok (.aload_n 0, 1) := by decide +kernel
theorem dX4_executeLow_71 : decode cX4_executeLow 71 = .ok (.invokevirtual 109, 3) := by decide +kernel
theorem dX4_executeLow_74 : decode cX4_executeLow 74 = .ok (.iload_n 2, 1) := by decide +kernel
theorem dX4_executeLow_75 : decode cX4_executeLow 75 = .ok (.iconst 1, 1) := by decide +kernel
theorem dX4_executeLow_76 : decode cX4_executeLow 76 = .ok (.if_icmp .ne 20, 3) := by decide +kernel
theorem dX4_executeLow_79 : decode cX4_executeLow 79 = .ok (.aload_n 0, 1) := by decide +kernel
theorem dX4_executeLow_80 : decode cX4_executeLow 80 = .ok (.iload_n 1, 1) := by decide +kernel
theorem dX4_executeLow_81 : decode cX4_executeLow 81 = .ok (.aload_n 0, 1) := by decide +kernel
theorem dX4_executeLow_82 : decode cX4_executeLow 82 = .ok (.getfield 13, 3) := by decide +kernel
theorem dX4_executeLow_85 : decode cX4_executeLow 85 = .ok (.aload_n 0, 1) := by decide +kernel
theorem dX4_executeLow_86 : decode cX4_executeLow 86 = .ok (.getfield 45, 3) := by decide +kernel
theorem dX4_executeLow_89 : decode cX4_executeLow 89 = .ok (.iaload, 1) := by decide +kernel
theorem dX4_executeLow_90 : decode cX4_executeLow 90 = .ok (.invokevirtual 129, 3) := by decide +kernel
theorem dX4_executeLow_93 : decode cX4_executeLow 93 = .ok (.goto 38, 3) := by decide +kernel
theorem dX4_executeLow_131 : decode cX4_executeLow 131 = .ok (.iconst 3, 1) := by decide +kernel
theorem dX4_executeLow_132 : decode cX4_executeLow 132 = .ok (.ireturn, 1) := by decide +kernel
theorem dX4_executeLow_68 : decode cX4_executeLow 68 = .ok (.iconst 2, 1) := by decide +kernel
theorem dX4_executeLow_69 : decode cX4_executeLow 69 = .ok (.ireturn, 1) := by decide +kernel
theorem dX4_executeLow_56 : decode cX4_executeLow 56 = .ok (.iload_n 2, 1) := by decide +kernel
theorem dX4_executeLow_57 : decode cX4_executeLow 57 = .ok (.iconst 3, 1) := by decide +kernel
theorem dX4_executeLow_58 : decode cX4_executeLow 58 = .ok (.if_icmp .ne 10, 3) := by decide +kernel
theorem dX4_executeLow_96 : decode cX4_executeLow 96 = .ok (.aload_n 0, 1) := by decide +kernel
theorem dX4_executeLow_97 : decode cX4_executeLow 97 = .ok (.iload_n 1, 1) := by decide +kernel
theorem dX4_executeLow_98 : decode cX4_executeLow 98 = .ok (.aload_n 0, 1) := by decide +kernel
theorem dX4_executeLow_99 : decode cX4_executeLow 99 = .ok (.getfield 13, 3) := by decide +kernel
theorem dX4_executeLow_102 : decode cX4_executeLow 102 = .ok (.aload_n 0, 1) := by decide +kernel
theorem dX4_executeLow_103 : decode cX4_executeLow 103 = .ok (.getfield 45, 3) := by decide +kernel
theorem dX4_executeLow_106 : decode cX4_executeLow 106 = .ok (.iaload, 1) := by decide +kernel
theorem dX4_executeLow_107 : decode cX4_executeLow 107 = .ok (.aload_n 0, 1) := by decide +kernel
theorem dX4_executeLow_108 : decode cX4_executeLow 108 = .ok (.invokevirtual 132, 3) := by decide +kernel
theorem dX4_executeLow_111 : decode cX4_executeLow 111 = .ok (.invokevirtual 135, 3) := by decide +kernel
theorem dX4_executeLow_114 : decode cX4_executeLow 114 = .ok (.istore_n 3, 1) := by decide +kernel
theorem dX4_executeLow_115 : decode cX4_executeLow 115 = .ok (.iload_n 1, 1) := by decide +kernel
theorem dX4_executeLow_116 : decode cX4_executeLow 116 = .ok (.bipush 7, 2) := by decide +kernel
theorem dX4_executeLow_118 : decode cX4_executeLow 118 = .ok (.if_icmp .eq 13, 3) := by decide +kernel
theorem dX4_executeLow_121 : decode cX4_executeLow 121 = .ok (.aload_n 0, 1) := by decide +kernel
theorem dX4_executeLow_122 : decode cX4_executeLow 122 = .ok (.getfield 13, 3) := by decide +kernel
theorem dX4_executeLow_125 : decode cX4_executeLow 125 = .ok (.aload_n 0, 1) := by decide +kernel
theorem dX4_executeLow_126 : decode cX4_executeLow 126 = .ok (.getfield 45, 3) := by decide +kernel
theorem dX4_executeLow_129 : decode cX4_executeLow 129 = .ok (.iload_n 3, 1) := by decide +kernel
theorem dX4_executeLow_130 : decode cX4_executeLow 130 = .ok (.iastore, 1) := by decide +kernel
theorem dX4_executeLow_29 : decode cX4_executeLow 29 = .ok (.iload_n 1, 1) := by decide +kernel
theorem dX4_executeLow_30 : decode cX4_executeLow 30 = .ok (.iconst 4, 1) := by decide +kernel
theorem dX4_executeLow_31 : decode cX4_executeLow 31 = .ok (.if_icmp .ge 20, 3) := by decide +kernel
theorem dX4_executeLow_34 : decode cX4_executeLow 34 = .ok (.iload_n 1, 1) := by decide +kernel
theorem dX4_executeLow_35 : decode cX4_executeLow 35 = .ok (.iconst 1, 1) := by decide +kernel
theorem dX4_executeLow_36 : decode cX4_executeLow 36 = .ok (.if_icmp .eq 15, 3) := by decide +kernel
theorem dX4_executeLow_39 : decode cX4_executeLow 39 = .ok (.aload_n 0, 1) := by decide +kernel
theorem dX4_executeLow_40 : decode cX4_executeLow 40 = .ok (.getfield 16, 3) := by decide +kernel
theorem dX4_executeLow_43 : decode cX4_executeLow 43 = .ok (.iload_n 1, 1) := by decide +kernel
theorem dX4_executeLow_44 : decode cX4_executeLow 44 = .ok (.aload_n 0, 1) := by decide +kernel
theorem dX4_executeLow_45 : decode cX4_executeLow 45 = .ok (.invokevirtual 122, 3) := by decide +kernel
theorem dX4_executeLow_48 : decode cX4_executeLow 48 = .ok (.iastore, 1) := by decide +kernel
theorem dX4_executeLow_49 : decode cX4_executeLow 49 = .ok (.iconst 3, 1) := by decide +kernel
theorem dX4_executeLow_50 : decode cX4_executeLow 50 = .ok (.ireturn, 1) := by decide +kernel
theorem dX4_executeLow_6 : decode cX4_executeLow 6 = .ok (.iload_n 1, 1) := by decide +kernel
theorem dX4_executeLow_7 : decode cX4_executeLow 7 = .ok (.iconst 4, 1) := by decide +kernel
theorem dX4_executeLow_8 : decode cX4_executeLow 8 = .ok (.if_icmp .ge 15, 3) := by decide +kernel
theorem dX4_executeLow_11 : decode cX4_executeLow 11 = .ok (.aload_n 0, 1) := by decide +kernel
theorem dX4_executeLow_12 : decode cX4_executeLow 12 = .ok (.aload_n 0, 1) := by decide +kernel
theorem dX4_executeLow_13 : decode cX4_executeLow 13 = .ok (.getfield 16, 3) := by decide +kernel
theorem dX4_executeLow_16 : decode cX4_executeLow 16 = .ok (.iload_n 1, 1) := by decide +kernel
theorem dX4_executeLow_17 : decode cX4_executeLow 17 = .ok (.iaload, 1) := by decide +kernel
theorem dX4_executeLow_18 : decode cX4_executeLow 18 = .ok (.invokevirtual 118, 3) := by decide +kernel
theorem dX4_executeLow_21 : decode cX4_executeLow 21 = .ok (.iconst 3, 1) := by decide +kernel
theorem dX4_executeLow_22 : decode cX4_executeLow 22 = .ok (.ireturn, 1) := by decide +kernel
theorem dX4_execute_0 : decode cX4_execute 0 = .ok (.iload_n 1, 1) := by decide +kernel
theorem dX4_execute_1 : decode cX4_execute 1 = .ok (.bipush 64, 2) := by decide +kernel
theorem dX4_execute_3 : decode cX4_execute 3 = .ok (.if_icmp .ge 15, 3) := by decide +kernel
theorem dX4_execute_18 : decode cX4_execute 18 = .ok (.iload_n 1, 1) := by decide +kernel
theorem dX4_execute_19 : decode cX4_execute 19 = .ok (.bipush 96, 2) := by decide +kernel
theorem dX4_execute_21 : decode cX4_execute 21 = .ok (.if_icmp .ge 15, 3) := by decide +kernel
theorem dX4_execute_36 : decode cX4_execute 36 = .ok (.iload_n 1, 1) := by decide +kernel
theorem dX4_execute_37 : decode cX4_execute 37 = .ok (.bipush 114, 2) := by decide +kernel
theorem dX4_execute_39 : decode cX4_execute 39 = .ok (.if_icmp .lt 15, 3) := by decide +kernel
theorem dX4_execute_54 : decode cX4_execute 54 = .ok (.iload_n 1, 1) := by decide +kernel
theorem dX4_execute_55 : decode cX4_execute 55 = .ok (.sipush 184, 3) := by decide +kernel
theorem dX4_execute_58 : decode cX4_execute 58 = .ok (.if_icmp .lt 26, 3) := by decide +kernel
theorem dX4_execute_84 : decode cX4_execute 84 = .ok (.iload_n 1, 1) := by decide +kernel
theorem dX4_execute_85 : decode cX4_execute 85 = .ok (.lookupswitch 85 #[(129, 75), (137, 75), (139, 75), (140, 75), (142, 75), (199, 75), (209, 75), (247, 75)], 75) := by decide +kernel
theorem dX4_execute_170 : decode cX4_execute 170 = .ok (.aload_n 0, 1) := by decide +kernel
theorem dX4_execute_171 : decode cX4_execute 171 = .ok (.iload_n 1, 1) := by decide +kernel
theorem dX4_execute_172 : decode cX4_execute 172 = .ok (.invokevirtual 115, 3) := by decide +kernel
theorem dX4_execute_175 : decode cX4_execute 175 = .ok (.ireturn, 1) := by decide +kernel
theorem dX4_execute_42 : decode cX4_execute 42 = .ok (.iload_n 1, 1) := by decide +kernel
theorem dX4_execute_43 : decode cX4_execute 43 = .ok (.bipush 121, 2) := by decide +kernel
theorem dX4_execute_45 : decode cX4_execute 45 = .ok (.if_icmp .gt 9, 3) := by decide +kernel
theorem dX4_execute_160 : decode cX4_execute 160 = .ok (.aload_n 0, 1) := by decide +kernel
theorem dX4_execute_161 : decode cX4_execute 161 = .ok (.invokevirtual 109, 3) := by decide +kernel
theorem dX4_execute_164 : decode cX4_execute 164 = .ok (.aload_n 0, 1) := by decide +kernel
theorem dX4_execute_165 : decode cX4_execute 165 = .ok (.iload_n 1, 1) := by decide +kernel
theorem dX4_execute_166 : decode cX4_execute 166 = .ok (.invokevirtual 112, 3) := by decide +kernel
theorem dX4_execute_169 : decode cX4_execute 169 = .ok (.ireturn, 1) := by decide +kernel
theorem dX4_execute_61 : decode cX4_execute 61 = .ok (.iload_n 1, 1) := by decide +kernel
theorem dX4_execute_62 : decode cX4_execute 62 = .ok (.sipush 191, 3) := by decide +kernel
theorem dX4_execute_65 : decode cX4_execute 65 = .ok (.if_icmp .gt 19, 3) := by decide +kernel
theorem dX4_execute_68 : decode cX4_execute 68 = .ok (.aload_n 0, 1) := by decide +kernel
theorem dX4_execute_69 : decode cX4_execute 69 = .ok (.getfield 13, 3) := by decide +kernel
theorem dX4_execute_72 : decode cX4_execute 72 = .ok (.iload_n 1, 1) := by decide +kernel
theorem dX4_execute_73 : decode cX4_execute 73 = .ok (.sipush 184, 3) := by decide +kernel
theorem dX4_execute_76 : decode cX4_execute 76 = .ok (.isub, 1) := by decide +kernel
theorem dX4_execute_77 : decode cX4_execute 77 = .ok (.aload_n 0, 1) := by decide +kernel
theorem dX4_execute_78 : decode cX4_execute 78 = .ok (.invokevirtual 106, 3) := by decide +kernel
theorem dX4_execute_81 : decode cX4_execute 81 = .ok (.iastore, 1) := by decide +kernel
theorem dX4_execute_82 : decode cX4_execute 82 = .ok (.iconst 3, 1) := by decide +kernel
theorem dX4_execute_83 : decode cX4_execute 83 = .ok (.ireturn, 1) := by decide +kernel
theorem dX4_execute_48 : decode cX4_execute 48 = .ok (.aload_n 0, 1) := by decide +kernel
theorem dX4_execute_49 : decode cX4_execute 49 = .ok (.iload_n 1, 1) := by decide +kernel
theorem dX4_execute_50 : decode cX4_execute 50 = .ok (.invokevirtual 103, 3) := by decide +kernel
theorem dX4_execute_53 : decode cX4_execute 53 = .ok (.ireturn, 1) := by decide +kernel
theorem dX4_execute_24 : decode cX4_execute 24 = .ok (.aload_n 0, 1) := by decide +kernel
theorem dX4_execute_25 : decode cX4_execute 25 = .ok (.iload_n 1, 1) := by decide +kernel
theorem dX4_execute_26 : decode cX4_execute 26 = .ok (.iconst 3, 1) := by decide +kernel
theorem dX4_execute_27 : decode cX4_execute 27 = .ok (.ishr, 1) := by decide +kernel
theorem dX4_execute_28 : decode cX4_execute 28 = .ok (.iload_n 1, 1) := by decide +kernel
theorem dX4_execute_29 : decode cX4_execute 29 = .ok (.bipush 7, 2) := by decide +kernel
theorem dX4_execute_31 : decode cX4_execute 31 = .ok (.iand, 1) := by decide +kernel
theorem dX4_execute_32 : decode cX4_execute 32 = .ok (.invokevirtual 100, 3) := by decide +kernel
theorem dX4_execute_35 : decode cX4_execute 35 = .ok (.ireturn, 1) := by decide +kernel
theorem dX4_execute_6 : decode cX4_execute 6 = .ok (.aload_n 0, 1) := by decide +kernel
theorem dX4_execute_7 : decode cX4_execute 7 = .ok (.iload_n 1, 1) := by decide +kernel
theorem dX4_execute_8 : decode cX4_execute 8 = .ok (.iconst 3, 1) := by decide +kernel
theorem dX4_execute_9 : decode cX4_execute 9 = .ok (.ishr, 1) := by decide +kernel
theorem dX4_execute_10 : decode cX4_execute 10 = .ok (.iload_n 1, 1) := by decide +kernel
theorem dX4_execute_11 : decode cX4_execute 11 = .ok (.bipush 7, 2) := by decide +kernel
theorem dX4_execute_13 : decode cX4_execute 13 = .ok (.iand, 1) := by decide +kernel
theorem dX4_execute_14 : decode cX4_execute 14 = .ok (.invokevirtual 96, 3) := by decide +kernel
theorem dX4_execute_17 : decode cX4_execute 17 = .ok (.ireturn, 1) := by decide +kernel
set_option maxHeartbeats 4000000 in
set_option maxRecDepth 100000 in
theorem s_X4_executeLow (l : Launch) (D : va_G) (dA : Nat → ClassId) (t0 : Nat) (a0 : Int32) (a1 : Int32) (c0 : Nat) (c1 : Nat) (c2 : Nat) (i0 : Int32) (i1 : Int32) (i2 : Int32) (i3 : Int32) (i4 : Int32) (i5 : Int32) (i6 : Int32) (c3 : Nat) (i7 : Int32) (i8 : Int32) (i9 : Int32) (m0 : Nat → Int32) (m1 : Nat → Int32) (m2 : Nat → Int32) (m3 : Nat → Int32) (p0 : 0 ≤ a0.toInt ∧ a0.toInt ≤ 7) (p1 : 0 ≤ a1.toInt ∧ a1.toInt ≤ 7) (p2 : 0 ≤ i4.toInt ∧ i4.toInt ≤ 1) (p3 : 0 ≤ i6.toInt ∧ i6.toInt ≤ 1000000) (p4 : 0 ≤ i7.toInt ∧ i7.toInt ≤ 7) (p5 : -1 ≤ i8.toInt ∧ i8.toInt ≤ 7) (p6 : ∀ j : Nat, 0 ≤ (m0 j).toInt ∧ (m0 j).toInt ≤ 255) (sz : Nat) : Met l yX4_executeLow (gws yX4_executeLow cX4_executeLow 4 (some .int)) (gR 4 0 0) (gPre D dA [.ref t0, .int a0, .int a1] [(t0, .inr (4, [.ref c0, .ref c1, .ref c2, .int i0, .int i1, .int i2, .int i3, .int i4, .int i5, .int i6, .ref c3, .int i7, .int i8, .int i9])), (c0, .inl (dA 0, 4096, .inl m0)), (c1, .inl (dA 0, 8, .inl m1)), (c2, .inl (dA 0, 4, .inl m2)), (c3, .inl (dA 0, 30, .inl m3))] sz) (va_Qi (fun (r : Int32) (u : Int32 × Int32 × Int32 × Int32 × Int32 × Int32 × Int32 × (Nat → Int32) × (Nat → Int32) × (Nat → Int32)) => (0 ≤ r.toInt ∧ r.toInt ≤ 3) ∧ (0 ≤ u.2.2.2.2.1.toInt ∧ u.2.2.2.2.1.toInt ≤ 7) ∧ (-1 ≤ u.2.2.2.2.2.1.toInt ∧ u.2.2.2.2.2.1.toInt ≤ 7) ∧ (∀ j : Nat, 0 ≤ (u.2.2.2.2.2.2.2.1 j).toInt ∧ (u.2.2.2.2.2.2.2.1 j).toInt ≤ 255)) (gAt D dA (va_A [(t0, .inr (4, [.ref c0, .ref c1, .ref c2, .int i0, .int i1, .int i2, .int i3, .int i4, .int i5, .int i6, .ref c3, .int i7, .int i8, .int i9])), (c0, .inl (dA 0, 4096, .inl m0)), (c1, .inl (dA 0, 8, .inl m1)), (c2, .inl (dA 0, 4, .inl m2)), (c3, .inl (dA 0, 30, .inl m3))] sz) (fun u : Int32 × Int32 × Int32 × Int32 × Int32 × Int32 × Int32 × (Nat → Int32) × (Nat → Int32) × (Nat → Int32) => [(t0, .inr (4, [.ref c0, .ref c1, .ref c2, .int u.1, .int u.2.1, .int u.2.2.1, .int u.2.2.2.1, .int i4, .int i5, .int i6, .ref c3, .int u.2.2.2.2.1, .int u.2.2.2.2.2.1, .int u.2.2.2.2.2.2.1])), (c0, .inl (dA 0, 4096, .inl (u.2.2.2.2.2.2.2.1))), (c1, .inl (dA 0, 8, .inl (u.2.2.2.2.2.2.2.2.1))), (c2, .inl (dA 0, 4, .inl (u.2.2.2.2.2.2.2.2.2))), (c3, .inl (dA 0, 30, .inl m3))])) (va_A [(t0, .inr (4, [.ref c0, .ref c1, .ref c2, .int i0, .int i1, .int i2, .int i3, .int i4, .int i5, .int i6, .ref c3, .int i7, .int i8, .int i9])), (c0, .inl (dA 0, 4096, .inl m0)), (c1, .inl (dA 0, 8, .inl m1)), (c2, .inl (dA 0, 4, .inl m2)), (c3, .inl (dA 0, 30, .inl m3))] sz)) 0 0 (va_A [(t0, .inr (4, [.ref c0, .ref c1, .ref c2, .int i0, .int i1, .int i2, .int i3, .int i4, .int i5, .int i6, .ref c3, .int i7, .int i8, .int i9])), (c0, .inl (dA 0, 4096, .inl m0)), (c1, .inl (dA 0, 8, .inl m1)), (c2, .inl (dA 0, 4, .inl m2)), (c3, .inl (dA 0, 30, .inl m3))] sz) := by
  refine Met.ofW (cc := cX4_executeLow) (maxL := 4) (ret := (some .int)) (by decide) rfl ?_
  intro p e s m args below meth c s₁ B hml hv
  obtain ⟨rfl, hsz, hP, hK, hD0⟩ := hv
  have hx := B.exec
  have hb := B.bytes
  have hr := B.returns
  have hts := atoms_spec (ws := gws yX4_executeLow cX4_executeLow 4 (some .int)) B.pre
  have hg : ∀ w ∈ gw, w.before _ s = true := fun w h => hts w (List.mem_cons_of_mem _ h)
  have hown : s.vm.findClass RX4 = some m.cls := findClass_of_methodNamed B.named
  have hlocks := B.notSynchronized
  subst hsz
  have hD := hD0.self (sz := s.heap.size)
  generalize hAe : va_A [(t0, .inr (4, [.ref c0, .ref c1, .ref c2, .int i0, .int i1, .int i2, .int i3, .int i4, .int i5, .int i6, .ref c3, .int i7, .int i8, .int i9])), (c0, .inl (dA 0, 4096, .inl m0)), (c1, .inl (dA 0, 8, .inl m1)), (c2, .inl (dA 0, 4, .inl m2)), (c3, .inl (dA 0, 30, .inl m3))] s.heap.size = A at hD ⊢
  have hA : ∀ q : Nat, s.heap.size ≤ q → A q := fun q h => by rw [← hAe]; exact Or.inr h
  have hS : va_S A s.heap s.heap [] := va_S.rf
  have hP : va_P D vwC [(t0, .inr (4, [.ref c0, .ref c1, .ref c2, .int i0, .int i1, .int i2, .int i3, .int i4, .int i5, .int i6, .ref c3, .int i7, .int i8, .int i9])), (c0, .inl (dA 0, 4096, .inl m0)), (c1, .inl (dA 0, 8, .inl m1)), (c2, .inl (dA 0, 4, .inl m2)), (c3, .inl (dA 0, 30, .inl m3))] s.heap := hP
  have hl := lv_entry ([.ref t0, .int a0, .int a1]) (n := 4) (Nat.le_of_ble_eq_true rfl)
  rw [lg_entry_eq]
  generalize (lg_sl ([.ref t0, .int a0, .int a1]) ++ List.replicate (4 - (lg_sl ([.ref t0, .int a0, .int a1])).length) Slot.unset).toArray = ls at hl ⊢
  have hl : lv_has ls 4 [(0, .ref t0), (1, .int a0), (2, .int a1)] := hl
  refine lv_iload_n hx hb dX4_executeLow_0 rfl (lv_at hl 2 rfl) ?_
  refine lv_bipush (v := 6) hx hb dX4_executeLow_1 (by decide) ?_
  refine lv_icmp_ne (tgt := 23) hx hb dX4_executeLow_3 (by decide) (fun k1 => ?_) (fun k1 => ?_)
  · have g2 : a1.toInt ≠ 6 := gi_neq (rfl : a1.toInt = a1.toInt) (by decide : (6 : Int32).toInt = 6) k1
    refine lv_iload_n hx hb dX4_executeLow_23 rfl (lv_at hl 2 rfl) ?_
    refine lv_bipush (v := 7) hx hb dX4_executeLow_24 (by decide) ?_
    refine lv_icmp_ne (tgt := 51) hx hb dX4_executeLow_26 (by decide) (fun k3 => ?_) (fun k3 => ?_)
    · have g4 : a1.toInt ≠ 7 := gi_neq (rfl : a1.toInt = a1.toInt) (by decide : (7 : Int32).toInt = 7) k3
      refine lv_iload_n hx hb dX4_executeLow_51 rfl (lv_at hl 2 rfl) ?_
      refine lv_iconst (v := 1) hx hb dX4_executeLow_52 (by decide) ?_
      refine lv_icmp_eq (tgt := 61) hx hb dX4_executeLow_53 (by decide) (fun k5 => ?_) (fun k5 => ?_)
      · have g6 : a1.toInt = 1 := gi_eq (rfl : a1.toInt = a1.toInt) (by decide : (1 : Int32).toInt = 1) k5
        refine lv_iload_n hx hb dX4_executeLow_61 rfl (lv_at hl 1 rfl) ?_
        refine g_Si (n := 1) (As := [.int a0]) (rest := []) (wr := [(t0, .inr (4, [.ref c0, .ref c1, .ref c2, .int i0, .int i1, .int i2, .int i3, .int i4, .int i5, .int i6, .ref c3, .int i7, .int i8, .int i9])), (c0, .inl (dA 0, 4096, .inl m0)), (c1, .inl (dA 0, 8, .inl m1)), (c2, .inl (dA 0, 4, .inl m2)), (c3, .inl (dA 0, 30, .inl m3))]) hx hb hml hg hown hK hP hD hS hA (s_X4_isArithmetic l D dA a0 _) [] [0, 1, 2, 3, 4] rfl (by decide) rfl (by decide) (by decide) q1419 q159 q1417 q1418 (by decide +kernel) ⟨(Nat.le_of_ble_eq_true rfl), (Nat.le_of_ble_eq_true rfl)⟩ rfl hl.1 rfl (Nat.le_of_ble_eq_true rfl) dX4_executeLow_62 ⟨(Nat.le_of_ble_eq_true rfl), (Nat.le_of_ble_eq_true rfl)⟩ (fun x8 u7 H locs w9 hP hD hS => ?_)
        refine W.widen (k := 0) (n := 0) (Nat.le_of_ble_eq_true rfl) (Nat.le_of_ble_eq_true rfl) ?_
        have hP : va_P D vwC [(t0, .inr (4, [.ref c0, .ref c1, .ref c2, .int i0, .int i1, .int i2, .int i3, .int i4, .int i5, .int i6, .ref c3, .int i7, .int i8, .int i9])), (c0, .inl (dA 0, 4096, .inl m0)), (c1, .inl (dA 0, 8, .inl m1)), (c2, .inl (dA 0, 4, .inl m2)), (c3, .inl (dA 0, 30, .inl m3))] H := hP
        have hD : va_D A [(t0, .inr (4, [.ref c0, .ref c1, .ref c2, .int i0, .int i1, .int i2, .int i3, .int i4, .int i5, .int i6, .ref c3, .int i7, .int i8, .int i9])), (c0, .inl (dA 0, 4096, .inl m0)), (c1, .inl (dA 0, 8, .inl m1)), (c2, .inl (dA 0, 4, .inl m2)), (c3, .inl (dA 0, 30, .inl m3))] := hD
        have g10 := w9
        have g10 : 0 ≤ x8.toInt ∧ x8.toInt ≤ 1 := g10
        refine lv_if_ne (tgt := 70) hx hb dX4_executeLow_65 (by decide) (fun k11 => ?_) (fun k11 => ?_)
        · have g12 : x8.toInt ≠ 0 := gi_neq (rfl : x8.toInt = x8.toInt) (by decide : (0 : Int32).toInt = 0) k11
          refine lv_aload_n hx hb dX4_executeLow_70 rfl (lv_at hl 0 rfl) ?_
          refine g_Vv (n := 0) (As := []) (rest := []) (wr := []) hx hb hml hg hown hK hP hD hS hA (s_X4_fetchM l D dA t0 c0 c1 c2 i0 i1 i2 i3 i4 i5 i6 c3 i7 i8 i9 m0 m1 m2 m3 (by omega) (by omega) (by omega) (by omega) p6 _) [0, 1, 2, 3, 4] [] rfl (by decide) rfl (by decide) (by decide) 0 rfl rfl q1423 q159 q1420 q1422 q57 (by decide +kernel) ⟨(Nat.le_of_ble_eq_true rfl), (Nat.le_of_ble_eq_true rfl)⟩ rfl hl.1 rfl (Nat.le_of_ble_eq_true rfl) dX4_executeLow_71 ⟨(Nat.le_of_ble_eq_true rfl), (Nat.le_of_ble_eq_true rfl)⟩ (fun u13 H locs w15 hP hD hS => ?_)
          refine W.widen (k := 0) (n := 0) (Nat.le_of_ble_eq_true rfl) (Nat.le_of_ble_eq_true rfl) ?_
          obtain ⟨x16, x17, x18, x19⟩ := u13
          have hP : va_P D vwC [(t0, .inr (4, [.ref c0, .ref c1, .ref c2, .int x16, .int i1, .int i2, .int i3, .int i4, .int i5, .int i6, .ref c3, .int x17, .int x18, .int x19])), (c0, .inl (dA 0, 4096, .inl m0)), (c1, .inl (dA 0, 8, .inl m1)), (c2, .inl (dA 0, 4, .inl m2)), (c3, .inl (dA 0, 30, .inl m3))] H := hP
          have hD : va_D A [(t0, .inr (4, [.ref c0, .ref c1, .ref c2, .int x16, .int i1, .int i2, .int i3, .int i4, .int i5, .int i6, .ref c3, .int x17, .int x18, .int x19])), (c0, .inl (dA 0, 4096, .inl m0)), (c1, .inl (dA 0, 8, .inl m1)), (c2, .inl (dA 0, 4, .inl m2)), (c3, .inl (dA 0, 30, .inl m3))] := hD
          obtain ⟨g20, g21⟩ := w15
          have g20 : 0 ≤ x17.toInt ∧ x17.toInt ≤ 7 := g20
          have g21 : -1 ≤ x18.toInt ∧ x18.toInt ≤ 7 := g21
          refine lv_iload_n hx hb dX4_executeLow_74 rfl (lv_at hl 2 rfl) ?_
          refine lv_iconst (v := 1) hx hb dX4_executeLow_75 (by decide) ?_
          refine lv_icmp_ne (tgt := 96) hx hb dX4_executeLow_76 (by decide) (fun k22 => ?_) (fun k22 => ?_)
          · have g23 : a1.toInt ≠ 1 := gi_neq (rfl : a1.toInt = a1.toInt) (by decide : (1 : Int32).toInt = 1) k22
            exfalso; omega
          · have g24 : a1.toInt = 1 := gi_eq (rfl : a1.toInt = a1.toInt) (by decide : (1 : Int32).toInt = 1) k22
            refine lv_aload_n hx hb dX4_executeLow_79 rfl (lv_at hl 0 rfl) ?_
            refine lv_iload_n hx hb dX4_executeLow_80 rfl (lv_at hl 1 rfl) ?_
            refine lv_aload_n hx hb dX4_executeLow_81 rfl (lv_at hl 0 rfl) ?_
            refine g_get hx hb hg hown hK hP 0 rfl rfl inX4 1 (by decide) q554 rfl dX4_executeLow_82 ?_
            refine lv_aload_n hx hb dX4_executeLow_85 rfl (lv_at hl 0 rfl) ?_
            refine g_get hx hb hg hown hK hP 0 rfl rfl inX4 11 (by decide) q574 rfl dX4_executeLow_86 ?_
            refine va_iald hx hb hK hP 2 0 rfl rfl (by rw [vp_in_iff]; omega) dX4_executeLow_89 ?_
            refine lv_topi (fun x25 e26 => ?_)
            refine g_Vv (n := 2) (As := [.int a0, .int x25]) (rest := []) (wr := []) hx hb hml hg hown hK hP hD hS hA (s_X4_arithmeticOnM l D dA t0 a0 x25 c0 c1 c2 x16 i1 i2 i3 i4 i5 i6 c3 x17 x18 x19 m0 m1 m2 m3 (by omega) (by omega) (by omega) (by omega) p6 _) [0, 1, 2, 3, 4] [] rfl (by decide) rfl (by decide) (by decide) 0 rfl rfl q1439 q159 q1436 q1438 q61 (by decide +kernel) ⟨(Nat.le_of_ble_eq_true rfl), (Nat.le_of_ble_eq_true rfl)⟩ rfl hl.1 rfl (Nat.le_of_ble_eq_true rfl) dX4_executeLow_90 ⟨(Nat.le_of_ble_eq_true rfl), (Nat.le_of_ble_eq_true rfl)⟩ (fun u27 H locs w29 hP hD hS => ?_)
            refine W.widen (k := 0) (n := 0) (Nat.le_of_ble_eq_true rfl) (Nat.le_of_ble_eq_true rfl) ?_
            obtain ⟨x30, x31, x32, f33, f34⟩ := u27
            have hP : va_P D vwC [(t0, .inr (4, [.ref c0, .ref c1, .ref c2, .int x16, .int x30, .int x31, .int x32, .int i4, .int i5, .int i6, .ref c3, .int x17, .int x18, .int x19])), (c0, .inl (dA 0, 4096, .inl f33)), (c1, .inl (dA 0, 8, .inl f34)), (c2, .inl (dA 0, 4, .inl m2)), (c3, .inl (dA 0, 30, .inl m3))] H := hP
            have hD : va_D A [(t0, .inr (4, [.ref c0, .ref c1, .ref c2, .int x16, .int x30, .int x31, .int x32, .int i4, .int i5, .int i6, .ref c3, .int x17, .int x18, .int x19])), (c0, .inl (dA 0, 4096, .inl f33)), (c1, .inl (dA 0, 8, .inl f34)), (c2, .inl (dA 0, 4, .inl m2)), (c3, .inl (dA 0, 30, .inl m3))] := hD
            have g35 := w29
            have g35 : ∀ j : Nat, 0 ≤ (f33 j).toInt ∧ (f33 j).toInt ≤ 255 := g35
            refine lv_goto (tgt := 131) hx hb dX4_executeLow_93 (by decide) ?_
            refine lv_iconst (v := 3) hx hb dX4_executeLow_131 (by decide) ?_
            exact g_iret hx hb hr rfl hlocks hK (x16, x30, x31, x32, x17, x18, x19, f33, f34, m2) hP hD hS ⟨(show 0 ≤ ((3 : Int32)).toInt ∧ ((3 : Int32)).toInt ≤ 3 from by decide), (show 0 ≤ x17.toInt ∧ x17.toInt ≤ 7 from by omega), (show -1 ≤ x18.toInt ∧ x18.toInt ≤ 7 from by omega), g35⟩ (Nat.le_of_ble_eq_true rfl) (Nat.le_of_ble_eq_true rfl) dX4_executeLow_132
        · have g36 : x8.toInt = 0 := gi_eq (rfl : x8.toInt = x8.toInt) (by decide : (0 : Int32).toInt = 0) k11
          refine lv_iconst (v := 2) hx hb dX4_executeLow_68 (by decide) ?_
          exact g_iret hx hb hr rfl hlocks hK (i0, i1, i2, i3, i7, i8, i9, m0, m1, m2) hP hD hS ⟨(show 0 ≤ ((2 : Int32)).toInt ∧ ((2 : Int32)).toInt ≤ 3 from by decide), (show 0 ≤ i7.toInt ∧ i7.toInt ≤ 7 from by omega), (show -1 ≤ i8.toInt ∧ i8.toInt ≤ 7 from by omega), p6⟩ (Nat.le_of_ble_eq_true rfl) (Nat.le_of_ble_eq_true rfl) dX4_executeLow_69
      · have g37 : a1.toInt ≠ 1 := gi_neq (rfl : a1.toInt = a1.toInt) (by decide : (1 : Int32).toInt = 1) k5
        refine lv_iload_n hx hb dX4_executeLow_56 rfl (lv_at hl 2 rfl) ?_
        refine lv_iconst (v := 3) hx hb dX4_executeLow_57 (by decide) ?_
        refine lv_icmp_ne (tgt := 68) hx hb dX4_executeLow_58 (by decide) (fun k38 => ?_) (fun k38 => ?_)
        · have g39 : a1.toInt ≠ 3 := gi_neq (rfl : a1.toInt = a1.toInt) (by decide : (3 : Int32).toInt = 3) k38
          refine lv_iconst (v := 2) hx hb dX4_executeLow_68 (by decide) ?_
          exact g_iret hx hb hr rfl hlocks hK (i0, i1, i2, i3, i7, i8, i9, m0, m1, m2) hP hD hS ⟨(show 0 ≤ ((2 : Int32)).toInt ∧ ((2 : Int32)).toInt ≤ 3 from by decide), (show 0 ≤ i7.toInt ∧ i7.toInt ≤ 7 from by omega), (show -1 ≤ i8.toInt ∧ i8.toInt ≤ 7 from by omega), p6⟩ (Nat.le_of_ble_eq_true rfl) (Nat.le_of_ble_eq_true rfl) dX4_executeLow_69
        · have g40 : a1.toInt = 3 := gi_eq (rfl : a1.toInt = a1.toInt) (by decide : (3 : Int32).toInt = 3) k38
          refine lv_iload_n hx hb dX4_executeLow_61 rfl (lv_at hl 1 rfl) ?_
          refine g_Si (n := 1) (As := [.int a0]) (rest := []) (wr := [(t0, .inr (4, [.ref c0, .ref c1, .ref c2, .int i0, .int i1, .int i2, .int i3, .int i4, .int i5, .int i6, .ref c3, .int i7, .int i8, .int i9])), (c0, .inl (dA 0, 4096, .inl m0)), (c1, .inl (dA 0, 8, .inl m1)), (c2, .inl (dA 0, 4, .inl m2)), (c3, .inl (dA 0, 30, .inl m3))]) hx hb hml hg hown hK hP hD hS hA (s_X4_isArithmetic l D dA a0 _) [] [0, 1, 2, 3, 4] rfl (by decide) rfl (by decide) (by decide) q1419 q159 q1417 q1418 (by decide +kernel) ⟨(Nat.le_of_ble_eq_true rfl), (Nat.le_of_ble_eq_true rfl)⟩ rfl hl.1 rfl (Nat.le_of_ble_eq_true rfl) dX4_executeLow_62 ⟨(Nat.le_of_ble_eq_true rfl), (Nat.le_of_ble_eq_true rfl)⟩ (fun x42 u41 H locs w43 hP hD hS => ?_)
          refine W.widen (k := 0) (n := 0) (Nat.le_of_ble_eq_true rfl) (Nat.le_of_ble_eq_true rfl) ?_
          have hP : va_P D vwC [(t0, .inr (4, [.ref c0, .ref c1, .ref c2, .int i0, .int i1, .int i2, .int i3, .int i4, .int i5, .int i6, .ref c3, .int i7, .int i8, .int i9])), (c0, .inl (dA 0, 4096, .inl m0)), (c1, .inl (dA 0, 8, .inl m1)), (c2, .inl (dA 0, 4, .inl m2)), (c3, .inl (dA 0, 30, .inl m3))] H := hP
          have hD : va_D A [(t0, .inr (4, [.ref c0, .ref c1, .ref c2, .int i0, .int i1, .int i2, .int i3, .int i4, .int i5, .int i6, .ref c3, .int i7, .int i8, .int i9])), (c0, .inl (dA 0, 4096, .inl m0)), (c1, .inl (dA 0, 8, .inl m1)), (c2, .inl (dA 0, 4, .inl m2)), (c3, .inl (dA 0, 30, .inl m3))] := hD
          have g44 := w43
          have g44 : 0 ≤ x42.toInt ∧ x42.toInt ≤ 1 := g44
          refine lv_if_ne (tgt := 70) hx hb dX4_executeLow_65 (by decide) (fun k45 => ?_) (fun k45 => ?_)
          · have g46 : x42.toInt ≠ 0 := gi_neq (rfl : x42.toInt = x42.toInt) (by decide : (0 : Int32).toInt = 0) k45
            refine lv_aload_n hx hb dX4_executeLow_70 rfl (lv_at hl 0 rfl) ?_
            refine g_Vv (n := 0) (As := []) (rest := []) (wr := []) hx hb hml hg hown hK hP hD hS hA (s_X4_fetchM l D dA t0 c0 c1 c2 i0 i1 i2 i3 i4 i5 i6 c3 i7 i8 i9 m0 m1 m2 m3 (by omega) (by omega) (by omega) (by omega) p6 _) [0, 1, 2, 3, 4] [] rfl (by decide) rfl (by decide) (by decide) 0 rfl rfl q1423 q159 q1420 q1422 q57 (by decide +kernel) ⟨(Nat.le_of_ble_eq_true rfl), (Nat.le_of_ble_eq_true rfl)⟩ rfl hl.1 rfl (Nat.le_of_ble_eq_true rfl) dX4_executeLow_71 ⟨(Nat.le_of_ble_eq_true rfl), (Nat.le_of_ble_eq_true rfl)⟩ (fun u47 H locs w49 hP hD hS => ?_)
            refine W.widen (k := 0) (n := 0) (Nat.le_of_ble_eq_true rfl) (Nat.le_of_ble_eq_true rfl) ?_
            obtain ⟨x50, x51, x52, x53⟩ := u47
            have hP : va_P D vwC [(t0, .inr (4, [.ref c0, .ref c1, .ref c2, .int x50, .int i1, .int i2, .int i3, .int i4, .int i5, .int i6, .ref c3, .int x51, .int x52, .int x53])), (c0, .inl (dA 0, 4096, .inl m0)), (c1, .inl (dA 0, 8, .inl m1)), (c2, .inl (dA 0, 4, .inl m2)), (c3, .inl (dA 0, 30, .inl m3))] H := hP
            have hD : va_D A [(t0, .inr (4, [.ref c0, .ref c1, .ref c2, .int x50, .int i1, .int i2, .int i3, .int i4, .int i5, .int i6, .ref c3, .int x51, .int x52, .int x53])), (c0, .inl (dA 0, 4096, .inl m0)), (c1, .inl (dA 0, 8, .inl m1)), (c2, .inl (dA 0, 4, .inl m2)), (c3, .inl (dA 0, 30, .inl m3))] := hD
            obtain ⟨g54, g55⟩ := w49
            have g54 : 0 ≤ x51.toInt ∧ x51.toInt ≤ 7 := g54
            have g55 : -1 ≤ x52.toInt ∧ x52.toInt ≤ 7 := g55
            refine lv_iload_n hx hb dX4_executeLow_74 rfl (lv_at hl 2 rfl) ?_
            refine lv_iconst (v := 1) hx hb dX4_executeLow_75 (by decide) ?_
            refine lv_icmp_ne (tgt := 96) hx hb dX4_executeLow_76 (by decide) (fun k56 => ?_) (fun k56 => ?_)
            · have g57 : a1.toInt ≠ 1 := gi_neq (rfl : a1.toInt = a1.toInt) (by decide : (1 : Int32).toInt = 1) k56
              refine lv_aload_n hx hb dX4_executeLow_96 rfl (lv_at hl 0 rfl) ?_
              refine lv_iload_n hx hb dX4_executeLow_97 rfl (lv_at hl 1 rfl) ?_
              refine lv_aload_n hx hb dX4_executeLow_98 rfl (lv_at hl 0 rfl) ?_
              refine g_get hx hb hg hown hK hP 0 rfl rfl inX4 1 (by decide) q554 rfl dX4_executeLow_99 ?_
              refine lv_aload_n hx hb dX4_executeLow_102 rfl (lv_at hl 0 rfl) ?_
              refine g_get hx hb hg hown hK hP 0 rfl rfl inX4 11 (by decide) q574 rfl dX4_executeLow_103 ?_
              refine va_iald hx hb hK hP 2 0 rfl rfl (by rw [vp_in_iff]; omega) dX4_executeLow_106 ?_
              refine lv_topi (fun x58 e59 => ?_)
              refine lv_aload_n hx hb dX4_executeLow_107 rfl (lv_at hl 0 rfl) ?_
              refine g_Vi (n := 0) (As := []) (rest := [.int x58, .int a0, .ref t0]) (wr := []) hx hb hml hg hown hK hP hD hS hA (s_X4_readM l D dA t0 c0 c1 c2 x50 i1 i2 i3 i4 i5 i6 c3 x51 x52 x53 m0 m1 m2 m3 (by omega) (by omega) (by omega) (by omega) p6 _) [0, 1, 2, 3, 4] [] rfl (by decide) rfl (by decide) (by decide) 0 rfl rfl q1443 q159 q1440 q1442 q62 (by decide +kernel) ⟨(Nat.le_of_ble_eq_true rfl), (Nat.le_of_ble_eq_true rfl)⟩ rfl hl.1 rfl (Nat.le_of_ble_eq_true rfl) dX4_executeLow_108 ⟨(Nat.le_of_ble_eq_true rfl), (Nat.le_of_ble_eq_true rfl)⟩ (fun x61 u60 H locs w62 hP hD hS => ?_)
              refine W.widen (k := 0) (n := 0) (Nat.le_of_ble_eq_true rfl) (Nat.le_of_ble_eq_true rfl) ?_
              have hP : va_P D vwC [(t0, .inr (4, [.ref c0, .ref c1, .ref c2, .int x50, .int i1, .int i2, .int i3, .int i4, .int i5, .int i6, .ref c3, .int x51, .int x52, .int x53])), (c0, .inl (dA 0, 4096, .inl m0)), (c1, .inl (dA 0, 8, .inl m1)), (c2, .inl (dA 0, 4, .inl m2)), (c3, .inl (dA 0, 30, .inl m3))] H := hP
              have hD : va_D A [(t0, .inr (4, [.ref c0, .ref c1, .ref c2, .int x50, .int i1, .int i2, .int i3, .int i4, .int i5, .int i6, .ref c3, .int x51, .int x52, .int x53])), (c0, .inl (dA 0, 4096, .inl m0)), (c1, .inl (dA 0, 8, .inl m1)), (c2, .inl (dA 0, 4, .inl m2)), (c3, .inl (dA 0, 30, .inl m3))] := hD
              refine g_Vi (n := 3) (As := [.int a0, .int x58, .int x61]) (rest := []) (wr := []) hx hb hml hg hown hK hP hD hS hA (s_X4_arithmetic l D dA t0 a0 x58 x61 c0 c1 c2 x50 i1 i2 i3 i4 i5 i6 c3 x51 x52 x53 m0 m1 m2 m3 (by omega) (by omega) (by omega) (by omega) p6 _) [0, 1, 2, 3, 4] [] rfl (by decide) rfl (by decide) (by decide) 0 rfl rfl q1447 q159 q1444 q1446 q63 (by decide +kernel) ⟨(Nat.le_of_ble_eq_true rfl), (Nat.le_of_ble_eq_true rfl)⟩ rfl hl.1 rfl (Nat.le_of_ble_eq_true rfl) dX4_executeLow_111 ⟨(Nat.le_of_ble_eq_true rfl), (Nat.le_of_ble_eq_true rfl)⟩ (fun x64 u63 H locs w65 hP hD hS => ?_)
              refine W.widen (k := 0) (n := 0) (Nat.le_of_ble_eq_true rfl) (Nat.le_of_ble_eq_true rfl) ?_
              obtain ⟨x66, x67, x68⟩ := u63
              have hP : va_P D vwC [(t0, .inr (4, [.ref c0, .ref c1, .ref c2, .int x50, .int x66, .int x67, .int x68, .int i4, .int i5, .int i6, .ref c3, .int x51, .int x52, .int x53])), (c0, .inl (dA 0, 4096, .inl m0)), (c1, .inl (dA 0, 8, .inl m1)), (c2, .inl (dA 0, 4, .inl m2)), (c3, .inl (dA 0, 30, .inl m3))] H := hP
              have hD : va_D A [(t0, .inr (4, [.ref c0, .ref c1, .ref c2, .int x50, .int x66, .int x67, .int x68, .int i4, .int i5, .int i6, .ref c3, .int x51, .int x52, .int x53])), (c0, .inl (dA 0, 4096, .inl m0)), (c1, .inl (dA 0, 8, .inl m1)), (c2, .inl (dA 0, 4, .inl m2)), (c3, .inl (dA 0, 30, .inl m3))] := hD
              refine lv_istore_n (lv' := [(3, .int x64), (0, .ref t0), (1, .int a0), (2, .int a1)]) hx hb dX4_executeLow_114 rfl hl (by decide) rfl (fun ls hl => ?_)
              refine lv_iload_n hx hb dX4_executeLow_115 rfl (lv_at hl 2 rfl) ?_
              refine lv_bipush (v := 7) hx hb dX4_executeLow_116 (by decide) ?_
              refine lv_icmp_eq (tgt := 131) hx hb dX4_executeLow_118 (by decide) (fun k69 => ?_) (fun k69 => ?_)
              · have g70 : a0.toInt = 7 := gi_eq (rfl : a0.toInt = a0.toInt) (by decide : (7 : Int32).toInt = 7) k69
                refine lv_iconst (v := 3) hx hb dX4_executeLow_131 (by decide) ?_
                exact g_iret hx hb hr rfl hlocks hK (x50, x66, x67, x68, x51, x52, x53, m0, m1, m2) hP hD hS ⟨(show 0 ≤ ((3 : Int32)).toInt ∧ ((3 : Int32)).toInt ≤ 3 from by decide), (show 0 ≤ x51.toInt ∧ x51.toInt ≤ 7 from by omega), (show -1 ≤ x52.toInt ∧ x52.toInt ≤ 7 from by omega), p6⟩ (Nat.le_of_ble_eq_true rfl) (Nat.le_of_ble_eq_true rfl) dX4_executeLow_132
              · have g71 : a0.toInt ≠ 7 := gi_neq (rfl : a0.toInt = a0.toInt) (by decide : (7 : Int32).toInt = 7) k69
                refine lv_aload_n hx hb dX4_executeLow_121 rfl (lv_at hl 1 rfl) ?_
                refine g_get hx hb hg hown hK hP 0 rfl rfl inX4 1 (by decide) q554 rfl dX4_executeLow_122 ?_
                refine lv_aload_n hx hb dX4_executeLow_125 rfl (lv_at hl 1 rfl) ?_
                refine g_get hx hb hg hown hK hP 0 rfl rfl inX4 11 (by decide) q574 rfl dX4_executeLow_126 ?_
                refine lv_iload_n hx hb dX4_executeLow_129 rfl (lv_at hl 0 rfl) ?_
                refine va_iast hx hb hK hP hD hS 2 0 rfl rfl (by rw [vp_in_iff]; omega) dX4_executeLow_130 (fun H locs hP hD hS => ?_)
                have hP : va_P D vwC [(t0, .inr (4, [.ref c0, .ref c1, .ref c2, .int x50, .int x66, .int x67, .int x68, .int i4, .int i5, .int i6, .ref c3, .int x51, .int x52, .int x53])), (c0, .inl (dA 0, 4096, .inl m0)), (c1, .inl (dA 0, 8, .inl (upd m1 (x51 : Int32).toNatClampNeg x64))), (c2, .inl (dA 0, 4, .inl m2)), (c3, .inl (dA 0, 30, .inl m3))] H := hP
                have hD : va_D A [(t0, .inr (4, [.ref c0, .ref c1, .ref c2, .int x50, .int x66, .int x67, .int x68, .int i4, .int i5, .int i6, .ref c3, .int x51, .int x52, .int x53])), (c0, .inl (dA 0, 4096, .inl m0)), (c1, .inl (dA 0, 8, .inl (upd m1 (x51 : Int32).toNatClampNeg x64))), (c2, .inl (dA 0, 4, .inl m2)), (c3, .inl (dA 0, 30, .inl m3))] := hD
                obtain ⟨f72, ef72⟩ : ∃ f : Nat → Int32, f = (upd m1 (x51 : Int32).toNatClampNeg x64) := ⟨_, rfl⟩
                rw [← ef72] at hP hD
                refine lv_iconst (v := 3) hx hb dX4_executeLow_131 (by decide) ?_
                exact g_iret hx hb hr rfl hlocks hK (x50, x66, x67, x68, x51, x52, x53, m0, f72, m2) hP hD hS ⟨(show 0 ≤ ((3 : Int32)).toInt ∧ ((3 : Int32)).toInt ≤ 3 from by decide), (show 0 ≤ x51.toInt ∧ x51.toInt ≤ 7 from by omega), (show -1 ≤ x52.toInt ∧ x52.toInt ≤ 7 from by omega), p6⟩ (Nat.le_of_ble_eq_true rfl) (Nat.le_of_ble_eq_true rfl) dX4_executeLow_132
            · have g73 : a1.toInt = 1 := gi_eq (rfl : a1.toInt = a1.toInt) (by decide : (1 : Int32).toInt = 1) k56
              exfalso; omega
          · have g74 : x42.toInt = 0 := gi_eq (rfl : x42.toInt = x42.toInt) (by decide : (0 : Int32).toInt = 0) k45
            refine lv_iconst (v := 2) hx hb dX4_executeLow_68 (by decide) ?_
            exact g_iret hx hb hr rfl hlocks hK (i0, i1, i2, i3, i7, i8, i9, m0, m1, m2) hP hD hS ⟨(show 0 ≤ ((2 : Int32)).toInt ∧ ((2 : Int32)).toInt ≤ 3 from by decide), (show 0 ≤ i7.toInt ∧ i7.toInt ≤ 7 from by omega), (show -1 ≤ i8.toInt ∧ i8.toInt ≤ 7 from by omega), p6⟩ (Nat.le_of_ble_eq_true rfl) (Nat.le_of_ble_eq_true rfl) dX4_executeLow_69
    · have g75 : a1.toInt = 7 := gi_eq (rfl : a1.toInt = a1.toInt) (by decide : (7 : Int32).toInt = 7) k3
      refine lv_iload_n hx hb dX4_executeLow_29 rfl (lv_at hl 1 rfl) ?_
      refine lv_iconst (v := 4) hx hb dX4_executeLow_30 (by decide) ?_
      refine lv_icmp_ge (tgt := 51) hx hb dX4_executeLow_31 (by decide) (fun k76 => ?_) (fun k76 => ?_)
      · have g77 : 4 ≤ a0.toInt := gi_le (by decide : (4 : Int32).toInt = 4) (rfl : a0.toInt = a0.toInt) k76
        refine lv_iload_n hx hb dX4_executeLow_51 rfl (lv_at hl 2 rfl) ?_
        refine lv_iconst (v := 1) hx hb dX4_executeLow_52 (by decide) ?_
        refine lv_icmp_eq (tgt := 61) hx hb dX4_executeLow_53 (by decide) (fun k78 => ?_) (fun k78 => ?_)
        · have g79 : a1.toInt = 1 := gi_eq (rfl : a1.toInt = a1.toInt) (by decide : (1 : Int32).toInt = 1) k78
          exfalso; omega
        · have g80 : a1.toInt ≠ 1 := gi_neq (rfl : a1.toInt = a1.toInt) (by decide : (1 : Int32).toInt = 1) k78
          refine lv_iload_n hx hb dX4_executeLow_56 rfl (lv_at hl 2 rfl) ?_
          refine lv_iconst (v := 3) hx hb dX4_executeLow_57 (by decide) ?_
          refine lv_icmp_ne (tgt := 68) hx hb dX4_executeLow_58 (by decide) (fun k81 => ?_) (fun k81 => ?_)
          · have g82 : a1.toInt ≠ 3 := gi_neq (rfl : a1.toInt = a1.toInt) (by decide : (3 : Int32).toInt = 3) k81
            refine lv_iconst (v := 2) hx hb dX4_executeLow_68 (by decide) ?_
            exact g_iret hx hb hr rfl hlocks hK (i0, i1, i2, i3, i7, i8, i9, m0, m1, m2) hP hD hS ⟨(show 0 ≤ ((2 : Int32)).toInt ∧ ((2 : Int32)).toInt ≤ 3 from by decide), (show 0 ≤ i7.toInt ∧ i7.toInt ≤ 7 from by omega), (show -1 ≤ i8.toInt ∧ i8.toInt ≤ 7 from by omega), p6⟩ (Nat.le_of_ble_eq_true rfl) (Nat.le_of_ble_eq_true rfl) dX4_executeLow_69
          · have g83 : a1.toInt = 3 := gi_eq (rfl : a1.toInt = a1.toInt) (by decide : (3 : Int32).toInt = 3) k81
            exfalso; omega
      · have g84 : 4 > a0.toInt := gi_nle (by decide : (4 : Int32).toInt = 4) (rfl : a0.toInt = a0.toInt) k76
        refine lv_iload_n hx hb dX4_executeLow_34 rfl (lv_at hl 1 rfl) ?_
        refine lv_iconst (v := 1) hx hb dX4_executeLow_35 (by decide) ?_
        refine lv_icmp_eq (tgt := 51) hx hb dX4_executeLow_36 (by decide) (fun k85 => ?_) (fun k85 => ?_)
        · have g86 : a0.toInt = 1 := gi_eq (rfl : a0.toInt = a0.toInt) (by decide : (1 : Int32).toInt = 1) k85
          refine lv_iload_n hx hb dX4_executeLow_51 rfl (lv_at hl 2 rfl) ?_
          refine lv_iconst (v := 1) hx hb dX4_executeLow_52 (by decide) ?_
          refine lv_icmp_eq (tgt := 61) hx hb dX4_executeLow_53 (by decide) (fun k87 => ?_) (fun k87 => ?_)
          · have g88 : a1.toInt = 1 := gi_eq (rfl : a1.toInt = a1.toInt) (by decide : (1 : Int32).toInt = 1) k87
            exfalso; omega
          · have g89 : a1.toInt ≠ 1 := gi_neq (rfl : a1.toInt = a1.toInt) (by decide : (1 : Int32).toInt = 1) k87
            refine lv_iload_n hx hb dX4_executeLow_56 rfl (lv_at hl 2 rfl) ?_
            refine lv_iconst (v := 3) hx hb dX4_executeLow_57 (by decide) ?_
            refine lv_icmp_ne (tgt := 68) hx hb dX4_executeLow_58 (by decide) (fun k90 => ?_) (fun k90 => ?_)
            · have g91 : a1.toInt ≠ 3 := gi_neq (rfl : a1.toInt = a1.toInt) (by decide : (3 : Int32).toInt = 3) k90
              refine lv_iconst (v := 2) hx hb dX4_executeLow_68 (by decide) ?_
              exact g_iret hx hb hr rfl hlocks hK (i0, i1, i2, i3, i7, i8, i9, m0, m1, m2) hP hD hS ⟨(show 0 ≤ ((2 : Int32)).toInt ∧ ((2 : Int32)).toInt ≤ 3 from by decide), (show 0 ≤ i7.toInt ∧ i7.toInt ≤ 7 from by omega), (show -1 ≤ i8.toInt ∧ i8.toInt ≤ 7 from by omega), p6⟩ (Nat.le_of_ble_eq_true rfl) (Nat.le_of_ble_eq_true rfl) dX4_executeLow_69
            · have g92 : a1.toInt = 3 := gi_eq (rfl : a1.toInt = a1.toInt) (by decide : (3 : Int32).toInt = 3) k90
              exfalso; omega
        · have g93 : a0.toInt ≠ 1 := gi_neq (rfl : a0.toInt = a0.toInt) (by decide : (1 : Int32).toInt = 1) k85
          refine lv_aload_n hx hb dX4_executeLow_39 rfl (lv_at hl 0 rfl) ?_
          refine g_get hx hb hg hown hK hP 0 rfl rfl inX4 2 (by decide) q556 rfl dX4_executeLow_40 ?_
          refine lv_iload_n hx hb dX4_executeLow_43 rfl (lv_at hl 1 rfl) ?_
          refine lv_aload_n hx hb dX4_executeLow_44 rfl (lv_at hl 0 rfl) ?_
          refine g_Vi (n := 0) (As := []) (rest := [.int a0, .ref c2]) (wr := []) hx hb hml hg hown hK hP hD hS hA (s_X4_pop l D dA t0 c0 c1 c2 i0 i1 i2 i3 i4 i5 i6 c3 i7 i8 i9 m0 m1 m2 m3 (by omega) (by omega) (by omega) (by omega) p6 _) [0, 1, 2, 3, 4] [] rfl (by decide) rfl (by decide) (by decide) 0 rfl rfl q1416 q159 q1413 q1415 q56 (by decide +kernel) ⟨(Nat.le_of_ble_eq_true rfl), (Nat.le_of_ble_eq_true rfl)⟩ rfl hl.1 rfl (Nat.le_of_ble_eq_true rfl) dX4_executeLow_45 ⟨(Nat.le_of_ble_eq_true rfl), (Nat.le_of_ble_eq_true rfl)⟩ (fun x95 u94 H locs w96 hP hD hS => ?_)
          refine W.widen (k := 0) (n := 0) (Nat.le_of_ble_eq_true rfl) (Nat.le_of_ble_eq_true rfl) ?_
          obtain ⟨f97, rfl⟩ : ∃ z, z = u94 := ⟨_, rfl⟩
          have hP : va_P D vwC [(t0, .inr (4, [.ref c0, .ref c1, .ref c2, .int i0, .int i1, .int i2, .int i3, .int i4, .int i5, .int i6, .ref c3, .int i7, .int i8, .int i9])), (c0, .inl (dA 0, 4096, .inl m0)), (c1, .inl (dA 0, 8, .inl f97)), (c2, .inl (dA 0, 4, .inl m2)), (c3, .inl (dA 0, 30, .inl m3))] H := hP
          have hD : va_D A [(t0, .inr (4, [.ref c0, .ref c1, .ref c2, .int i0, .int i1, .int i2, .int i3, .int i4, .int i5, .int i6, .ref c3, .int i7, .int i8, .int i9])), (c0, .inl (dA 0, 4096, .inl m0)), (c1, .inl (dA 0, 8, .inl f97)), (c2, .inl (dA 0, 4, .inl m2)), (c3, .inl (dA 0, 30, .inl m3))] := hD
          refine va_iast hx hb hK hP hD hS 3 0 rfl rfl (by rw [vp_in_iff]; omega) dX4_executeLow_48 (fun H locs hP hD hS => ?_)
          have hP : va_P D vwC [(t0, .inr (4, [.ref c0, .ref c1, .ref c2, .int i0, .int i1, .int i2, .int i3, .int i4, .int i5, .int i6, .ref c3, .int i7, .int i8, .int i9])), (c0, .inl (dA 0, 4096, .inl m0)), (c1, .inl (dA 0, 8, .inl f97)), (c2, .inl (dA 0, 4, .inl (upd m2 (a0 : Int32).toNatClampNeg x95))), (c3, .inl (dA 0, 30, .inl m3))] H := hP
          have hD : va_D A [(t0, .inr (4, [.ref c0, .ref c1, .ref c2, .int i0, .int i1, .int i2, .int i3, .int i4, .int i5, .int i6, .ref c3, .int i7, .int i8, .int i9])), (c0, .inl (dA 0, 4096, .inl m0)), (c1, .inl (dA 0, 8, .inl f97)), (c2, .inl (dA 0, 4, .inl (upd m2 (a0 : Int32).toNatClampNeg x95))), (c3, .inl (dA 0, 30, .inl m3))] := hD
          obtain ⟨f98, ef98⟩ : ∃ f : Nat → Int32, f = (upd m2 (a0 : Int32).toNatClampNeg x95) := ⟨_, rfl⟩
          rw [← ef98] at hP hD
          refine lv_iconst (v := 3) hx hb dX4_executeLow_49 (by decide) ?_
          exact g_iret hx hb hr rfl hlocks hK (i0, i1, i2, i3, i7, i8, i9, m0, f97, f98) hP hD hS ⟨(show 0 ≤ ((3 : Int32)).toInt ∧ ((3 : Int32)).toInt ≤ 3 from by decide), (show 0 ≤ i7.toInt ∧ i7.toInt ≤ 7 from by omega), (show -1 ≤ i8.toInt ∧ i8.toInt ≤ 7 from by omega), p6⟩ (Nat.le_of_ble_eq_true rfl) (Nat.le_of_ble_eq_true rfl) dX4_executeLow_50
  · have g99 : a1.toInt = 6 := gi_eq (rfl : a1.toInt = a1.toInt) (by decide : (6 : Int32).toInt = 6) k1
    refine lv_iload_n hx hb dX4_executeLow_6 rfl (lv_at hl 1 rfl) ?_
    refine lv_iconst (v := 4) hx hb dX4_executeLow_7 (by decide) ?_
    refine lv_icmp_ge (tgt := 23) hx hb dX4_executeLow_8 (by decide) (fun k100 => ?_) (fun k100 => ?_)
    · have g101 : 4 ≤ a0.toInt := gi_le (by decide : (4 : Int32).toInt = 4) (rfl : a0.toInt = a0.toInt) k100
      refine lv_iload_n hx hb dX4_executeLow_23 rfl (lv_at hl 2 rfl) ?_
      refine lv_bipush (v := 7) hx hb dX4_executeLow_24 (by decide) ?_
      refine lv_icmp_ne (tgt := 51) hx hb dX4_executeLow_26 (by decide) (fun k102 => ?_) (fun k102 => ?_)
      · have g103 : a1.toInt ≠ 7 := gi_neq (rfl : a1.toInt = a1.toInt) (by decide : (7 : Int32).toInt = 7) k102
        refine lv_iload_n hx hb dX4_executeLow_51 rfl (lv_at hl 2 rfl) ?_
        refine lv_iconst (v := 1) hx hb dX4_executeLow_52 (by decide) ?_
        refine lv_icmp_eq (tgt := 61) hx hb dX4_executeLow_53 (by decide) (fun k104 => ?_) (fun k104 => ?_)
        · have g105 : a1.toInt = 1 := gi_eq (rfl : a1.toInt = a1.toInt) (by decide : (1 : Int32).toInt = 1) k104
          exfalso; omega
        · have g106 : a1.toInt ≠ 1 := gi_neq (rfl : a1.toInt = a1.toInt) (by decide : (1 : Int32).toInt = 1) k104
          refine lv_iload_n hx hb dX4_executeLow_56 rfl (lv_at hl 2 rfl) ?_
          refine lv_iconst (v := 3) hx hb dX4_executeLow_57 (by decide) ?_
          refine lv_icmp_ne (tgt := 68) hx hb dX4_executeLow_58 (by decide) (fun k107 => ?_) (fun k107 => ?_)
          · have g108 : a1.toInt ≠ 3 := gi_neq (rfl : a1.toInt = a1.toInt) (by decide : (3 : Int32).toInt = 3) k107
            refine lv_iconst (v := 2) hx hb dX4_executeLow_68 (by decide) ?_
            exact g_iret hx hb hr rfl hlocks hK (i0, i1, i2, i3, i7, i8, i9, m0, m1, m2) hP hD hS ⟨(show 0 ≤ ((2 : Int32)).toInt ∧ ((2 : Int32)).toInt ≤ 3 from by decide), (show 0 ≤ i7.toInt ∧ i7.toInt ≤ 7 from by omega), (show -1 ≤ i8.toInt ∧ i8.toInt ≤ 7 from by omega), p6⟩ (Nat.le_of_ble_eq_true rfl) (Nat.le_of_ble_eq_true rfl) dX4_executeLow_69
          · have g109 : a1.toInt = 3 := gi_eq (rfl : a1.toInt = a1.toInt) (by decide : (3 : Int32).toInt = 3) k107
            exfalso; omega
      · have g110 : a1.toInt = 7 := gi_eq (rfl : a1.toInt = a1.toInt) (by decide : (7 : Int32).toInt = 7) k102
        exfalso; omega
    · have g111 : 4 > a0.toInt := gi_nle (by decide : (4 : Int32).toInt = 4) (rfl : a0.toInt = a0.toInt) k100
      refine lv_aload_n hx hb dX4_executeLow_11 rfl (lv_at hl 0 rfl) ?_
      refine lv_aload_n hx hb dX4_executeLow_12 rfl (lv_at hl 0 rfl) ?_
      refine g_get hx hb hg hown hK hP 0 rfl rfl inX4 2 (by decide) q556 rfl dX4_executeLow_13 ?_
      refine lv_iload_n hx hb dX4_executeLow_16 rfl (lv_at hl 1 rfl) ?_
      refine va_iald hx hb hK hP 3 0 rfl rfl (by rw [vp_in_iff]; omega) dX4_executeLow_17 ?_
      refine lv_topi (fun x112 e113 => ?_)
      refine g_Vv (n := 1) (As := [.int x112]) (rest := []) (wr := []) hx hb hml hg hown hK hP hD hS hA (s_X4_push l D dA t0 x112 c0 c1 c2 i0 i1 i2 i3 i4 i5 i6 c3 i7 i8 i9 m0 m1 m2 m3 (by omega) (by omega) (by omega) (by omega) p6 _) [0, 1, 2, 3, 4] [] rfl (by decide) rfl (by decide) (by decide) 0 rfl rfl q1412 q159 q1409 q1411 q55 (by decide +kernel) ⟨(Nat.le_of_ble_eq_true rfl), (Nat.le_of_ble_eq_true rfl)⟩ rfl hl.1 rfl (Nat.le_of_ble_eq_true rfl) dX4_executeLow_18 ⟨(Nat.le_of_ble_eq_true rfl), (Nat.le_of_ble_eq_true rfl)⟩ (fun u114 H locs w116 hP hD hS => ?_)
      refine W.widen (k := 0) (n := 0) (Nat.le_of_ble_eq_true rfl) (Nat.le_of_ble_eq_true rfl) ?_
      obtain ⟨f117, f118⟩ := u114
      have hP : va_P D vwC [(t0, .inr (4, [.ref c0, .ref c1, .ref c2, .int i0, .int i1, .int i2, .int i3, .int i4, .int i5, .int i6, .ref c3, .int i7, .int i8, .int i9])), (c0, .inl (dA 0, 4096, .inl f117)), (c1, .inl (dA 0, 8, .inl f118)), (c2, .inl (dA 0, 4, .inl m2)), (c3, .inl (dA 0, 30, .inl m3))] H := hP
      have hD : va_D A [(t0, .inr (4, [.ref c0, .ref c1, .ref c2, .int i0, .int i1, .int i2, .int i3, .int i4, .int i5, .int i6, .ref c3, .int i7, .int i8, .int i9])), (c0, .inl (dA 0, 4096, .inl f117)), (c1, .inl (dA 0, 8, .inl f118)), (c2, .inl (dA 0, 4, .inl m2)), (c3, .inl (dA 0, 30, .inl m3))] := hD
      have g119 := w116
      have g119 : ∀ j : Nat, 0 ≤ (f117 j).toInt ∧ (f117 j).toInt ≤ 255 := g119
      refine lv_iconst (v := 3) hx hb dX4_executeLow_21 (by decide) ?_
      exact g_iret hx hb hr rfl hlocks hK (i0, i1, i2, i3, i7, i8, i9, f117, f118, m2) hP hD hS ⟨(show 0 ≤ ((3 : Int32)).toInt ∧ ((3 : Int32)).toInt ≤ 3 from by decide), (show 0 ≤ i7.toInt ∧ i7.toInt ≤ 7 from by omega), (show -1 ≤ i8.toInt ∧ i8.toInt ≤ 7 from by omega), g119⟩ (Nat.le_of_ble_eq_true rfl) (Nat.le_of_ble_eq_true rfl) dX4_executeLow_22
set_option maxHeartbeats 4000000 in
set_option maxRecDepth 100000 in
theorem s_X4_execute (l : Launch) (D : va_G) (dA : Nat → ClassId) (t0 : Nat) (a0 : Int32) (c0 : Nat) (c1 : Nat) (c2 : Nat) (i0 : Int32) (i1 : Int32) (i2 : Int32) (i3 : Int32) (i4 : Int32) (i5 : Int32) (i6 : Int32) (c3 : Nat) (i7 : Int32) (i8 : Int32) (i9 : Int32) (m0 : Nat → Int32) (m1 : Nat → Int32) (m2 : Nat → Int32) (m3 : Nat → Int32) (p0 : 0 ≤ a0.toInt ∧ a0.toInt ≤ 255) (p1 : 0 ≤ i4.toInt ∧ i4.toInt ≤ 1) (p2 : 0 ≤ i6.toInt ∧ i6.toInt ≤ 1000000) (p3 : 0 ≤ i7.toInt ∧ i7.toInt ≤ 7) (p4 : -1 ≤ i8.toInt ∧ i8.toInt ≤ 7) (p5 : ∀ j : Nat, 0 ≤ (m0 j).toInt ∧ (m0 j).toInt ≤ 255) (sz : Nat) : Met l yX4_execute (gws yX4_execute cX4_execute 2 (some .int)) (gR 5 0 0) (gPre D dA [.ref t0, .int a0] [(t0, .inr (4, [.ref c0, .ref c1, .ref c2, .int i0, .int i1, .int i2, .int i3, .int i4, .int i5, .int i6, .ref c3, .int i7, .int i8, .int i9])), (c0, .inl (dA 0, 4096, .inl m0)), (c1, .inl (dA 0, 8, .inl m1)), (c2, .inl (dA 0, 4, .inl m2)), (c3, .inl (dA 0, 30, .inl m3))] sz) (va_Qi (fun (r : Int32) (u : Int32 × Int32 × Int32 × Int32 × Int32 × Int32 × Int32 × Int32 × (Nat → Int32) × (Nat → Int32) × (Nat → Int32) × (Nat → Int32)) => (0 ≤ r.toInt ∧ r.toInt ≤ 3) ∧ (i6.toInt ≤ u.2.2.2.2.1.toInt ∧ u.2.2.2.2.1.toInt ≤ i6.toInt + 1) ∧ (0 ≤ u.2.2.2.2.2.1.toInt ∧ u.2.2.2.2.2.1.toInt ≤ 7) ∧ (-1 ≤ u.2.2.2.2.2.2.1.toInt ∧ u.2.2.2.2.2.2.1.toInt ≤ 7) ∧ (∀ j : Nat, 0 ≤ (u.2.2.2.2.2.2.2.2.1 j).toInt ∧ (u.2.2.2.2.2.2.2.2.1 j).toInt ≤ 255)) (gAt D dA (va_A [(t0, .inr (4, [.ref c0, .ref c1, .ref c2, .int i0, .int i1, .int i2, .int i3, .int i4, .int i5, .int i6, .ref c3, .int i7, .int i8, .int i9])), (c0, .inl (dA 0, 4096, .inl m0)), (c1, .inl (dA 0, 8, .inl m1)), (c2, .inl (dA 0, 4, .inl m2)), (c3, .inl (dA 0, 30, .inl m3))] sz) (fun u : Int32 × Int32 × Int32 × Int32 × Int32 × Int32 × Int32 × Int32 × (Nat → Int32) × (Nat → Int32) × (Nat → Int32) × (Nat → Int32) => [(t0, .inr (4, [.ref c0, .ref c1, .ref c2, .int u.1, .int u.2.1, .int u.2.2.1, .int u.2.2.2.1, .int i4, .int i5, .int u.2.2.2.2.1, .ref c3, .int u.2.2.2.2.2.1, .int u.2.2.2.2.2.2.1, .int u.2.2.2.2.2.2.2.1])), (c0, .inl (dA 0, 4096, .inl (u.2.2.2.2.2.2.2.2.1))), (c1, .inl (dA 0, 8, .inl (u.2.2.2.2.2.2.2.2.2.1))), (c2, .inl (dA 0, 4, .inl (u.2.2.2.2.2.2.2.2.2.2.1))), (c3, .inl (dA 0, 30, .inl (u.2.2.2.2.2.2.2.2.2.2.2)))])) (va_A [(t0, .inr (4, [.ref c0, .ref c1, .ref c2, .int i0, .int i1, .int i2, .int i3, .int i4, .int i5, .int i6, .ref c3, .int i7, .int i8, .int i9])), (c0, .inl (dA 0, 4096, .inl m0)), (c1, .inl (dA 0, 8, .inl m1)), (c2, .inl (dA 0, 4, .inl m2)), (c3, .inl (dA 0, 30, .inl m3))] sz)) 0 0 (va_A [(t0, .inr (4, [.ref c0, .ref c1, .ref c2, .int i0, .int i1, .int i2, .int i3, .int i4, .int i5, .int i6, .ref c3, .int i7, .int i8, .int i9])), (c0, .inl (dA 0, 4096, .inl m0)), (c1, .inl (dA 0, 8, .inl m1)), (c2, .inl (dA 0, 4, .inl m2)), (c3, .inl (dA 0, 30, .inl m3))] sz) := by
  refine Met.ofW (cc := cX4_execute) (maxL := 2) (ret := (some .int)) (by decide) rfl ?_
  intro p e s m args below meth c s₁ B hml hv
  obtain ⟨rfl, hsz, hP, hK, hD0⟩ := hv
  have hx := B.exec
  have hb := B.bytes
  have hr := B.returns
  have hts := atoms_spec (ws := gws yX4_execute cX4_execute 2 (some .int)) B.pre
  have hg : ∀ w ∈ gw, w.before _ s = true := fun w h => hts w (List.mem_cons_of_mem _ h)
  have hown : s.vm.findClass RX4 = some m.cls := findClass_of_methodNamed B.named
  have hlocks := B.notSynchronized
  subst hsz
  have hD := hD0.self (sz := s.heap.size)
  generalize hAe : va_A [(t0, .inr (4, [.ref c0, .ref c1, .ref c2, .int i0, .int i1, .int i2, .int i3, .int i4, .int i5, .int i6, .ref c3, .int i7, .int i8, .int i9])), (c0, .inl (dA 0, 4096, .inl m0)), (c1, .inl (dA 0, 8, .inl m1)), (c2, .inl (dA 0, 4, .inl m2)), (c3, .inl (dA 0, 30, .inl m3))] s.heap.size = A at hD ⊢
  have hA : ∀ q : Nat, s.heap.size ≤ q → A q := fun q h => by rw [← hAe]; exact Or.inr h
  have hS : va_S A s.heap s.heap [] := va_S.rf
  have hP : va_P D vwC [(t0, .inr (4, [.ref c0, .ref c1, .ref c2, .int i0, .int i1, .int i2, .int i3, .int i4, .int i5, .int i6, .ref c3, .int i7, .int i8, .int i9])), (c0, .inl (dA 0, 4096, .inl m0)), (c1, .inl (dA 0, 8, .inl m1)), (c2, .inl (dA 0, 4, .inl m2)), (c3, .inl (dA 0, 30, .inl m3))] s.heap := hP
  have hl := lv_entry ([.ref t0, .int a0]) (n := 2) (Nat.le_of_ble_eq_true rfl)
  rw [lg_entry_eq]
  generalize (lg_sl ([.ref t0, .int a0]) ++ List.replicate (2 - (lg_sl ([.ref t0, .int a0])).length) Slot.unset).toArray = ls at hl ⊢
  have hl : lv_has ls 2 [(0, .ref t0), (1, .int a0)] := hl
  refine lv_iload_n hx hb dX4_execute_0 rfl (lv_at hl 1 rfl) ?_
  refine lv_bipush (v := 64) hx hb dX4_execute_1 (by decide) ?_
  refine lv_icmp_ge (tgt := 18) hx hb dX4_execute_3 (by decide) (fun k1 => ?_) (fun k1 => ?_)
  · have g2 : 64 ≤ a0.toInt := gi_le (by decide : (64 : Int32).toInt = 64) (rfl : a0.toInt = a0.toInt) k1
    refine lv_iload_n hx hb dX4_execute_18 rfl (lv_at hl 1 rfl) ?_
    refine lv_bipush (v := 96) hx hb dX4_execute_19 (by decide) ?_
    refine lv_icmp_ge (tgt := 36) hx hb dX4_execute_21 (by decide) (fun k3 => ?_) (fun k3 => ?_)
    · have g4 : 96 ≤ a0.toInt := gi_le (by decide : (96 : Int32).toInt = 96) (rfl : a0.toInt = a0.toInt) k3
      refine lv_iload_n hx hb dX4_execute_36 rfl (lv_at hl 1 rfl) ?_
      refine lv_bipush (v := 114) hx hb dX4_execute_37 (by decide) ?_
      refine lv_icmp_lt (tgt := 54) hx hb dX4_execute_39 (by decide) (fun k5 => ?_) (fun k5 => ?_)
      · have g6 : a0.toInt < 114 := gi_lt (rfl : a0.toInt = a0.toInt) (by decide : (114 : Int32).toInt = 114) k5
        refine lv_iload_n hx hb dX4_execute_54 rfl (lv_at hl 1 rfl) ?_
        refine lv_sipush (v := 184) hx hb dX4_execute_55 (by decide) ?_
        refine lv_icmp_lt (tgt := 84) hx hb dX4_execute_58 (by decide) (fun k7 => ?_) (fun k7 => ?_)
        · have g8 : a0.toInt < 184 := gi_lt (rfl : a0.toInt = a0.toInt) (by decide : (184 : Int32).toInt = 184) k7
          refine lv_iload_n hx hb dX4_execute_84 rfl (lv_at hl 1 rfl) ?_
          have s9 : ¬ a0 = 129 := fun h => by have h2 := congrArg Int32.toInt h; rw [show (129 : Int32).toInt = 129 from by decide] at h2; omega
          have s10 : ¬ a0 = 137 := fun h => by have h2 := congrArg Int32.toInt h; rw [show (137 : Int32).toInt = 137 from by decide] at h2; omega
          have s11 : ¬ a0 = 139 := fun h => by have h2 := congrArg Int32.toInt h; rw [show (139 : Int32).toInt = 139 from by decide] at h2; omega
          have s12 : ¬ a0 = 140 := fun h => by have h2 := congrArg Int32.toInt h; rw [show (140 : Int32).toInt = 140 from by decide] at h2; omega
          have s13 : ¬ a0 = 142 := fun h => by have h2 := congrArg Int32.toInt h; rw [show (142 : Int32).toInt = 142 from by decide] at h2; omega
          have s14 : ¬ a0 = 199 := fun h => by have h2 := congrArg Int32.toInt h; rw [show (199 : Int32).toInt = 199 from by decide] at h2; omega
          have s15 : ¬ a0 = 209 := fun h => by have h2 := congrArg Int32.toInt h; rw [show (209 : Int32).toInt = 209 from by decide] at h2; omega
          have s16 : ¬ a0 = 247 := fun h => by have h2 := congrArg Int32.toInt h; rw [show (247 : Int32).toInt = 247 from by decide] at h2; omega
          have g17 : a0.toInt ≠ 129 := lv_neT s9 (by decide)
          have g18 : a0.toInt ≠ 137 := lv_neT s10 (by decide)
          have g19 : a0.toInt ≠ 139 := lv_neT s11 (by decide)
          have g20 : a0.toInt ≠ 140 := lv_neT s12 (by decide)
          have g21 : a0.toInt ≠ 142 := lv_neT s13 (by decide)
          have g22 : a0.toInt ≠ 199 := lv_neT s14 (by decide)
          have g23 : a0.toInt ≠ 209 := lv_neT s15 (by decide)
          have g24 : a0.toInt ≠ 247 := lv_neT s16 (by decide)
          refine lv_lookup (off := 85) (tgt := 170) hx hb dX4_execute_85 (by decide) (by exact (lv_osw s9 (by decide)).trans ((lv_osw s10 (by decide)).trans ((lv_osw s11 (by decide)).trans ((lv_osw s12 (by decide)).trans ((lv_osw s13 (by decide)).trans ((lv_osw s14 (by decide)).trans ((lv_osw s15 (by decide)).trans ((lv_osw s16 (by decide)).trans (rfl))))))))) (by decide) ?_
          refine lv_aload_n hx hb dX4_execute_170 rfl (lv_at hl 0 rfl) ?_
          refine lv_iload_n hx hb dX4_execute_171 rfl (lv_at hl 1 rfl) ?_
          refine g_Vi (n := 1) (As := [.int a0]) (rest := []) (wr := []) hx hb hml hg hown hK hP hD hS hA (s_X4_executeFlow l D dA t0 a0 c0 c1 c2 i0 i1 i2 i3 i4 i5 i6 c3 i7 i8 i9 m0 m1 m2 m3 (by omega) (by omega) (by omega) (by omega) p5 _) [0, 1, 2, 3, 4] [] rfl (by decide) rfl (by decide) (by decide) 0 rfl rfl q1489 q159 q1486 q1488 q73 (by decide +kernel) ⟨(Nat.le_of_ble_eq_true rfl), (Nat.le_of_ble_eq_true rfl)⟩ rfl hl.1 rfl (Nat.le_of_ble_eq_true rfl) dX4_execute_172 ⟨(Nat.le_of_ble_eq_true rfl), (Nat.le_of_ble_eq_true rfl)⟩ (fun x26 u25 H locs w27 hP hD hS => ?_)
          refine W.widen (k := 0) (n := 0) (Nat.le_of_ble_eq_true rfl) (Nat.le_of_ble_eq_true rfl) ?_
          obtain ⟨x28, x29, f30, f31, f32, f33⟩ := u25
          have hP : va_P D vwC [(t0, .inr (4, [.ref c0, .ref c1, .ref c2, .int x28, .int i1, .int i2, .int i3, .int i4, .int i5, .int x29, .ref c3, .int i7, .int i8, .int i9])), (c0, .inl (dA 0, 4096, .inl f30)), (c1, .inl (dA 0, 8, .inl f31)), (c2, .inl (dA 0, 4, .inl f32)), (c3, .inl (dA 0, 30, .inl f33))] H := hP
          have hD : va_D A [(t0, .inr (4, [.ref c0, .ref c1, .ref c2, .int x28, .int i1, .int i2, .int i3, .int i4, .int i5, .int x29, .ref c3, .int i7, .int i8, .int i9])), (c0, .inl (dA 0, 4096, .inl f30)), (c1, .inl (dA 0, 8, .inl f31)), (c2, .inl (dA 0, 4, .inl f32)), (c3, .inl (dA 0, 30, .inl f33))] := hD
          obtain ⟨g34, g35, g36⟩ := w27
          have g34 : 0 ≤ x26.toInt ∧ x26.toInt ≤ 3 := g34
          have g35 : i6.toInt ≤ x29.toInt ∧ x29.toInt ≤ i6.toInt + 1 := g35
          have g36 : ∀ j : Nat, 0 ≤ (f30 j).toInt ∧ (f30 j).toInt ≤ 255 := g36
          exact g_iret hx hb hr rfl hlocks hK (x28, i1, i2, i3, x29, i7, i8, i9, f30, f31, f32, f33) hP hD hS ⟨(show 0 ≤ x26.toInt ∧ x26.toInt ≤ 3 from by omega), (show i6.toInt ≤ x29.toInt ∧ x29.toInt ≤ i6.toInt + 1 from by omega), (show 0 ≤ i7.toInt ∧ i7.toInt ≤ 7 from by omega), (show -1 ≤ i8.toInt ∧ i8.toInt ≤ 7 from by omega), g36⟩ (Nat.le_of_ble_eq_true rfl) (Nat.le_of_ble_eq_true rfl) dX4_execute_175
        · have g37 : a0.toInt ≥ 184 := gi_nlt (rfl : a0.toInt = a0.toInt) (by decide : (184 : Int32).toInt = 184) k7
          exfalso; omega
      · have g38 : a0.toInt ≥ 114 := gi_nlt (rfl : a0.toInt = a0.toInt) (by decide : (114 : Int32).toInt = 114) k5
        refine lv_iload_n hx hb dX4_execute_42 rfl (lv_at hl 1 rfl) ?_
        refine lv_bipush (v := 121) hx hb dX4_execute_43 (by decide) ?_
        refine lv_icmp_gt (tgt := 54) hx hb dX4_execute_45 (by decide) (fun k39 => ?_) (fun k39 => ?_)
        · have g40 : 121 < a0.toInt := gi_lt (by decide : (121 : Int32).toInt = 121) (rfl : a0.toInt = a0.toInt) k39
          refine lv_iload_n hx hb dX4_execute_54 rfl (lv_at hl 1 rfl) ?_
          refine lv_sipush (v := 184) hx hb dX4_execute_55 (by decide) ?_
          refine lv_icmp_lt (tgt := 84) hx hb dX4_execute_58 (by decide) (fun k41 => ?_) (fun k41 => ?_)
          · have g42 : a0.toInt < 184 := gi_lt (rfl : a0.toInt = a0.toInt) (by decide : (184 : Int32).toInt = 184) k41
            refine lv_iload_n hx hb dX4_execute_84 rfl (lv_at hl 1 rfl) ?_
            by_cases s43 : a0 = 129
            · have g44 : a0.toInt = 129 := by rw [s43]; decide
              refine lv_lookup (off := 75) (tgt := 160) hx hb dX4_execute_85 (by decide) (by rw [s43] <;> rfl) (by decide) ?_
              refine lv_aload_n hx hb dX4_execute_160 rfl (lv_at hl 0 rfl) ?_
              refine g_Vv (n := 0) (As := []) (rest := []) (wr := []) hx hb hml hg hown hK hP hD hS hA (s_X4_fetchM l D dA t0 c0 c1 c2 i0 i1 i2 i3 i4 i5 i6 c3 i7 i8 i9 m0 m1 m2 m3 (by omega) (by omega) (by omega) (by omega) p5 _) [0, 1, 2, 3, 4] [] rfl (by decide) rfl (by decide) (by decide) 0 rfl rfl q1423 q159 q1420 q1422 q57 (by decide +kernel) ⟨(Nat.le_of_ble_eq_true rfl), (Nat.le_of_ble_eq_true rfl)⟩ rfl hl.1 rfl (Nat.le_of_ble_eq_true rfl) dX4_execute_161 ⟨(Nat.le_of_ble_eq_true rfl), (Nat.le_of_ble_eq_true rfl)⟩ (fun u45 H locs w47 hP hD hS => ?_)
              refine W.widen (k := 0) (n := 0) (Nat.le_of_ble_eq_true rfl) (Nat.le_of_ble_eq_true rfl) ?_
              obtain ⟨x48, x49, x50, x51⟩ := u45
              have hP : va_P D vwC [(t0, .inr (4, [.ref c0, .ref c1, .ref c2, .int x48, .int i1, .int i2, .int i3, .int i4, .int i5, .int i6, .ref c3, .int x49, .int x50, .int x51])), (c0, .inl (dA 0, 4096, .inl m0)), (c1, .inl (dA 0, 8, .inl m1)), (c2, .inl (dA 0, 4, .inl m2)), (c3, .inl (dA 0, 30, .inl m3))] H := hP
              have hD : va_D A [(t0, .inr (4, [.ref c0, .ref c1, .ref c2, .int x48, .int i1, .int i2, .int i3, .int i4, .int i5, .int i6, .ref c3, .int x49, .int x50, .int x51])), (c0, .inl (dA 0, 4096, .inl m0)), (c1, .inl (dA 0, 8, .inl m1)), (c2, .inl (dA 0, 4, .inl m2)), (c3, .inl (dA 0, 30, .inl m3))] := hD
              obtain ⟨g52, g53⟩ := w47
              have g52 : 0 ≤ x49.toInt ∧ x49.toInt ≤ 7 := g52
              have g53 : -1 ≤ x50.toInt ∧ x50.toInt ≤ 7 := g53
              refine lv_aload_n hx hb dX4_execute_164 rfl (lv_at hl 0 rfl) ?_
              refine lv_iload_n hx hb dX4_execute_165 rfl (lv_at hl 1 rfl) ?_
              refine g_Vi (n := 1) (As := [.int a0]) (rest := []) (wr := []) hx hb hml hg hown hK hP hD hS hA (s_X4_executeM l D dA t0 a0 c0 c1 c2 x48 i1 i2 i3 i4 i5 i6 c3 x49 x50 x51 m0 m1 m2 m3 (by omega) (by omega) (by omega) (by omega) p5 _) [0, 1, 2, 3, 4] [] rfl (by decide) rfl (by decide) (by decide) 0 rfl rfl q1471 q159 q1468 q1470 q69 (by decide +kernel) ⟨(Nat.le_of_ble_eq_true rfl), (Nat.le_of_ble_eq_true rfl)⟩ rfl hl.1 rfl (Nat.le_of_ble_eq_true rfl) dX4_execute_166 ⟨(Nat.le_of_ble_eq_true rfl), (Nat.le_of_ble_eq_true rfl)⟩ (fun x55 u54 H locs w56 hP hD hS => ?_)
              refine W.widen (k := 0) (n := 0) (Nat.le_of_ble_eq_true rfl) (Nat.le_of_ble_eq_true rfl) ?_
              obtain ⟨x57, x58, x59, x60, f61, f62, f63⟩ := u54
              have hP : va_P D vwC [(t0, .inr (4, [.ref c0, .ref c1, .ref c2, .int x57, .int x58, .int x59, .int x60, .int i4, .int i5, .int i6, .ref c3, .int x49, .int x50, .int x51])), (c0, .inl (dA 0, 4096, .inl f61)), (c1, .inl (dA 0, 8, .inl f62)), (c2, .inl (dA 0, 4, .inl f63)), (c3, .inl (dA 0, 30, .inl m3))] H := hP
              have hD : va_D A [(t0, .inr (4, [.ref c0, .ref c1, .ref c2, .int x57, .int x58, .int x59, .int x60, .int i4, .int i5, .int i6, .ref c3, .int x49, .int x50, .int x51])), (c0, .inl (dA 0, 4096, .inl f61)), (c1, .inl (dA 0, 8, .inl f62)), (c2, .inl (dA 0, 4, .inl f63)), (c3, .inl (dA 0, 30, .inl m3))] := hD
              obtain ⟨g64, g65⟩ := w56
              have g64 : 0 ≤ x55.toInt ∧ x55.toInt ≤ 3 := g64
              have g65 : ∀ j : Nat, 0 ≤ (f61 j).toInt ∧ (f61 j).toInt ≤ 255 := g65
              exact g_iret hx hb hr rfl hlocks hK (x57, x58, x59, x60, i6, x49, x50, x51, f61, f62, f63, m3) hP hD hS ⟨(show 0 ≤ x55.toInt ∧ x55.toInt ≤ 3 from by omega), (show i6.toInt ≤ i6.toInt ∧ i6.toInt ≤ i6.toInt + 1 from by omega), (show 0 ≤ x49.toInt ∧ x49.toInt ≤ 7 from by omega), (show -1 ≤ x50.toInt ∧ x50.toInt ≤ 7 from by omega), g65⟩ (Nat.le_of_ble_eq_true rfl) (Nat.le_of_ble_eq_true rfl) dX4_execute_169
            by_cases s66 : a0 = 137
            · have g67 : a0.toInt = 137 := by rw [s66]; decide
              refine lv_lookup (off := 75) (tgt := 160) hx hb dX4_execute_85 (by decide) (by rw [s66] <;> rfl) (by decide) ?_
              refine lv_aload_n hx hb dX4_execute_160 rfl (lv_at hl 0 rfl) ?_
              refine g_Vv (n := 0) (As := []) (rest := []) (wr := []) hx hb hml hg hown hK hP hD hS hA (s_X4_fetchM l D dA t0 c0 c1 c2 i0 i1 i2 i3 i4 i5 i6 c3 i7 i8 i9 m0 m1 m2 m3 (by omega) (by omega) (by omega) (by omega) p5 _) [0, 1, 2, 3, 4] [] rfl (by decide) rfl (by decide) (by decide) 0 rfl rfl q1423 q159 q1420 q1422 q57 (by decide +kernel) ⟨(Nat.le_of_ble_eq_true rfl), (Nat.le_of_ble_eq_true rfl)⟩ rfl hl.1 rfl (Nat.le_of_ble_eq_true rfl) dX4_execute_161 ⟨(Nat.le_of_ble_eq_true rfl), (Nat.le_of_ble_eq_true rfl)⟩ (fun u68 H locs w70 hP hD hS => ?_)
              refine W.widen (k := 0) (n := 0) (Nat.le_of_ble_eq_true rfl) (Nat.le_of_ble_eq_true rfl) ?_
              obtain ⟨x71, x72, x73, x74⟩ := u68
              have hP : va_P D vwC [(t0, .inr (4, [.ref c0, .ref c1, .ref c2, .int x71, .int i1, .int i2, .int i3, .int i4, .int i5, .int i6, .ref c3, .int x72, .int x73, .int x74])), (c0, .inl (dA 0, 4096, .inl m0)), (c1, .inl (dA 0, 8, .inl m1)), (c2, .inl (dA 0, 4, .inl m2)), (c3, .inl (dA 0, 30, .inl m3))] H := hP
              have hD : va_D A [(t0, .inr (4, [.ref c0, .ref c1, .ref c2, .int x71, .int i1, .int i2, .int i3, .int i4, .int i5, .int i6, .ref c3, .int x72, .int x73, .int x74])), (c0, .inl (dA 0, 4096, .inl m0)), (c1, .inl (dA 0, 8, .inl m1)), (c2, .inl (dA 0, 4, .inl m2)), (c3, .inl (dA 0, 30, .inl m3))] := hD
              obtain ⟨g75, g76⟩ := w70
              have g75 : 0 ≤ x72.toInt ∧ x72.toInt ≤ 7 := g75
              have g76 : -1 ≤ x73.toInt ∧ x73.toInt ≤ 7 := g76
              refine lv_aload_n hx hb dX4_execute_164 rfl (lv_at hl 0 rfl) ?_
              refine lv_iload_n hx hb dX4_execute_165 rfl (lv_at hl 1 rfl) ?_
              refine g_Vi (n := 1) (As := [.int a0]) (rest := []) (wr := []) hx hb hml hg hown hK hP hD hS hA (s_X4_executeM l D dA t0 a0 c0 c1 c2 x71 i1 i2 i3 i4 i5 i6 c3 x72 x73 x74 m0 m1 m2 m3 (by omega) (by omega) (by omega) (by omega) p5 _) [0, 1, 2, 3, 4] [] rfl (by decide) rfl (by decide) (by decide) 0 rfl rfl q1471 q159 q1468 q1470 q69 (by decide +kernel) ⟨(Nat.le_of_ble_eq_true rfl), (Nat.le_of_ble_eq_true rfl)⟩ rfl hl.1 rfl (Nat.le_of_ble_eq_true rfl) dX4_execute_166 ⟨(Nat.le_of_ble_eq_true rfl), (Nat.le_of_ble_eq_true rfl)⟩ (fun x78 u77 H locs w79 hP hD hS => ?_)
              refine W.widen (k := 0) (n := 0) (Nat.le_of_ble_eq_true rfl) (Nat.le_of_ble_eq_true rfl) ?_
              obtain ⟨x80, x81, x82, x83, f84, f85, f86⟩ := u77
              have hP : va_P D vwC [(t0, .inr (4, [.ref c0, .ref c1, .ref c2, .int x80, .int x81, .int x82, .int x83, .int i4, .int i5, .int i6, .ref c3, .int x72, .int x73, .int x74])), (c0, .inl (dA 0, 4096, .inl f84)), (c1, .inl (dA 0, 8, .inl f85)), (c2, .inl (dA 0, 4, .inl f86)), (c3, .inl (dA 0, 30, .inl m3))] H := hP
              have hD : va_D A [(t0, .inr (4, [.ref c0, .ref c1, .ref c2, .int x80, .int x81, .int x82, .int x83, .int i4, .int i5, .int i6, .ref c3, .int x72, .int x73, .int x74])), (c0, .inl (dA 0, 4096, .inl f84)), (c1, .inl (dA 0, 8, .inl f85)), (c2, .inl (dA 0, 4, .inl f86)), (c3, .inl (dA 0, 30, .inl m3))] := hD
              obtain ⟨g87, g88⟩ := w79
              have g87 : 0 ≤ x78.toInt ∧ x78.toInt ≤ 3 := g87
              have g88 : ∀ j : Nat, 0 ≤ (f84 j).toInt ∧ (f84 j).toInt ≤ 255 := g88
              exact g_iret hx hb hr rfl hlocks hK (x80, x81, x82, x83, i6, x72, x73, x74, f84, f85, f86, m3) hP hD hS ⟨(show 0 ≤ x78.toInt ∧ x78.toInt ≤ 3 from by omega), (show i6.toInt ≤ i6.toInt ∧ i6.toInt ≤ i6.toInt + 1 from by omega), (show 0 ≤ x72.toInt ∧ x72.toInt ≤ 7 from by omega), (show -1 ≤ x73.toInt ∧ x73.toInt ≤ 7 from by omega), g88⟩ (Nat.le_of_ble_eq_true rfl) (Nat.le_of_ble_eq_true rfl) dX4_execute_169
            by_cases s89 : a0 = 139
            · have g90 : a0.toInt = 139 := by rw [s89]; decide
              refine lv_lookup (off := 75) (tgt := 160) hx hb dX4_execute_85 (by decide) (by rw [s89] <;> rfl) (by decide) ?_
              refine lv_aload_n hx hb dX4_execute_160 rfl (lv_at hl 0 rfl) ?_
              refine g_Vv (n := 0) (As := []) (rest := []) (wr := []) hx hb hml hg hown hK hP hD hS hA (s_X4_fetchM l D dA t0 c0 c1 c2 i0 i1 i2 i3 i4 i5 i6 c3 i7 i8 i9 m0 m1 m2 m3 (by omega) (by omega) (by omega) (by omega) p5 _) [0, 1, 2, 3, 4] [] rfl (by decide) rfl (by decide) (by decide) 0 rfl rfl q1423 q159 q1420 q1422 q57 (by decide +kernel) ⟨(Nat.le_of_ble_eq_true rfl), (Nat.le_of_ble_eq_true rfl)⟩ rfl hl.1 rfl (Nat.le_of_ble_eq_true rfl) dX4_execute_161 ⟨(Nat.le_of_ble_eq_true rfl), (Nat.le_of_ble_eq_true rfl)⟩ (fun u91 H locs w93 hP hD hS => ?_)
              refine W.widen (k := 0) (n := 0) (Nat.le_of_ble_eq_true rfl) (Nat.le_of_ble_eq_true rfl) ?_
              obtain ⟨x94, x95, x96, x97⟩ := u91
              have hP : va_P D vwC [(t0, .inr (4, [.ref c0, .ref c1, .ref c2, .int x94, .int i1, .int i2, .int i3, .int i4, .int i5, .int i6, .ref c3, .int x95, .int x96, .int x97])), (c0, .inl (dA 0, 4096, .inl m0)), (c1, .inl (dA 0, 8, .inl m1)), (c2, .inl (dA 0, 4, .inl m2)), (c3, .inl (dA 0, 30, .inl m3))] H := hP
              have hD : va_D A [(t0, .inr (4, [.ref c0, .ref c1, .ref c2, .int x94, .int i1, .int i2, .int i3, .int i4, .int i5, .int i6, .ref c3, .int x95, .int x96, .int x97])), (c0, .inl (dA 0, 4096, .inl m0)), (c1, .inl (dA 0, 8, .inl m1)), (c2, .inl (dA 0, 4, .inl m2)), (c3, .inl (dA 0, 30, .inl m3))] := hD
              obtain ⟨g98, g99⟩ := w93
              have g98 : 0 ≤ x95.toInt ∧ x95.toInt ≤ 7 := g98
              have g99 : -1 ≤ x96.toInt ∧ x96.toInt ≤ 7 := g99
              refine lv_aload_n hx hb dX4_execute_164 rfl (lv_at hl 0 rfl) ?_
              refine lv_iload_n hx hb dX4_execute_165 rfl (lv_at hl 1 rfl) ?_
              refine g_Vi (n := 1) (As := [.int a0]) (rest := []) (wr := []) hx hb hml hg hown hK hP hD hS hA (s_X4_executeM l D dA t0 a0 c0 c1 c2 x94 i1 i2 i3 i4 i5 i6 c3 x95 x96 x97 m0 m1 m2 m3 (by omega) (by omega) (by omega) (by omega) p5 _) [0, 1, 2, 3, 4] [] rfl (by decide) rfl (by decide) (by decide) 0 rfl rfl q1471 q159 q1468 q1470 q69 (by decide +kernel) ⟨(Nat.le_of_ble_eq_true rfl), (Nat.le_of_ble_eq_true rfl)⟩ rfl hl.1 rfl (Nat.le_of_ble_eq_true rfl) dX4_execute_166 ⟨(Nat.le_of_ble_eq_true rfl), (Nat.le_of_ble_eq_true rfl)⟩ (fun x101 u100 H locs w102 hP hD hS => ?_)
              refine W.widen (k := 0) (n := 0) (Nat.le_of_ble_eq_true rfl) (Nat.le_of_ble_eq_true rfl) ?_
              obtain ⟨x103, x104, x105, x106, f107, f108, f109⟩ := u100
              have hP : va_P D vwC [(t0, .inr (4, [.ref c0, .ref c1, .ref c2, .int x103, .int x104, .int x105, .int x106, .int i4, .int i5, .int i6, .ref c3, .int x95, .int x96, .int x97])), (c0, .inl (dA 0, 4096, .inl f107)), (c1, .inl (dA 0, 8, .inl f108)), (c2, .inl (dA 0, 4, .inl f109)), (c3, .inl (dA 0, 30, .inl m3))] H := hP
              have hD : va_D A [(t0, .inr (4, [.ref c0, .ref c1, .ref c2, .int x103, .int x104, .int x105, .int x106, .int i4, .int i5, .int i6, .ref c3, .int x95, .int x96, .int x97])), (c0, .inl (dA 0, 4096, .inl f107)), (c1, .inl (dA 0, 8, .inl f108)), (c2, .inl (dA 0, 4, .inl f109)), (c3, .inl (dA 0, 30, .inl m3))] := hD
              obtain ⟨g110, g111⟩ := w102
              have g110 : 0 ≤ x101.toInt ∧ x101.toInt ≤ 3 := g110
              have g111 : ∀ j : Nat, 0 ≤ (f107 j).toInt ∧ (f107 j).toInt ≤ 255 := g111
              exact g_iret hx hb hr rfl hlocks hK (x103, x104, x105, x106, i6, x95, x96, x97, f107, f108, f109, m3) hP hD hS ⟨(show 0 ≤ x101.toInt ∧ x101.toInt ≤ 3 from by omega), (show i6.toInt ≤ i6.toInt ∧ i6.toInt ≤ i6.toInt + 1 from by omega), (show 0 ≤ x95.toInt ∧ x95.toInt ≤ 7 from by omega), (show -1 ≤ x96.toInt ∧ x96.toInt ≤ 7 from by omega), g111⟩ (Nat.le_of_ble_eq_true rfl) (Nat.le_of_ble_eq_true rfl) dX4_execute_169
            by_cases s112 : a0 = 140
            · have g113 : a0.toInt = 140 := by rw [s112]; decide
              refine lv_lookup (off := 75) (tgt := 160) hx hb dX4_execute_85 (by decide) (by rw [s112] <;> rfl) (by decide) ?_
              refine lv_aload_n hx hb dX4_execute_160 rfl (lv_at hl 0 rfl) ?_
              refine g_Vv (n := 0) (As := []) (rest := []) (wr := []) hx hb hml hg hown hK hP hD hS hA (s_X4_fetchM l D dA t0 c0 c1 c2 i0 i1 i2 i3 i4 i5 i6 c3 i7 i8 i9 m0 m1 m2 m3 (by omega) (by omega) (by omega) (by omega) p5 _) [0, 1, 2, 3, 4] [] rfl (by decide) rfl (by decide) (by decide) 0 rfl rfl q1423 q159 q1420 q1422 q57 (by decide +kernel) ⟨(Nat.le_of_ble_eq_true rfl), (Nat.le_of_ble_eq_true rfl)⟩ rfl hl.1 rfl (Nat.le_of_ble_eq_true rfl) dX4_execute_161 ⟨(Nat.le_of_ble_eq_true rfl), (Nat.le_of_ble_eq_true rfl)⟩ (fun u114 H locs w116 hP hD hS => ?_)
              refine W.widen (k := 0) (n := 0) (Nat.le_of_ble_eq_true rfl) (Nat.le_of_ble_eq_true rfl) ?_
              obtain ⟨x117, x118, x119, x120⟩ := u114
              have hP : va_P D vwC [(t0, .inr (4, [.ref c0, .ref c1, .ref c2, .int x117, .int i1, .int i2, .int i3, .int i4, .int i5, .int i6, .ref c3, .int x118, .int x119, .int x120])), (c0, .inl (dA 0, 4096, .inl m0)), (c1, .inl (dA 0, 8, .inl m1)), (c2, .inl (dA 0, 4, .inl m2)), (c3, .inl (dA 0, 30, .inl m3))] H := hP
              have hD : va_D A [(t0, .inr (4, [.ref c0, .ref c1, .ref c2, .int x117, .int i1, .int i2, .int i3, .int i4, .int i5, .int i6, .ref c3, .int x118, .int x119, .int x120])), (c0, .inl (dA 0, 4096, .inl m0)), (c1, .inl (dA 0, 8, .inl m1)), (c2, .inl (dA 0, 4, .inl m2)), (c3, .inl (dA 0, 30, .inl m3))] := hD
              obtain ⟨g121, g122⟩ := w116
              have g121 : 0 ≤ x118.toInt ∧ x118.toInt ≤ 7 := g121
              have g122 : -1 ≤ x119.toInt ∧ x119.toInt ≤ 7 := g122
              refine lv_aload_n hx hb dX4_execute_164 rfl (lv_at hl 0 rfl) ?_
              refine lv_iload_n hx hb dX4_execute_165 rfl (lv_at hl 1 rfl) ?_
              refine g_Vi (n := 1) (As := [.int a0]) (rest := []) (wr := []) hx hb hml hg hown hK hP hD hS hA (s_X4_executeM l D dA t0 a0 c0 c1 c2 x117 i1 i2 i3 i4 i5 i6 c3 x118 x119 x120 m0 m1 m2 m3 (by omega) (by omega) (by omega) (by omega) p5 _) [0, 1, 2, 3, 4] [] rfl (by decide) rfl (by decide) (by decide) 0 rfl rfl q1471 q159 q1468 q1470 q69 (by decide +kernel) ⟨(Nat.le_of_ble_eq_true rfl), (Nat.le_of_ble_eq_true rfl)⟩ rfl hl.1 rfl (Nat.le_of_ble_eq_true rfl) dX4_execute_166 ⟨(Nat.le_of_ble_eq_true rfl), (Nat.le_of_ble_eq_true rfl)⟩ (fun x124 u123 H locs w125 hP hD hS => ?_)
              refine W.widen (k := 0) (n := 0) (Nat.le_of_ble_eq_true rfl) (Nat.le_of_ble_eq_true rfl) ?_
              obtain ⟨x126, x127, x128, x129, f130, f131, f132⟩ := u123
              have hP : va_P D vwC [(t0, .inr (4, [.ref c0, .ref c1, .ref c2, .int x126, .int x127, .int x128, .int x129, .int i4, .int i5, .int i6, .ref c3, .int x118, .int x119, .int x120])), (c0, .inl (dA 0, 4096, .inl f130)), (c1, .inl (dA 0, 8, .inl f131)), (c2, .inl (dA 0, 4, .inl f132)), (c3, .inl (dA 0, 30, .inl m3))] H := hP
              have hD : va_D A [(t0, .inr (4, [.ref c0, .ref c1, .ref c2, .int x126, .int x127, .int x128, .int x129, .int i4, .int i5, .int i6, .ref c3, .int x118, .int x119, .int x120])), (c0, .inl (dA 0, 4096, .inl f130)), (c1, .inl (dA 0, 8, .inl f131)), (c2, .inl (dA 0, 4, .inl f132)), (c3, .inl (dA 0, 30, .inl m3))] := hD
              obtain ⟨g133, g134⟩ := w125
              have g133 : 0 ≤ x124.toInt ∧ x124.toInt ≤ 3 := g133
              have g134 : ∀ j : Nat, 0 ≤ (f130 j).toInt ∧ (f130 j).toInt ≤ 255 := g134
              exact g_iret hx hb hr rfl hlocks hK (x126, x127, x128, x129, i6, x118, x119, x120, f130, f131, f132, m3) hP hD hS ⟨(show 0 ≤ x124.toInt ∧ x124.toInt ≤ 3 from by omega), (show i6.toInt ≤ i6.toInt ∧ i6.toInt ≤ i6.toInt + 1 from by omega), (show 0 ≤ x118.toInt ∧ x118.toInt ≤ 7 from by omega), (show -1 ≤ x119.toInt ∧ x119.toInt ≤ 7 from by omega), g134⟩ (Nat.le_of_ble_eq_true rfl) (Nat.le_of_ble_eq_true rfl) dX4_execute_169
            by_cases s135 : a0 = 142
            · have g136 : a0.toInt = 142 := by rw [s135]; decide
              refine lv_lookup (off := 75) (tgt := 160) hx hb dX4_execute_85 (by decide) (by rw [s135] <;> rfl) (by decide) ?_
              refine lv_aload_n hx hb dX4_execute_160 rfl (lv_at hl 0 rfl) ?_
              refine g_Vv (n := 0) (As := []) (rest := []) (wr := []) hx hb hml hg hown hK hP hD hS hA (s_X4_fetchM l D dA t0 c0 c1 c2 i0 i1 i2 i3 i4 i5 i6 c3 i7 i8 i9 m0 m1 m2 m3 (by omega) (by omega) (by omega) (by omega) p5 _) [0, 1, 2, 3, 4] [] rfl (by decide) rfl (by decide) (by decide) 0 rfl rfl q1423 q159 q1420 q1422 q57 (by decide +kernel) ⟨(Nat.le_of_ble_eq_true rfl), (Nat.le_of_ble_eq_true rfl)⟩ rfl hl.1 rfl (Nat.le_of_ble_eq_true rfl) dX4_execute_161 ⟨(Nat.le_of_ble_eq_true rfl), (Nat.le_of_ble_eq_true rfl)⟩ (fun u137 H locs w139 hP hD hS => ?_)
              refine W.widen (k := 0) (n := 0) (Nat.le_of_ble_eq_true rfl) (Nat.le_of_ble_eq_true rfl) ?_
              obtain ⟨x140, x141, x142, x143⟩ := u137
              have hP : va_P D vwC [(t0, .inr (4, [.ref c0, .ref c1, .ref c2, .int x140, .int i1, .int i2, .int i3, .int i4, .int i5, .int i6, .ref c3, .int x141, .int x142, .int x143])), (c0, .inl (dA 0, 4096, .inl m0)), (c1, .inl (dA 0, 8, .inl m1)), (c2, .inl (dA 0, 4, .inl m2)), (c3, .inl (dA 0, 30, .inl m3))] H := hP
              have hD : va_D A [(t0, .inr (4, [.ref c0, .ref c1, .ref c2, .int x140, .int i1, .int i2, .int i3, .int i4, .int i5, .int i6, .ref c3, .int x141, .int x142, .int x143])), (c0, .inl (dA 0, 4096, .inl m0)), (c1, .inl (dA 0, 8, .inl m1)), (c2, .inl (dA 0, 4, .inl m2)), (c3, .inl (dA 0, 30, .inl m3))] := hD
              obtain ⟨g144, g145⟩ := w139
              have g144 : 0 ≤ x141.toInt ∧ x141.toInt ≤ 7 := g144
              have g145 : -1 ≤ x142.toInt ∧ x142.toInt ≤ 7 := g145
              refine lv_aload_n hx hb dX4_execute_164 rfl (lv_at hl 0 rfl) ?_
              refine lv_iload_n hx hb dX4_execute_165 rfl (lv_at hl 1 rfl) ?_
              refine g_Vi (n := 1) (As := [.int a0]) (rest := []) (wr := []) hx hb hml hg hown hK hP hD hS hA (s_X4_executeM l D dA t0 a0 c0 c1 c2 x140 i1 i2 i3 i4 i5 i6 c3 x141 x142 x143 m0 m1 m2 m3 (by omega) (by omega) (by omega) (by omega) p5 _) [0, 1, 2, 3, 4] [] rfl (by decide) rfl (by decide) (by decide) 0 rfl rfl q1471 q159 q1468 q1470 q69 (by decide +kernel) ⟨(Nat.le_of_ble_eq_true rfl), (Nat.le_of_ble_eq_true rfl)⟩ rfl hl.1 rfl (Nat.le_of_ble_eq_true rfl) dX4_execute_166 ⟨(Nat.le_of_ble_eq_true rfl), (Nat.le_of_ble_eq_true rfl)⟩ (fun x147 u146 H locs w148 hP hD hS => ?_)
              refine W.widen (k := 0) (n := 0) (Nat.le_of_ble_eq_true rfl) (Nat.le_of_ble_eq_true rfl) ?_
              obtain ⟨x149, x150, x151, x152, f153, f154, f155⟩ := u146
              have hP : va_P D vwC [(t0, .inr (4, [.ref c0, .ref c1, .ref c2, .int x149, .int x150, .int x151, .int x152, .int i4, .int i5, .int i6, .ref c3, .int x141, .int x142, .int x143])), (c0, .inl (dA 0, 4096, .inl f153)), (c1, .inl (dA 0, 8, .inl f154)), (c2, .inl (dA 0, 4, .inl f155)), (c3, .inl (dA 0, 30, .inl m3))] H := hP
              have hD : va_D A [(t0, .inr (4, [.ref c0, .ref c1, .ref c2, .int x149, .int x150, .int x151, .int x152, .int i4, .int i5, .int i6, .ref c3, .int x141, .int x142, .int x143])), (c0, .inl (dA 0, 4096, .inl f153)), (c1, .inl (dA 0, 8, .inl f154)), (c2, .inl (dA 0, 4, .inl f155)), (c3, .inl (dA 0, 30, .inl m3))] := hD
              obtain ⟨g156, g157⟩ := w148
              have g156 : 0 ≤ x147.toInt ∧ x147.toInt ≤ 3 := g156
              have g157 : ∀ j : Nat, 0 ≤ (f153 j).toInt ∧ (f153 j).toInt ≤ 255 := g157
              exact g_iret hx hb hr rfl hlocks hK (x149, x150, x151, x152, i6, x141, x142, x143, f153, f154, f155, m3) hP hD hS ⟨(show 0 ≤ x147.toInt ∧ x147.toInt ≤ 3 from by omega), (show i6.toInt ≤ i6.toInt ∧ i6.toInt ≤ i6.toInt + 1 from by omega), (show 0 ≤ x141.toInt ∧ x141.toInt ≤ 7 from by omega), (show -1 ≤ x142.toInt ∧ x142.toInt ≤ 7 from by omega), g157⟩ (Nat.le_of_ble_eq_true rfl) (Nat.le_of_ble_eq_true rfl) dX4_execute_169
            have s158 : ¬ a0 = 199 := fun h => by have h2 := congrArg Int32.toInt h; rw [show (199 : Int32).toInt = 199 from by decide] at h2; omega
            have s159 : ¬ a0 = 209 := fun h => by have h2 := congrArg Int32.toInt h; rw [show (209 : Int32).toInt = 209 from by decide] at h2; omega
            have s160 : ¬ a0 = 247 := fun h => by have h2 := congrArg Int32.toInt h; rw [show (247 : Int32).toInt = 247 from by decide] at h2; omega
            have g161 : a0.toInt ≠ 129 := lv_neT s43 (by decide)
            have g162 : a0.toInt ≠ 137 := lv_neT s66 (by decide)
            have g163 : a0.toInt ≠ 139 := lv_neT s89 (by decide)
            have g164 : a0.toInt ≠ 140 := lv_neT s112 (by decide)
            have g165 : a0.toInt ≠ 142 := lv_neT s135 (by decide)
            have g166 : a0.toInt ≠ 199 := lv_neT s158 (by decide)
            have g167 : a0.toInt ≠ 209 := lv_neT s159 (by decide)
            have g168 : a0.toInt ≠ 247 := lv_neT s160 (by decide)
            refine lv_lookup (off := 85) (tgt := 170) hx hb dX4_execute_85 (by decide) (by exact (lv_osw s43 (by decide)).trans ((lv_osw s66 (by decide)).trans ((lv_osw s89 (by decide)).trans ((lv_osw s112 (by decide)).trans ((lv_osw s135 (by decide)).trans ((lv_osw s158 (by decide)).trans ((lv_osw s159 (by decide)).trans ((lv_osw s160 (by decide)).trans (rfl))))))))) (by decide) ?_
            refine lv_aload_n hx hb dX4_execute_170 rfl (lv_at hl 0 rfl) ?_
            refine lv_iload_n hx hb dX4_execute_171 rfl (lv_at hl 1 rfl) ?_
            refine g_Vi (n := 1) (As := [.int a0]) (rest := []) (wr := []) hx hb hml hg hown hK hP hD hS hA (s_X4_executeFlow l D dA t0 a0 c0 c1 c2 i0 i1 i2 i3 i4 i5 i6 c3 i7 i8 i9 m0 m1 m2 m3 (by omega) (by omega) (by omega) (by omega) p5 _) [0, 1, 2, 3, 4] [] rfl (by decide) rfl (by decide) (by decide) 0 rfl rfl q1489 q159 q1486 q1488 q73 (by decide +kernel) ⟨(Nat.le_of_ble_eq_true rfl), (Nat.le_of_ble_eq_true rfl)⟩ rfl hl.1 rfl (Nat.le_of_ble_eq_true rfl) dX4_execute_172 ⟨(Nat.le_of_ble_eq_true rfl), (Nat.le_of_ble_eq_true rfl)⟩ (fun x170 u169 H locs w171 hP hD hS => ?_)
            refine W.widen (k := 0) (n := 0) (Nat.le_of_ble_eq_true rfl) (Nat.le_of_ble_eq_true rfl) ?_
            obtain ⟨x172, x173, f174, f175, f176, f177⟩ := u169
            have hP : va_P D vwC [(t0, .inr (4, [.ref c0, .ref c1, .ref c2, .int x172, .int i1, .int i2, .int i3, .int i4, .int i5, .int x173, .ref c3, .int i7, .int i8, .int i9])), (c0, .inl (dA 0, 4096, .inl f174)), (c1, .inl (dA 0, 8, .inl f175)), (c2, .inl (dA 0, 4, .inl f176)), (c3, .inl (dA 0, 30, .inl f177))] H := hP
            have hD : va_D A [(t0, .inr (4, [.ref c0, .ref c1, .ref c2, .int x172, .int i1, .int i2, .int i3, .int i4, .int i5, .int x173, .ref c3, .int i7, .int i8, .int i9])), (c0, .inl (dA 0, 4096, .inl f174)), (c1, .inl (dA 0, 8, .inl f175)), (c2, .inl (dA 0, 4, .inl f176)), (c3, .inl (dA 0, 30, .inl f177))] := hD
            obtain ⟨g178, g179, g180⟩ := w171
            have g178 : 0 ≤ x170.toInt ∧ x170.toInt ≤ 3 := g178
            have g179 : i6.toInt ≤ x173.toInt ∧ x173.toInt ≤ i6.toInt + 1 := g179
            have g180 : ∀ j : Nat, 0 ≤ (f174 j).toInt ∧ (f174 j).toInt ≤ 255 := g180
            exact g_iret hx hb hr rfl hlocks hK (x172, i1, i2, i3, x173, i7, i8, i9, f174, f175, f176, f177) hP hD hS ⟨(show 0 ≤ x170.toInt ∧ x170.toInt ≤ 3 from by omega), (show i6.toInt ≤ x173.toInt ∧ x173.toInt ≤ i6.toInt + 1 from by omega), (show 0 ≤ i7.toInt ∧ i7.toInt ≤ 7 from by omega), (show -1 ≤ i8.toInt ∧ i8.toInt ≤ 7 from by omega), g180⟩ (Nat.le_of_ble_eq_true rfl) (Nat.le_of_ble_eq_true rfl) dX4_execute_175
          · have g181 : a0.toInt ≥ 184 := gi_nlt (rfl : a0.toInt = a0.toInt) (by decide : (184 : Int32).toInt = 184) k41
            refine lv_iload_n hx hb dX4_execute_61 rfl (lv_at hl 1 rfl) ?_
            refine lv_sipush (v := 191) hx hb dX4_execute_62 (by decide) ?_
            refine lv_icmp_gt (tgt := 84) hx hb dX4_execute_65 (by decide) (fun k182 => ?_) (fun k182 => ?_)
            · have g183 : 191 < a0.toInt := gi_lt (by decide : (191 : Int32).toInt = 191) (rfl : a0.toInt = a0.toInt) k182
              refine lv_iload_n hx hb dX4_execute_84 rfl (lv_at hl 1 rfl) ?_
              have s184 : ¬ a0 = 129 := fun h => by have h2 := congrArg Int32.toInt h; rw [show (129 : Int32).toInt = 129 from by decide] at h2; omega
              have s185 : ¬ a0 = 137 := fun h => by have h2 := congrArg Int32.toInt h; rw [show (137 : Int32).toInt = 137 from by decide] at h2; omega
              have s186 : ¬ a0 = 139 := fun h => by have h2 := congrArg Int32.toInt h; rw [show (139 : Int32).toInt = 139 from by decide] at h2; omega
              have s187 : ¬ a0 = 140 := fun h => by have h2 := congrArg Int32.toInt h; rw [show (140 : Int32).toInt = 140 from by decide] at h2; omega
              have s188 : ¬ a0 = 142 := fun h => by have h2 := congrArg Int32.toInt h; rw [show (142 : Int32).toInt = 142 from by decide] at h2; omega
              by_cases s189 : a0 = 199
              · have g190 : a0.toInt = 199 := by rw [s189]; decide
                refine lv_lookup (off := 75) (tgt := 160) hx hb dX4_execute_85 (by decide) (by rw [s189] <;> rfl) (by decide) ?_
                refine lv_aload_n hx hb dX4_execute_160 rfl (lv_at hl 0 rfl) ?_
                refine g_Vv (n := 0) (As := []) (rest := []) (wr := []) hx hb hml hg hown hK hP hD hS hA (s_X4_fetchM l D dA t0 c0 c1 c2 i0 i1 i2 i3 i4 i5 i6 c3 i7 i8 i9 m0 m1 m2 m3 (by omega) (by omega) (by omega) (by omega) p5 _) [0, 1, 2, 3, 4] [] rfl (by decide) rfl (by decide) (by decide) 0 rfl rfl q1423 q159 q1420 q1422 q57 (by decide +kernel) ⟨(Nat.le_of_ble_eq_true rfl), (Nat.le_of_ble_eq_true rfl)⟩ rfl hl.1 rfl (Nat.le_of_ble_eq_true rfl) dX4_execute_161 ⟨(Nat.le_of_ble_eq_true rfl), (Nat.le_of_ble_eq_true rfl)⟩ (fun u191 H locs w193 hP hD hS => ?_)
                refine W.widen (k := 0) (n := 0) (Nat.le_of_ble_eq_true rfl) (Nat.le_of_ble_eq_true rfl) ?_
                obtain ⟨x194, x195, x196, x197⟩ := u191
                have hP : va_P D vwC [(t0, .inr (4, [.ref c0, .ref c1, .ref c2, .int x194, .int i1, .int i2, .int i3, .int i4, .int i5, .int i6, .ref c3, .int x195, .int x196, .int x197])), (c0, .inl (dA 0, 4096, .inl m0)), (c1, .inl (dA 0, 8, .inl m1)), (c2, .inl (dA 0, 4, .inl m2)), (c3, .inl (dA 0, 30, .inl m3))] H := hP
                have hD : va_D A [(t0, .inr (4, [.ref c0, .ref c1, .ref c2, .int x194, .int i1, .int i2, .int i3, .int i4, .int i5, .int i6, .ref c3, .int x195, .int x196, .int x197])), (c0, .inl (dA 0, 4096, .inl m0)), (c1, .inl (dA 0, 8, .inl m1)), (c2, .inl (dA 0, 4, .inl m2)), (c3, .inl (dA 0, 30, .inl m3))] := hD
                obtain ⟨g198, g199⟩ := w193
                have g198 : 0 ≤ x195.toInt ∧ x195.toInt ≤ 7 := g198
                have g199 : -1 ≤ x196.toInt ∧ x196.toInt ≤ 7 := g199
                refine lv_aload_n hx hb dX4_execute_164 rfl (lv_at hl 0 rfl) ?_
                refine lv_iload_n hx hb dX4_execute_165 rfl (lv_at hl 1 rfl) ?_
                refine g_Vi (n := 1) (As := [.int a0]) (rest := []) (wr := []) hx hb hml hg hown hK hP hD hS hA (s_X4_executeM l D dA t0 a0 c0 c1 c2 x194 i1 i2 i3 i4 i5 i6 c3 x195 x196 x197 m0 m1 m2 m3 (by omega) (by omega) (by omega) (by omega) p5 _) [0, 1, 2, 3, 4] [] rfl (by decide) rfl (by decide) (by decide) 0 rfl rfl q1471 q159 q1468 q1470 q69 (by decide +kernel) ⟨(Nat.le_of_ble_eq_true rfl), (Nat.le_of_ble_eq_true rfl)⟩ rfl hl.1 rfl (Nat.le_of_ble_eq_true rfl) dX4_execute_166 ⟨(Nat.le_of_ble_eq_true rfl), (Nat.le_of_ble_eq_true rfl)⟩ (fun x201 u200 H locs w202 hP hD hS => ?_)
                refine W.widen (k := 0) (n := 0) (Nat.le_of_ble_eq_true rfl) (Nat.le_of_ble_eq_true rfl) ?_
                obtain ⟨x203, x204, x205, x206, f207, f208, f209⟩ := u200
                have hP : va_P D vwC [(t0, .inr (4, [.ref c0, .ref c1, .ref c2, .int x203, .int x204, .int x205, .int x206, .int i4, .int i5, .int i6, .ref c3, .int x195, .int x196, .int x197])), (c0, .inl (dA 0, 4096, .inl f207)), (c1, .inl (dA 0, 8, .inl f208)), (c2, .inl (dA 0, 4, .inl f209)), (c3, .inl (dA 0, 30, .inl m3))] H := hP
                have hD : va_D A [(t0, .inr (4, [.ref c0, .ref c1, .ref c2, .int x203, .int x204, .int x205, .int x206, .int i4, .int i5, .int i6, .ref c3, .int x195, .int x196, .int x197])), (c0, .inl (dA 0, 4096, .inl f207)), (c1, .inl (dA 0, 8, .inl f208)), (c2, .inl (dA 0, 4, .inl f209)), (c3, .inl (dA 0, 30, .inl m3))] := hD
                obtain ⟨g210, g211⟩ := w202
                have g210 : 0 ≤ x201.toInt ∧ x201.toInt ≤ 3 := g210
                have g211 : ∀ j : Nat, 0 ≤ (f207 j).toInt ∧ (f207 j).toInt ≤ 255 := g211
                exact g_iret hx hb hr rfl hlocks hK (x203, x204, x205, x206, i6, x195, x196, x197, f207, f208, f209, m3) hP hD hS ⟨(show 0 ≤ x201.toInt ∧ x201.toInt ≤ 3 from by omega), (show i6.toInt ≤ i6.toInt ∧ i6.toInt ≤ i6.toInt + 1 from by omega), (show 0 ≤ x195.toInt ∧ x195.toInt ≤ 7 from by omega), (show -1 ≤ x196.toInt ∧ x196.toInt ≤ 7 from by omega), g211⟩ (Nat.le_of_ble_eq_true rfl) (Nat.le_of_ble_eq_true rfl) dX4_execute_169
              by_cases s212 : a0 = 209
              · have g213 : a0.toInt = 209 := by rw [s212]; decide
                refine lv_lookup (off := 75) (tgt := 160) hx hb dX4_execute_85 (by decide) (by rw [s212] <;> rfl) (by decide) ?_
                refine lv_aload_n hx hb dX4_execute_160 rfl (lv_at hl 0 rfl) ?_
                refine g_Vv (n := 0) (As := []) (rest := []) (wr := []) hx hb hml hg hown hK hP hD hS hA (s_X4_fetchM l D dA t0 c0 c1 c2 i0 i1 i2 i3 i4 i5 i6 c3 i7 i8 i9 m0 m1 m2 m3 (by omega) (by omega) (by omega) (by omega) p5 _) [0, 1, 2, 3, 4] [] rfl (by decide) rfl (by decide) (by decide) 0 rfl rfl q1423 q159 q1420 q1422 q57 (by decide +kernel) ⟨(Nat.le_of_ble_eq_true rfl), (Nat.le_of_ble_eq_true rfl)⟩ rfl hl.1 rfl (Nat.le_of_ble_eq_true rfl) dX4_execute_161 ⟨(Nat.le_of_ble_eq_true rfl), (Nat.le_of_ble_eq_true rfl)⟩ (fun u214 H locs w216 hP hD hS => ?_)
                refine W.widen (k := 0) (n := 0) (Nat.le_of_ble_eq_true rfl) (Nat.le_of_ble_eq_true rfl) ?_
                obtain ⟨x217, x218, x219, x220⟩ := u214
                have hP : va_P D vwC [(t0, .inr (4, [.ref c0, .ref c1, .ref c2, .int x217, .int i1, .int i2, .int i3, .int i4, .int i5, .int i6, .ref c3, .int x218, .int x219, .int x220])), (c0, .inl (dA 0, 4096, .inl m0)), (c1, .inl (dA 0, 8, .inl m1)), (c2, .inl (dA 0, 4, .inl m2)), (c3, .inl (dA 0, 30, .inl m3))] H := hP
                have hD : va_D A [(t0, .inr (4, [.ref c0, .ref c1, .ref c2, .int x217, .int i1, .int i2, .int i3, .int i4, .int i5, .int i6, .ref c3, .int x218, .int x219, .int x220])), (c0, .inl (dA 0, 4096, .inl m0)), (c1, .inl (dA 0, 8, .inl m1)), (c2, .inl (dA 0, 4, .inl m2)), (c3, .inl (dA 0, 30, .inl m3))] := hD
                obtain ⟨g221, g222⟩ := w216
                have g221 : 0 ≤ x218.toInt ∧ x218.toInt ≤ 7 := g221
                have g222 : -1 ≤ x219.toInt ∧ x219.toInt ≤ 7 := g222
                refine lv_aload_n hx hb dX4_execute_164 rfl (lv_at hl 0 rfl) ?_
                refine lv_iload_n hx hb dX4_execute_165 rfl (lv_at hl 1 rfl) ?_
                refine g_Vi (n := 1) (As := [.int a0]) (rest := []) (wr := []) hx hb hml hg hown hK hP hD hS hA (s_X4_executeM l D dA t0 a0 c0 c1 c2 x217 i1 i2 i3 i4 i5 i6 c3 x218 x219 x220 m0 m1 m2 m3 (by omega) (by omega) (by omega) (by omega) p5 _) [0, 1, 2, 3, 4] [] rfl (by decide) rfl (by decide) (by decide) 0 rfl rfl q1471 q159 q1468 q1470 q69 (by decide +kernel) ⟨(Nat.le_of_ble_eq_true rfl), (Nat.le_of_ble_eq_true rfl)⟩ rfl hl.1 rfl (Nat.le_of_ble_eq_true rfl) dX4_execute_166 ⟨(Nat.le_of_ble_eq_true rfl), (Nat.le_of_ble_eq_true rfl)⟩ (fun x224 u223 H locs w225 hP hD hS => ?_)
                refine W.widen (k := 0) (n := 0) (Nat.le_of_ble_eq_true rfl) (Nat.le_of_ble_eq_true rfl) ?_
                obtain ⟨x226, x227, x228, x229, f230, f231, f232⟩ := u223
                have hP : va_P D vwC [(t0, .inr (4, [.ref c0, .ref c1, .ref c2, .int x226, .int x227, .int x228, .int x229, .int i4, .int i5, .int i6, .ref c3, .int x218, .int x219, .int x220])), (c0, .inl (dA 0, 4096, .inl f230)), (c1, .inl (dA 0, 8, .inl f231)), (c2, .inl (dA 0, 4, .inl f232)), (c3, .inl (dA 0, 30, .inl m3))] H := hP
                have hD : va_D A [(t0, .inr (4, [.ref c0, .ref c1, .ref c2, .int x226, .int x227, .int x228, .int x229, .int i4, .int i5, .int i6, .ref c3, .int x218, .int x219, .int x220])), (c0, .inl (dA 0, 4096, .inl f230)), (c1, .inl (dA 0, 8, .inl f231)), (c2, .inl (dA 0, 4, .inl f232)), (c3, .inl (dA 0, 30, .inl m3))] := hD
                obtain ⟨g233, g234⟩ := w225
                have g233 : 0 ≤ x224.toInt ∧ x224.toInt ≤ 3 := g233
                have g234 : ∀ j : Nat, 0 ≤ (f230 j).toInt ∧ (f230 j).toInt ≤ 255 := g234
                exact g_iret hx hb hr rfl hlocks hK (x226, x227, x228, x229, i6, x218, x219, x220, f230, f231, f232, m3) hP hD hS ⟨(show 0 ≤ x224.toInt ∧ x224.toInt ≤ 3 from by omega), (show i6.toInt ≤ i6.toInt ∧ i6.toInt ≤ i6.toInt + 1 from by omega), (show 0 ≤ x218.toInt ∧ x218.toInt ≤ 7 from by omega), (show -1 ≤ x219.toInt ∧ x219.toInt ≤ 7 from by omega), g234⟩ (Nat.le_of_ble_eq_true rfl) (Nat.le_of_ble_eq_true rfl) dX4_execute_169
              by_cases s235 : a0 = 247
              · have g236 : a0.toInt = 247 := by rw [s235]; decide
                refine lv_lookup (off := 75) (tgt := 160) hx hb dX4_execute_85 (by decide) (by rw [s235] <;> rfl) (by decide) ?_
                refine lv_aload_n hx hb dX4_execute_160 rfl (lv_at hl 0 rfl) ?_
                refine g_Vv (n := 0) (As := []) (rest := []) (wr := []) hx hb hml hg hown hK hP hD hS hA (s_X4_fetchM l D dA t0 c0 c1 c2 i0 i1 i2 i3 i4 i5 i6 c3 i7 i8 i9 m0 m1 m2 m3 (by omega) (by omega) (by omega) (by omega) p5 _) [0, 1, 2, 3, 4] [] rfl (by decide) rfl (by decide) (by decide) 0 rfl rfl q1423 q159 q1420 q1422 q57 (by decide +kernel) ⟨(Nat.le_of_ble_eq_true rfl), (Nat.le_of_ble_eq_true rfl)⟩ rfl hl.1 rfl (Nat.le_of_ble_eq_true rfl) dX4_execute_161 ⟨(Nat.le_of_ble_eq_true rfl), (Nat.le_of_ble_eq_true rfl)⟩ (fun u237 H locs w239 hP hD hS => ?_)
                refine W.widen (k := 0) (n := 0) (Nat.le_of_ble_eq_true rfl) (Nat.le_of_ble_eq_true rfl) ?_
                obtain ⟨x240, x241, x242, x243⟩ := u237
                have hP : va_P D vwC [(t0, .inr (4, [.ref c0, .ref c1, .ref c2, .int x240, .int i1, .int i2, .int i3, .int i4, .int i5, .int i6, .ref c3, .int x241, .int x242, .int x243])), (c0, .inl (dA 0, 4096, .inl m0)), (c1, .inl (dA 0, 8, .inl m1)), (c2, .inl (dA 0, 4, .inl m2)), (c3, .inl (dA 0, 30, .inl m3))] H := hP
                have hD : va_D A [(t0, .inr (4, [.ref c0, .ref c1, .ref c2, .int x240, .int i1, .int i2, .int i3, .int i4, .int i5, .int i6, .ref c3, .int x241, .int x242, .int x243])), (c0, .inl (dA 0, 4096, .inl m0)), (c1, .inl (dA 0, 8, .inl m1)), (c2, .inl (dA 0, 4, .inl m2)), (c3, .inl (dA 0, 30, .inl m3))] := hD
                obtain ⟨g244, g245⟩ := w239
                have g244 : 0 ≤ x241.toInt ∧ x241.toInt ≤ 7 := g244
                have g245 : -1 ≤ x242.toInt ∧ x242.toInt ≤ 7 := g245
                refine lv_aload_n hx hb dX4_execute_164 rfl (lv_at hl 0 rfl) ?_
                refine lv_iload_n hx hb dX4_execute_165 rfl (lv_at hl 1 rfl) ?_
                refine g_Vi (n := 1) (As := [.int a0]) (rest := []) (wr := []) hx hb hml hg hown hK hP hD hS hA (s_X4_executeM l D dA t0 a0 c0 c1 c2 x240 i1 i2 i3 i4 i5 i6 c3 x241 x242 x243 m0 m1 m2 m3 (by omega) (by omega) (by omega) (by omega) p5 _) [0, 1, 2, 3, 4] [] rfl (by decide) rfl (by decide) (by decide) 0 rfl rfl q1471 q159 q1468 q1470 q69 (by decide +kernel) ⟨(Nat.le_of_ble_eq_true rfl), (Nat.le_of_ble_eq_true rfl)⟩ rfl hl.1 rfl (Nat.le_of_ble_eq_true rfl) dX4_execute_166 ⟨(Nat.le_of_ble_eq_true rfl), (Nat.le_of_ble_eq_true rfl)⟩ (fun x247 u246 H locs w248 hP hD hS => ?_)
                refine W.widen (k := 0) (n := 0) (Nat.le_of_ble_eq_true rfl) (Nat.le_of_ble_eq_true rfl) ?_
                obtain ⟨x249, x250, x251, x252, f253, f254, f255⟩ := u246
                have hP : va_P D vwC [(t0, .inr (4, [.ref c0, .ref c1, .ref c2, .int x249, .int x250, .int x251, .int x252, .int i4, .int i5, .int i6, .ref c3, .int x241, .int x242, .int x243])), (c0, .inl (dA 0, 4096, .inl f253)), (c1, .inl (dA 0, 8, .inl f254)), (c2, .inl (dA 0, 4, .inl f255)), (c3, .inl (dA 0, 30, .inl m3))] H := hP
                have hD : va_D A [(t0, .inr (4, [.ref c0, .ref c1, .ref c2, .int x249, .int x250, .int x251, .int x252, .int i4, .int i5, .int i6, .ref c3, .int x241, .int x242, .int x243])), (c0, .inl (dA 0, 4096, .inl f253)), (c1, .inl (dA 0, 8, .inl f254)), (c2, .inl (dA 0, 4, .inl f255)), (c3, .inl (dA 0, 30, .inl m3))] := hD
                obtain ⟨g256, g257⟩ := w248
                have g256 : 0 ≤ x247.toInt ∧ x247.toInt ≤ 3 := g256
                have g257 : ∀ j : Nat, 0 ≤ (f253 j).toInt ∧ (f253 j).toInt ≤ 255 := g257
                exact g_iret hx hb hr rfl hlocks hK (x249, x250, x251, x252, i6, x241, x242, x243, f253, f254, f255, m3) hP hD hS ⟨(show 0 ≤ x247.toInt ∧ x247.toInt ≤ 3 from by omega), (show i6.toInt ≤ i6.toInt ∧ i6.toInt ≤ i6.toInt + 1 from by omega), (show 0 ≤ x241.toInt ∧ x241.toInt ≤ 7 from by omega), (show -1 ≤ x242.toInt ∧ x242.toInt ≤ 7 from by omega), g257⟩ (Nat.le_of_ble_eq_true rfl) (Nat.le_of_ble_eq_true rfl) dX4_execute_169
              have g258 : a0.toInt ≠ 129 := lv_neT s184 (by decide)
              have g259 : a0.toInt ≠ 137 := lv_neT s185 (by decide)
              have g260 : a0.toInt ≠ 139 := lv_neT s186 (by decide)
              have g261 : a0.toInt ≠ 140 := lv_neT s187 (by decide)
              have g262 : a0.toInt ≠ 142 := lv_neT s188 (by decide)
              have g263 : a0.toInt ≠ 199 := lv_neT s189 (by decide)
              have g264 : a0.toInt ≠ 209 := lv_neT s212 (by decide)
              have g265 : a0.toInt ≠ 247 := lv_neT s235 (by decide)
              refine lv_lookup (off := 85) (tgt := 170) hx hb dX4_execute_85 (by decide) (by exact (lv_osw s184 (by decide)).trans ((lv_osw s185 (by decide)).trans ((lv_osw s186 (by decide)).trans ((lv_osw s187 (by decide)).trans ((lv_osw s188 (by decide)).trans ((lv_osw s189 (by decide)).trans ((lv_osw s212 (by decide)).trans ((lv_osw s235 (by decide)).trans (rfl))))))))) (by decide) ?_
              refine lv_aload_n hx hb dX4_execute_170 rfl (lv_at hl 0 rfl) ?_
              refine lv_iload_n hx hb dX4_execute_171 rfl (lv_at hl 1 rfl) ?_
              refine g_Vi (n := 1) (As := [.int a0]) (rest := []) (wr := []) hx hb hml hg hown hK hP hD hS hA (s_X4_executeFlow l D dA t0 a0 c0 c1 c2 i0 i1 i2 i3 i4 i5 i6 c3 i7 i8 i9 m0 m1 m2 m3 (by omega) (by omega) (by omega) (by omega) p5 _) [0, 1, 2, 3, 4] [] rfl (by decide) rfl (by decide) (by decide) 0 rfl rfl q1489 q159 q1486 q1488 q73 (by decide +kernel) ⟨(Nat.le_of_ble_eq_true rfl), (Nat.le_of_ble_eq_true rfl)⟩ rfl hl.1 rfl (Nat.le_of_ble_eq_true rfl) dX4_execute_172 ⟨(Nat.le_of_ble_eq_true rfl), (Nat.le_of_ble_eq_true rfl)⟩ (fun x267 u266 H locs w268 hP hD hS => ?_)
              refine W.widen (k := 0) (n := 0) (Nat.le_of_ble_eq_true rfl) (Nat.le_of_ble_eq_true rfl) ?_
              obtain ⟨x269, x270, f271, f272, f273, f274⟩ := u266
              have hP : va_P D vwC [(t0, .inr (4, [.ref c0, .ref c1, .ref c2, .int x269, .int i1, .int i2, .int i3, .int i4, .int i5, .int x270, .ref c3, .int i7, .int i8, .int i9])), (c0, .inl (dA 0, 4096, .inl f271)), (c1, .inl (dA 0, 8, .inl f272)), (c2, .inl (dA 0, 4, .inl f273)), (c3, .inl (dA 0, 30, .inl f274))] H := hP
              have hD : va_D A [(t0, .inr (4, [.ref c0, .ref c1, .ref c2, .int x269, .int i1, .int i2, .int i3, .int i4, .int i5, .int x270, .ref c3, .int i7, .int i8, .int i9])), (c0, .inl (dA 0, 4096, .inl f271)), (c1, .inl (dA 0, 8, .inl f272)), (c2, .inl (dA 0, 4, .inl f273)), (c3, .inl (dA 0, 30, .inl f274))] := hD
              obtain ⟨g275, g276, g277⟩ := w268
              have g275 : 0 ≤ x267.toInt ∧ x267.toInt ≤ 3 := g275
              have g276 : i6.toInt ≤ x270.toInt ∧ x270.toInt ≤ i6.toInt + 1 := g276
              have g277 : ∀ j : Nat, 0 ≤ (f271 j).toInt ∧ (f271 j).toInt ≤ 255 := g277
              exact g_iret hx hb hr rfl hlocks hK (x269, i1, i2, i3, x270, i7, i8, i9, f271, f272, f273, f274) hP hD hS ⟨(show 0 ≤ x267.toInt ∧ x267.toInt ≤ 3 from by omega), (show i6.toInt ≤ x270.toInt ∧ x270.toInt ≤ i6.toInt + 1 from by omega), (show 0 ≤ i7.toInt ∧ i7.toInt ≤ 7 from by omega), (show -1 ≤ i8.toInt ∧ i8.toInt ≤ 7 from by omega), g277⟩ (Nat.le_of_ble_eq_true rfl) (Nat.le_of_ble_eq_true rfl) dX4_execute_175
            · have g278 : 191 ≥ a0.toInt := gi_nlt (by decide : (191 : Int32).toInt = 191) (rfl : a0.toInt = a0.toInt) k182
              refine lv_aload_n hx hb dX4_execute_68 rfl (lv_at hl 0 rfl) ?_
              refine g_get hx hb hg hown hK hP 0 rfl rfl inX4 1 (by decide) q554 rfl dX4_execute_69 ?_
              refine lv_iload_n hx hb dX4_execute_72 rfl (lv_at hl 1 rfl) ?_
              refine lv_sipush (v := 184) hx hb dX4_execute_73 (by decide) ?_
              refine lv_isub hx hb dX4_execute_76 ?_
              refine lv_topi (fun x279 e280 => ?_)
              have g281 : x279.toInt = a0.toInt - 184 := g_sub e280 rfl (by decide) (by omega) (by omega)
              refine lv_aload_n hx hb dX4_execute_77 rfl (lv_at hl 0 rfl) ?_
              refine g_Vi (n := 0) (As := []) (rest := [.int x279, .ref c1]) (wr := []) hx hb hml hg hown hK hP hD hS hA (s_X4_fetchWord l D dA t0 c0 c1 c2 i0 i1 i2 i3 i4 i5 i6 c3 i7 i8 i9 m0 m1 m2 m3 (by omega) (by omega) (by omega) (by omega) p5 _) [0, 1, 2, 3, 4] [] rfl (by decide) rfl (by decide) (by decide) 0 rfl rfl q1431 q159 q1428 q1430 q59 (by decide +kernel) ⟨(Nat.le_of_ble_eq_true rfl), (Nat.le_of_ble_eq_true rfl)⟩ rfl hl.1 rfl (Nat.le_of_ble_eq_true rfl) dX4_execute_78 ⟨(Nat.le_of_ble_eq_true rfl), (Nat.le_of_ble_eq_true rfl)⟩ (fun x283 u282 H locs w284 hP hD hS => ?_)
              refine W.widen (k := 0) (n := 0) (Nat.le_of_ble_eq_true rfl) (Nat.le_of_ble_eq_true rfl) ?_
              obtain ⟨x285, rfl⟩ : ∃ z, z = u282 := ⟨_, rfl⟩
              have hP : va_P D vwC [(t0, .inr (4, [.ref c0, .ref c1, .ref c2, .int x285, .int i1, .int i2, .int i3, .int i4, .int i5, .int i6, .ref c3, .int i7, .int i8, .int i9])), (c0, .inl (dA 0, 4096, .inl m0)), (c1, .inl (dA 0, 8, .inl m1)), (c2, .inl (dA 0, 4, .inl m2)), (c3, .inl (dA 0, 30, .inl m3))] H := hP
              have hD : va_D A [(t0, .inr (4, [.ref c0, .ref c1, .ref c2, .int x285, .int i1, .int i2, .int i3, .int i4, .int i5, .int i6, .ref c3, .int i7, .int i8, .int i9])), (c0, .inl (dA 0, 4096, .inl m0)), (c1, .inl (dA 0, 8, .inl m1)), (c2, .inl (dA 0, 4, .inl m2)), (c3, .inl (dA 0, 30, .inl m3))] := hD
              refine va_iast hx hb hK hP hD hS 2 0 rfl rfl (by rw [vp_in_iff]; omega) dX4_execute_81 (fun H locs hP hD hS => ?_)
              have hP : va_P D vwC [(t0, .inr (4, [.ref c0, .ref c1, .ref c2, .int x285, .int i1, .int i2, .int i3, .int i4, .int i5, .int i6, .ref c3, .int i7, .int i8, .int i9])), (c0, .inl (dA 0, 4096, .inl m0)), (c1, .inl (dA 0, 8, .inl (upd m1 (x279 : Int32).toNatClampNeg x283))), (c2, .inl (dA 0, 4, .inl m2)), (c3, .inl (dA 0, 30, .inl m3))] H := hP
              have hD : va_D A [(t0, .inr (4, [.ref c0, .ref c1, .ref c2, .int x285, .int i1, .int i2, .int i3, .int i4, .int i5, .int i6, .ref c3, .int i7, .int i8, .int i9])), (c0, .inl (dA 0, 4096, .inl m0)), (c1, .inl (dA 0, 8, .inl (upd m1 (x279 : Int32).toNatClampNeg x283))), (c2, .inl (dA 0, 4, .inl m2)), (c3, .inl (dA 0, 30, .inl m3))] := hD
              obtain ⟨f286, ef286⟩ : ∃ f : Nat → Int32, f = (upd m1 (x279 : Int32).toNatClampNeg x283) := ⟨_, rfl⟩
              rw [← ef286] at hP hD
              refine lv_iconst (v := 3) hx hb dX4_execute_82 (by decide) ?_
              exact g_iret hx hb hr rfl hlocks hK (x285, i1, i2, i3, i6, i7, i8, i9, m0, f286, m2, m3) hP hD hS ⟨(show 0 ≤ ((3 : Int32)).toInt ∧ ((3 : Int32)).toInt ≤ 3 from by decide), (show i6.toInt ≤ i6.toInt ∧ i6.toInt ≤ i6.toInt + 1 from by omega), (show 0 ≤ i7.toInt ∧ i7.toInt ≤ 7 from by omega), (show -1 ≤ i8.toInt ∧ i8.toInt ≤ 7 from by omega), p5⟩ (Nat.le_of_ble_eq_true rfl) (Nat.le_of_ble_eq_true rfl) dX4_execute_83
        · have g287 : 121 ≥ a0.toInt := gi_nlt (by decide : (121 : Int32).toInt = 121) (rfl : a0.toInt = a0.toInt) k39
          refine lv_aload_n hx hb dX4_execute_48 rfl (lv_at hl 0 rfl) ?_
          refine lv_iload_n hx hb dX4_execute_49 rfl (lv_at hl 1 rfl) ?_
          refine g_Vi (n := 1) (As := [.int a0]) (rest := []) (wr := []) hx hb hml hg hown hK hP hD hS hA (s_X4_branch l D dA t0 a0 c0 c1 c2 i0 i1 i2 i3 i4 i5 i6 c3 i7 i8 i9 m0 m1 m2 m3 (by omega) (by omega) (by omega) (by omega) p5 _) [0, 1, 2, 3, 4] [] rfl (by decide) rfl (by decide) (by decide) 0 rfl rfl q1463 q159 q1460 q1462 q67 (by decide +kernel) ⟨(Nat.le_of_ble_eq_true rfl), (Nat.le_of_ble_eq_true rfl)⟩ rfl hl.1 rfl (Nat.le_of_ble_eq_true rfl) dX4_execute_50 ⟨(Nat.le_of_ble_eq_true rfl), (Nat.le_of_ble_eq_true rfl)⟩ (fun x289 u288 H locs w290 hP hD hS => ?_)
          refine W.widen (k := 0) (n := 0) (Nat.le_of_ble_eq_true rfl) (Nat.le_of_ble_eq_true rfl) ?_
          obtain ⟨x291, rfl⟩ : ∃ z, z = u288 := ⟨_, rfl⟩
          have hP : va_P D vwC [(t0, .inr (4, [.ref c0, .ref c1, .ref c2, .int x291, .int i1, .int i2, .int i3, .int i4, .int i5, .int i6, .ref c3, .int i7, .int i8, .int i9])), (c0, .inl (dA 0, 4096, .inl m0)), (c1, .inl (dA 0, 8, .inl m1)), (c2, .inl (dA 0, 4, .inl m2)), (c3, .inl (dA 0, 30, .inl m3))] H := hP
          have hD : va_D A [(t0, .inr (4, [.ref c0, .ref c1, .ref c2, .int x291, .int i1, .int i2, .int i3, .int i4, .int i5, .int i6, .ref c3, .int i7, .int i8, .int i9])), (c0, .inl (dA 0, 4096, .inl m0)), (c1, .inl (dA 0, 8, .inl m1)), (c2, .inl (dA 0, 4, .inl m2)), (c3, .inl (dA 0, 30, .inl m3))] := hD
          have g292 := w290
          have g292 : 0 ≤ x289.toInt ∧ x289.toInt ≤ 3 := g292
          exact g_iret hx hb hr rfl hlocks hK (x291, i1, i2, i3, i6, i7, i8, i9, m0, m1, m2, m3) hP hD hS ⟨(show 0 ≤ x289.toInt ∧ x289.toInt ≤ 3 from by omega), (show i6.toInt ≤ i6.toInt ∧ i6.toInt ≤ i6.toInt + 1 from by omega), (show 0 ≤ i7.toInt ∧ i7.toInt ≤ 7 from by omega), (show -1 ≤ i8.toInt ∧ i8.toInt ≤ 7 from by omega), p5⟩ (Nat.le_of_ble_eq_true rfl) (Nat.le_of_ble_eq_true rfl) dX4_execute_53
    · have g293 : 96 > a0.toInt := gi_nle (by decide : (96 : Int32).toInt = 96) (rfl : a0.toInt = a0.toInt) k3
      refine lv_aload_n hx hb dX4_execute_24 rfl (lv_at hl 0 rfl) ?_
      refine lv_iload_n hx hb dX4_execute_25 rfl (lv_at hl 1 rfl) ?_
      refine lv_iconst (v := 3) hx hb dX4_execute_26 (by decide) ?_
      refine lv_ishr hx hb dX4_execute_27 ?_
      refine lv_topi (fun x294 e295 => ?_)
      have g296 : x294.toInt * 8 ≤ a0.toInt ∧ a0.toInt < x294.toInt * 8 + 8 := g_shr e295 3 (by decide) (by decide) (by decide)
      refine lv_iload_n hx hb dX4_execute_28 rfl (lv_at hl 1 rfl) ?_
      refine lv_bipush (v := 7) hx hb dX4_execute_29 (by decide) ?_
      refine lv_iand hx hb dX4_execute_31 ?_
      refine lv_topi (fun x297 e298 => ?_)
      have g299 : 0 ≤ x297.toInt ∧ x297.toInt ≤ 7 := g_msk e298 3 (by decide) (by decide) (by decide)
      refine g_Vi (n := 2) (As := [.int x294, .int x297]) (rest := []) (wr := []) hx hb hml hg hown hK hP hD hS hA (s_X4_executeRegister l D dA t0 x294 x297 c0 c1 c2 i0 i1 i2 i3 i4 i5 i6 c3 i7 i8 i9 m0 m1 m2 m3 (by omega) (by omega) (by omega) (by omega) (by omega) p5 _) [0, 1, 2, 3, 4] [] rfl (by decide) rfl (by decide) (by decide) 0 rfl rfl q1459 q159 q1456 q1458 q66 (by decide +kernel) ⟨(Nat.le_of_ble_eq_true rfl), (Nat.le_of_ble_eq_true rfl)⟩ rfl hl.1 rfl (Nat.le_of_ble_eq_true rfl) dX4_execute_32 ⟨(Nat.le_of_ble_eq_true rfl), (Nat.le_of_ble_eq_true rfl)⟩ (fun x301 u300 H locs w302 hP hD hS => ?_)
      refine W.widen (k := 0) (n := 0) (Nat.le_of_ble_eq_true rfl) (Nat.le_of_ble_eq_true rfl) ?_
      obtain ⟨x303, x304, f305, f306⟩ := u300
      have hP : va_P D vwC [(t0, .inr (4, [.ref c0, .ref c1, .ref c2, .int i0, .int i1, .int x303, .int x304, .int i4, .int i5, .int i6, .ref c3, .int i7, .int i8, .int i9])), (c0, .inl (dA 0, 4096, .inl f305)), (c1, .inl (dA 0, 8, .inl f306)), (c2, .inl (dA 0, 4, .inl m2)), (c3, .inl (dA 0, 30, .inl m3))] H := hP
      have hD : va_D A [(t0, .inr (4, [.ref c0, .ref c1, .ref c2, .int i0, .int i1, .int x303, .int x304, .int i4, .int i5, .int i6, .ref c3, .int i7, .int i8, .int i9])), (c0, .inl (dA 0, 4096, .inl f305)), (c1, .inl (dA 0, 8, .inl f306)), (c2, .inl (dA 0, 4, .inl m2)), (c3, .inl (dA 0, 30, .inl m3))] := hD
      obtain ⟨g307, g308⟩ := w302
      have g307 : 0 ≤ x301.toInt ∧ x301.toInt ≤ 3 := g307
      have g308 : ∀ j : Nat, 0 ≤ (f305 j).toInt ∧ (f305 j).toInt ≤ 255 := g308
      exact g_iret hx hb hr rfl hlocks hK (i0, i1, x303, x304, i6, i7, i8, i9, f305, f306, m2, m3) hP hD hS ⟨(show 0 ≤ x301.toInt ∧ x301.toInt ≤ 3 from by omega), (show i6.toInt ≤ i6.toInt ∧ i6.toInt ≤ i6.toInt + 1 from by omega), (show 0 ≤ i7.toInt ∧ i7.toInt ≤ 7 from by omega), (show -1 ≤ i8.toInt ∧ i8.toInt ≤ 7 from by omega), g308⟩ (Nat.le_of_ble_eq_true rfl) (Nat.le_of_ble_eq_true rfl) dX4_execute_35
  · have g309 : 64 > a0.toInt := gi_nle (by decide : (64 : Int32).toInt = 64) (rfl : a0.toInt = a0.toInt) k1
    refine lv_aload_n hx hb dX4_execute_6 rfl (lv_at hl 0 rfl) ?_
    refine lv_iload_n hx hb dX4_execute_7 rfl (lv_at hl 1 rfl) ?_
    refine lv_iconst (v := 3) hx hb dX4_execute_8 (by decide) ?_
    refine lv_ishr hx hb dX4_execute_9 ?_
    refine lv_topi (fun x310 e311 => ?_)
    have g312 : x310.toInt * 8 ≤ a0.toInt ∧ a0.toInt < x310.toInt * 8 + 8 := g_shr e311 3 (by decide) (by decide) (by decide)
    refine lv_iload_n hx hb dX4_execute_10 rfl (lv_at hl 1 rfl) ?_
    refine lv_bipush (v := 7) hx hb dX4_execute_11 (by decide) ?_
    refine lv_iand hx hb dX4_execute_13 ?_
    refine lv_topi (fun x313 e314 => ?_)
    have g315 : 0 ≤ x313.toInt ∧ x313.toInt ≤ 7 := g_msk e314 3 (by decide) (by decide) (by decide)
    refine g_Vi (n := 2) (As := [.int x310, .int x313]) (rest := []) (wr := []) hx hb hml hg hown hK hP hD hS hA (s_X4_executeLow l D dA t0 x310 x313 c0 c1 c2 i0 i1 i2 i3 i4 i5 i6 c3 i7 i8 i9 m0 m1 m2 m3 (by omega) (by omega) (by omega) (by omega) (by omega) (by omega) p5 _) [0, 1, 2, 3, 4] [] rfl (by decide) rfl (by decide) (by decide) 0 rfl rfl q1408 q159 q1405 q1407 q54 (by decide +kernel) ⟨(Nat.le_of_ble_eq_true rfl), (Nat.le_of_ble_eq_true rfl)⟩ rfl hl.1 rfl (Nat.le_of_ble_eq_true rfl) dX4_execute_14 ⟨(Nat.le_of_ble_eq_true rfl), (Nat.le_of_ble_eq_true rfl)⟩ (fun x317 u316 H locs w318 hP hD hS => ?_)
    refine W.widen (k := 0) (n := 0) (Nat.le_of_ble_eq_true rfl) (Nat.le_of_ble_eq_true rfl) ?_
    obtain ⟨x319, x320, x321, x322, x323, x324, x325, f326, f327, f328⟩ := u316
    have hP : va_P D vwC [(t0, .inr (4, [.ref c0, .ref c1, .ref c2, .int x319, .int x320, .int x321, .int x322, .int i4, .int i5, .int i6, .ref c3, .int x323, .int x324, .int x325])), (c0, .inl (dA 0, 4096, .inl f326)), (c1, .inl (dA 0, 8, .inl f327)), (c2, .inl (dA 0, 4, .inl f328)), (c3, .inl (dA 0, 30, .inl m3))] H := hP
    have hD : va_D A [(t0, .inr (4, [.ref c0, .ref c1, .ref c2, .int x319, .int x320, .int x321, .int x322, .int i4, .int i5, .int i6, .ref c3, .int x323, .int x324, .int x325])), (c0, .inl (dA 0, 4096, .inl f326)), (c1, .inl (dA 0, 8, .inl f327)), (c2, .inl (dA 0, 4, .inl f328)), (c3, .inl (dA 0, 30, .inl m3))] := hD
    obtain ⟨g329, g330, g331, g332⟩ := w318
    have g329 : 0 ≤ x317.toInt ∧ x317.toInt ≤ 3 := g329
    have g330 : 0 ≤ x323.toInt ∧ x323.toInt ≤ 7 := g330
    have g331 : -1 ≤ x324.toInt ∧ x324.toInt ≤ 7 := g331
    have g332 : ∀ j : Nat, 0 ≤ (f326 j).toInt ∧ (f326 j).toInt ≤ 255 := g332
    exact g_iret hx hb hr rfl hlocks hK (x319, x320, x321, x322, i6, x323, x324, x325, f326, f327, f328, m3) hP hD hS ⟨(show 0 ≤ x317.toInt ∧ x317.toInt ≤ 3 from by omega), (show i6.toInt ≤ i6.toInt ∧ i6.toInt ≤ i6.toInt + 1 from by omega), (show 0 ≤ x323.toInt ∧ x323.toInt ≤ 7 from by omega), (show -1 ≤ x324.toInt ∧ x324.toInt ≤ 7 from by omega), g332⟩ (Nat.le_of_ble_eq_true rfl) (Nat.le_of_ble_eq_true rfl) dX4_execute_17
