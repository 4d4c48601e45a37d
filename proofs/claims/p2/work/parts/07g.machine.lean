theorem q54 : Cond.selects RX4 yX4_executeLow yX4_executeLow ∈ gw := gw_in (i := 54) (by decide +kernel) rfl
theorem q57 : Cond.selects RX4 yX4_fetchM yX4_fetchM ∈ gw := gw_in (i := 57) (by decide +kernel) rfl
theorem q66 : Cond.selects RX4 yX4_executeRegister yX4_executeRegister ∈ gw := gw_in (i := 66) (by decide +kernel) rfl
theorem q67 : Cond.selects RX4 yX4_branch yX4_branch ∈ gw := gw_in (i := 67) (by decide +kernel) rfl
theorem q69 : Cond.selects RX4 yX4_executeM yX4_executeM ∈ gw := gw_in (i := 69) (by decide +kernel) rfl
theorem q73 : Cond.selects RX4 yX4_executeFlow yX4_executeFlow ∈ gw := gw_in (i := 73) (by decide +kernel) rfl
theorem q1405 : Cond.methodLink RX4 96 yX4_executeLow ∈ gw := gw_in (i := 1405) (by decide +kernel) rfl
theorem q1407 : Cond.instanceMethod yX4_executeLow ∈ gw := gw_in (i := 1407) (by decide +kernel) rfl
theorem q1408 : Cond.code yX4_executeLow cX4_executeLow 4 (some .int) ∈ gw := gw_in (i := 1408) (by decide +kernel) rfl
theorem q1420 : Cond.methodLink RX4 109 yX4_fetchM ∈ gw := gw_in (i := 1420) (by decide +kernel) rfl
theorem q1422 : Cond.instanceMethod yX4_fetchM ∈ gw := gw_in (i := 1422) (by decide +kernel) rfl
theorem q1423 : Cond.code yX4_fetchM cX4_fetchM 7 none ∈ gw := gw_in (i := 1423) (by decide +kernel) rfl
theorem q1456 : Cond.methodLink RX4 100 yX4_executeRegister ∈ gw := gw_in (i := 1456) (by decide +kernel) rfl
theorem q1458 : Cond.instanceMethod yX4_executeRegister ∈ gw := gw_in (i := 1458) (by decide +kernel) rfl
theorem q1459 : Cond.code yX4_executeRegister cX4_executeRegister 3 (some .int) ∈ gw := gw_in (i := 1459) (by decide +kernel) rfl
theorem q1460 : Cond.methodLink RX4 103 yX4_branch ∈ gw := gw_in (i := 1460) (by decide +kernel) rfl
theorem q1462 : Cond.instanceMethod yX4_branch ∈ gw := gw_in (i := 1462) (by decide +kernel) rfl
theorem q1463 : Cond.code yX4_branch cX4_branch 4 (some .int) ∈ gw := gw_in (i := 1463) (by decide +kernel) rfl
theorem q1468 : Cond.methodLink RX4 112 yX4_executeM ∈ gw := gw_in (i := 1468) (by decide +kernel) rfl
theorem q1470 : Cond.instanceMethod yX4_executeM ∈ gw := gw_in (i := 1470) (by decide +kernel) rfl
theorem q1471 : Cond.code yX4_executeM cX4_executeM 2 (some .int) ∈ gw := gw_in (i := 1471) (by decide +kernel) rfl
theorem q1486 : Cond.methodLink RX4 115 yX4_executeFlow ∈ gw := gw_in (i := 1486) (by decide +kernel) rfl
theorem q1488 : Cond.instanceMethod yX4_executeFlow ∈ gw := gw_in (i := 1488) (by decide +kernel) rfl
theorem q1489 : Cond.code yX4_executeFlow cX4_executeFlow 3 (some .int) ∈ gw := gw_in (i := 1489) (by decide +kernel) rfl
theorem dX4_executeLow_0 : decode cX4_executeLow 0 = .ok (.iload_n 2, 1) := by decide +kernel
theorem dX4_executeLow_1 : decode cX4_executeLow 1 = .ok (.bipush 6, 2) := by decide +kernel
theorem dX4_executeLow_3 : decode cX4_executeLow 3 = .ok (.if_icmp .ne 20, 3) := by decide +kernel
theorem dX4_executeLow_23 : decode cX4_executeLow 23 = .ok (.iload_n 2, 1) := by decide +kernel
theorem dX4_executeLow_24 : decode cX4_executeLow 24 = .ok (.bipush 7, 2) := by decide +kernel
theorem dX4_executeLow_26 : decode cX4_executeLow 26 = .ok (.if_icmp .ne 25, 3) := by decide +kernel
theorem dX4_executeLow_51 : decode cX4_executeLow 51 = .ok (.iload_n 2, 1) := by decide +kernel
theorem dX4_executeLow_52 : decode cX4_executeLow 52 = .ok (.iconst 1, 1) := by decide +kernel
theorem dX4_executeLow_53 : decode cX4_executeLow 53 = .ok (.if_icmp .eq 8, 3) := by decide +kernel
theorem dX4_executeLow_61 : decode cX4_executeLow 61 = .ok (.iload_n 1, 1) := by decide +kernel
theorem dX4_executeLow_62 : decode cX4_executeLow 62 = .ok (.invokestatic 125, 3) := by decide +kernel
theorem dX4_executeLow_65 : decode cX4_executeLow 65 = .ok (.ifCond .ne 5, 3) := by decide +kernel
theorem dX4_executeLow_70 : decode cX4_executeLow 70 = .ok (.aload_n 0, 1) := by decide +kernel
theorem dX4_executeLow_71 : decode cX4_executeLow 71 = .ok (.invokevirtual 109, 3) := by decide +kernel
theorem dX4_executeLow_74 : decode cX4_executeLow 74 = .ok (.iload_n 2, 1) := by decide +kernel
theorem dX4_executeLow_75 : decode cX4_executeLow 75 = .ok (.iconst 1, 1) := by decide +kernel
theorem dX4_executeLow_76 : decode cX4_executeLow 76 = .ok (.if_icmp .ne 20, 3) := by decide +kernel
theorem dX4_executeLow_79 : decode cX4_executeLow 79 = .ok (.aload_n 0, 1) := by decide +kernel
theorem dX4_executeLow_80 : decode cX4_executeLow 80 = .ok (.iload_n 1, 1) := by decide +kernel
theorem dX4_executeLow_81 : decode cX4_executeLow 81 = .ok (.aload_n 0, 1) := by decide +kernel
theorem dX4_executeLow_82 : decode cX4_executeLow 82 = .ok (.getfield 13, 3) := by decide +kernel
theorem dX4_executeLow_85 : decode cX4_executeLow 85 = .ok (.aload_n 0, 1) := by decide +kernel
theorem dX4_executeLow_86 : decode cX4_executeLow 86 = .ok (.getfield 45, 3) := by decide +kernel
theorem dX4_executeLow_89 : decode cX4_executeLow 89 = .ok (.iaload, 1) := by decide +kernel
theorem dX4_executeLow_90 : decode cX4_executeLow 90 = .ok (.invokevirtual 129, 3) := by decide +kernel
theorem dX4_executeLow_93 : decode cX4_executeLow 93 = .ok (.goto 38, 3) := by decide +kernel
theorem dX4_executeLow_131 : decode cX4_executeLow 131 = .ok (.iconst 3, 1) := by decide +kernel
theorem dX4_executeLow_132 : decode cX4_executeLow 132 = .ok (.ireturn, 1) := by decide +kernel
theorem dX4_executeLow_68 : decode cX4_executeLow 68 = .ok (.iconst 2, 1) := by decide +kernel
theorem dX4_executeLow_69 : decode cX4_executeLow 69 = .ok (.ireturn, 1) := by decide +kernel
theorem dX4_executeLow_56 : decode cX4_executeLow 56 = .ok (.iload_n 2, 1) := by decide +kernel
theorem dX4_executeLow_57 : decode cX4_executeLow 57 = .ok (.iconst 3, 1) := by decide +kernel
theorem dX4_executeLow_58 : decode cX4_executeLow 58 = .ok (.if_icmp .ne 10, 3) := by decide +kernel
theorem dX4_executeLow_96 : decode cX4_executeLow 96 = .ok (.aload_n 0, 1) := by decide +kernel
theorem dX4_executeLow_97 : decode cX4_executeLow 97 = .ok (.iload_n 1, 1) := by decide +kernel
theorem dX4_executeLow_98 : decode cX4_executeLow 98 = .ok (.aload_n 0, 1) := by decide +kernel
theorem dX4_executeLow_99 : decode cX4_executeLow 99 = .ok (.getfield 13, 3) := by decide +kernel
theorem dX4_executeLow_102 : decode cX4_executeLow 102 = .ok (.aload_n 0, 1) := by decide +kernel
theorem dX4_executeLow_103 : decode cX4_executeLow 103 = .ok (.getfield 45, 3) := by decide +kernel
theorem dX4_executeLow_106 : decode cX4_executeLow 106 = .ok (.iaload, 1) := by decide +kernel
theorem dX4_executeLow_107 : decode cX4_executeLow 107 = .ok (.aload_n 0, 1) := by decide +kernel
theorem dX4_executeLow_108 : decode cX4_executeLow 108 = .ok (.invokevirtual 132, 3) := by decide +kernel
theorem dX4_executeLow_111 : decode cX4_executeLow 111 = .ok (.invokevirtual 135, 3) := by decide +kernel
theorem dX4_executeLow_114 : decode cX4_executeLow 114 = .ok (.istore_n 3, 1) := by decide +kernel
theorem dX4_executeLow_115 : decode cX4_executeLow 115 = .ok (.iload_n 1, 1) := by decide +kernel
theorem dX4_executeLow_116 : decode cX4_executeLow 116 = .ok (.bipush 7, 2) := by decide +kernel
theorem dX4_executeLow_118 : decode cX4_executeLow 118 = .ok (.if_icmp .eq 13, 3) := by decide +kernel
theorem dX4_executeLow_121 : decode cX4_executeLow 121 = .ok (.aload_n 0, 1) := by decide +kernel
theorem dX4_executeLow_122 : decode cX4_executeLow 122 = .ok (.getfield 13, 3) := by decide +kernel
theorem dX4_executeLow_125 : decode cX4_executeLow 125 = .ok (.aload_n 0, 1) := by decide +kernel
theorem dX4_executeLow_126 : decode cX4_executeLow 126 = .ok (.getfield 45, 3) := by decide +kernel
theorem dX4_executeLow_129 : decode cX4_executeLow 129 = .ok (.iload_n 3, 1) := by decide +kernel
theorem dX4_executeLow_130 : decode cX4_executeLow 130 = .ok (.iastore, 1) := by decide +kernel
theorem dX4_executeLow_29 : decode cX4_executeLow 29 = .ok (.iload_n 1, 1) := by decide +kernel
theorem dX4_executeLow_30 : decode cX4_executeLow 30 = .ok (.iconst 4, 1) := by decide +kernel
theorem dX4_executeLow_31 : decode cX4_executeLow 31 = .ok (.if_icmp .ge 20, 3) := by decide +kernel
theorem dX4_executeLow_34 : decode cX4_executeLow 34 = .ok (.iload_n 1, 1) := by decide +kernel
theorem dX4_executeLow_35 : decode cX4_executeLow 35 = .ok (.iconst 1, 1) := by decide +kernel
theorem dX4_executeLow_36 : decode cX4_executeLow 36 = .ok (.if_icmp .eq 15, 3) := by decide +kernel
theorem dX4_executeLow_39 : decode cX4_executeLow 39 = .ok (.aload_n 0, 1) := by decide +kernel
theorem dX4_executeLow_40 : decode cX4_executeLow 40 = .ok (.getfield 16, 3) := by decide +kernel
theorem dX4_executeLow_43 : decode cX4_executeLow 43 = .ok (.iload_n 1, 1) := by decide +kernel
theorem dX4_executeLow_44 : decode cX4_executeLow 44 = .ok (.aload_n 0, 1) := by decide +kernel
theorem dX4_executeLow_45 : decode cX4_executeLow 45 = .ok (.invokevirtual 122, 3) := by decide +kernel
theorem dX4_executeLow_48 : decode cX4_executeLow 48 = .ok (.iastore, 1) := by decide +kernel
theorem dX4_executeLow_49 : decode cX4_executeLow 49 = .ok (.iconst 3, 1) := by decide +kernel
theorem dX4_executeLow_50 : decode cX4_executeLow 50 = .ok (.ireturn, 1) := by decide +kernel
theorem dX4_executeLow_6 : decode cX4_executeLow 6 = .ok (.iload_n 1, 1) := by decide +kernel
theorem dX4_executeLow_7 : decode cX4_executeLow 7 = .ok (.iconst 4, 1) := by decide +kernel
theorem dX4_executeLow_8 : decode cX4_executeLow 8 = .ok (.if_icmp .ge 15, 3) := by decide +kernel
theorem dX4_executeLow_11 : decode cX4_executeLow 11 = .ok (.aload_n 0, 1) := by decide +kernel
theorem dX4_executeLow_12 : decode cX4_executeLow 12 = .ok (.aload_n 0, 1) := by decide +kernel
theorem dX4_executeLow_13 : decode cX4_executeLow 13 = .ok (.getfield 16, 3) := by decide +kernel
theorem dX4_executeLow_16 : decode cX4_executeLow 16 = .ok (.iload_n 1, 1) := by decide +kernel
theorem dX4_executeLow_17 : decode cX4_executeLow 17 = .ok (.iaload, 1) := by decide +kernel
theorem dX4_executeLow_18 : decode cX4_executeLow 18 = .ok (.invokevirtual 118, 3) := by decide +kernel
theorem dX4_executeLow_21 : decode cX4_executeLow 21 = .ok (.iconst 3, 1) := by decide +kernel
theorem dX4_executeLow_22 : decode cX4_executeLow 22 = .ok (.ireturn, 1) := by decide +kernel
theorem dX4_execute_0 : decode cX4_execute 0 = .ok (.iload_n 1, 1) := by decide +kernel
theorem dX4_execute_1 : decode cX4_execute 1 = .ok (.bipush 64, 2) := by decide +kernel
theorem dX4_execute_3 : decode cX4_execute 3 = .ok (.if_icmp .ge 15, 3) := by decide +kernel
theorem dX4_execute_18 : decode cX4_execute 18 = .ok (.iload_n 1, 1) := by decide +kernel
theorem dX4_execute_19 : decode cX4_execute 19 = .ok (.bipush 96, 2) := by decide +kernel
theorem dX4_execute_21 : decode cX4_execute 21 = .ok (.if_icmp .ge 15, 3) := by decide +kernel
theorem dX4_execute_36 : decode cX4_execute 36 = .ok (.iload_n 1, 1) := by decide +kernel
theorem dX4_execute_37 : decode cX4_execute 37 = .ok (.bipush 114, 2) := by decide +kernel
theorem dX4_execute_39 : decode cX4_execute 39 = .ok (.if_icmp .lt 15, 3) := by decide +kernel
theorem dX4_execute_54 : decode cX4_execute 54 = .ok (.iload_n 1, 1) := by decide +kernel
theorem dX4_execute_55 : decode cX4_execute 55 = .ok (.sipush 184, 3) := by decide +kernel
theorem dX4_execute_58 : decode cX4_execute 58 = .ok (.if_icmp .lt 26, 3) := by decide +kernel
theorem dX4_execute_84 : decode cX4_execute 84 = .ok (.iload_n 1, 1) := by decide +kernel
theorem dX4_execute_85 : decode cX4_execute 85 = .ok (.lookupswitch 85 #[(129, 75), (137, 75), (139, 75), (140, 75), (142, 75), (199, 75), (209, 75), (247, 75)], 75) := by decide +kernel
theorem dX4_execute_170 : decode cX4_execute 170 = .ok (.aload_n 0, 1) := by decide +kernel
theorem dX4_execute_171 : decode cX4_execute 171 = .ok (.iload_n 1, 1) := by decide +kernel
theorem dX4_execute_172 : decode cX4_execute 172 = .ok (.invokevirtual 115, 3) := by decide +kernel
theorem dX4_execute_175 : decode cX4_execute 175 = .ok (.ireturn, 1) := by decide +kernel
theorem dX4_execute_42 : decode cX4_execute 42 = .ok (.iload_n 1, 1) := by decide +kernel
theorem dX4_execute_43 : decode cX4_execute 43 = .ok (.bipush 121, 2) := by decide +kernel
theorem dX4_execute_45 : decode cX4_execute 45 = .ok (.if_icmp .gt 9, 3) := by decide +kernel
theorem dX4_execute_160 : decode cX4_execute 160 = .ok (.aload_n 0, 1) := by decide +kernel
theorem dX4_execute_161 : decode cX4_execute 161 = .ok (.invokevirtual 109, 3) := by decide +kernel
theorem dX4_execute_164 : decode cX4_execute 164 = .ok (.aload_n 0, 1) := by decide +kernel
theorem dX4_execute_165 : decode cX4_execute 165 = .ok (.iload_n 1, 1) := by decide +kernel
theorem dX4_execute_166 : decode cX4_execute 166 = .ok (.invokevirtual 112, 3) := by decide +kernel
theorem dX4_execute_169 : decode cX4_execute 169 = .ok (.ireturn, 1) := by decide +kernel
theorem dX4_execute_61 : decode cX4_execute 61 = .ok (.iload_n 1, 1) := by decide +kernel
theorem dX4_execute_62 : decode cX4_execute 62 = .ok (.sipush 191, 3) := by decide +kernel
theorem dX4_execute_65 : decode cX4_execute 65 = .ok (.if_icmp .gt 19, 3) := by decide +kernel
theorem dX4_execute_68 : decode cX4_execute 68 = .ok (.aload_n 0, 1) := by decide +kernel
theorem dX4_execute_69 : decode cX4_execute 69 = .ok (.getfield 13, 3) := by decide +kernel
theorem dX4_execute_72 : decode cX4_execute 72 = .ok (.iload_n 1, 1) := by decide +kernel
theorem dX4_execute_73 : decode cX4_execute 73 = .ok (.sipush 184, 3) := by decide +kernel
theorem dX4_execute_76 : decode cX4_execute 76 = .ok (.isub, 1) := by decide +kernel
theorem dX4_execute_77 : decode cX4_execute 77 = .ok (.aload_n 0, 1) := by decide +kernel
theorem dX4_execute_78 : decode cX4_execute 78 = .ok (.invokevirtual 106, 3) := by decide +kernel
theorem dX4_execute_81 : decode cX4_execute 81 = .ok (.iastore, 1) := by decide +kernel
theorem dX4_execute_82 : decode cX4_execute 82 = .ok (.iconst 3, 1) := by decide +kernel
theorem dX4_execute_83 : decode cX4_execute 83 = .ok (.ireturn, 1) := by decide +kernel
theorem dX4_execute_48 : decode cX4_execute 48 = .ok (.aload_n 0, 1) := by decide +kernel
theorem dX4_execute_49 : decode cX4_execute 49 = .ok (.iload_n 1, 1) := by decide +kernel
theorem dX4_execute_50 : decode cX4_execute 50 = .ok (.invokevirtual 103, 3) := by decide +kernel
theorem dX4_execute_53 : decode cX4_execute 53 = .ok (.ireturn, 1) := by decide +kernel
theorem dX4_execute_24 : decode cX4_execute 24 = .ok (.aload_n 0, 1) := by decide +kernel
theorem dX4_execute_25 : decode cX4_execute 25 = .ok (.iload_n 1, 1) := by decide +kernel
theorem dX4_execute_26 : decode cX4_execute 26 = .ok (.iconst 3, 1) := by decide +kernel
theorem dX4_execute_27 : decode cX4_execute 27 = .ok (.ishr, 1) := by decide +kernel
theorem dX4_execute_28 : decode cX4_execute 28 = .ok (.iload_n 1, 1) := by decide +kernel
theorem dX4_execute_29 : decode cX4_execute 29 = .ok (.bipush 7, 2) := by decide +kernel
theorem dX4_execute_31 : decode cX4_execute 31 = .ok (.iand, 1) := by decide +kernel
theorem dX4_execute_32 : decode cX4_execute 32 = .ok (.invokevirtual 100, 3) := by decide +kernel
theorem dX4_execute_35 : decode cX4_execute 35 = .ok (.ireturn, 1) := by decide +kernel
theorem dX4_execute_6 : decode cX4_execute 6 = .ok (.aload_n 0, 1) := by decide +kernel
theorem dX4_execute_7 : decode cX4_execute 7 = .ok (.iload_n 1, 1) := by decide +kernel
theorem dX4_execute_8 : decode cX4_execute 8 = .ok (.iconst 3, 1) := by decide +kernel
theorem dX4_execute_9 : decode cX4_execute 9 = .ok (.ishr, 1) := by decide +kernel
theorem dX4_execute_10 : decode cX4_execute 10 = .ok (.iload_n 1, 1) := by decide +kernel
theorem dX4_execute_11 : decode cX4_execute 11 = .ok (.bipush 7, 2) := by decide +kernel
theorem dX4_execute_13 : decode cX4_execute 13 = .ok (.iand, 1) := by decide +kernel
theorem dX4_execute_14 : decode cX4_execute 14 = .ok (.invokevirtual 96, 3) := by decide +kernel
theorem dX4_execute_17 : decode cX4_execute 17 = .ok (.ireturn, 1) := by decide +kernel
set_option maxHeartbeats 4000000 in
set_option maxRecDepth 100000 in
theorem s_X4_executeLow (l : Launch) (D : va_G) (dA : Nat → ClassId) (t0 : Nat) (a0 : Int32) (a1 : Int32) (c0 : Nat) (c1 : Nat) (c2 : Nat) (i0 : Int32) (i1 : Int32) (i2 : Int32) (i3 : Int32) (i4 : Int32) (i5 : Int32) (i6 : Int32) (c3 : Nat) (i7 : Int32) (i8 : Int32) (i9 : Int32) (m0 : Nat → Int32) (m1 : Nat → Int32) (m2 : Nat → Int32) (m3 : Nat → Int32) (p0 : 0 ≤ a0.toInt ∧ a0.toInt ≤ 7) (p1 : 0 ≤ a1.toInt ∧ a1.toInt ≤ 7) (p2 : 0 ≤ i4.toInt ∧ i4.toInt ≤ 1) (p3 : 0 ≤ i7.toInt ∧ i7.toInt ≤ 7) (p4 : -1 ≤ i8.toInt ∧ i8.toInt ≤ 7) (p5 : ∀ j : Nat, 0 ≤ (m0 j).toInt ∧ (m0 j).toInt ≤ 255) (sz : Nat) : Met l yX4_executeLow (gws yX4_executeLow cX4_executeLow 4 (some .int)) (gR 4 0 0) (gPre D dA [.ref t0, .int a0, .int a1] [(t0, .inr (4, [.ref c0, .ref c1, .ref c2, .int i0, .int i1, .int i2, .int i3, .int i4, .int i5, .int i6, .ref c3, .int i7, .int i8, .int i9])), (c0, .inl (dA 0, 4096, .inl m0)), (c1, .inl (dA 0, 8, .inl m1)), (c2, .inl (dA 0, 4, .inl m2)), (c3, .inl (dA 0, 30, .inl m3))] sz) (va_Qi (fun (r : Int32) (u : Int32 × Int32 × Int32 × Int32 × Int32 × Int32 × Int32 × (Nat → Int32) × (Nat → Int32) × (Nat → Int32)) => (0 ≤ r.toInt ∧ r.toInt ≤ 3) ∧ (0 ≤ u.2.2.2.2.1.toInt ∧ u.2.2.2.2.1.toInt ≤ 7) ∧ (-1 ≤ u.2.2.2.2.2.1.toInt ∧ u.2.2.2.2.2.1.toInt ≤ 7) ∧ (∀ j : Nat, 0 ≤ (u.2.2.2.2.2.2.2.1 j).toInt ∧ (u.2.2.2.2.2.2.2.1 j).toInt ≤ 255)) (gAt D dA (va_A [(t0, .inr (4, [.ref c0, .ref c1, .ref c2, .int i0, .int i1, .int i2, .int i3, .int i4, .int i5, .int i6, .ref c3, .int i7, .int i8, .int i9])), (c0, .inl (dA 0, 4096, .inl m0)), (c1, .inl (dA 0, 8, .inl m1)), (c2, .inl (dA 0, 4, .inl m2)), (c3, .inl (dA 0, 30, .inl m3))] sz) (fun u : Int32 × Int32 × Int32 × Int32 × Int32 × Int32 × Int32 × (Nat → Int32) × (Nat → Int32) × (Nat → Int32) => [(t0, .inr (4, [.ref c0, .ref c1, .ref c2, .int u.1, .int u.2.1, .int u.2.2.1, .int u.2.2.2.1, .int i4, .int i5, .int i6, .ref c3, .int u.2.2.2.2.1, .int u.2.2.2.2.2.1, .int u.2.2.2.2.2.2.1])), (c0, .inl (dA 0, 4096, .inl (u.2.2.2.2.2.2.2.1))), (c1, .inl (dA 0, 8, .inl (u.2.2.2.2.2.2.2.2.1))), (c2, .inl (dA 0, 4, .inl (u.2.2.2.2.2.2.2.2.2))), (c3, .inl (dA 0, 30, .inl m3))])) (va_A [(t0, .inr (4, [.ref c0, .ref c1, .ref c2, .int i0, .int i1, .int i2, .int i3, .int i4, .int i5, .int i6, .ref c3, .int i7, .int i8, .int i9])), (c0, .inl (dA 0, 4096, .inl m0)), (c1, .inl (dA 0, 8, .inl m1)), (c2, .inl (dA 0, 4, .inl m2)), (c3, .inl (dA 0, 30, .inl m3))] sz)) 0 0 (va_A [(t0, .inr (4, [.ref c0, .ref c1, .ref c2, .int i0, .int i1, .int i2, .int i3, .int i4, .int i5, .int i6, .ref c3, .int i7, .int i8, .int i9])), (c0, .inl (dA 0, 4096, .inl m0)), (c1, .inl (dA 0, 8, .inl m1)), (c2, .inl (dA 0, 4, .inl m2)), (c3, .inl (dA 0, 30, .inl m3))] sz) := by
  refine Met.ofW (cc := cX4_executeLow) (maxL := 4) (ret := (some .int)) (by decide) rfl ?_
  intro p e s m args below meth c s₁ B hml hv
  obtain ⟨rfl, hsz, hP, hK, hD0⟩ := hv
  have hx := B.exec
  have hb := B.bytes
  have hr := B.returns
  have hts := atoms_spec (ws := gws yX4_executeLow cX4_executeLow 4 (some .int)) B.pre
  have hg : ∀ w ∈ gw, w.before _ s = true := fun w h => hts w (List.mem_cons_of_mem _ h)
  have hown : s.vm.findClass RX4 = some m.cls := findClass_of_methodNamed B.named
  have hlocks := B.notSynchronized
  subst hsz
  have hD := hD0.self (sz := s.heap.size)
  generalize hAe : va_A [(t0, .inr (4, [.ref c0, .ref c1, .ref c2, .int i0, .int i1, .int i2, .int i3, .int i4, .int i5, .int i6, .ref c3, .int i7, .int i8, .int i9])), (c0, .inl (dA 0, 4096, .inl m0)), (c1, .inl (dA 0, 8, .inl m1)), (c2, .inl (dA 0, 4, .inl m2)), (c3, .inl (dA 0, 30, .inl m3))] s.heap.size = A at hD ⊢
  have hA : ∀ q : Nat, s.heap.size ≤ q → A q := fun q h => by rw [← hAe]; exact Or.inr h
  have hS : va_S A s.heap s.heap [] := va_S.rf
  have hP : va_P D vwC [(t0, .inr (4, [.ref c0, .ref c1, .ref c2, .int i0, .int i1, .int i2, .int i3, .int i4, .int i5, .int i6, .ref c3, .int i7, .int i8, .int i9])), (c0, .inl (dA 0, 4096, .inl m0)), (c1, .inl (dA 0, 8, .inl m1)), (c2, .inl (dA 0, 4, .inl m2)), (c3, .inl (dA 0, 30, .inl m3))] s.heap := hP
  have hl := lv_entry ([.ref t0, .int a0, .int a1]) (n := 4) (Nat.le_of_ble_eq_true rfl)
  rw [lg_entry_eq]
  generalize (lg_sl ([.ref t0, .int a0, .int a1]) ++ List.replicate (4 - (lg_sl ([.ref t0, .int a0, .int a1])).length) Slot.unset).toArray = ls at hl ⊢
  have hl : lv_has ls 4 [(0, .ref t0), (1, .int a0), (2, .int a1)] := hl
  refine lv_iload_n hx hb dX4_executeLow_0 rfl (lv_at hl 2 rfl) ?_
  refine lv_bipush (v := 6) hx hb dX4_executeLow_1 (by decide) ?_
  refine lv_icmp_ne (tgt := 23) hx hb dX4_executeLow_3 (by decide) (fun k1 => ?_) (fun k1 => ?_)
  · have g2 : a1.toInt ≠ 6 := gi_neq (rfl : a1.toInt = a1.toInt) (by decide : (6 : Int32).toInt = 6) k1
    refine lv_iload_n hx hb dX4_executeLow_23 rfl (lv_at hl 2 rfl) ?_
    refine lv_bipush (v := 7) hx hb dX4_executeLow_24 (by decide) ?_
    refine lv_icmp_ne (tgt := 51) hx hb dX4_executeLow_26 (by decide) (fun k3 => ?_) (fun k3 => ?_)
    · have g4 : a1.toInt ≠ 7 := gi_neq (rfl : a1.toInt = a1.toInt) (by decide : (7 : Int32).toInt = 7) k3
      refine lv_iload_n hx hb dX4_executeLow_51 rfl (lv_at hl 2 rfl) ?_
      refine lv_iconst (v := 1) hx hb dX4_executeLow_52 (by decide) ?_
      refine lv_icmp_eq (tgt := 61) hx hb dX4_executeLow_53 (by decide) (fun k5 => ?_) (fun k5 => ?_)
      · have g6 : a1.toInt = 1 := gi_eq (rfl : a1.toInt = a1.toInt) (by decide : (1 : Int32).toInt = 1) k5
        refine lv_iload_n hx hb dX4_executeLow_61 rfl (lv_at hl 1 rfl) ?_
        refine g_Si (n := 1) (As := [.int a0]) (rest := []) (wr := [(t0, .inr (4, [.ref c0, .ref c1, .ref c2, .int i0, .int i1, .int i2, .int i3, .int i4, .int i5, .int i6, .ref c3, .int i7, .int i8, .int i9])), (c0, .inl (dA 0, 4096, .inl m0)), (c1, .inl (dA 0, 8, .inl m1)), (c2, .inl (dA 0, 4, .inl m2)), (c3, .inl (dA 0, 30, .inl m3))]) hx hb hml hg hown hK hP hD hS hA (s_X4_isArithmetic l D dA a0 _) [] [0, 1, 2, 3, 4] rfl (by decide) rfl (by decide) (by decide) q1419 q159 q1417 q1418 (by decide +kernel) ⟨(Nat.le_of_ble_eq_true rfl), (Nat.le_of_ble_eq_true rfl)⟩ rfl hl.1 rfl (Nat.le_of_ble_eq_true rfl) dX4_executeLow_62 ⟨(Nat.le_of_ble_eq_true rfl), (Nat.le_of_ble_eq_true rfl)⟩ (fun x8 u7 H locs w9 hP hD hS => ?_)
        refine W.widen (k := 0) (n := 0) (Nat.le_of_ble_eq_true rfl) (Nat.le_of_ble_eq_true rfl) ?_
        have hP : va_P D vwC [(t0, .inr (4, [.ref c0, .ref c1, .ref c2, .int i0, .int i1, .int i2, .int i3, .int i4, .int i5, .int i6, .ref c3, .int i7, .int i8, .int i9])), (c0, .inl (dA 0, 4096, .inl m0)), (c1, .inl (dA 0, 8, .inl m1)), (c2, .inl (dA 0, 4, .inl m2)), (c3, .inl (dA 0, 30, .inl m3))] H := hP
        have hD : va_D A [(t0, .inr (4, [.ref c0, .ref c1, .ref c2, .int i0, .int i1, .int i2, .int i3, .int i4, .int i5, .int i6, .ref c3, .int i7, .int i8, .int i9])), (c0, .inl (dA 0, 4096, .inl m0)), (c1, .inl (dA 0, 8, .inl m1)), (c2, .inl (dA 0, 4, .inl m2)), (c3, .inl (dA 0, 30, .inl m3))] := hD
        have g10 := w9
        have g10 : 0 ≤ x8.toInt ∧ x8.toInt ≤ 1 := g10
        refine lv_if_ne (tgt := 70) hx hb dX4_executeLow_65 (by decide) (fun k11 => ?_) (fun k11 => ?_)
        · have g12 : x8.toInt ≠ 0 := gi_neq (rfl : x8.toInt = x8.toInt) (by decide : (0 : Int32).toInt = 0) k11
          refine lv_aload_n hx hb dX4_executeLow_70 rfl (lv_at hl 0 rfl) ?_
          refine g_Vv (n := 0) (As := []) (rest := []) (wr := []) hx hb hml hg hown hK hP hD hS hA (s_X4_fetchM l D dA t0 c0 c1 c2 i0 i1 i2 i3 i4 i5 i6 c3 i7 i8 i9 m0 m1 m2 m3 (by omega) (by omega) (by omega) p5 _) [0, 1, 2, 3, 4] [] rfl (by decide) rfl (by decide) (by decide) 0 rfl rfl q1423 q159 q1420 q1422 q57 (by decide +kernel) ⟨(Nat.le_of_ble_eq_true rfl), (Nat.le_of_ble_eq_true rfl)⟩ rfl hl.1 rfl (Nat.le_of_ble_eq_true rfl) dX4_executeLow_71 ⟨(Nat.le_of_ble_eq_true rfl), (Nat.le_of_ble_eq_true rfl)⟩ (fun u13 H locs w15 hP hD hS => ?_)
          refine W.widen (k := 0) (n := 0) (Nat.le_of_ble_eq_true rfl) (Nat.le_of_ble_eq_true rfl) ?_
          obtain ⟨x16, x17, x18, x19⟩ := u13
          have hP : va_P D vwC [(t0, .inr (4, [.ref c0, .ref c1, .ref c2, .int x16, .int i1, .int i2, .int i3, .int i4, .int i5, .int i6, .ref c3, .int x17, .int x18, .int x19])), (c0, .inl (dA 0, 4096, .inl m0)), (c1, .inl (dA 0, 8, .inl m1)), (c2, .inl (dA 0, 4, .inl m2)), (c3, .inl (dA 0, 30, .inl m3))] H := hP
          have hD : va_D A [(t0, .inr (4, [.ref c0, .ref c1, .ref c2, .int x16, .int i1, .int i2, .int i3, .int i4, .int i5, .int i6, .ref c3, .int x17, .int x18, .int x19])), (c0, .inl (dA 0, 4096, .inl m0)), (c1, .inl (dA 0, 8, .inl m1)), (c2, .inl (dA 0, 4, .inl m2)), (c3, .inl (dA 0, 30, .inl m3))] := hD
          obtain ⟨g20, g21⟩ := w15
          refine lv_iload_n hx hb dX4_executeLow_74 rfl (lv_at hl 2 rfl) ?_
          refine lv_iconst (v := 1) hx hb dX4_executeLow_75 (by decide) ?_
          refine lv_icmp_ne (tgt := 96) hx hb dX4_executeLow_76 (by decide) (fun k22 => ?_) (fun k22 => ?_)
          · have g23 : a1.toInt ≠ 1 := gi_neq (rfl : a1.toInt = a1.toInt) (by decide : (1 : Int32).toInt = 1) k22
            exfalso; omega
          · have g24 : a1.toInt = 1 := gi_eq (rfl : a1.toInt = a1.toInt) (by decide : (1 : Int32).toInt = 1) k22
            refine lv_aload_n hx hb dX4_executeLow_79 rfl (lv_at hl 0 rfl) ?_
            refine lv_iload_n hx hb dX4_executeLow_80 rfl (lv_at hl 1 rfl) ?_
            refine lv_aload_n hx hb dX4_executeLow_81 rfl (lv_at hl 0 rfl) ?_
            refine g_get hx hb hg hown hK hP 0 rfl rfl inX4 1 (by decide) q554 rfl dX4_executeLow_82 ?_
            refine lv_aload_n hx hb dX4_executeLow_85 rfl (lv_at hl 0 rfl) ?_
            refine g_get hx hb hg hown hK hP 0 rfl rfl inX4 11 (by decide) q574 rfl dX4_executeLow_86 ?_
            refine va_iald hx hb hK hP 2 0 rfl rfl (by rw [vp_in_iff]; omega) dX4_executeLow_89 ?_
            refine lv_topi (fun x25 e26 => ?_)
            refine g_Vv (n := 2) (As := [.int a0, .int x25]) (rest := []) (wr := []) hx hb hml hg hown hK hP hD hS hA (s_X4_arithmeticOnM l D dA t0 a0 x25 c0 c1 c2 x16 i1 i2 i3 i4 i5 i6 c3 x17 x18 x19 m0 m1 m2 m3 (by omega) (by omega) (by omega) p5 _) [0, 1, 2, 3, 4] [] rfl (by decide) rfl (by decide) (by decide) 0 rfl rfl q1439 q159 q1436 q1438 q61 (by decide +kernel) ⟨(Nat.le_of_ble_eq_true rfl), (Nat.le_of_ble_eq_true rfl)⟩ rfl hl.1 rfl (Nat.le_of_ble_eq_true rfl) dX4_executeLow_90 ⟨(Nat.le_of_ble_eq_true rfl), (Nat.le_of_ble_eq_true rfl)⟩ (fun u27 H locs w29 hP hD hS => ?_)
            refine W.widen (k := 0) (n := 0) (Nat.le_of_ble_eq_true rfl) (Nat.le_of_ble_eq_true rfl) ?_
            obtain ⟨x30, x31, x32, f33, f34⟩ := u27
            have hP : va_P D vwC [(t0, .inr (4, [.ref c0, .ref c1, .ref c2, .int x16, .int x30, .int x31, .int x32, .int i4, .int i5, .int i6, .ref c3, .int x17, .int x18, .int x19])), (c0, .inl (dA 0, 4096, .inl f33)), (c1, .inl (dA 0, 8, .inl f34)), (c2, .inl (dA 0, 4, .inl m2)), (c3, .inl (dA 0, 30, .inl m3))] H := hP
            have hD : va_D A [(t0, .inr (4, [.ref c0, .ref c1, .ref c2, .int x16, .int x30, .int x31, .int x32, .int i4, .int i5, .int i6, .ref c3, .int x17, .int x18, .int x19])), (c0, .inl (dA 0, 4096, .inl f33)), (c1, .inl (dA 0, 8, .inl f34)), (c2, .inl (dA 0, 4, .inl m2)), (c3, .inl (dA 0, 30, .inl m3))] := hD
            have g35 := w29
            have g35 : ∀ j : Nat, 0 ≤ (f33 j).toInt ∧ (f33 j).toInt ≤ 255 := g35
            refine lv_goto (tgt := 131) hx hb dX4_executeLow_93 (by decide) ?_
            refine lv_iconst (v := 3) hx hb dX4_executeLow_131 (by decide) ?_
            exact g_iret hx hb hr rfl hlocks hK (x16, x30, x31, x32, x17, x18, x19, f33, f34, m2) hP hD hS ⟨by decide, by omega, by omega, g35⟩ (Nat.le_of_ble_eq_true rfl) (Nat.le_of_ble_eq_true rfl) dX4_executeLow_132
        · have g36 : x8.toInt = 0 := gi_eq (rfl : x8.toInt = x8.toInt) (by decide : (0 : Int32).toInt = 0) k11
          refine lv_iconst (v := 2) hx hb dX4_executeLow_68 (by decide) ?_
          exact g_iret hx hb hr rfl hlocks hK (i0, i1, i2, i3, i7, i8, i9, m0, m1, m2) hP hD hS ⟨by decide, by omega, by omega, p5⟩ (Nat.le_of_ble_eq_true rfl) (Nat.le_of_ble_eq_true rfl) dX4_executeLow_69
      · have g37 : a1.toInt ≠ 1 := gi_neq (rfl : a1.toInt = a1.toInt) (by decide : (1 : Int32).toInt = 1) k5
        refine lv_iload_n hx hb dX4_executeLow_56 rfl (lv_at hl 2 rfl) ?_
        refine lv_iconst (v := 3) hx hb dX4_executeLow_57 (by decide) ?_
        refine lv_icmp_ne (tgt := 68) hx hb dX4_executeLow_58 (by decide) (fun k38 => ?_) (fun k38 => ?_)
        · have g39 : a1.toInt ≠ 3 := gi_neq (rfl : a1.toInt = a1.toInt) (by decide : (3 : Int32).toInt = 3) k38
          refine lv_iconst (v := 2) hx hb dX4_executeLow_68 (by decide) ?_
          exact g_iret hx hb hr rfl hlocks hK (i0, i1, i2, i3, i7, i8, i9, m0, m1, m2) hP hD hS ⟨by decide, by omega, by omega, p5⟩ (Nat.le_of_ble_eq_true rfl) (Nat.le_of_ble_eq_true rfl) dX4_executeLow_69
        · have g40 : a1.toInt = 3 := gi_eq (rfl : a1.toInt = a1.toInt) (by decide : (3 : Int32).toInt = 3) k38
          refine lv_iload_n hx hb dX4_executeLow_61 rfl (lv_at hl 1 rfl) ?_
          refine g_Si (n := 1) (As := [.int a0]) (rest := []) (wr := [(t0, .inr (4, [.ref c0, .ref c1, .ref c2, .int i0, .int i1, .int i2, .int i3, .int i4, .int i5, .int i6, .ref c3, .int i7, .int i8, .int i9])), (c0, .inl (dA 0, 4096, .inl m0)), (c1, .inl (dA 0, 8, .inl m1)), (c2, .inl (dA 0, 4, .inl m2)), (c3, .inl (dA 0, 30, .inl m3))]) hx hb hml hg hown hK hP hD hS hA (s_X4_isArithmetic l D dA a0 _) [] [0, 1, 2, 3, 4] rfl (by decide) rfl (by decide) (by decide) q1419 q159 q1417 q1418 (by decide +kernel) ⟨(Nat.le_of_ble_eq_true rfl), (Nat.le_of_ble_eq_true rfl)⟩ rfl hl.1 rfl (Nat.le_of_ble_eq_true rfl) dX4_executeLow_62 ⟨(Nat.le_of_ble_eq_true rfl), (Nat.le_of_ble_eq_true rfl)⟩ (fun x42 u41 H locs w43 hP hD hS => ?_)
          refine W.widen (k := 0) (n := 0) (Nat.le_of_ble_eq_true rfl) (Nat.le_of_ble_eq_true rfl) ?_
          have hP : va_P D vwC [(t0, .inr (4, [.ref c0, .ref c1, .ref c2, .int i0, .int i1, .int i2, .int i3, .int i4, .int i5, .int i6, .ref c3, .int i7, .int i8, .int i9])), (c0, .inl (dA 0, 4096, .inl m0)), (c1, .inl (dA 0, 8, .inl m1)), (c2, .inl (dA 0, 4, .inl m2)), (c3, .inl (dA 0, 30, .inl m3))] H := hP
          have hD : va_D A [(t0, .inr (4, [.ref c0, .ref c1, .ref c2, .int i0, .int i1, .int i2, .int i3, .int i4, .int i5, .int i6, .ref c3, .int i7, .int i8, .int i9])), (c0, .inl (dA 0, 4096, .inl m0)), (c1, .inl (dA 0, 8, .inl m1)), (c2, .inl (dA 0, 4, .inl m2)), (c3, .inl (dA 0, 30, .inl m3))] := hD
          have g44 := w43
          have g44 : 0 ≤ x42.toInt ∧ x42.toInt ≤ 1 := g44
          refine lv_if_ne (tgt := 70) hx hb dX4_executeLow_65 (by decide) (fun k45 => ?_) (fun k45 => ?_)
          · have g46 : x42.toInt ≠ 0 := gi_neq (rfl : x42.toInt = x42.toInt) (by decide : (0 : Int32).toInt = 0) k45
            refine lv_aload_n hx hb dX4_executeLow_70 rfl (lv_at hl 0 rfl) ?_
            refine g_Vv (n := 0) (As := []) (rest := []) (wr := []) hx hb hml hg hown hK hP hD hS hA (s_X4_fetchM l D dA t0 c0 c1 c2 i0 i1 i2 i3 i4 i5 i6 c3 i7 i8 i9 m0 m1 m2 m3 (by omega) (by omega) (by omega) p5 _) [0, 1, 2, 3, 4] [] rfl (by decide) rfl (by decide) (by decide) 0 rfl rfl q1423 q159 q1420 q1422 q57 (by decide +kernel) ⟨(Nat.le_of_ble_eq_true rfl), (Nat.le_of_ble_eq_true rfl)⟩ rfl hl.1 rfl (Nat.le_of_ble_eq_true rfl) dX4_executeLow_71 ⟨(Nat.le_of_ble_eq_true rfl), (Nat.le_of_ble_eq_true rfl)⟩ (fun u47 H locs w49 hP hD hS => ?_)
            refine W.widen (k := 0) (n := 0) (Nat.le_of_ble_eq_true rfl) (Nat.le_of_ble_eq_true rfl) ?_
            obtain ⟨x50, x51, x52, x53⟩ := u47
            have hP : va_P D vwC [(t0, .inr (4, [.ref c0, .ref c1, .ref c2, .int x50, .int i1, .int i2, .int i3, .int i4, .int i5, .int i6, .ref c3, .int x51, .int x52, .int x53])), (c0, .inl (dA 0, 4096, .inl m0)), (c1, .inl (dA 0, 8, .inl m1)), (c2, .inl (dA 0, 4, .inl m2)), (c3, .inl (dA 0, 30, .inl m3))] H := hP
            have hD : va_D A [(t0, .inr (4, [.ref c0, .ref c1, .ref c2, .int x50, .int i1, .int i2, .int i3, .int i4, .int i5, .int i6, .ref c3, .int x51, .int x52, .int x53])), (c0, .inl (dA 0, 4096, .inl m0)), (c1, .inl (dA 0, 8, .inl m1)), (c2, .inl (dA 0, 4, .inl m2)), (c3, .inl (dA 0, 30, .inl m3))] := hD
            obtain ⟨g54, g55⟩ := w49
            refine lv_iload_n hx hb dX4_executeLow_74 rfl (lv_at hl 2 rfl) ?_
            refine lv_iconst (v := 1) hx hb dX4_executeLow_75 (by decide) ?_
            refine lv_icmp_ne (tgt := 96) hx hb dX4_executeLow_76 (by decide) (fun k56 => ?_) (fun k56 => ?_)
            · have g57 : a1.toInt ≠ 1 := gi_neq (rfl : a1.toInt = a1.toInt) (by decide : (1 : Int32).toInt = 1) k56
              refine lv_aload_n hx hb dX4_executeLow_96 rfl (lv_at hl 0 rfl) ?_
              refine lv_iload_n hx hb dX4_executeLow_97 rfl (lv_at hl 1 rfl) ?_
              refine lv_aload_n hx hb dX4_executeLow_98 rfl (lv_at hl 0 rfl) ?_
              refine g_get hx hb hg hown hK hP 0 rfl rfl inX4 1 (by decide) q554 rfl dX4_executeLow_99 ?_
              refine lv_aload_n hx hb dX4_executeLow_102 rfl (lv_at hl 0 rfl) ?_
              refine g_get hx hb hg hown hK hP 0 rfl rfl inX4 11 (by decide) q574 rfl dX4_executeLow_103 ?_
              refine va_iald hx hb hK hP 2 0 rfl rfl (by rw [vp_in_iff]; omega) dX4_executeLow_106 ?_
              refine lv_topi (fun x58 e59 => ?_)
              refine lv_aload_n hx hb dX4_executeLow_107 rfl (lv_at hl 0 rfl) ?_
              refine g_Vi (n := 0) (As := []) (rest := [.int x58, .int a0, .ref t0]) (wr := []) hx hb hml hg hown hK hP hD hS hA (s_X4_readM l D dA t0 c0 c1 c2 x50 i1 i2 i3 i4 i5 i6 c3 x51 x52 x53 m0 m1 m2 m3 (by omega) (by omega) (by omega) p5 _) [0, 1, 2, 3, 4] [] rfl (by decide) rfl (by decide) (by decide) 0 rfl rfl q1443 q159 q1440 q1442 q62 (by decide +kernel) ⟨(Nat.le_of_ble_eq_true rfl), (Nat.le_of_ble_eq_true rfl)⟩ rfl hl.1 rfl (Nat.le_of_ble_eq_true rfl) dX4_executeLow_108 ⟨(Nat.le_of_ble_eq_true rfl), (Nat.le_of_ble_eq_true rfl)⟩ (fun x61 u60 H locs w62 hP hD hS => ?_)
              refine W.widen (k := 0) (n := 0) (Nat.le_of_ble_eq_true rfl) (Nat.le_of_ble_eq_true rfl) ?_
              have hP : va_P D vwC [(t0, .inr (4, [.ref c0, .ref c1, .ref c2, .int x50, .int i1, .int i2, .int i3, .int i4, .int i5, .int i6, .ref c3, .int x51, .int x52, .int x53])), (c0, .inl (dA 0, 4096, .inl m0)), (c1, .inl (dA 0, 8, .inl m1)), (c2, .inl (dA 0, 4, .inl m2)), (c3, .inl (dA 0, 30, .inl m3))] H := hP
              have hD : va_D A [(t0, .inr (4, [.ref c0, .ref c1, .ref c2, .int x50, .int i1, .int i2, .int i3, .int i4, .int i5, .int i6, .ref c3, .int x51, .int x52, .int x53])), (c0, .inl (dA 0, 4096, .inl m0)), (c1, .inl (dA 0, 8, .inl m1)), (c2, .inl (dA 0, 4, .inl m2)), (c3, .inl (dA 0, 30, .inl m3))] := hD
              refine g_Vi (n := 3) (As := [.int a0, .int x58, .int x61]) (rest := []) (wr := []) hx hb hml hg hown hK hP hD hS hA (s_X4_arithmetic l D dA t0 a0 x58 x61 c0 c1 c2 x50 i1 i2 i3 i4 i5 i6 c3 x51 x52 x53 m0 m1 m2 m3 (by omega) (by omega) (by omega) p5 _) [0, 1, 2, 3, 4] [] rfl (by decide) rfl (by decide) (by decide) 0 rfl rfl q1447 q159 q1444 q1446 q63 (by decide +kernel) ⟨(Nat.le_of_ble_eq_true rfl), (Nat.le_of_ble_eq_true rfl)⟩ rfl hl.1 rfl (Nat.le_of_ble_eq_true rfl) dX4_executeLow_111 ⟨(Nat.le_of_ble_eq_true rfl), (Nat.le_of_ble_eq_true rfl)⟩ (fun x64 u63 H locs w65 hP hD hS => ?_)
              refine W.widen (k := 0) (n := 0) (Nat.le_of_ble_eq_true rfl) (Nat.le_of_ble_eq_true rfl) ?_
              obtain ⟨x66, x67, x68⟩ := u63
              have hP : va_P D vwC [(t0, .inr (4, [.ref c0, .ref c1, .ref c2, .int x50, .int x66, .int x67, .int x68, .int i4, .int i5, .int i6, .ref c3, .int x51, .int x52, .int x53])), (c0, .inl (dA 0, 4096, .inl m0)), (c1, .inl (dA 0, 8, .inl m1)), (c2, .inl (dA 0, 4, .inl m2)), (c3, .inl (dA 0, 30, .inl m3))] H := hP
              have hD : va_D A [(t0, .inr (4, [.ref c0, .ref c1, .ref c2, .int x50, .int x66, .int x67, .int x68, .int i4, .int i5, .int i6, .ref c3, .int x51, .int x52, .int x53])), (c0, .inl (dA 0, 4096, .inl m0)), (c1, .inl (dA 0, 8, .inl m1)), (c2, .inl (dA 0, 4, .inl m2)), (c3, .inl (dA 0, 30, .inl m3))] := hD
              refine lv_istore_n (lv' := [(3, .int x64), (0, .ref t0), (1, .int a0), (2, .int a1)]) hx hb dX4_executeLow_114 rfl hl (by decide) rfl (fun ls hl => ?_)
              refine lv_iload_n hx hb dX4_executeLow_115 rfl (lv_at hl 2 rfl) ?_
              refine lv_bipush (v := 7) hx hb dX4_executeLow_116 (by decide) ?_
              refine lv_icmp_eq (tgt := 131) hx hb dX4_executeLow_118 (by decide) (fun k69 => ?_) (fun k69 => ?_)
              · have g70 : a0.toInt = 7 := gi_eq (rfl : a0.toInt = a0.toInt) (by decide : (7 : Int32).toInt = 7) k69
                refine lv_iconst (v := 3) hx hb dX4_executeLow_131 (by decide) ?_
                exact g_iret hx hb hr rfl hlocks hK (x50, x66, x67, x68, x51, x52, x53, m0, m1, m2) hP hD hS ⟨by decide, by omega, by omega, p5⟩ (Nat.le_of_ble_eq_true rfl) (Nat.le_of_ble_eq_true rfl) dX4_executeLow_132
              · have g71 : a0.toInt ≠ 7 := gi_neq (rfl : a0.toInt = a0.toInt) (by decide : (7 : Int32).toInt = 7) k69
                refine lv_aload_n hx hb dX4_executeLow_121 rfl (lv_at hl 1 rfl) ?_
                refine g_get hx hb hg hown hK hP 0 rfl rfl inX4 1 (by decide) q554 rfl dX4_executeLow_122 ?_
                refine lv_aload_n hx hb dX4_executeLow_125 rfl (lv_at hl 1 rfl) ?_
                refine g_get hx hb hg hown hK hP 0 rfl rfl inX4 11 (by decide) q574 rfl dX4_executeLow_126 ?_
                refine lv_iload_n hx hb dX4_executeLow_129 rfl (lv_at hl 0 rfl) ?_
                refine va_iast hx hb hK hP hD hS 2 0 rfl rfl (by rw [vp_in_iff]; omega) dX4_executeLow_130 (fun H locs hP hD hS => ?_)
                have hP : va_P D vwC [(t0, .inr (4, [.ref c0, .ref c1, .ref c2, .int x50, .int x66, .int x67, .int x68, .int i4, .int i5, .int i6, .ref c3, .int x51, .int x52, .int x53])), (c0, .inl (dA 0, 4096, .inl m0)), (c1, .inl (dA 0, 8, .inl (upd m1 (x51 : Int32).toNatClampNeg x64))), (c2, .inl (dA 0, 4, .inl m2)), (c3, .inl (dA 0, 30, .inl m3))] H := hP
                have hD : va_D A [(t0, .inr (4, [.ref c0, .ref c1, .ref c2, .int x50, .int x66, .int x67, .int x68, .int i4, .int i5, .int i6, .ref c3, .int x51, .int x52, .int x53])), (c0, .inl (dA 0, 4096, .inl m0)), (c1, .inl (dA 0, 8, .inl (upd m1 (x51 : Int32).toNatClampNeg x64))), (c2, .inl (dA 0, 4, .inl m2)), (c3, .inl (dA 0, 30, .inl m3))] := hD
                obtain ⟨f72, ef72⟩ : ∃ f : Nat → Int32, f = (upd m1 (x51 : Int32).toNatClampNeg x64) := ⟨_, rfl⟩
                rw [← ef72] at hP hD
                refine lv_iconst (v := 3) hx hb dX4_executeLow_131 (by decide) ?_
                exact g_iret hx hb hr rfl hlocks hK (x50, x66, x67, x68, x51, x52, x53, m0, f72, m2) hP hD hS ⟨by decide, by omega, by omega, p5⟩ (Nat.le_of_ble_eq_true rfl) (Nat.le_of_ble_eq_true rfl) dX4_executeLow_132
            · have g73 : a1.toInt = 1 := gi_eq (rfl : a1.toInt = a1.toInt) (by decide : (1 : Int32).toInt = 1) k56
              exfalso; omega
          · have g74 : x42.toInt = 0 := gi_eq (rfl : x42.toInt = x42.toInt) (by decide : (0 : Int32).toInt = 0) k45
            refine lv_iconst (v := 2) hx hb dX4_executeLow_68 (by decide) ?_
            exact g_iret hx hb hr rfl hlocks hK (i0, i1, i2, i3, i7, i8, i9, m0, m1, m2) hP hD hS ⟨by decide, by omega, by omega, p5⟩ (Nat.le_of_ble_eq_true rfl) (Nat.le_of_ble_eq_true rfl) dX4_executeLow_69
    · have g75 : a1.toInt = 7 := gi_eq (rfl : a1.toInt = a1.toInt) (by decide : (7 : Int32).toInt = 7) k3
      refine lv_iload_n hx hb dX4_executeLow_29 rfl (lv_at hl 1 rfl) ?_
      refine lv_iconst (v := 4) hx hb dX4_executeLow_30 (by decide) ?_
      refine lv_icmp_ge (tgt := 51) hx hb dX4_executeLow_31 (by decide) (fun k76 => ?_) (fun k76 => ?_)
      · have g77 : 4 ≤ a0.toInt := gi_le (by decide : (4 : Int32).toInt = 4) (rfl : a0.toInt = a0.toInt) k76
        refine lv_iload_n hx hb dX4_executeLow_51 rfl (lv_at hl 2 rfl) ?_
        refine lv_iconst (v := 1) hx hb dX4_executeLow_52 (by decide) ?_
        refine lv_icmp_eq (tgt := 61) hx hb dX4_executeLow_53 (by decide) (fun k78 => ?_) (fun k78 => ?_)
        · have g79 : a1.toInt = 1 := gi_eq (rfl : a1.toInt = a1.toInt) (by decide : (1 : Int32).toInt = 1) k78
          exfalso; omega
        · have g80 : a1.toInt ≠ 1 := gi_neq (rfl : a1.toInt = a1.toInt) (by decide : (1 : Int32).toInt = 1) k78
          refine lv_iload_n hx hb dX4_executeLow_56 rfl (lv_at hl 2 rfl) ?_
          refine lv_iconst (v := 3) hx hb dX4_executeLow_57 (by decide) ?_
          refine lv_icmp_ne (tgt := 68) hx hb dX4_executeLow_58 (by decide) (fun k81 => ?_) (fun k81 => ?_)
          · have g82 : a1.toInt ≠ 3 := gi_neq (rfl : a1.toInt = a1.toInt) (by decide : (3 : Int32).toInt = 3) k81
            refine lv_iconst (v := 2) hx hb dX4_executeLow_68 (by decide) ?_
            exact g_iret hx hb hr rfl hlocks hK (i0, i1, i2, i3, i7, i8, i9, m0, m1, m2) hP hD hS ⟨by decide, by omega, by omega, p5⟩ (Nat.le_of_ble_eq_true rfl) (Nat.le_of_ble_eq_true rfl) dX4_executeLow_69
          · have g83 : a1.toInt = 3 := gi_eq (rfl : a1.toInt = a1.toInt) (by decide : (3 : Int32).toInt = 3) k81
            exfalso; omega
      · have g84 : 4 > a0.toInt := gi_nle (by decide : (4 : Int32).toInt = 4) (rfl : a0.toInt = a0.toInt) k76
        refine lv_iload_n hx hb dX4_executeLow_34 rfl (lv_at hl 1 rfl) ?_
        refine lv_iconst (v := 1) hx hb dX4_executeLow_35 (by decide) ?_
        refine lv_icmp_eq (tgt := 51) hx hb dX4_executeLow_36 (by decide) (fun k85 => ?_) (fun k85 => ?_)
        · have g86 : a0.toInt = 1 := gi_eq (rfl : a0.toInt = a0.toInt) (by decide : (1 : Int32).toInt = 1) k85
          refine lv_iload_n hx hb dX4_executeLow_51 rfl (lv_at hl 2 rfl) ?_
          refine lv_iconst (v := 1) hx hb dX4_executeLow_52 (by decide) ?_
          refine lv_icmp_eq (tgt := 61) hx hb dX4_executeLow_53 (by decide) (fun k87 => ?_) (fun k87 => ?_)
          · have g88 : a1.toInt = 1 := gi_eq (rfl : a1.toInt = a1.toInt) (by decide : (1 : Int32).toInt = 1) k87
            exfalso; omega
          · have g89 : a1.toInt ≠ 1 := gi_neq (rfl : a1.toInt = a1.toInt) (by decide : (1 : Int32).toInt = 1) k87
            refine lv_iload_n hx hb dX4_executeLow_56 rfl (lv_at hl 2 rfl) ?_
            refine lv_iconst (v := 3) hx hb dX4_executeLow_57 (by decide) ?_
            refine lv_icmp_ne (tgt := 68) hx hb dX4_executeLow_58 (by decide) (fun k90 => ?_) (fun k90 => ?_)
            · have g91 : a1.toInt ≠ 3 := gi_neq (rfl : a1.toInt = a1.toInt) (by decide : (3 : Int32).toInt = 3) k90
              refine lv_iconst (v := 2) hx hb dX4_executeLow_68 (by decide) ?_
              exact g_iret hx hb hr rfl hlocks hK (i0, i1, i2, i3, i7, i8, i9, m0, m1, m2) hP hD hS ⟨by decide, by omega, by omega, p5⟩ (Nat.le_of_ble_eq_true rfl) (Nat.le_of_ble_eq_true rfl) dX4_executeLow_69
            · have g92 : a1.toInt = 3 := gi_eq (rfl : a1.toInt = a1.toInt) (by decide : (3 : Int32).toInt = 3) k90
              exfalso; omega
        · have g93 : a0.toInt ≠ 1 := gi_neq (rfl : a0.toInt = a0.toInt) (by decide : (1 : Int32).toInt = 1) k85
          refine lv_aload_n hx hb dX4_executeLow_39 rfl (lv_at hl 0 rfl) ?_
          refine g_get hx hb hg hown hK hP 0 rfl rfl inX4 2 (by decide) q556 rfl dX4_executeLow_40 ?_
          refine lv_iload_n hx hb dX4_executeLow_43 rfl (lv_at hl 1 rfl) ?_
          refine lv_aload_n hx hb dX4_executeLow_44 rfl (lv_at hl 0 rfl) ?_
          refine g_Vi (n := 0) (As := []) (rest := [.int a0, .ref c2]) (wr := []) hx hb hml hg hown hK hP hD hS hA (s_X4_pop l D dA t0 c0 c1 c2 i0 i1 i2 i3 i4 i5 i6 c3 i7 i8 i9 m0 m1 m2 m3 (by omega) (by omega) (by omega) p5 _) [0, 1, 2, 3, 4] [] rfl (by decide) rfl (by decide) (by decide) 0 rfl rfl q1416 q159 q1413 q1415 q56 (by decide +kernel) ⟨(Nat.le_of_ble_eq_true rfl), (Nat.le_of_ble_eq_true rfl)⟩ rfl hl.1 rfl (Nat.le_of_ble_eq_true rfl) dX4_executeLow_45 ⟨(Nat.le_of_ble_eq_true rfl), (Nat.le_of_ble_eq_true rfl)⟩ (fun x95 u94 H locs w96 hP hD hS => ?_)
          refine W.widen (k := 0) (n := 0) (Nat.le_of_ble_eq_true rfl) (Nat.le_of_ble_eq_true rfl) ?_
          obtain ⟨f97, rfl⟩ : ∃ z, z = u94 := ⟨_, rfl⟩
          have hP : va_P D vwC [(t0, .inr (4, [.ref c0, .ref c1, .ref c2, .int i0, .int i1, .int i2, .int i3, .int i4, .int i5, .int i6, .ref c3, .int i7, .int i8, .int i9])), (c0, .inl (dA 0, 4096, .inl m0)), (c1, .inl (dA 0, 8, .inl f97)), (c2, .inl (dA 0, 4, .inl m2)), (c3, .inl (dA 0, 30, .inl m3))] H := hP
          have hD : va_D A [(t0, .inr (4, [.ref c0, .ref c1, .ref c2, .int i0, .int i1, .int i2, .int i3, .int i4, .int i5, .int i6, .ref c3, .int i7, .int i8, .int i9])), (c0, .inl (dA 0, 4096, .inl m0)), (c1, .inl (dA 0, 8, .inl f97)), (c2, .inl (dA 0, 4, .inl m2)), (c3, .inl (dA 0, 30, .inl m3))] := hD
          refine va_iast hx hb hK hP hD hS 3 0 rfl rfl (by rw [vp_in_iff]; omega) dX4_executeLow_48 (fun H locs hP hD hS => ?_)
          have hP : va_P D vwC [(t0, .inr (4, [.ref c0, .ref c1, .ref c2, .int i0, .int i1, .int i2, .int i3, .int i4, .int i5, .int i6, .ref c3, .int i7, .int i8, .int i9])), (c0, .inl (dA 0, 4096, .inl m0)), (c1, .inl (dA 0, 8, .inl f97)), (c2, .inl (dA 0, 4, .inl (upd m2 (a0 : Int32).toNatClampNeg x95))), (c3, .inl (dA 0, 30, .inl m3))] H := hP
          have hD : va_D A [(t0, .inr (4, [.ref c0, .ref c1, .ref c2, .int i0, .int i1, .int i2, .int i3, .int i4, .int i5, .int i6, .ref c3, .int i7, .int i8, .int i9])), (c0, .inl (dA 0, 4096, .inl m0)), (c1, .inl (dA 0, 8, .inl f97)), (c2, .inl (dA 0, 4, .inl (upd m2 (a0 : Int32).toNatClampNeg x95))), (c3, .inl (dA 0, 30, .inl m3))] := hD
          obtain ⟨f98, ef98⟩ : ∃ f : Nat → Int32, f = (upd m2 (a0 : Int32).toNatClampNeg x95) := ⟨_, rfl⟩
          rw [← ef98] at hP hD
          refine lv_iconst (v := 3) hx hb dX4_executeLow_49 (by decide) ?_
          exact g_iret hx hb hr rfl hlocks hK (i0, i1, i2, i3, i7, i8, i9, m0, f97, f98) hP hD hS ⟨by decide, by omega, by omega, p5⟩ (Nat.le_of_ble_eq_true rfl) (Nat.le_of_ble_eq_true rfl) dX4_executeLow_50
  · have g99 : a1.toInt = 6 := gi_eq (rfl : a1.toInt = a1.toInt) (by decide : (6 : Int32).toInt = 6) k1
    refine lv_iload_n hx hb dX4_executeLow_6 rfl (lv_at hl 1 rfl) ?_
    refine lv_iconst (v := 4) hx hb dX4_executeLow_7 (by decide) ?_
    refine lv_icmp_ge (tgt := 23) hx hb dX4_executeLow_8 (by decide) (fun k100 => ?_) (fun k100 => ?_)
    · have g101 : 4 ≤ a0.toInt := gi_le (by decide : (4 : Int32).toInt = 4) (rfl : a0.toInt = a0.toInt) k100
      refine lv_iload_n hx hb dX4_executeLow_23 rfl (lv_at hl 2 rfl) ?_
      refine lv_bipush (v := 7) hx hb dX4_executeLow_24 (by decide) ?_
      refine lv_icmp_ne (tgt := 51) hx hb dX4_executeLow_26 (by decide) (fun k102 => ?_) (fun k102 => ?_)
      · have g103 : a1.toInt ≠ 7 := gi_neq (rfl : a1.toInt = a1.toInt) (by decide : (7 : Int32).toInt = 7) k102
        refine lv_iload_n hx hb dX4_executeLow_51 rfl (lv_at hl 2 rfl) ?_
        refine lv_iconst (v := 1) hx hb dX4_executeLow_52 (by decide) ?_
        refine lv_icmp_eq (tgt := 61) hx hb dX4_executeLow_53 (by decide) (fun k104 => ?_) (fun k104 => ?_)
        · have g105 : a1.toInt = 1 := gi_eq (rfl : a1.toInt = a1.toInt) (by decide : (1 : Int32).toInt = 1) k104
          exfalso; omega
        · have g106 : a1.toInt ≠ 1 := gi_neq (rfl : a1.toInt = a1.toInt) (by decide : (1 : Int32).toInt = 1) k104
          refine lv_iload_n hx hb dX4_executeLow_56 rfl (lv_at hl 2 rfl) ?_
          refine lv_iconst (v := 3) hx hb dX4_executeLow_57 (by decide) ?_
          refine lv_icmp_ne (tgt := 68) hx hb dX4_executeLow_58 (by decide) (fun k107 => ?_) (fun k107 => ?_)
          · have g108 : a1.toInt ≠ 3 := gi_neq (rfl : a1.toInt = a1.toInt) (by decide : (3 : Int32).toInt = 3) k107
            refine lv_iconst (v := 2) hx hb dX4_executeLow_68 (by decide) ?_
            exact g_iret hx hb hr rfl hlocks hK (i0, i1, i2, i3, i7, i8, i9, m0, m1, m2) hP hD hS ⟨by decide, by omega, by omega, p5⟩ (Nat.le_of_ble_eq_true rfl) (Nat.le_of_ble_eq_true rfl) dX4_executeLow_69
          · have g109 : a1.toInt = 3 := gi_eq (rfl : a1.toInt = a1.toInt) (by decide : (3 : Int32).toInt = 3) k107
            exfalso; omega
      · have g110 : a1.toInt = 7 := gi_eq (rfl : a1.toInt = a1.toInt) (by decide : (7 : Int32).toInt = 7) k102
        exfalso; omega
    · have g111 : 4 > a0.toInt := gi_nle (by decide : (4 : Int32).toInt = 4) (rfl : a0.toInt = a0.toInt) k100
      refine lv_aload_n hx hb dX4_executeLow_11 rfl (lv_at hl 0 rfl) ?_
      refine lv_aload_n hx hb dX4_executeLow_12 rfl (lv_at hl 0 rfl) ?_
      refine g_get hx hb hg hown hK hP 0 rfl rfl inX4 2 (by decide) q556 rfl dX4_executeLow_13 ?_
      refine lv_iload_n hx hb dX4_executeLow_16 rfl (lv_at hl 1 rfl) ?_
      refine va_iald hx hb hK hP 3 0 rfl rfl (by rw [vp_in_iff]; omega) dX4_executeLow_17 ?_
      refine lv_topi (fun x112 e113 => ?_)
      refine g_Vv (n := 1) (As := [.int x112]) (rest := []) (wr := []) hx hb hml hg hown hK hP hD hS hA (s_X4_push l D dA t0 x112 c0 c1 c2 i0 i1 i2 i3 i4 i5 i6 c3 i7 i8 i9 m0 m1 m2 m3 (by omega) (by omega) (by omega) p5 _) [0, 1, 2, 3, 4] [] rfl (by decide) rfl (by decide) (by decide) 0 rfl rfl q1412 q159 q1409 q1411 q55 (by decide +kernel) ⟨(Nat.le_of_ble_eq_true rfl), (Nat.le_of_ble_eq_true rfl)⟩ rfl hl.1 rfl (Nat.le_of_ble_eq_true rfl) dX4_executeLow_18 ⟨(Nat.le_of_ble_eq_true rfl), (Nat.le_of_ble_eq_true rfl)⟩ (fun u114 H locs w116 hP hD hS => ?_)
      refine W.widen (k := 0) (n := 0) (Nat.le_of_ble_eq_true rfl) (Nat.le_of_ble_eq_true rfl) ?_
      obtain ⟨f117, f118⟩ := u114
      have hP : va_P D vwC [(t0, .inr (4, [.ref c0, .ref c1, .ref c2, .int i0, .int i1, .int i2, .int i3, .int i4, .int i5, .int i6, .ref c3, .int i7, .int i8, .int i9])), (c0, .inl (dA 0, 4096, .inl f117)), (c1, .inl (dA 0, 8, .inl f118)), (c2, .inl (dA 0, 4, .inl m2)), (c3, .inl (dA 0, 30, .inl m3))] H := hP
      have hD : va_D A [(t0, .inr (4, [.ref c0, .ref c1, .ref c2, .int i0, .int i1, .int i2, .int i3, .int i4, .int i5, .int i6, .ref c3, .int i7, .int i8, .int i9])), (c0, .inl (dA 0, 4096, .inl f117)), (c1, .inl (dA 0, 8, .inl f118)), (c2, .inl (dA 0, 4, .inl m2)), (c3, .inl (dA 0, 30, .inl m3))] := hD
      have g119 := w116
      have g119 : ∀ j : Nat, 0 ≤ (f117 j).toInt ∧ (f117 j).toInt ≤ 255 := g119
      refine lv_iconst (v := 3) hx hb dX4_executeLow_21 (by decide) ?_
      exact g_iret hx hb hr rfl hlocks hK (i0, i1, i2, i3, i7, i8, i9, f117, f118, m2) hP hD hS ⟨by decide, by omega, by omega, g119⟩ (Nat.le_of_ble_eq_true rfl) (Nat.le_of_ble_eq_true rfl) dX4_executeLow_22
set_option maxHeartbeats 4000000 in
set_option maxRecDepth 100000 in
theorem s_X4_execute (l : Launch) (D : va_G) (dA : Nat → ClassId) (t0 : Nat) (a0 : Int32) (c0 : Nat) (c1 : Nat) (c2 : Nat) (i0 : Int32) (i1 : Int32) (i2 : Int32) (i3 : Int32) (i4 : Int32) (i5 : Int32) (i6 : Int32) (c3 : Nat) (i7 : Int32) (i8 : Int32) (i9 : Int32) (m0 : Nat → Int32) (m1 : Nat → Int32) (m2 : Nat → Int32) (m3 : Nat → Int32) (p0 : 0 ≤ a0.toInt ∧ a0.toInt ≤ 255) (p1 : 0 ≤ i4.toInt ∧ i4.toInt ≤ 1) (p2 : 0 ≤ i7.toInt ∧ i7.toInt ≤ 7) (p3 : -1 ≤ i8.toInt ∧ i8.toInt ≤ 7) (p4 : ∀ j : Nat, 0 ≤ (m0 j).toInt ∧ (m0 j).toInt ≤ 255) (sz : Nat) : Met l yX4_execute (gws yX4_execute cX4_execute 2 (some .int)) (gR 5 0 0) (gPre D dA [.ref t0, .int a0] [(t0, .inr (4, [.ref c0, .ref c1, .ref c2, .int i0, .int i1, .int i2, .int i3, .int i4, .int i5, .int i6, .ref c3, .int i7, .int i8, .int i9])), (c0, .inl (dA 0, 4096, .inl m0)), (c1, .inl (dA 0, 8, .inl m1)), (c2, .inl (dA 0, 4, .inl m2)), (c3, .inl (dA 0, 30, .inl m3))] sz) (va_Qi (fun (r : Int32) (u : Int32 × Int32 × Int32 × Int32 × Int32 × Int32 × Int32 × Int32 × (Nat → Int32) × (Nat → Int32) × (Nat → Int32) × (Nat → Int32)) => (0 ≤ r.toInt ∧ r.toInt ≤ 3) ∧ (0 ≤ u.2.2.2.2.2.1.toInt ∧ u.2.2.2.2.2.1.toInt ≤ 7) ∧ (-1 ≤ u.2.2.2.2.2.2.1.toInt ∧ u.2.2.2.2.2.2.1.toInt ≤ 7) ∧ (∀ j : Nat, 0 ≤ (u.2.2.2.2.2.2.2.2.1 j).toInt ∧ (u.2.2.2.2.2.2.2.2.1 j).toInt ≤ 255)) (gAt D dA (va_A [(t0, .inr (4, [.ref c0, .ref c1, .ref c2, .int i0, .int i1, .int i2, .int i3, .int i4, .int i5, .int i6, .ref c3, .int i7, .int i8, .int i9])), (c0, .inl (dA 0, 4096, .inl m0)), (c1, .inl (dA 0, 8, .inl m1)), (c2, .inl (dA 0, 4, .inl m2)), (c3, .inl (dA 0, 30, .inl m3))] sz) (fun u : Int32 × Int32 × Int32 × Int32 × Int32 × Int32 × Int32 × Int32 × (Nat → Int32) × (Nat → Int32) × (Nat → Int32) × (Nat → Int32) => [(t0, .inr (4, [.ref c0, .ref c1, .ref c2, .int u.1, .int u.2.1, .int u.2.2.1, .int u.2.2.2.1, .int i4, .int i5, .int u.2.2.2.2.1, .ref c3, .int u.2.2.2.2.2.1, .int u.2.2.2.2.2.2.1, .int u.2.2.2.2.2.2.2.1])), (c0, .inl (dA 0, 4096, .inl (u.2.2.2.2.2.2.2.2.1))), (c1, .inl (dA 0, 8, .inl (u.2.2.2.2.2.2.2.2.2.1))), (c2, .inl (dA 0, 4, .inl (u.2.2.2.2.2.2.2.2.2.2.1))), (c3, .inl (dA 0, 30, .inl (u.2.2.2.2.2.2.2.2.2.2.2)))])) (va_A [(t0, .inr (4, [.ref c0, .ref c1, .ref c2, .int i0, .int i1, .int i2, .int i3, .int i4, .int i5, .int i6, .ref c3, .int i7, .int i8, .int i9])), (c0, .inl (dA 0, 4096, .inl m0)), (c1, .inl (dA 0, 8, .inl m1)), (c2, .inl (dA 0, 4, .inl m2)), (c3, .inl (dA 0, 30, .inl m3))] sz)) 0 0 (va_A [(t0, .inr (4, [.ref c0, .ref c1, .ref c2, .int i0, .int i1, .int i2, .int i3, .int i4, .int i5, .int i6, .ref c3, .int i7, .int i8, .int i9])), (c0, .inl (dA 0, 4096, .inl m0)), (c1, .inl (dA 0, 8, .inl m1)), (c2, .inl (dA 0, 4, .inl m2)), (c3, .inl (dA 0, 30, .inl m3))] sz) := by
  refine Met.ofW (cc := cX4_execute) (maxL := 2) (ret := (some .int)) (by decide) rfl ?_
  intro p e s m args below meth c s₁ B hml hv
  obtain ⟨rfl, hsz, hP, hK, hD0⟩ := hv
  have hx := B.exec
  have hb := B.bytes
  have hr := B.returns
  have hts := atoms_spec (ws := gws yX4_execute cX4_execute 2 (some .int)) B.pre
  have hg : ∀ w ∈ gw, w.before _ s = true := fun w h => hts w (List.mem_cons_of_mem _ h)
  have hown : s.vm.findClass RX4 = some m.cls := findClass_of_methodNamed B.named
  have hlocks := B.notSynchronized
  subst hsz
  have hD := hD0.self (sz := s.heap.size)
  generalize hAe : va_A [(t0, .inr (4, [.ref c0, .ref c1, .ref c2, .int i0, .int i1, .int i2, .int i3, .int i4, .int i5, .int i6, .ref c3, .int i7, .int i8, .int i9])), (c0, .inl (dA 0, 4096, .inl m0)), (c1, .inl (dA 0, 8, .inl m1)), (c2, .inl (dA 0, 4, .inl m2)), (c3, .inl (dA 0, 30, .inl m3))] s.heap.size = A at hD ⊢
  have hA : ∀ q : Nat, s.heap.size ≤ q → A q := fun q h => by rw [← hAe]; exact Or.inr h
  have hS : va_S A s.heap s.heap [] := va_S.rf
  have hP : va_P D vwC [(t0, .inr (4, [.ref c0, .ref c1, .ref c2, .int i0, .int i1, .int i2, .int i3, .int i4, .int i5, .int i6, .ref c3, .int i7, .int i8, .int i9])), (c0, .inl (dA 0, 4096, .inl m0)), (c1, .inl (dA 0, 8, .inl m1)), (c2, .inl (dA 0, 4, .inl m2)), (c3, .inl (dA 0, 30, .inl m3))] s.heap := hP
  have hl := lv_entry ([.ref t0, .int a0]) (n := 2) (Nat.le_of_ble_eq_true rfl)
  rw [lg_entry_eq]
  generalize (lg_sl ([.ref t0, .int a0]) ++ List.replicate (2 - (lg_sl ([.ref t0, .int a0])).length) Slot.unset).toArray = ls at hl ⊢
  have hl : lv_has ls 2 [(0, .ref t0), (1, .int a0)] := hl
  refine lv_iload_n hx hb dX4_execute_0 rfl (lv_at hl 1 rfl) ?_
  refine lv_bipush (v := 64) hx hb dX4_execute_1 (by decide) ?_
  refine lv_icmp_ge (tgt := 18) hx hb dX4_execute_3 (by decide) (fun k1 => ?_) (fun k1 => ?_)
  · have g2 : 64 ≤ a0.toInt := gi_le (by decide : (64 : Int32).toInt = 64) (rfl : a0.toInt = a0.toInt) k1
    refine lv_iload_n hx hb dX4_execute_18 rfl (lv_at hl 1 rfl) ?_
    refine lv_bipush (v := 96) hx hb dX4_execute_19 (by decide) ?_
    refine lv_icmp_ge (tgt := 36) hx hb dX4_execute_21 (by decide) (fun k3 => ?_) (fun k3 => ?_)
    · have g4 : 96 ≤ a0.toInt := gi_le (by decide : (96 : Int32).toInt = 96) (rfl : a0.toInt = a0.toInt) k3
      refine lv_iload_n hx hb dX4_execute_36 rfl (lv_at hl 1 rfl) ?_
      refine lv_bipush (v := 114) hx hb dX4_execute_37 (by decide) ?_
      refine lv_icmp_lt (tgt := 54) hx hb dX4_execute_39 (by decide) (fun k5 => ?_) (fun k5 => ?_)
      · have g6 : a0.toInt < 114 := gi_lt (rfl : a0.toInt = a0.toInt) (by decide : (114 : Int32).toInt = 114) k5
        refine lv_iload_n hx hb dX4_execute_54 rfl (lv_at hl 1 rfl) ?_
        refine lv_sipush (v := 184) hx hb dX4_execute_55 (by decide) ?_
        refine lv_icmp_lt (tgt := 84) hx hb dX4_execute_58 (by decide) (fun k7 => ?_) (fun k7 => ?_)
        · have g8 : a0.toInt < 184 := gi_lt (rfl : a0.toInt = a0.toInt) (by decide : (184 : Int32).toInt = 184) k7
          refine lv_iload_n hx hb dX4_execute_84 rfl (lv_at hl 1 rfl) ?_
          have s9 : ¬ a0 = 129 := fun h => by have h2 := congrArg Int32.toInt h; rw [show (129 : Int32).toInt = 129 from by decide] at h2; omega
          have s10 : ¬ a0 = 137 := fun h => by have h2 := congrArg Int32.toInt h; rw [show (137 : Int32).toInt = 137 from by decide] at h2; omega
          have s11 : ¬ a0 = 139 := fun h => by have h2 := congrArg Int32.toInt h; rw [show (139 : Int32).toInt = 139 from by decide] at h2; omega
          have s12 : ¬ a0 = 140 := fun h => by have h2 := congrArg Int32.toInt h; rw [show (140 : Int32).toInt = 140 from by decide] at h2; omega
          have s13 : ¬ a0 = 142 := fun h => by have h2 := congrArg Int32.toInt h; rw [show (142 : Int32).toInt = 142 from by decide] at h2; omega
          have s14 : ¬ a0 = 199 := fun h => by have h2 := congrArg Int32.toInt h; rw [show (199 : Int32).toInt = 199 from by decide] at h2; omega
          have s15 : ¬ a0 = 209 := fun h => by have h2 := congrArg Int32.toInt h; rw [show (209 : Int32).toInt = 209 from by decide] at h2; omega
          have s16 : ¬ a0 = 247 := fun h => by have h2 := congrArg Int32.toInt h; rw [show (247 : Int32).toInt = 247 from by decide] at h2; omega
          have g17 : a0.toInt ≠ 129 := lv_neT s9 (by decide)
          have g18 : a0.toInt ≠ 137 := lv_neT s10 (by decide)
          have g19 : a0.toInt ≠ 139 := lv_neT s11 (by decide)
          have g20 : a0.toInt ≠ 140 := lv_neT s12 (by decide)
          have g21 : a0.toInt ≠ 142 := lv_neT s13 (by decide)
          have g22 : a0.toInt ≠ 199 := lv_neT s14 (by decide)
          have g23 : a0.toInt ≠ 209 := lv_neT s15 (by decide)
          have g24 : a0.toInt ≠ 247 := lv_neT s16 (by decide)
          refine lv_lookup (tgt := 170) hx hb dX4_execute_85 (by decide) (by rw [lv_osw s9 (by decide)]; rw [lv_osw s10 (by decide)]; rw [lv_osw s11 (by decide)]; rw [lv_osw s12 (by decide)]; rw [lv_osw s13 (by decide)]; rw [lv_osw s14 (by decide)]; rw [lv_osw s15 (by decide)]; rw [lv_osw s16 (by decide)]; rfl) (by decide) ?_
          refine lv_aload_n hx hb dX4_execute_170 rfl (lv_at hl 0 rfl) ?_
          refine lv_iload_n hx hb dX4_execute_171 rfl (lv_at hl 1 rfl) ?_
          refine g_Vi (n := 1) (As := [.int a0]) (rest := []) (wr := []) hx hb hml hg hown hK hP hD hS hA (s_X4_executeFlow l D dA t0 a0 c0 c1 c2 i0 i1 i2 i3 i4 i5 i6 c3 i7 i8 i9 m0 m1 m2 m3 (by omega) (by omega) (by omega) p4 _) [0, 1, 2, 3, 4] [] rfl (by decide) rfl (by decide) (by decide) 0 rfl rfl q1489 q159 q1486 q1488 q73 (by decide +kernel) ⟨(Nat.le_of_ble_eq_true rfl), (Nat.le_of_ble_eq_true rfl)⟩ rfl hl.1 rfl (Nat.le_of_ble_eq_true rfl) dX4_execute_172 ⟨(Nat.le_of_ble_eq_true rfl), (Nat.le_of_ble_eq_true rfl)⟩ (fun x26 u25 H locs w27 hP hD hS => ?_)
          refine W.widen (k := 0) (n := 0) (Nat.le_of_ble_eq_true rfl) (Nat.le_of_ble_eq_true rfl) ?_
          obtain ⟨x28, x29, f30, f31, f32, f33⟩ := u25
          have hP : va_P D vwC [(t0, .inr (4, [.ref c0, .ref c1, .ref c2, .int x28, .int i1, .int i2, .int i3, .int i4, .int i5, .int x29, .ref c3, .int i7, .int i8, .int i9])), (c0, .inl (dA 0, 4096, .inl f30)), (c1, .inl (dA 0, 8, .inl f31)), (c2, .inl (dA 0, 4, .inl f32)), (c3, .inl (dA 0, 30, .inl f33))] H := hP
          have hD : va_D A [(t0, .inr (4, [.ref c0, .ref c1, .ref c2, .int x28, .int i1, .int i2, .int i3, .int i4, .int i5, .int x29, .ref c3, .int i7, .int i8, .int i9])), (c0, .inl (dA 0, 4096, .inl f30)), (c1, .inl (dA 0, 8, .inl f31)), (c2, .inl (dA 0, 4, .inl f32)), (c3, .inl (dA 0, 30, .inl f33))] := hD
          obtain ⟨g34, g35⟩ := w27
          exact g_iret hx hb hr rfl hlocks hK (x28, i1, i2, i3, x29, i7, i8, i9, f30, f31, f32, f33) hP hD hS ⟨by omega, by omega, by omega, g35⟩ (Nat.le_of_ble_eq_true rfl) (Nat.le_of_ble_eq_true rfl) dX4_execute_175
        · have g36 : a0.toInt ≥ 184 := gi_nlt (rfl : a0.toInt = a0.toInt) (by decide : (184 : Int32).toInt = 184) k7
          exfalso; omega
      · have g37 : a0.toInt ≥ 114 := gi_nlt (rfl : a0.toInt = a0.toInt) (by decide : (114 : Int32).toInt = 114) k5
        refine lv_iload_n hx hb dX4_execute_42 rfl (lv_at hl 1 rfl) ?_
        refine lv_bipush (v := 121) hx hb dX4_execute_43 (by decide) ?_
        refine lv_icmp_gt (tgt := 54) hx hb dX4_execute_45 (by decide) (fun k38 => ?_) (fun k38 => ?_)
        · have g39 : 121 < a0.toInt := gi_lt (by decide : (121 : Int32).toInt = 121) (rfl : a0.toInt = a0.toInt) k38
          refine lv_iload_n hx hb dX4_execute_54 rfl (lv_at hl 1 rfl) ?_
          refine lv_sipush (v := 184) hx hb dX4_execute_55 (by decide) ?_
          refine lv_icmp_lt (tgt := 84) hx hb dX4_execute_58 (by decide) (fun k40 => ?_) (fun k40 => ?_)
          · have g41 : a0.toInt < 184 := gi_lt (rfl : a0.toInt = a0.toInt) (by decide : (184 : Int32).toInt = 184) k40
            refine lv_iload_n hx hb dX4_execute_84 rfl (lv_at hl 1 rfl) ?_
            by_cases s42 : a0 = 129
            · have g43 : a0.toInt = 129 := by rw [s42]; decide
              refine lv_lookup (tgt := 160) hx hb dX4_execute_85 (by decide) (by rw [s42]; rfl) (by decide) ?_
              refine lv_aload_n hx hb dX4_execute_160 rfl (lv_at hl 0 rfl) ?_
              refine g_Vv (n := 0) (As := []) (rest := []) (wr := []) hx hb hml hg hown hK hP hD hS hA (s_X4_fetchM l D dA t0 c0 c1 c2 i0 i1 i2 i3 i4 i5 i6 c3 i7 i8 i9 m0 m1 m2 m3 (by omega) (by omega) (by omega) p4 _) [0, 1, 2, 3, 4] [] rfl (by decide) rfl (by decide) (by decide) 0 rfl rfl q1423 q159 q1420 q1422 q57 (by decide +kernel) ⟨(Nat.le_of_ble_eq_true rfl), (Nat.le_of_ble_eq_true rfl)⟩ rfl hl.1 rfl (Nat.le_of_ble_eq_true rfl) dX4_execute_161 ⟨(Nat.le_of_ble_eq_true rfl), (Nat.le_of_ble_eq_true rfl)⟩ (fun u44 H locs w46 hP hD hS => ?_)
              refine W.widen (k := 0) (n := 0) (Nat.le_of_ble_eq_true rfl) (Nat.le_of_ble_eq_true rfl) ?_
              obtain ⟨x47, x48, x49, x50⟩ := u44
              have hP : va_P D vwC [(t0, .inr (4, [.ref c0, .ref c1, .ref c2, .int x47, .int i1, .int i2, .int i3, .int i4, .int i5, .int i6, .ref c3, .int x48, .int x49, .int x50])), (c0, .inl (dA 0, 4096, .inl m0)), (c1, .inl (dA 0, 8, .inl m1)), (c2, .inl (dA 0, 4, .inl m2)), (c3, .inl (dA 0, 30, .inl m3))] H := hP
              have hD : va_D A [(t0, .inr (4, [.ref c0, .ref c1, .ref c2, .int x47, .int i1, .int i2, .int i3, .int i4, .int i5, .int i6, .ref c3, .int x48, .int x49, .int x50])), (c0, .inl (dA 0, 4096, .inl m0)), (c1, .inl (dA 0, 8, .inl m1)), (c2, .inl (dA 0, 4, .inl m2)), (c3, .inl (dA 0, 30, .inl m3))] := hD
              obtain ⟨g51, g52⟩ := w46
              refine lv_aload_n hx hb dX4_execute_164 rfl (lv_at hl 0 rfl) ?_
              refine lv_iload_n hx hb dX4_execute_165 rfl (lv_at hl 1 rfl) ?_
              refine g_Vi (n := 1) (As := [.int a0]) (rest := []) (wr := []) hx hb hml hg hown hK hP hD hS hA (s_X4_executeM l D dA t0 a0 c0 c1 c2 x47 i1 i2 i3 i4 i5 i6 c3 x48 x49 x50 m0 m1 m2 m3 (by omega) (by omega) (by omega) p4 _) [0, 1, 2, 3, 4] [] rfl (by decide) rfl (by decide) (by decide) 0 rfl rfl q1471 q159 q1468 q1470 q69 (by decide +kernel) ⟨(Nat.le_of_ble_eq_true rfl), (Nat.le_of_ble_eq_true rfl)⟩ rfl hl.1 rfl (Nat.le_of_ble_eq_true rfl) dX4_execute_166 ⟨(Nat.le_of_ble_eq_true rfl), (Nat.le_of_ble_eq_true rfl)⟩ (fun x54 u53 H locs w55 hP hD hS => ?_)
              refine W.widen (k := 0) (n := 0) (Nat.le_of_ble_eq_true rfl) (Nat.le_of_ble_eq_true rfl) ?_
              obtain ⟨x56, x57, x58, x59, f60, f61, f62⟩ := u53
              have hP : va_P D vwC [(t0, .inr (4, [.ref c0, .ref c1, .ref c2, .int x56, .int x57, .int x58, .int x59, .int i4, .int i5, .int i6, .ref c3, .int x48, .int x49, .int x50])), (c0, .inl (dA 0, 4096, .inl f60)), (c1, .inl (dA 0, 8, .inl f61)), (c2, .inl (dA 0, 4, .inl f62)), (c3, .inl (dA 0, 30, .inl m3))] H := hP
              have hD : va_D A [(t0, .inr (4, [.ref c0, .ref c1, .ref c2, .int x56, .int x57, .int x58, .int x59, .int i4, .int i5, .int i6, .ref c3, .int x48, .int x49, .int x50])), (c0, .inl (dA 0, 4096, .inl f60)), (c1, .inl (dA 0, 8, .inl f61)), (c2, .inl (dA 0, 4, .inl f62)), (c3, .inl (dA 0, 30, .inl m3))] := hD
              obtain ⟨g63, g64⟩ := w55
              exact g_iret hx hb hr rfl hlocks hK (x56, x57, x58, x59, i6, x48, x49, x50, f60, f61, f62, m3) hP hD hS ⟨by omega, by omega, by omega, g64⟩ (Nat.le_of_ble_eq_true rfl) (Nat.le_of_ble_eq_true rfl) dX4_execute_169
            by_cases s65 : a0 = 137
            · have g66 : a0.toInt = 137 := by rw [s65]; decide
              refine lv_lookup (tgt := 160) hx hb dX4_execute_85 (by decide) (by rw [s65]; rfl) (by decide) ?_
              refine lv_aload_n hx hb dX4_execute_160 rfl (lv_at hl 0 rfl) ?_
              refine g_Vv (n := 0) (As := []) (rest := []) (wr := []) hx hb hml hg hown hK hP hD hS hA (s_X4_fetchM l D dA t0 c0 c1 c2 i0 i1 i2 i3 i4 i5 i6 c3 i7 i8 i9 m0 m1 m2 m3 (by omega) (by omega) (by omega) p4 _) [0, 1, 2, 3, 4] [] rfl (by decide) rfl (by decide) (by decide) 0 rfl rfl q1423 q159 q1420 q1422 q57 (by decide +kernel) ⟨(Nat.le_of_ble_eq_true rfl), (Nat.le_of_ble_eq_true rfl)⟩ rfl hl.1 rfl (Nat.le_of_ble_eq_true rfl) dX4_execute_161 ⟨(Nat.le_of_ble_eq_true rfl), (Nat.le_of_ble_eq_true rfl)⟩ (fun u67 H locs w69 hP hD hS => ?_)
              refine W.widen (k := 0) (n := 0) (Nat.le_of_ble_eq_true rfl) (Nat.le_of_ble_eq_true rfl) ?_
              obtain ⟨x70, x71, x72, x73⟩ := u67
              have hP : va_P D vwC [(t0, .inr (4, [.ref c0, .ref c1, .ref c2, .int x70, .int i1, .int i2, .int i3, .int i4, .int i5, .int i6, .ref c3, .int x71, .int x72, .int x73])), (c0, .inl (dA 0, 4096, .inl m0)), (c1, .inl (dA 0, 8, .inl m1)), (c2, .inl (dA 0, 4, .inl m2)), (c3, .inl (dA 0, 30, .inl m3))] H := hP
              have hD : va_D A [(t0, .inr (4, [.ref c0, .ref c1, .ref c2, .int x70, .int i1, .int i2, .int i3, .int i4, .int i5, .int i6, .ref c3, .int x71, .int x72, .int x73])), (c0, .inl (dA 0, 4096, .inl m0)), (c1, .inl (dA 0, 8, .inl m1)), (c2, .inl (dA 0, 4, .inl m2)), (c3, .inl (dA 0, 30, .inl m3))] := hD
              obtain ⟨g74, g75⟩ := w69
              refine lv_aload_n hx hb dX4_execute_164 rfl (lv_at hl 0 rfl) ?_
              refine lv_iload_n hx hb dX4_execute_165 rfl (lv_at hl 1 rfl) ?_
              refine g_Vi (n := 1) (As := [.int a0]) (rest := []) (wr := []) hx hb hml hg hown hK hP hD hS hA (s_X4_executeM l D dA t0 a0 c0 c1 c2 x70 i1 i2 i3 i4 i5 i6 c3 x71 x72 x73 m0 m1 m2 m3 (by omega) (by omega) (by omega) p4 _) [0, 1, 2, 3, 4] [] rfl (by decide) rfl (by decide) (by decide) 0 rfl rfl q1471 q159 q1468 q1470 q69 (by decide +kernel) ⟨(Nat.le_of_ble_eq_true rfl), (Nat.le_of_ble_eq_true rfl)⟩ rfl hl.1 rfl (Nat.le_of_ble_eq_true rfl) dX4_execute_166 ⟨(Nat.le_of_ble_eq_true rfl), (Nat.le_of_ble_eq_true rfl)⟩ (fun x77 u76 H locs w78 hP hD hS => ?_)
              refine W.widen (k := 0) (n := 0) (Nat.le_of_ble_eq_true rfl) (Nat.le_of_ble_eq_true rfl) ?_
              obtain ⟨x79, x80, x81, x82, f83, f84, f85⟩ := u76
              have hP : va_P D vwC [(t0, .inr (4, [.ref c0, .ref c1, .ref c2, .int x79, .int x80, .int x81, .int x82, .int i4, .int i5, .int i6, .ref c3, .int x71, .int x72, .int x73])), (c0, .inl (dA 0, 4096, .inl f83)), (c1, .inl (dA 0, 8, .inl f84)), (c2, .inl (dA 0, 4, .inl f85)), (c3, .inl (dA 0, 30, .inl m3))] H := hP
              have hD : va_D A [(t0, .inr (4, [.ref c0, .ref c1, .ref c2, .int x79, .int x80, .int x81, .int x82, .int i4, .int i5, .int i6, .ref c3, .int x71, .int x72, .int x73])), (c0, .inl (dA 0, 4096, .inl f83)), (c1, .inl (dA 0, 8, .inl f84)), (c2, .inl (dA 0, 4, .inl f85)), (c3, .inl (dA 0, 30, .inl m3))] := hD
              obtain ⟨g86, g87⟩ := w78
              exact g_iret hx hb hr rfl hlocks hK (x79, x80, x81, x82, i6, x71, x72, x73, f83, f84, f85, m3) hP hD hS ⟨by omega, by omega, by omega, g87⟩ (Nat.le_of_ble_eq_true rfl) (Nat.le_of_ble_eq_true rfl) dX4_execute_169
            by_cases s88 : a0 = 139
            · have g89 : a0.toInt = 139 := by rw [s88]; decide
              refine lv_lookup (tgt := 160) hx hb dX4_execute_85 (by decide) (by rw [s88]; rfl) (by decide) ?_
              refine lv_aload_n hx hb dX4_execute_160 rfl (lv_at hl 0 rfl) ?_
              refine g_Vv (n := 0) (As := []) (rest := []) (wr := []) hx hb hml hg hown hK hP hD hS hA (s_X4_fetchM l D dA t0 c0 c1 c2 i0 i1 i2 i3 i4 i5 i6 c3 i7 i8 i9 m0 m1 m2 m3 (by omega) (by omega) (by omega) p4 _) [0, 1, 2, 3, 4] [] rfl (by decide) rfl (by decide) (by decide) 0 rfl rfl q1423 q159 q1420 q1422 q57 (by decide +kernel) ⟨(Nat.le_of_ble_eq_true rfl), (Nat.le_of_ble_eq_true rfl)⟩ rfl hl.1 rfl (Nat.le_of_ble_eq_true rfl) dX4_execute_161 ⟨(Nat.le_of_ble_eq_true rfl), (Nat.le_of_ble_eq_true rfl)⟩ (fun u90 H locs w92 hP hD hS => ?_)
              refine W.widen (k := 0) (n := 0) (Nat.le_of_ble_eq_true rfl) (Nat.le_of_ble_eq_true rfl) ?_
              obtain ⟨x93, x94, x95, x96⟩ := u90
              have hP : va_P D vwC [(t0, .inr (4, [.ref c0, .ref c1, .ref c2, .int x93, .int i1, .int i2, .int i3, .int i4, .int i5, .int i6, .ref c3, .int x94, .int x95, .int x96])), (c0, .inl (dA 0, 4096, .inl m0)), (c1, .inl (dA 0, 8, .inl m1)), (c2, .inl (dA 0, 4, .inl m2)), (c3, .inl (dA 0, 30, .inl m3))] H := hP
              have hD : va_D A [(t0, .inr (4, [.ref c0, .ref c1, .ref c2, .int x93, .int i1, .int i2, .int i3, .int i4, .int i5, .int i6, .ref c3, .int x94, .int x95, .int x96])), (c0, .inl (dA 0, 4096, .inl m0)), (c1, .inl (dA 0, 8, .inl m1)), (c2, .inl (dA 0, 4, .inl m2)), (c3, .inl (dA 0, 30, .inl m3))] := hD
              obtain ⟨g97, g98⟩ := w92
              refine lv_aload_n hx hb dX4_execute_164 rfl (lv_at hl 0 rfl) ?_
              refine lv_iload_n hx hb dX4_execute_165 rfl (lv_at hl 1 rfl) ?_
              refine g_Vi (n := 1) (As := [.int a0]) (rest := []) (wr := []) hx hb hml hg hown hK hP hD hS hA (s_X4_executeM l D dA t0 a0 c0 c1 c2 x93 i1 i2 i3 i4 i5 i6 c3 x94 x95 x96 m0 m1 m2 m3 (by omega) (by omega) (by omega) p4 _) [0, 1, 2, 3, 4] [] rfl (by decide) rfl (by decide) (by decide) 0 rfl rfl q1471 q159 q1468 q1470 q69 (by decide +kernel) ⟨(Nat.le_of_ble_eq_true rfl), (Nat.le_of_ble_eq_true rfl)⟩ rfl hl.1 rfl (Nat.le_of_ble_eq_true rfl) dX4_execute_166 ⟨(Nat.le_of_ble_eq_true rfl), (Nat.le_of_ble_eq_true rfl)⟩ (fun x100 u99 H locs w101 hP hD hS => ?_)
              refine W.widen (k := 0) (n := 0) (Nat.le_of_ble_eq_true rfl) (Nat.le_of_ble_eq_true rfl) ?_
              obtain ⟨x102, x103, x104, x105, f106, f107, f108⟩ := u99
              have hP : va_P D vwC [(t0, .inr (4, [.ref c0, .ref c1, .ref c2, .int x102, .int x103, .int x104, .int x105, .int i4, .int i5, .int i6, .ref c3, .int x94, .int x95, .int x96])), (c0, .inl (dA 0, 4096, .inl f106)), (c1, .inl (dA 0, 8, .inl f107)), (c2, .inl (dA 0, 4, .inl f108)), (c3, .inl (dA 0, 30, .inl m3))] H := hP
              have hD : va_D A [(t0, .inr (4, [.ref c0, .ref c1, .ref c2, .int x102, .int x103, .int x104, .int x105, .int i4, .int i5, .int i6, .ref c3, .int x94, .int x95, .int x96])), (c0, .inl (dA 0, 4096, .inl f106)), (c1, .inl (dA 0, 8, .inl f107)), (c2, .inl (dA 0, 4, .inl f108)), (c3, .inl (dA 0, 30, .inl m3))] := hD
              obtain ⟨g109, g110⟩ := w101
              exact g_iret hx hb hr rfl hlocks hK (x102, x103, x104, x105, i6, x94, x95, x96, f106, f107, f108, m3) hP hD hS ⟨by omega, by omega, by omega, g110⟩ (Nat.le_of_ble_eq_true rfl) (Nat.le_of_ble_eq_true rfl) dX4_execute_169
            by_cases s111 : a0 = 140
            · have g112 : a0.toInt = 140 := by rw [s111]; decide
              refine lv_lookup (tgt := 160) hx hb dX4_execute_85 (by decide) (by rw [s111]; rfl) (by decide) ?_
              refine lv_aload_n hx hb dX4_execute_160 rfl (lv_at hl 0 rfl) ?_
              refine g_Vv (n := 0) (As := []) (rest := []) (wr := []) hx hb hml hg hown hK hP hD hS hA (s_X4_fetchM l D dA t0 c0 c1 c2 i0 i1 i2 i3 i4 i5 i6 c3 i7 i8 i9 m0 m1 m2 m3 (by omega) (by omega) (by omega) p4 _) [0, 1, 2, 3, 4] [] rfl (by decide) rfl (by decide) (by decide) 0 rfl rfl q1423 q159 q1420 q1422 q57 (by decide +kernel) ⟨(Nat.le_of_ble_eq_true rfl), (Nat.le_of_ble_eq_true rfl)⟩ rfl hl.1 rfl (Nat.le_of_ble_eq_true rfl) dX4_execute_161 ⟨(Nat.le_of_ble_eq_true rfl), (Nat.le_of_ble_eq_true rfl)⟩ (fun u113 H locs w115 hP hD hS => ?_)
              refine W.widen (k := 0) (n := 0) (Nat.le_of_ble_eq_true rfl) (Nat.le_of_ble_eq_true rfl) ?_
              obtain ⟨x116, x117, x118, x119⟩ := u113
              have hP : va_P D vwC [(t0, .inr (4, [.ref c0, .ref c1, .ref c2, .int x116, .int i1, .int i2, .int i3, .int i4, .int i5, .int i6, .ref c3, .int x117, .int x118, .int x119])), (c0, .inl (dA 0, 4096, .inl m0)), (c1, .inl (dA 0, 8, .inl m1)), (c2, .inl (dA 0, 4, .inl m2)), (c3, .inl (dA 0, 30, .inl m3))] H := hP
              have hD : va_D A [(t0, .inr (4, [.ref c0, .ref c1, .ref c2, .int x116, .int i1, .int i2, .int i3, .int i4, .int i5, .int i6, .ref c3, .int x117, .int x118, .int x119])), (c0, .inl (dA 0, 4096, .inl m0)), (c1, .inl (dA 0, 8, .inl m1)), (c2, .inl (dA 0, 4, .inl m2)), (c3, .inl (dA 0, 30, .inl m3))] := hD
              obtain ⟨g120, g121⟩ := w115
              refine lv_aload_n hx hb dX4_execute_164 rfl (lv_at hl 0 rfl) ?_
              refine lv_iload_n hx hb dX4_execute_165 rfl (lv_at hl 1 rfl) ?_
              refine g_Vi (n := 1) (As := [.int a0]) (rest := []) (wr := []) hx hb hml hg hown hK hP hD hS hA (s_X4_executeM l D dA t0 a0 c0 c1 c2 x116 i1 i2 i3 i4 i5 i6 c3 x117 x118 x119 m0 m1 m2 m3 (by omega) (by omega) (by omega) p4 _) [0, 1, 2, 3, 4] [] rfl (by decide) rfl (by decide) (by decide) 0 rfl rfl q1471 q159 q1468 q1470 q69 (by decide +kernel) ⟨(Nat.le_of_ble_eq_true rfl), (Nat.le_of_ble_eq_true rfl)⟩ rfl hl.1 rfl (Nat.le_of_ble_eq_true rfl) dX4_execute_166 ⟨(Nat.le_of_ble_eq_true rfl), (Nat.le_of_ble_eq_true rfl)⟩ (fun x123 u122 H locs w124 hP hD hS => ?_)
              refine W.widen (k := 0) (n := 0) (Nat.le_of_ble_eq_true rfl) (Nat.le_of_ble_eq_true rfl) ?_
              obtain ⟨x125, x126, x127, x128, f129, f130, f131⟩ := u122
              have hP : va_P D vwC [(t0, .inr (4, [.ref c0, .ref c1, .ref c2, .int x125, .int x126, .int x127, .int x128, .int i4, .int i5, .int i6, .ref c3, .int x117, .int x118, .int x119])), (c0, .inl (dA 0, 4096, .inl f129)), (c1, .inl (dA 0, 8, .inl f130)), (c2, .inl (dA 0, 4, .inl f131)), (c3, .inl (dA 0, 30, .inl m3))] H := hP
              have hD : va_D A [(t0, .inr (4, [.ref c0, .ref c1, .ref c2, .int x125, .int x126, .int x127, .int x128, .int i4, .int i5, .int i6, .ref c3, .int x117, .int x118, .int x119])), (c0, .inl (dA 0, 4096, .inl f129)), (c1, .inl (dA 0, 8, .inl f130)), (c2, .inl (dA 0, 4, .inl f131)), (c3, .inl (dA 0, 30, .inl m3))] := hD
              obtain ⟨g132, g133⟩ := w124
              exact g_iret hx hb hr rfl hlocks hK (x125, x126, x127, x128, i6, x117, x118, x119, f129, f130, f131, m3) hP hD hS ⟨by omega, by omega, by omega, g133⟩ (Nat.le_of_ble_eq_true rfl) (Nat.le_of_ble_eq_true rfl) dX4_execute_169
            by_cases s134 : a0 = 142
            · have g135 : a0.toInt = 142 := by rw [s134]; decide
              refine lv_lookup (tgt := 160) hx hb dX4_execute_85 (by decide) (by rw [s134]; rfl) (by decide) ?_
              refine lv_aload_n hx hb dX4_execute_160 rfl (lv_at hl 0 rfl) ?_
              refine g_Vv (n := 0) (As := []) (rest := []) (wr := []) hx hb hml hg hown hK hP hD hS hA (s_X4_fetchM l D dA t0 c0 c1 c2 i0 i1 i2 i3 i4 i5 i6 c3 i7 i8 i9 m0 m1 m2 m3 (by omega) (by omega) (by omega) p4 _) [0, 1, 2, 3, 4] [] rfl (by decide) rfl (by decide) (by decide) 0 rfl rfl q1423 q159 q1420 q1422 q57 (by decide +kernel) ⟨(Nat.le_of_ble_eq_true rfl), (Nat.le_of_ble_eq_true rfl)⟩ rfl hl.1 rfl (Nat.le_of_ble_eq_true rfl) dX4_execute_161 ⟨(Nat.le_of_ble_eq_true rfl), (Nat.le_of_ble_eq_true rfl)⟩ (fun u136 H locs w138 hP hD hS => ?_)
              refine W.widen (k := 0) (n := 0) (Nat.le_of_ble_eq_true rfl) (Nat.le_of_ble_eq_true rfl) ?_
              obtain ⟨x139, x140, x141, x142⟩ := u136
              have hP : va_P D vwC [(t0, .inr (4, [.ref c0, .ref c1, .ref c2, .int x139, .int i1, .int i2, .int i3, .int i4, .int i5, .int i6, .ref c3, .int x140, .int x141, .int x142])), (c0, .inl (dA 0, 4096, .inl m0)), (c1, .inl (dA 0, 8, .inl m1)), (c2, .inl (dA 0, 4, .inl m2)), (c3, .inl (dA 0, 30, .inl m3))] H := hP
              have hD : va_D A [(t0, .inr (4, [.ref c0, .ref c1, .ref c2, .int x139, .int i1, .int i2, .int i3, .int i4, .int i5, .int i6, .ref c3, .int x140, .int x141, .int x142])), (c0, .inl (dA 0, 4096, .inl m0)), (c1, .inl (dA 0, 8, .inl m1)), (c2, .inl (dA 0, 4, .inl m2)), (c3, .inl (dA 0, 30, .inl m3))] := hD
              obtain ⟨g143, g144⟩ := w138
              refine lv_aload_n hx hb dX4_execute_164 rfl (lv_at hl 0 rfl) ?_
              refine lv_iload_n hx hb dX4_execute_165 rfl (lv_at hl 1 rfl) ?_
              refine g_Vi (n := 1) (As := [.int a0]) (rest := []) (wr := []) hx hb hml hg hown hK hP hD hS hA (s_X4_executeM l D dA t0 a0 c0 c1 c2 x139 i1 i2 i3 i4 i5 i6 c3 x140 x141 x142 m0 m1 m2 m3 (by omega) (by omega) (by omega) p4 _) [0, 1, 2, 3, 4] [] rfl (by decide) rfl (by decide) (by decide) 0 rfl rfl q1471 q159 q1468 q1470 q69 (by decide +kernel) ⟨(Nat.le_of_ble_eq_true rfl), (Nat.le_of_ble_eq_true rfl)⟩ rfl hl.1 rfl (Nat.le_of_ble_eq_true rfl) dX4_execute_166 ⟨(Nat.le_of_ble_eq_true rfl), (Nat.le_of_ble_eq_true rfl)⟩ (fun x146 u145 H locs w147 hP hD hS => ?_)
              refine W.widen (k := 0) (n := 0) (Nat.le_of_ble_eq_true rfl) (Nat.le_of_ble_eq_true rfl) ?_
              obtain ⟨x148, x149, x150, x151, f152, f153, f154⟩ := u145
              have hP : va_P D vwC [(t0, .inr (4, [.ref c0, .ref c1, .ref c2, .int x148, .int x149, .int x150, .int x151, .int i4, .int i5, .int i6, .ref c3, .int x140, .int x141, .int x142])), (c0, .inl (dA 0, 4096, .inl f152)), (c1, .inl (dA 0, 8, .inl f153)), (c2, .inl (dA 0, 4, .inl f154)), (c3, .inl (dA 0, 30, .inl m3))] H := hP
              have hD : va_D A [(t0, .inr (4, [.ref c0, .ref c1, .ref c2, .int x148, .int x149, .int x150, .int x151, .int i4, .int i5, .int i6, .ref c3, .int x140, .int x141, .int x142])), (c0, .inl (dA 0, 4096, .inl f152)), (c1, .inl (dA 0, 8, .inl f153)), (c2, .inl (dA 0, 4, .inl f154)), (c3, .inl (dA 0, 30, .inl m3))] := hD
              obtain ⟨g155, g156⟩ := w147
              exact g_iret hx hb hr rfl hlocks hK (x148, x149, x150, x151, i6, x140, x141, x142, f152, f153, f154, m3) hP hD hS ⟨by omega, by omega, by omega, g156⟩ (Nat.le_of_ble_eq_true rfl) (Nat.le_of_ble_eq_true rfl) dX4_execute_169
            have s157 : ¬ a0 = 199 := fun h => by have h2 := congrArg Int32.toInt h; rw [show (199 : Int32).toInt = 199 from by decide] at h2; omega
            have s158 : ¬ a0 = 209 := fun h => by have h2 := congrArg Int32.toInt h; rw [show (209 : Int32).toInt = 209 from by decide] at h2; omega
            have s159 : ¬ a0 = 247 := fun h => by have h2 := congrArg Int32.toInt h; rw [show (247 : Int32).toInt = 247 from by decide] at h2; omega
            have g160 : a0.toInt ≠ 129 := lv_neT s42 (by decide)
            have g161 : a0.toInt ≠ 137 := lv_neT s65 (by decide)
            have g162 : a0.toInt ≠ 139 := lv_neT s88 (by decide)
            have g163 : a0.toInt ≠ 140 := lv_neT s111 (by decide)
            have g164 : a0.toInt ≠ 142 := lv_neT s134 (by decide)
            have g165 : a0.toInt ≠ 199 := lv_neT s157 (by decide)
            have g166 : a0.toInt ≠ 209 := lv_neT s158 (by decide)
            have g167 : a0.toInt ≠ 247 := lv_neT s159 (by decide)
            refine lv_lookup (tgt := 170) hx hb dX4_execute_85 (by decide) (by rw [lv_osw s42 (by decide)]; rw [lv_osw s65 (by decide)]; rw [lv_osw s88 (by decide)]; rw [lv_osw s111 (by decide)]; rw [lv_osw s134 (by decide)]; rw [lv_osw s157 (by decide)]; rw [lv_osw s158 (by decide)]; rw [lv_osw s159 (by decide)]; rfl) (by decide) ?_
            refine lv_aload_n hx hb dX4_execute_170 rfl (lv_at hl 0 rfl) ?_
            refine lv_iload_n hx hb dX4_execute_171 rfl (lv_at hl 1 rfl) ?_
            refine g_Vi (n := 1) (As := [.int a0]) (rest := []) (wr := []) hx hb hml hg hown hK hP hD hS hA (s_X4_executeFlow l D dA t0 a0 c0 c1 c2 i0 i1 i2 i3 i4 i5 i6 c3 i7 i8 i9 m0 m1 m2 m3 (by omega) (by omega) (by omega) p4 _) [0, 1, 2, 3, 4] [] rfl (by decide) rfl (by decide) (by decide) 0 rfl rfl q1489 q159 q1486 q1488 q73 (by decide +kernel) ⟨(Nat.le_of_ble_eq_true rfl), (Nat.le_of_ble_eq_true rfl)⟩ rfl hl.1 rfl (Nat.le_of_ble_eq_true rfl) dX4_execute_172 ⟨(Nat.le_of_ble_eq_true rfl), (Nat.le_of_ble_eq_true rfl)⟩ (fun x169 u168 H locs w170 hP hD hS => ?_)
            refine W.widen (k := 0) (n := 0) (Nat.le_of_ble_eq_true rfl) (Nat.le_of_ble_eq_true rfl) ?_
            obtain ⟨x171, x172, f173, f174, f175, f176⟩ := u168
            have hP : va_P D vwC [(t0, .inr (4, [.ref c0, .ref c1, .ref c2, .int x171, .int i1, .int i2, .int i3, .int i4, .int i5, .int x172, .ref c3, .int i7, .int i8, .int i9])), (c0, .inl (dA 0, 4096, .inl f173)), (c1, .inl (dA 0, 8, .inl f174)), (c2, .inl (dA 0, 4, .inl f175)), (c3, .inl (dA 0, 30, .inl f176))] H := hP
            have hD : va_D A [(t0, .inr (4, [.ref c0, .ref c1, .ref c2, .int x171, .int i1, .int i2, .int i3, .int i4, .int i5, .int x172, .ref c3, .int i7, .int i8, .int i9])), (c0, .inl (dA 0, 4096, .inl f173)), (c1, .inl (dA 0, 8, .inl f174)), (c2, .inl (dA 0, 4, .inl f175)), (c3, .inl (dA 0, 30, .inl f176))] := hD
            obtain ⟨g177, g178⟩ := w170
            exact g_iret hx hb hr rfl hlocks hK (x171, i1, i2, i3, x172, i7, i8, i9, f173, f174, f175, f176) hP hD hS ⟨by omega, by omega, by omega, g178⟩ (Nat.le_of_ble_eq_true rfl) (Nat.le_of_ble_eq_true rfl) dX4_execute_175
          · have g179 : a0.toInt ≥ 184 := gi_nlt (rfl : a0.toInt = a0.toInt) (by decide : (184 : Int32).toInt = 184) k40
            refine lv_iload_n hx hb dX4_execute_61 rfl (lv_at hl 1 rfl) ?_
            refine lv_sipush (v := 191) hx hb dX4_execute_62 (by decide) ?_
            refine lv_icmp_gt (tgt := 84) hx hb dX4_execute_65 (by decide) (fun k180 => ?_) (fun k180 => ?_)
            · have g181 : 191 < a0.toInt := gi_lt (by decide : (191 : Int32).toInt = 191) (rfl : a0.toInt = a0.toInt) k180
              refine lv_iload_n hx hb dX4_execute_84 rfl (lv_at hl 1 rfl) ?_
              have s182 : ¬ a0 = 129 := fun h => by have h2 := congrArg Int32.toInt h; rw [show (129 : Int32).toInt = 129 from by decide] at h2; omega
              have s183 : ¬ a0 = 137 := fun h => by have h2 := congrArg Int32.toInt h; rw [show (137 : Int32).toInt = 137 from by decide] at h2; omega
              have s184 : ¬ a0 = 139 := fun h => by have h2 := congrArg Int32.toInt h; rw [show (139 : Int32).toInt = 139 from by decide] at h2; omega
              have s185 : ¬ a0 = 140 := fun h => by have h2 := congrArg Int32.toInt h; rw [show (140 : Int32).toInt = 140 from by decide] at h2; omega
              have s186 : ¬ a0 = 142 := fun h => by have h2 := congrArg Int32.toInt h; rw [show (142 : Int32).toInt = 142 from by decide] at h2; omega
              by_cases s187 : a0 = 199
              · have g188 : a0.toInt = 199 := by rw [s187]; decide
                refine lv_lookup (tgt := 160) hx hb dX4_execute_85 (by decide) (by rw [s187]; rfl) (by decide) ?_
                refine lv_aload_n hx hb dX4_execute_160 rfl (lv_at hl 0 rfl) ?_
                refine g_Vv (n := 0) (As := []) (rest := []) (wr := []) hx hb hml hg hown hK hP hD hS hA (s_X4_fetchM l D dA t0 c0 c1 c2 i0 i1 i2 i3 i4 i5 i6 c3 i7 i8 i9 m0 m1 m2 m3 (by omega) (by omega) (by omega) p4 _) [0, 1, 2, 3, 4] [] rfl (by decide) rfl (by decide) (by decide) 0 rfl rfl q1423 q159 q1420 q1422 q57 (by decide +kernel) ⟨(Nat.le_of_ble_eq_true rfl), (Nat.le_of_ble_eq_true rfl)⟩ rfl hl.1 rfl (Nat.le_of_ble_eq_true rfl) dX4_execute_161 ⟨(Nat.le_of_ble_eq_true rfl), (Nat.le_of_ble_eq_true rfl)⟩ (fun u189 H locs w191 hP hD hS => ?_)
                refine W.widen (k := 0) (n := 0) (Nat.le_of_ble_eq_true rfl) (Nat.le_of_ble_eq_true rfl) ?_
                obtain ⟨x192, x193, x194, x195⟩ := u189
                have hP : va_P D vwC [(t0, .inr (4, [.ref c0, .ref c1, .ref c2, .int x192, .int i1, .int i2, .int i3, .int i4, .int i5, .int i6, .ref c3, .int x193, .int x194, .int x195])), (c0, .inl (dA 0, 4096, .inl m0)), (c1, .inl (dA 0, 8, .inl m1)), (c2, .inl (dA 0, 4, .inl m2)), (c3, .inl (dA 0, 30, .inl m3))] H := hP
                have hD : va_D A [(t0, .inr (4, [.ref c0, .ref c1, .ref c2, .int x192, .int i1, .int i2, .int i3, .int i4, .int i5, .int i6, .ref c3, .int x193, .int x194, .int x195])), (c0, .inl (dA 0, 4096, .inl m0)), (c1, .inl (dA 0, 8, .inl m1)), (c2, .inl (dA 0, 4, .inl m2)), (c3, .inl (dA 0, 30, .inl m3))] := hD
                obtain ⟨g196, g197⟩ := w191
                refine lv_aload_n hx hb dX4_execute_164 rfl (lv_at hl 0 rfl) ?_
                refine lv_iload_n hx hb dX4_execute_165 rfl (lv_at hl 1 rfl) ?_
                refine g_Vi (n := 1) (As := [.int a0]) (rest := []) (wr := []) hx hb hml hg hown hK hP hD hS hA (s_X4_executeM l D dA t0 a0 c0 c1 c2 x192 i1 i2 i3 i4 i5 i6 c3 x193 x194 x195 m0 m1 m2 m3 (by omega) (by omega) (by omega) p4 _) [0, 1, 2, 3, 4] [] rfl (by decide) rfl (by decide) (by decide) 0 rfl rfl q1471 q159 q1468 q1470 q69 (by decide +kernel) ⟨(Nat.le_of_ble_eq_true rfl), (Nat.le_of_ble_eq_true rfl)⟩ rfl hl.1 rfl (Nat.le_of_ble_eq_true rfl) dX4_execute_166 ⟨(Nat.le_of_ble_eq_true rfl), (Nat.le_of_ble_eq_true rfl)⟩ (fun x199 u198 H locs w200 hP hD hS => ?_)
                refine W.widen (k := 0) (n := 0) (Nat.le_of_ble_eq_true rfl) (Nat.le_of_ble_eq_true rfl) ?_
                obtain ⟨x201, x202, x203, x204, f205, f206, f207⟩ := u198
                have hP : va_P D vwC [(t0, .inr (4, [.ref c0, .ref c1, .ref c2, .int x201, .int x202, .int x203, .int x204, .int i4, .int i5, .int i6, .ref c3, .int x193, .int x194, .int x195])), (c0, .inl (dA 0, 4096, .inl f205)), (c1, .inl (dA 0, 8, .inl f206)), (c2, .inl (dA 0, 4, .inl f207)), (c3, .inl (dA 0, 30, .inl m3))] H := hP
                have hD : va_D A [(t0, .inr (4, [.ref c0, .ref c1, .ref c2, .int x201, .int x202, .int x203, .int x204, .int i4, .int i5, .int i6, .ref c3, .int x193, .int x194, .int x195])), (c0, .inl (dA 0, 4096, .inl f205)), (c1, .inl (dA 0, 8, .inl f206)), (c2, .inl (dA 0, 4, .inl f207)), (c3, .inl (dA 0, 30, .inl m3))] := hD
                obtain ⟨g208, g209⟩ := w200
                exact g_iret hx hb hr rfl hlocks hK (x201, x202, x203, x204, i6, x193, x194, x195, f205, f206, f207, m3) hP hD hS ⟨by omega, by omega, by omega, g209⟩ (Nat.le_of_ble_eq_true rfl) (Nat.le_of_ble_eq_true rfl) dX4_execute_169
              by_cases s210 : a0 = 209
              · have g211 : a0.toInt = 209 := by rw [s210]; decide
                refine lv_lookup (tgt := 160) hx hb dX4_execute_85 (by decide) (by rw [s210]; rfl) (by decide) ?_
                refine lv_aload_n hx hb dX4_execute_160 rfl (lv_at hl 0 rfl) ?_
                refine g_Vv (n := 0) (As := []) (rest := []) (wr := []) hx hb hml hg hown hK hP hD hS hA (s_X4_fetchM l D dA t0 c0 c1 c2 i0 i1 i2 i3 i4 i5 i6 c3 i7 i8 i9 m0 m1 m2 m3 (by omega) (by omega) (by omega) p4 _) [0, 1, 2, 3, 4] [] rfl (by decide) rfl (by decide) (by decide) 0 rfl rfl q1423 q159 q1420 q1422 q57 (by decide +kernel) ⟨(Nat.le_of_ble_eq_true rfl), (Nat.le_of_ble_eq_true rfl)⟩ rfl hl.1 rfl (Nat.le_of_ble_eq_true rfl) dX4_execute_161 ⟨(Nat.le_of_ble_eq_true rfl), (Nat.le_of_ble_eq_true rfl)⟩ (fun u212 H locs w214 hP hD hS => ?_)
                refine W.widen (k := 0) (n := 0) (Nat.le_of_ble_eq_true rfl) (Nat.le_of_ble_eq_true rfl) ?_
                obtain ⟨x215, x216, x217, x218⟩ := u212
                have hP : va_P D vwC [(t0, .inr (4, [.ref c0, .ref c1, .ref c2, .int x215, .int i1, .int i2, .int i3, .int i4, .int i5, .int i6, .ref c3, .int x216, .int x217, .int x218])), (c0, .inl (dA 0, 4096, .inl m0)), (c1, .inl (dA 0, 8, .inl m1)), (c2, .inl (dA 0, 4, .inl m2)), (c3, .inl (dA 0, 30, .inl m3))] H := hP
                have hD : va_D A [(t0, .inr (4, [.ref c0, .ref c1, .ref c2, .int x215, .int i1, .int i2, .int i3, .int i4, .int i5, .int i6, .ref c3, .int x216, .int x217, .int x218])), (c0, .inl (dA 0, 4096, .inl m0)), (c1, .inl (dA 0, 8, .inl m1)), (c2, .inl (dA 0, 4, .inl m2)), (c3, .inl (dA 0, 30, .inl m3))] := hD
                obtain ⟨g219, g220⟩ := w214
                refine lv_aload_n hx hb dX4_execute_164 rfl (lv_at hl 0 rfl) ?_
                refine lv_iload_n hx hb dX4_execute_165 rfl (lv_at hl 1 rfl) ?_
                refine g_Vi (n := 1) (As := [.int a0]) (rest := []) (wr := []) hx hb hml hg hown hK hP hD hS hA (s_X4_executeM l D dA t0 a0 c0 c1 c2 x215 i1 i2 i3 i4 i5 i6 c3 x216 x217 x218 m0 m1 m2 m3 (by omega) (by omega) (by omega) p4 _) [0, 1, 2, 3, 4] [] rfl (by decide) rfl (by decide) (by decide) 0 rfl rfl q1471 q159 q1468 q1470 q69 (by decide +kernel) ⟨(Nat.le_of_ble_eq_true rfl), (Nat.le_of_ble_eq_true rfl)⟩ rfl hl.1 rfl (Nat.le_of_ble_eq_true rfl) dX4_execute_166 ⟨(Nat.le_of_ble_eq_true rfl), (Nat.le_of_ble_eq_true rfl)⟩ (fun x222 u221 H locs w223 hP hD hS => ?_)
                refine W.widen (k := 0) (n := 0) (Nat.le_of_ble_eq_true rfl) (Nat.le_of_ble_eq_true rfl) ?_
                obtain ⟨x224, x225, x226, x227, f228, f229, f230⟩ := u221
                have hP : va_P D vwC [(t0, .inr (4, [.ref c0, .ref c1, .ref c2, .int x224, .int x225, .int x226, .int x227, .int i4, .int i5, .int i6, .ref c3, .int x216, .int x217, .int x218])), (c0, .inl (dA 0, 4096, .inl f228)), (c1, .inl (dA 0, 8, .inl f229)), (c2, .inl (dA 0, 4, .inl f230)), (c3, .inl (dA 0, 30, .inl m3))] H := hP
                have hD : va_D A [(t0, .inr (4, [.ref c0, .ref c1, .ref c2, .int x224, .int x225, .int x226, .int x227, .int i4, .int i5, .int i6, .ref c3, .int x216, .int x217, .int x218])), (c0, .inl (dA 0, 4096, .inl f228)), (c1, .inl (dA 0, 8, .inl f229)), (c2, .inl (dA 0, 4, .inl f230)), (c3, .inl (dA 0, 30, .inl m3))] := hD
                obtain ⟨g231, g232⟩ := w223
                exact g_iret hx hb hr rfl hlocks hK (x224, x225, x226, x227, i6, x216, x217, x218, f228, f229, f230, m3) hP hD hS ⟨by omega, by omega, by omega, g232⟩ (Nat.le_of_ble_eq_true rfl) (Nat.le_of_ble_eq_true rfl) dX4_execute_169
              by_cases s233 : a0 = 247
              · have g234 : a0.toInt = 247 := by rw [s233]; decide
                refine lv_lookup (tgt := 160) hx hb dX4_execute_85 (by decide) (by rw [s233]; rfl) (by decide) ?_
                refine lv_aload_n hx hb dX4_execute_160 rfl (lv_at hl 0 rfl) ?_
                refine g_Vv (n := 0) (As := []) (rest := []) (wr := []) hx hb hml hg hown hK hP hD hS hA (s_X4_fetchM l D dA t0 c0 c1 c2 i0 i1 i2 i3 i4 i5 i6 c3 i7 i8 i9 m0 m1 m2 m3 (by omega) (by omega) (by omega) p4 _) [0, 1, 2, 3, 4] [] rfl (by decide) rfl (by decide) (by decide) 0 rfl rfl q1423 q159 q1420 q1422 q57 (by decide +kernel) ⟨(Nat.le_of_ble_eq_true rfl), (Nat.le_of_ble_eq_true rfl)⟩ rfl hl.1 rfl (Nat.le_of_ble_eq_true rfl) dX4_execute_161 ⟨(Nat.le_of_ble_eq_true rfl), (Nat.le_of_ble_eq_true rfl)⟩ (fun u235 H locs w237 hP hD hS => ?_)
                refine W.widen (k := 0) (n := 0) (Nat.le_of_ble_eq_true rfl) (Nat.le_of_ble_eq_true rfl) ?_
                obtain ⟨x238, x239, x240, x241⟩ := u235
                have hP : va_P D vwC [(t0, .inr (4, [.ref c0, .ref c1, .ref c2, .int x238, .int i1, .int i2, .int i3, .int i4, .int i5, .int i6, .ref c3, .int x239, .int x240, .int x241])), (c0, .inl (dA 0, 4096, .inl m0)), (c1, .inl (dA 0, 8, .inl m1)), (c2, .inl (dA 0, 4, .inl m2)), (c3, .inl (dA 0, 30, .inl m3))] H := hP
                have hD : va_D A [(t0, .inr (4, [.ref c0, .ref c1, .ref c2, .int x238, .int i1, .int i2, .int i3, .int i4, .int i5, .int i6, .ref c3, .int x239, .int x240, .int x241])), (c0, .inl (dA 0, 4096, .inl m0)), (c1, .inl (dA 0, 8, .inl m1)), (c2, .inl (dA 0, 4, .inl m2)), (c3, .inl (dA 0, 30, .inl m3))] := hD
                obtain ⟨g242, g243⟩ := w237
                refine lv_aload_n hx hb dX4_execute_164 rfl (lv_at hl 0 rfl) ?_
                refine lv_iload_n hx hb dX4_execute_165 rfl (lv_at hl 1 rfl) ?_
                refine g_Vi (n := 1) (As := [.int a0]) (rest := []) (wr := []) hx hb hml hg hown hK hP hD hS hA (s_X4_executeM l D dA t0 a0 c0 c1 c2 x238 i1 i2 i3 i4 i5 i6 c3 x239 x240 x241 m0 m1 m2 m3 (by omega) (by omega) (by omega) p4 _) [0, 1, 2, 3, 4] [] rfl (by decide) rfl (by decide) (by decide) 0 rfl rfl q1471 q159 q1468 q1470 q69 (by decide +kernel) ⟨(Nat.le_of_ble_eq_true rfl), (Nat.le_of_ble_eq_true rfl)⟩ rfl hl.1 rfl (Nat.le_of_ble_eq_true rfl) dX4_execute_166 ⟨(Nat.le_of_ble_eq_true rfl), (Nat.le_of_ble_eq_true rfl)⟩ (fun x245 u244 H locs w246 hP hD hS => ?_)
                refine W.widen (k := 0) (n := 0) (Nat.le_of_ble_eq_true rfl) (Nat.le_of_ble_eq_true rfl) ?_
                obtain ⟨x247, x248, x249, x250, f251, f252, f253⟩ := u244
                have hP : va_P D vwC [(t0, .inr (4, [.ref c0, .ref c1, .ref c2, .int x247, .int x248, .int x249, .int x250, .int i4, .int i5, .int i6, .ref c3, .int x239, .int x240, .int x241])), (c0, .inl (dA 0, 4096, .inl f251)), (c1, .inl (dA 0, 8, .inl f252)), (c2, .inl (dA 0, 4, .inl f253)), (c3, .inl (dA 0, 30, .inl m3))] H := hP
                have hD : va_D A [(t0, .inr (4, [.ref c0, .ref c1, .ref c2, .int x247, .int x248, .int x249, .int x250, .int i4, .int i5, .int i6, .ref c3, .int x239, .int x240, .int x241])), (c0, .inl (dA 0, 4096, .inl f251)), (c1, .inl (dA 0, 8, .inl f252)), (c2, .inl (dA 0, 4, .inl f253)), (c3, .inl (dA 0, 30, .inl m3))] := hD
                obtain ⟨g254, g255⟩ := w246
                exact g_iret hx hb hr rfl hlocks hK (x247, x248, x249, x250, i6, x239, x240, x241, f251, f252, f253, m3) hP hD hS ⟨by omega, by omega, by omega, g255⟩ (Nat.le_of_ble_eq_true rfl) (Nat.le_of_ble_eq_true rfl) dX4_execute_169
              have g256 : a0.toInt ≠ 129 := lv_neT s182 (by decide)
              have g257 : a0.toInt ≠ 137 := lv_neT s183 (by decide)
              have g258 : a0.toInt ≠ 139 := lv_neT s184 (by decide)
              have g259 : a0.toInt ≠ 140 := lv_neT s185 (by decide)
              have g260 : a0.toInt ≠ 142 := lv_neT s186 (by decide)
              have g261 : a0.toInt ≠ 199 := lv_neT s187 (by decide)
              have g262 : a0.toInt ≠ 209 := lv_neT s210 (by decide)
              have g263 : a0.toInt ≠ 247 := lv_neT s233 (by decide)
              refine lv_lookup (tgt := 170) hx hb dX4_execute_85 (by decide) (by rw [lv_osw s182 (by decide)]; rw [lv_osw s183 (by decide)]; rw [lv_osw s184 (by decide)]; rw [lv_osw s185 (by decide)]; rw [lv_osw s186 (by decide)]; rw [lv_osw s187 (by decide)]; rw [lv_osw s210 (by decide)]; rw [lv_osw s233 (by decide)]; rfl) (by decide) ?_
              refine lv_aload_n hx hb dX4_execute_170 rfl (lv_at hl 0 rfl) ?_
              refine lv_iload_n hx hb dX4_execute_171 rfl (lv_at hl 1 rfl) ?_
              refine g_Vi (n := 1) (As := [.int a0]) (rest := []) (wr := []) hx hb hml hg hown hK hP hD hS hA (s_X4_executeFlow l D dA t0 a0 c0 c1 c2 i0 i1 i2 i3 i4 i5 i6 c3 i7 i8 i9 m0 m1 m2 m3 (by omega) (by omega) (by omega) p4 _) [0, 1, 2, 3, 4] [] rfl (by decide) rfl (by decide) (by decide) 0 rfl rfl q1489 q159 q1486 q1488 q73 (by decide +kernel) ⟨(Nat.le_of_ble_eq_true rfl), (Nat.le_of_ble_eq_true rfl)⟩ rfl hl.1 rfl (Nat.le_of_ble_eq_true rfl) dX4_execute_172 ⟨(Nat.le_of_ble_eq_true rfl), (Nat.le_of_ble_eq_true rfl)⟩ (fun x265 u264 H locs w266 hP hD hS => ?_)
              refine W.widen (k := 0) (n := 0) (Nat.le_of_ble_eq_true rfl) (Nat.le_of_ble_eq_true rfl) ?_
              obtain ⟨x267, x268, f269, f270, f271, f272⟩ := u264
              have hP : va_P D vwC [(t0, .inr (4, [.ref c0, .ref c1, .ref c2, .int x267, .int i1, .int i2, .int i3, .int i4, .int i5, .int x268, .ref c3, .int i7, .int i8, .int i9])), (c0, .inl (dA 0, 4096, .inl f269)), (c1, .inl (dA 0, 8, .inl f270)), (c2, .inl (dA 0, 4, .inl f271)), (c3, .inl (dA 0, 30, .inl f272))] H := hP
              have hD : va_D A [(t0, .inr (4, [.ref c0, .ref c1, .ref c2, .int x267, .int i1, .int i2, .int i3, .int i4, .int i5, .int x268, .ref c3, .int i7, .int i8, .int i9])), (c0, .inl (dA 0, 4096, .inl f269)), (c1, .inl (dA 0, 8, .inl f270)), (c2, .inl (dA 0, 4, .inl f271)), (c3, .inl (dA 0, 30, .inl f272))] := hD
              obtain ⟨g273, g274⟩ := w266
              exact g_iret hx hb hr rfl hlocks hK (x267, i1, i2, i3, x268, i7, i8, i9, f269, f270, f271, f272) hP hD hS ⟨by omega, by omega, by omega, g274⟩ (Nat.le_of_ble_eq_true rfl) (Nat.le_of_ble_eq_true rfl) dX4_execute_175
            · have g275 : 191 ≥ a0.toInt := gi_nlt (by decide : (191 : Int32).toInt = 191) (rfl : a0.toInt = a0.toInt) k180
              refine lv_aload_n hx hb dX4_execute_68 rfl (lv_at hl 0 rfl) ?_
              refine g_get hx hb hg hown hK hP 0 rfl rfl inX4 1 (by decide) q554 rfl dX4_execute_69 ?_
              refine lv_iload_n hx hb dX4_execute_72 rfl (lv_at hl 1 rfl) ?_
              refine lv_sipush (v := 184) hx hb dX4_execute_73 (by decide) ?_
              refine lv_isub hx hb dX4_execute_76 ?_
              refine lv_topi (fun x276 e277 => ?_)
              have g278 : x276.toInt = a0.toInt - 184 := g_sub e277 rfl (by decide) (by omega) (by omega)
              refine lv_aload_n hx hb dX4_execute_77 rfl (lv_at hl 0 rfl) ?_
              refine g_Vi (n := 0) (As := []) (rest := [.int x276, .ref c1]) (wr := []) hx hb hml hg hown hK hP hD hS hA (s_X4_fetchWord l D dA t0 c0 c1 c2 i0 i1 i2 i3 i4 i5 i6 c3 i7 i8 i9 m0 m1 m2 m3 (by omega) (by omega) (by omega) p4 _) [0, 1, 2, 3, 4] [] rfl (by decide) rfl (by decide) (by decide) 0 rfl rfl q1431 q159 q1428 q1430 q59 (by decide +kernel) ⟨(Nat.le_of_ble_eq_true rfl), (Nat.le_of_ble_eq_true rfl)⟩ rfl hl.1 rfl (Nat.le_of_ble_eq_true rfl) dX4_execute_78 ⟨(Nat.le_of_ble_eq_true rfl), (Nat.le_of_ble_eq_true rfl)⟩ (fun x280 u279 H locs w281 hP hD hS => ?_)
              refine W.widen (k := 0) (n := 0) (Nat.le_of_ble_eq_true rfl) (Nat.le_of_ble_eq_true rfl) ?_
              obtain ⟨x282, rfl⟩ : ∃ z, z = u279 := ⟨_, rfl⟩
              have hP : va_P D vwC [(t0, .inr (4, [.ref c0, .ref c1, .ref c2, .int x282, .int i1, .int i2, .int i3, .int i4, .int i5, .int i6, .ref c3, .int i7, .int i8, .int i9])), (c0, .inl (dA 0, 4096, .inl m0)), (c1, .inl (dA 0, 8, .inl m1)), (c2, .inl (dA 0, 4, .inl m2)), (c3, .inl (dA 0, 30, .inl m3))] H := hP
              have hD : va_D A [(t0, .inr (4, [.ref c0, .ref c1, .ref c2, .int x282, .int i1, .int i2, .int i3, .int i4, .int i5, .int i6, .ref c3, .int i7, .int i8, .int i9])), (c0, .inl (dA 0, 4096, .inl m0)), (c1, .inl (dA 0, 8, .inl m1)), (c2, .inl (dA 0, 4, .inl m2)), (c3, .inl (dA 0, 30, .inl m3))] := hD
              refine va_iast hx hb hK hP hD hS 2 0 rfl rfl (by rw [vp_in_iff]; omega) dX4_execute_81 (fun H locs hP hD hS => ?_)
              have hP : va_P D vwC [(t0, .inr (4, [.ref c0, .ref c1, .ref c2, .int x282, .int i1, .int i2, .int i3, .int i4, .int i5, .int i6, .ref c3, .int i7, .int i8, .int i9])), (c0, .inl (dA 0, 4096, .inl m0)), (c1, .inl (dA 0, 8, .inl (upd m1 (x276 : Int32).toNatClampNeg x280))), (c2, .inl (dA 0, 4, .inl m2)), (c3, .inl (dA 0, 30, .inl m3))] H := hP
              have hD : va_D A [(t0, .inr (4, [.ref c0, .ref c1, .ref c2, .int x282, .int i1, .int i2, .int i3, .int i4, .int i5, .int i6, .ref c3, .int i7, .int i8, .int i9])), (c0, .inl (dA 0, 4096, .inl m0)), (c1, .inl (dA 0, 8, .inl (upd m1 (x276 : Int32).toNatClampNeg x280))), (c2, .inl (dA 0, 4, .inl m2)), (c3, .inl (dA 0, 30, .inl m3))] := hD
              obtain ⟨f283, ef283⟩ : ∃ f : Nat → Int32, f = (upd m1 (x276 : Int32).toNatClampNeg x280) := ⟨_, rfl⟩
              rw [← ef283] at hP hD
              refine lv_iconst (v := 3) hx hb dX4_execute_82 (by decide) ?_
              exact g_iret hx hb hr rfl hlocks hK (x282, i1, i2, i3, i6, i7, i8, i9, m0, f283, m2, m3) hP hD hS ⟨by decide, by omega, by omega, p4⟩ (Nat.le_of_ble_eq_true rfl) (Nat.le_of_ble_eq_true rfl) dX4_execute_83
        · have g284 : 121 ≥ a0.toInt := gi_nlt (by decide : (121 : Int32).toInt = 121) (rfl : a0.toInt = a0.toInt) k38
          refine lv_aload_n hx hb dX4_execute_48 rfl (lv_at hl 0 rfl) ?_
          refine lv_iload_n hx hb dX4_execute_49 rfl (lv_at hl 1 rfl) ?_
          refine g_Vi (n := 1) (As := [.int a0]) (rest := []) (wr := []) hx hb hml hg hown hK hP hD hS hA (s_X4_branch l D dA t0 a0 c0 c1 c2 i0 i1 i2 i3 i4 i5 i6 c3 i7 i8 i9 m0 m1 m2 m3 (by omega) (by omega) (by omega) p4 _) [0, 1, 2, 3, 4] [] rfl (by decide) rfl (by decide) (by decide) 0 rfl rfl q1463 q159 q1460 q1462 q67 (by decide +kernel) ⟨(Nat.le_of_ble_eq_true rfl), (Nat.le_of_ble_eq_true rfl)⟩ rfl hl.1 rfl (Nat.le_of_ble_eq_true rfl) dX4_execute_50 ⟨(Nat.le_of_ble_eq_true rfl), (Nat.le_of_ble_eq_true rfl)⟩ (fun x286 u285 H locs w287 hP hD hS => ?_)
          refine W.widen (k := 0) (n := 0) (Nat.le_of_ble_eq_true rfl) (Nat.le_of_ble_eq_true rfl) ?_
          obtain ⟨x288, rfl⟩ : ∃ z, z = u285 := ⟨_, rfl⟩
          have hP : va_P D vwC [(t0, .inr (4, [.ref c0, .ref c1, .ref c2, .int x288, .int i1, .int i2, .int i3, .int i4, .int i5, .int i6, .ref c3, .int i7, .int i8, .int i9])), (c0, .inl (dA 0, 4096, .inl m0)), (c1, .inl (dA 0, 8, .inl m1)), (c2, .inl (dA 0, 4, .inl m2)), (c3, .inl (dA 0, 30, .inl m3))] H := hP
          have hD : va_D A [(t0, .inr (4, [.ref c0, .ref c1, .ref c2, .int x288, .int i1, .int i2, .int i3, .int i4, .int i5, .int i6, .ref c3, .int i7, .int i8, .int i9])), (c0, .inl (dA 0, 4096, .inl m0)), (c1, .inl (dA 0, 8, .inl m1)), (c2, .inl (dA 0, 4, .inl m2)), (c3, .inl (dA 0, 30, .inl m3))] := hD
          have g289 := w287
          have g289 : 0 ≤ x286.toInt ∧ x286.toInt ≤ 3 := g289
          exact g_iret hx hb hr rfl hlocks hK (x288, i1, i2, i3, i6, i7, i8, i9, m0, m1, m2, m3) hP hD hS ⟨by omega, by omega, by omega, p4⟩ (Nat.le_of_ble_eq_true rfl) (Nat.le_of_ble_eq_true rfl) dX4_execute_53
    · have g290 : 96 > a0.toInt := gi_nle (by decide : (96 : Int32).toInt = 96) (rfl : a0.toInt = a0.toInt) k3
      refine lv_aload_n hx hb dX4_execute_24 rfl (lv_at hl 0 rfl) ?_
      refine lv_iload_n hx hb dX4_execute_25 rfl (lv_at hl 1 rfl) ?_
      refine lv_iconst (v := 3) hx hb dX4_execute_26 (by decide) ?_
      refine lv_ishr hx hb dX4_execute_27 ?_
      refine lv_topi (fun x291 e292 => ?_)
      have g293 : x291.toInt * 8 ≤ a0.toInt ∧ a0.toInt < x291.toInt * 8 + 8 := g_shr e292 3 (by decide) (by decide) (by decide)
      refine lv_iload_n hx hb dX4_execute_28 rfl (lv_at hl 1 rfl) ?_
      refine lv_bipush (v := 7) hx hb dX4_execute_29 (by decide) ?_
      refine lv_iand hx hb dX4_execute_31 ?_
      refine lv_topi (fun x294 e295 => ?_)
      have g296 : 0 ≤ x294.toInt ∧ x294.toInt ≤ 7 := g_msk e295 3 (by decide) (by decide) (by decide)
      refine g_Vi (n := 2) (As := [.int x291, .int x294]) (rest := []) (wr := []) hx hb hml hg hown hK hP hD hS hA (s_X4_executeRegister l D dA t0 x291 x294 c0 c1 c2 i0 i1 i2 i3 i4 i5 i6 c3 i7 i8 i9 m0 m1 m2 m3 (by omega) (by omega) (by omega) (by omega) p4 _) [0, 1, 2, 3, 4] [] rfl (by decide) rfl (by decide) (by decide) 0 rfl rfl q1459 q159 q1456 q1458 q66 (by decide +kernel) ⟨(Nat.le_of_ble_eq_true rfl), (Nat.le_of_ble_eq_true rfl)⟩ rfl hl.1 rfl (Nat.le_of_ble_eq_true rfl) dX4_execute_32 ⟨(Nat.le_of_ble_eq_true rfl), (Nat.le_of_ble_eq_true rfl)⟩ (fun x298 u297 H locs w299 hP hD hS => ?_)
      refine W.widen (k := 0) (n := 0) (Nat.le_of_ble_eq_true rfl) (Nat.le_of_ble_eq_true rfl) ?_
      obtain ⟨x300, x301, f302, f303⟩ := u297
      have hP : va_P D vwC [(t0, .inr (4, [.ref c0, .ref c1, .ref c2, .int i0, .int i1, .int x300, .int x301, .int i4, .int i5, .int i6, .ref c3, .int i7, .int i8, .int i9])), (c0, .inl (dA 0, 4096, .inl f302)), (c1, .inl (dA 0, 8, .inl f303)), (c2, .inl (dA 0, 4, .inl m2)), (c3, .inl (dA 0, 30, .inl m3))] H := hP
      have hD : va_D A [(t0, .inr (4, [.ref c0, .ref c1, .ref c2, .int i0, .int i1, .int x300, .int x301, .int i4, .int i5, .int i6, .ref c3, .int i7, .int i8, .int i9])), (c0, .inl (dA 0, 4096, .inl f302)), (c1, .inl (dA 0, 8, .inl f303)), (c2, .inl (dA 0, 4, .inl m2)), (c3, .inl (dA 0, 30, .inl m3))] := hD
      obtain ⟨g304, g305⟩ := w299
      exact g_iret hx hb hr rfl hlocks hK (i0, i1, x300, x301, i6, i7, i8, i9, f302, f303, m2, m3) hP hD hS ⟨by omega, by omega, by omega, g305⟩ (Nat.le_of_ble_eq_true rfl) (Nat.le_of_ble_eq_true rfl) dX4_execute_35
  · have g306 : 64 > a0.toInt := gi_nle (by decide : (64 : Int32).toInt = 64) (rfl : a0.toInt = a0.toInt) k1
    refine lv_aload_n hx hb dX4_execute_6 rfl (lv_at hl 0 rfl) ?_
    refine lv_iload_n hx hb dX4_execute_7 rfl (lv_at hl 1 rfl) ?_
    refine lv_iconst (v := 3) hx hb dX4_execute_8 (by decide) ?_
    refine lv_ishr hx hb dX4_execute_9 ?_
    refine lv_topi (fun x307 e308 => ?_)
    have g309 : x307.toInt * 8 ≤ a0.toInt ∧ a0.toInt < x307.toInt * 8 + 8 := g_shr e308 3 (by decide) (by decide) (by decide)
    refine lv_iload_n hx hb dX4_execute_10 rfl (lv_at hl 1 rfl) ?_
    refine lv_bipush (v := 7) hx hb dX4_execute_11 (by decide) ?_
    refine lv_iand hx hb dX4_execute_13 ?_
    refine lv_topi (fun x310 e311 => ?_)
    have g312 : 0 ≤ x310.toInt ∧ x310.toInt ≤ 7 := g_msk e311 3 (by decide) (by decide) (by decide)
    refine g_Vi (n := 2) (As := [.int x307, .int x310]) (rest := []) (wr := []) hx hb hml hg hown hK hP hD hS hA (s_X4_executeLow l D dA t0 x307 x310 c0 c1 c2 i0 i1 i2 i3 i4 i5 i6 c3 i7 i8 i9 m0 m1 m2 m3 (by omega) (by omega) (by omega) (by omega) (by omega) p4 _) [0, 1, 2, 3, 4] [] rfl (by decide) rfl (by decide) (by decide) 0 rfl rfl q1408 q159 q1405 q1407 q54 (by decide +kernel) ⟨(Nat.le_of_ble_eq_true rfl), (Nat.le_of_ble_eq_true rfl)⟩ rfl hl.1 rfl (Nat.le_of_ble_eq_true rfl) dX4_execute_14 ⟨(Nat.le_of_ble_eq_true rfl), (Nat.le_of_ble_eq_true rfl)⟩ (fun x314 u313 H locs w315 hP hD hS => ?_)
    refine W.widen (k := 0) (n := 0) (Nat.le_of_ble_eq_true rfl) (Nat.le_of_ble_eq_true rfl) ?_
    obtain ⟨x316, x317, x318, x319, x320, x321, x322, f323, f324, f325⟩ := u313
    have hP : va_P D vwC [(t0, .inr (4, [.ref c0, .ref c1, .ref c2, .int x316, .int x317, .int x318, .int x319, .int i4, .int i5, .int i6, .ref c3, .int x320, .int x321, .int x322])), (c0, .inl (dA 0, 4096, .inl f323)), (c1, .inl (dA 0, 8, .inl f324)), (c2, .inl (dA 0, 4, .inl f325)), (c3, .inl (dA 0, 30, .inl m3))] H := hP
    have hD : va_D A [(t0, .inr (4, [.ref c0, .ref c1, .ref c2, .int x316, .int x317, .int x318, .int x319, .int i4, .int i5, .int i6, .ref c3, .int x320, .int x321, .int x322])), (c0, .inl (dA 0, 4096, .inl f323)), (c1, .inl (dA 0, 8, .inl f324)), (c2, .inl (dA 0, 4, .inl f325)), (c3, .inl (dA 0, 30, .inl m3))] := hD
    obtain ⟨g326, g327, g328, g329⟩ := w315
    exact g_iret hx hb hr rfl hlocks hK (x316, x317, x318, x319, i6, x320, x321, x322, f323, f324, f325, m3) hP hD hS ⟨by omega, by omega, by omega, g329⟩ (Nat.le_of_ble_eq_true rfl) (Nat.le_of_ble_eq_true rfl) dX4_execute_17
