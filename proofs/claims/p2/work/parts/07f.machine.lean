theorem q61 : Cond.selects RX4 yX4_arithmeticOnM yX4_arithmeticOnM ∈ gw := gw_in (i := 61) (by decide +kernel) rfl
theorem q70 : Cond.selects RX4 yX4_shift yX4_shift ∈ gw := gw_in (i := 70) (by decide +kernel) rfl
theorem q71 : Cond.selects RX4 yX4_single yX4_single ∈ gw := gw_in (i := 71) (by decide +kernel) rfl
theorem q1417 : Cond.methodLink RX4 125 yX4_isArithmetic ∈ gw := gw_in (i := 1417) (by decide +kernel) rfl
theorem q1418 : Cond.static yX4_isArithmetic ∈ gw := gw_in (i := 1418) (by decide +kernel) rfl
theorem q1419 : Cond.code yX4_isArithmetic cX4_isArithmetic 1 (some .boolean) ∈ gw := gw_in (i := 1419) (by decide +kernel) rfl
theorem q1436 : Cond.methodLink RX4 129 yX4_arithmeticOnM ∈ gw := gw_in (i := 1436) (by decide +kernel) rfl
theorem q1438 : Cond.instanceMethod yX4_arithmeticOnM ∈ gw := gw_in (i := 1438) (by decide +kernel) rfl
theorem q1439 : Cond.code yX4_arithmeticOnM cX4_arithmeticOnM 4 none ∈ gw := gw_in (i := 1439) (by decide +kernel) rfl
theorem q1472 : Cond.methodLink RX4 151 yX4_shift ∈ gw := gw_in (i := 1472) (by decide +kernel) rfl
theorem q1474 : Cond.instanceMethod yX4_shift ∈ gw := gw_in (i := 1474) (by decide +kernel) rfl
theorem q1475 : Cond.code yX4_shift cX4_shift 3 (some .int) ∈ gw := gw_in (i := 1475) (by decide +kernel) rfl
theorem q1476 : Cond.methodLink RX4 154 yX4_single ∈ gw := gw_in (i := 1476) (by decide +kernel) rfl
theorem q1478 : Cond.instanceMethod yX4_single ∈ gw := gw_in (i := 1478) (by decide +kernel) rfl
theorem q1479 : Cond.code yX4_single cX4_single 3 (some .int) ∈ gw := gw_in (i := 1479) (by decide +kernel) rfl
theorem dX4_executeM_0 : decode cX4_executeM 0 = .ok (.iload_n 1, 1) := by decide +kernel
theorem dX4_executeM_1 : decode cX4_executeM 1 = .ok (.lookupswitch 205 #[(129, 67), (137, 93), (139, 108), (140, 123), (142, 148), (199, 181), (209, 200)], 67) := by decide +kernel
theorem dX4_executeM_68 : decode cX4_executeM 68 = .ok (.aload_n 0, 1) := by decide +kernel
theorem dX4_executeM_69 : decode cX4_executeM 69 = .ok (.getfield 45, 3) := by decide +kernel
theorem dX4_executeM_72 : decode cX4_executeM 72 = .ok (.invokestatic 125, 3) := by decide +kernel
theorem dX4_executeM_75 : decode cX4_executeM 75 = .ok (.ifCond .ne 5, 3) := by decide +kernel
theorem dX4_executeM_80 : decode cX4_executeM 80 = .ok (.aload_n 0, 1) := by decide +kernel
theorem dX4_executeM_81 : decode cX4_executeM 81 = .ok (.aload_n 0, 1) := by decide +kernel
theorem dX4_executeM_82 : decode cX4_executeM 82 = .ok (.getfield 45, 3) := by decide +kernel
theorem dX4_executeM_85 : decode cX4_executeM 85 = .ok (.aload_n 0, 1) := by decide +kernel
theorem dX4_executeM_86 : decode cX4_executeM 86 = .ok (.invokevirtual 106, 3) := by decide +kernel
theorem dX4_executeM_89 : decode cX4_executeM 89 = .ok (.invokevirtual 129, 3) := by decide +kernel
theorem dX4_executeM_92 : decode cX4_executeM 92 = .ok (.iconst 3, 1) := by decide +kernel
theorem dX4_executeM_93 : decode cX4_executeM 93 = .ok (.ireturn, 1) := by decide +kernel
theorem dX4_executeM_78 : decode cX4_executeM 78 = .ok (.iconst 2, 1) := by decide +kernel
theorem dX4_executeM_79 : decode cX4_executeM 79 = .ok (.ireturn, 1) := by decide +kernel
theorem dX4_executeM_94 : decode cX4_executeM 94 = .ok (.aload_n 0, 1) := by decide +kernel
theorem dX4_executeM_95 : decode cX4_executeM 95 = .ok (.aload_n 0, 1) := by decide +kernel
theorem dX4_executeM_96 : decode cX4_executeM 96 = .ok (.getfield 13, 3) := by decide +kernel
theorem dX4_executeM_99 : decode cX4_executeM 99 = .ok (.aload_n 0, 1) := by decide +kernel
theorem dX4_executeM_100 : decode cX4_executeM 100 = .ok (.getfield 45, 3) := by decide +kernel
theorem dX4_executeM_103 : decode cX4_executeM 103 = .ok (.iaload, 1) := by decide +kernel
theorem dX4_executeM_104 : decode cX4_executeM 104 = .ok (.invokevirtual 148, 3) := by decide +kernel
theorem dX4_executeM_107 : decode cX4_executeM 107 = .ok (.iconst 3, 1) := by decide +kernel
theorem dX4_executeM_108 : decode cX4_executeM 108 = .ok (.ireturn, 1) := by decide +kernel
theorem dX4_executeM_109 : decode cX4_executeM 109 = .ok (.aload_n 0, 1) := by decide +kernel
theorem dX4_executeM_110 : decode cX4_executeM 110 = .ok (.getfield 13, 3) := by decide +kernel
theorem dX4_executeM_113 : decode cX4_executeM 113 = .ok (.aload_n 0, 1) := by decide +kernel
theorem dX4_executeM_114 : decode cX4_executeM 114 = .ok (.getfield 45, 3) := by decide +kernel
theorem dX4_executeM_117 : decode cX4_executeM 117 = .ok (.aload_n 0, 1) := by decide +kernel
theorem dX4_executeM_118 : decode cX4_executeM 118 = .ok (.invokevirtual 132, 3) := by decide +kernel
theorem dX4_executeM_121 : decode cX4_executeM 121 = .ok (.iastore, 1) := by decide +kernel
theorem dX4_executeM_122 : decode cX4_executeM 122 = .ok (.iconst 3, 1) := by decide +kernel
theorem dX4_executeM_123 : decode cX4_executeM 123 = .ok (.ireturn, 1) := by decide +kernel
theorem dX4_executeM_124 : decode cX4_executeM 124 = .ok (.aload_n 0, 1) := by decide +kernel
theorem dX4_executeM_125 : decode cX4_executeM 125 = .ok (.getfield 45, 3) := by decide +kernel
theorem dX4_executeM_128 : decode cX4_executeM 128 = .ok (.iconst 3, 1) := by decide +kernel
theorem dX4_executeM_129 : decode cX4_executeM 129 = .ok (.if_icmp .le 5, 3) := by decide +kernel
theorem dX4_executeM_134 : decode cX4_executeM 134 = .ok (.aload_n 0, 1) := by decide +kernel
theorem dX4_executeM_135 : decode cX4_executeM 135 = .ok (.aload_n 0, 1) := by decide +kernel
theorem dX4_executeM_136 : decode cX4_executeM 136 = .ok (.getfield 16, 3) := by decide +kernel
theorem dX4_executeM_139 : decode cX4_executeM 139 = .ok (.aload_n 0, 1) := by decide +kernel
theorem dX4_executeM_140 : decode cX4_executeM 140 = .ok (.getfield 45, 3) := by decide +kernel
theorem dX4_executeM_143 : decode cX4_executeM 143 = .ok (.iaload, 1) := by decide +kernel
theorem dX4_executeM_144 : decode cX4_executeM 144 = .ok (.invokevirtual 148, 3) := by decide +kernel
theorem dX4_executeM_147 : decode cX4_executeM 147 = .ok (.iconst 3, 1) := by decide +kernel
theorem dX4_executeM_148 : decode cX4_executeM 148 = .ok (.ireturn, 1) := by decide +kernel
theorem dX4_executeM_132 : decode cX4_executeM 132 = .ok (.iconst 2, 1) := by decide +kernel
theorem dX4_executeM_133 : decode cX4_executeM 133 = .ok (.ireturn, 1) := by decide +kernel
theorem dX4_executeM_149 : decode cX4_executeM 149 = .ok (.aload_n 0, 1) := by decide +kernel
theorem dX4_executeM_150 : decode cX4_executeM 150 = .ok (.getfield 45, 3) := by decide +kernel
theorem dX4_executeM_153 : decode cX4_executeM 153 = .ok (.iconst 3, 1) := by decide +kernel
theorem dX4_executeM_154 : decode cX4_executeM 154 = .ok (.if_icmp .gt 11, 3) := by decide +kernel
theorem dX4_executeM_165 : decode cX4_executeM 165 = .ok (.iconst 2, 1) := by decide +kernel
theorem dX4_executeM_166 : decode cX4_executeM 166 = .ok (.ireturn, 1) := by decide +kernel
theorem dX4_executeM_157 : decode cX4_executeM 157 = .ok (.aload_n 0, 1) := by decide +kernel
theorem dX4_executeM_158 : decode cX4_executeM 158 = .ok (.getfield 45, 3) := by decide +kernel
theorem dX4_executeM_161 : decode cX4_executeM 161 = .ok (.iconst 1, 1) := by decide +kernel
theorem dX4_executeM_162 : decode cX4_executeM 162 = .ok (.if_icmp .ne 5, 3) := by decide +kernel
theorem dX4_executeM_167 : decode cX4_executeM 167 = .ok (.aload_n 0, 1) := by decide +kernel
theorem dX4_executeM_168 : decode cX4_executeM 168 = .ok (.getfield 16, 3) := by decide +kernel
theorem dX4_executeM_171 : decode cX4_executeM 171 = .ok (.aload_n 0, 1) := by decide +kernel
theorem dX4_executeM_172 : decode cX4_executeM 172 = .ok (.getfield 45, 3) := by decide +kernel
theorem dX4_executeM_175 : decode cX4_executeM 175 = .ok (.aload_n 0, 1) := by decide +kernel
theorem dX4_executeM_176 : decode cX4_executeM 176 = .ok (.invokevirtual 132, 3) := by decide +kernel
theorem dX4_executeM_179 : decode cX4_executeM 179 = .ok (.iastore, 1) := by decide +kernel
theorem dX4_executeM_180 : decode cX4_executeM 180 = .ok (.iconst 3, 1) := by decide +kernel
theorem dX4_executeM_181 : decode cX4_executeM 181 = .ok (.ireturn, 1) := by decide +kernel
theorem dX4_executeM_182 : decode cX4_executeM 182 = .ok (.aload_n 0, 1) := by decide +kernel
theorem dX4_executeM_183 : decode cX4_executeM 183 = .ok (.getfield 45, 3) := by decide +kernel
theorem dX4_executeM_186 : decode cX4_executeM 186 = .ok (.ifCond .eq 5, 3) := by decide +kernel
theorem dX4_executeM_191 : decode cX4_executeM 191 = .ok (.aload_n 0, 1) := by decide +kernel
theorem dX4_executeM_192 : decode cX4_executeM 192 = .ok (.aload_n 0, 1) := by decide +kernel
theorem dX4_executeM_193 : decode cX4_executeM 193 = .ok (.invokevirtual 106, 3) := by decide +kernel
theorem dX4_executeM_196 : decode cX4_executeM 196 = .ok (.invokevirtual 148, 3) := by decide +kernel
theorem dX4_executeM_199 : decode cX4_executeM 199 = .ok (.iconst 3, 1) := by decide +kernel
theorem dX4_executeM_200 : decode cX4_executeM 200 = .ok (.ireturn, 1) := by decide +kernel
theorem dX4_executeM_189 : decode cX4_executeM 189 = .ok (.iconst 2, 1) := by decide +kernel
theorem dX4_executeM_190 : decode cX4_executeM 190 = .ok (.ireturn, 1) := by decide +kernel
theorem dX4_executeM_201 : decode cX4_executeM 201 = .ok (.aload_n 0, 1) := by decide +kernel
theorem dX4_executeM_202 : decode cX4_executeM 202 = .ok (.invokevirtual 151, 3) := by decide +kernel
theorem dX4_executeM_205 : decode cX4_executeM 205 = .ok (.ireturn, 1) := by decide +kernel
theorem dX4_executeM_206 : decode cX4_executeM 206 = .ok (.aload_n 0, 1) := by decide +kernel
theorem dX4_executeM_207 : decode cX4_executeM 207 = .ok (.invokevirtual 154, 3) := by decide +kernel
theorem dX4_executeM_210 : decode cX4_executeM 210 = .ok (.ireturn, 1) := by decide +kernel
theorem dX4_branch_0 : decode cX4_branch 0 = .ok (.iload_n 1, 1) := by decide +kernel
theorem dX4_branch_1 : decode cX4_branch 1 = .ok (.iconst 1, 1) := by decide +kernel
theorem dX4_branch_2 : decode cX4_branch 2 = .ok (.ishr, 1) := by decide +kernel
theorem dX4_branch_3 : decode cX4_branch 3 = .ok (.tableswitch 53 57 60 #[29, 37, 53, 45], 29) := by decide +kernel
theorem dX4_branch_32 : decode cX4_branch 32 = .ok (.aload_n 0, 1) := by decide +kernel
theorem dX4_branch_33 : decode cX4_branch 33 = .ok (.getfield 30, 3) := by decide +kernel
theorem dX4_branch_36 : decode cX4_branch 36 = .ok (.istore_n 2, 1) := by decide +kernel
theorem dX4_branch_37 : decode cX4_branch 37 = .ok (.goto 21, 3) := by decide +kernel
theorem dX4_branch_58 : decode cX4_branch 58 = .ok (.aload_n 0, 1) := by decide +kernel
theorem dX4_branch_59 : decode cX4_branch 59 = .ok (.invokevirtual 142, 3) := by decide +kernel
theorem dX4_branch_62 : decode cX4_branch 62 = .ok (.istore_n 3, 1) := by decide +kernel
theorem dX4_branch_63 : decode cX4_branch 63 = .ok (.iload_n 2, 1) := by decide +kernel
theorem dX4_branch_64 : decode cX4_branch 64 = .ok (.iload_n 1, 1) := by decide +kernel
theorem dX4_branch_65 : decode cX4_branch 65 = .ok (.iconst 1, 1) := by decide +kernel
theorem dX4_branch_66 : decode cX4_branch 66 = .ok (.iand, 1) := by decide +kernel
theorem dX4_branch_67 : decode cX4_branch 67 = .ok (.if_icmp .eq 8, 3) := by decide +kernel
theorem dX4_branch_75 : decode cX4_branch 75 = .ok (.iconst 3, 1) := by decide +kernel
theorem dX4_branch_76 : decode cX4_branch 76 = .ok (.ireturn, 1) := by decide +kernel
theorem dX4_branch_70 : decode cX4_branch 70 = .ok (.aload_n 0, 1) := by decide +kernel
theorem dX4_branch_71 : decode cX4_branch 71 = .ok (.iload_n 3, 1) := by decide +kernel
theorem dX4_branch_72 : decode cX4_branch 72 = .ok (.invokevirtual 145, 3) := by decide +kernel
theorem dX4_branch_40 : decode cX4_branch 40 = .ok (.aload_n 0, 1) := by decide +kernel
theorem dX4_branch_41 : decode cX4_branch 41 = .ok (.getfield 33, 3) := by decide +kernel
theorem dX4_branch_44 : decode cX4_branch 44 = .ok (.istore_n 2, 1) := by decide +kernel
theorem dX4_branch_45 : decode cX4_branch 45 = .ok (.goto 13, 3) := by decide +kernel
theorem dX4_branch_56 : decode cX4_branch 56 = .ok (.iconst 2, 1) := by decide +kernel
theorem dX4_branch_57 : decode cX4_branch 57 = .ok (.ireturn, 1) := by decide +kernel
theorem dX4_branch_48 : decode cX4_branch 48 = .ok (.aload_n 0, 1) := by decide +kernel
theorem dX4_branch_49 : decode cX4_branch 49 = .ok (.getfield 36, 3) := by decide +kernel
theorem dX4_branch_52 : decode cX4_branch 52 = .ok (.istore_n 2, 1) := by decide +kernel
theorem dX4_branch_53 : decode cX4_branch 53 = .ok (.goto 5, 3) := by decide +kernel
theorem dX4_executeRegister_0 : decode cX4_executeRegister 0 = .ok (.iload_n 1, 1) := by decide +kernel
theorem dX4_executeRegister_1 : decode cX4_executeRegister 1 = .ok (.tableswitch 100 8 10 #[27, 57, 87], 27) := by decide +kernel
theorem dX4_executeRegister_28 : decode cX4_executeRegister 28 = .ok (.aload_n 0, 1) := by decide +kernel
theorem dX4_executeRegister_29 : decode cX4_executeRegister 29 = .ok (.getfield 13, 3) := by decide +kernel
theorem dX4_executeRegister_32 : decode cX4_executeRegister 32 = .ok (.iload_n 2, 1) := by decide +kernel
theorem dX4_executeRegister_33 : decode cX4_executeRegister 33 = .ok (.aload_n 0, 1) := by decide +kernel
theorem dX4_executeRegister_34 : decode cX4_executeRegister 34 = .ok (.getfield 13, 3) := by decide +kernel
theorem dX4_executeRegister_37 : decode cX4_executeRegister 37 = .ok (.iload_n 2, 1) := by decide +kernel
theorem dX4_executeRegister_38 : decode cX4_executeRegister 38 = .ok (.iaload, 1) := by decide +kernel
theorem dX4_executeRegister_39 : decode cX4_executeRegister 39 = .ok (.iconst 1, 1) := by decide +kernel
theorem dX4_executeRegister_40 : decode cX4_executeRegister 40 = .ok (.iadd, 1) := by decide +kernel
theorem dX4_executeRegister_41 : decode cX4_executeRegister 41 = .ok (.ldc 95, 2) := by decide +kernel
theorem dX4_executeRegister_43 : decode cX4_executeRegister 43 = .ok (.iand, 1) := by decide +kernel
theorem dX4_executeRegister_44 : decode cX4_executeRegister 44 = .ok (.iastore, 1) := by decide +kernel
theorem dX4_executeRegister_45 : decode cX4_executeRegister 45 = .ok (.aload_n 0, 1) := by decide +kernel
theorem dX4_executeRegister_46 : decode cX4_executeRegister 46 = .ok (.aload_n 0, 1) := by decide +kernel
theorem dX4_executeRegister_47 : decode cX4_executeRegister 47 = .ok (.getfield 13, 3) := by decide +kernel
theorem dX4_executeRegister_50 : decode cX4_executeRegister 50 = .ok (.iload_n 2, 1) := by decide +kernel
theorem dX4_executeRegister_51 : decode cX4_executeRegister 51 = .ok (.iaload, 1) := by decide +kernel
theorem dX4_executeRegister_52 : decode cX4_executeRegister 52 = .ok (.invokevirtual 139, 3) := by decide +kernel
theorem dX4_executeRegister_55 : decode cX4_executeRegister 55 = .ok (.goto 56, 3) := by decide +kernel
theorem dX4_executeRegister_111 : decode cX4_executeRegister 111 = .ok (.iconst 3, 1) := by decide +kernel
theorem dX4_executeRegister_112 : decode cX4_executeRegister 112 = .ok (.ireturn, 1) := by decide +kernel
theorem dX4_executeRegister_58 : decode cX4_executeRegister 58 = .ok (.aload_n 0, 1) := by decide +kernel
theorem dX4_executeRegister_59 : decode cX4_executeRegister 59 = .ok (.getfield 13, 3) := by decide +kernel
theorem dX4_executeRegister_62 : decode cX4_executeRegister 62 = .ok (.iload_n 2, 1) := by decide +kernel
theorem dX4_executeRegister_63 : decode cX4_executeRegister 63 = .ok (.aload_n 0, 1) := by decide +kernel
theorem dX4_executeRegister_64 : decode cX4_executeRegister 64 = .ok (.getfield 13, 3) := by decide +kernel
theorem dX4_executeRegister_67 : decode cX4_executeRegister 67 = .ok (.iload_n 2, 1) := by decide +kernel
theorem dX4_executeRegister_68 : decode cX4_executeRegister 68 = .ok (.iaload, 1) := by decide +kernel
theorem dX4_executeRegister_69 : decode cX4_executeRegister 69 = .ok (.iconst 1, 1) := by decide +kernel
theorem dX4_executeRegister_70 : decode cX4_executeRegister 70 = .ok (.isub, 1) := by decide +kernel
theorem dX4_executeRegister_71 : decode cX4_executeRegister 71 = .ok (.ldc 95, 2) := by decide +kernel
theorem dX4_executeRegister_73 : decode cX4_executeRegister 73 = .ok (.iand, 1) := by decide +kernel
theorem dX4_executeRegister_74 : decode cX4_executeRegister 74 = .ok (.iastore, 1) := by decide +kernel
theorem dX4_executeRegister_75 : decode cX4_executeRegister 75 = .ok (.aload_n 0, 1) := by decide +kernel
theorem dX4_executeRegister_76 : decode cX4_executeRegister 76 = .ok (.aload_n 0, 1) := by decide +kernel
theorem dX4_executeRegister_77 : decode cX4_executeRegister 77 = .ok (.getfield 13, 3) := by decide +kernel
theorem dX4_executeRegister_80 : decode cX4_executeRegister 80 = .ok (.iload_n 2, 1) := by decide +kernel
theorem dX4_executeRegister_81 : decode cX4_executeRegister 81 = .ok (.iaload, 1) := by decide +kernel
theorem dX4_executeRegister_82 : decode cX4_executeRegister 82 = .ok (.invokevirtual 139, 3) := by decide +kernel
theorem dX4_executeRegister_85 : decode cX4_executeRegister 85 = .ok (.goto 26, 3) := by decide +kernel
theorem dX4_executeRegister_88 : decode cX4_executeRegister 88 = .ok (.aload_n 0, 1) := by decide +kernel
theorem dX4_executeRegister_89 : decode cX4_executeRegister 89 = .ok (.aload_n 0, 1) := by decide +kernel
theorem dX4_executeRegister_90 : decode cX4_executeRegister 90 = .ok (.getfield 13, 3) := by decide +kernel
theorem dX4_executeRegister_93 : decode cX4_executeRegister 93 = .ok (.iload_n 2, 1) := by decide +kernel
theorem dX4_executeRegister_94 : decode cX4_executeRegister 94 = .ok (.iaload, 1) := by decide +kernel
theorem dX4_executeRegister_95 : decode cX4_executeRegister 95 = .ok (.invokevirtual 118, 3) := by decide +kernel
theorem dX4_executeRegister_98 : decode cX4_executeRegister 98 = .ok (.goto 13, 3) := by decide +kernel
theorem dX4_executeRegister_101 : decode cX4_executeRegister 101 = .ok (.aload_n 0, 1) := by decide +kernel
theorem dX4_executeRegister_102 : decode cX4_executeRegister 102 = .ok (.getfield 13, 3) := by decide +kernel
theorem dX4_executeRegister_105 : decode cX4_executeRegister 105 = .ok (.iload_n 2, 1) := by decide +kernel
theorem dX4_executeRegister_106 : decode cX4_executeRegister 106 = .ok (.aload_n 0, 1) := by decide +kernel
theorem dX4_executeRegister_107 : decode cX4_executeRegister 107 = .ok (.invokevirtual 122, 3) := by decide +kernel
theorem dX4_executeRegister_110 : decode cX4_executeRegister 110 = .ok (.iastore, 1) := by decide +kernel
set_option maxHeartbeats 4000000 in
set_option maxRecDepth 100000 in
theorem s_X4_executeM (l : Launch) (D : va_G) (dA : Nat → ClassId) (t0 : Nat) (a0 : Int32) (c0 : Nat) (c1 : Nat) (c2 : Nat) (i0 : Int32) (i1 : Int32) (i2 : Int32) (i3 : Int32) (i4 : Int32) (i5 : Int32) (i6 : Int32) (c3 : Nat) (i7 : Int32) (i8 : Int32) (i9 : Int32) (m0 : Nat → Int32) (m1 : Nat → Int32) (m2 : Nat → Int32) (m3 : Nat → Int32) (p0 : 0 ≤ i4.toInt ∧ i4.toInt ≤ 1) (p1 : 0 ≤ i6.toInt ∧ i6.toInt ≤ 1000000) (p2 : 0 ≤ i7.toInt ∧ i7.toInt ≤ 7) (p3 : -1 ≤ i8.toInt ∧ i8.toInt ≤ 7) (p4 : ∀ j : Nat, 0 ≤ (m0 j).toInt ∧ (m0 j).toInt ≤ 255) (sz : Nat) : Met l yX4_executeM (gws yX4_executeM cX4_executeM 2 (some .int)) (gR 4 0 0) (gPre D dA [.ref t0, .int a0] [(t0, .inr (4, [.ref c0, .ref c1, .ref c2, .int i0, .int i1, .int i2, .int i3, .int i4, .int i5, .int i6, .ref c3, .int i7, .int i8, .int i9])), (c0, .inl (dA 0, 4096, .inl m0)), (c1, .inl (dA 0, 8, .inl m1)), (c2, .inl (dA 0, 4, .inl m2)), (c3, .inl (dA 0, 30, .inl m3))] sz) (va_Qi (fun (r : Int32) (u : Int32 × Int32 × Int32 × Int32 × (Nat → Int32) × (Nat → Int32) × (Nat → Int32)) => (0 ≤ r.toInt ∧ r.toInt ≤ 3) ∧ (∀ j : Nat, 0 ≤ (u.2.2.2.2.1 j).toInt ∧ (u.2.2.2.2.1 j).toInt ≤ 255)) (gAt D dA (va_A [(t0, .inr (4, [.ref c0, .ref c1, .ref c2, .int i0, .int i1, .int i2, .int i3, .int i4, .int i5, .int i6, .ref c3, .int i7, .int i8, .int i9])), (c0, .inl (dA 0, 4096, .inl m0)), (c1, .inl (dA 0, 8, .inl m1)), (c2, .inl (dA 0, 4, .inl m2)), (c3, .inl (dA 0, 30, .inl m3))] sz) (fun u : Int32 × Int32 × Int32 × Int32 × (Nat → Int32) × (Nat → Int32) × (Nat → Int32) => [(t0, .inr (4, [.ref c0, .ref c1, .ref c2, .int u.1, .int u.2.1, .int u.2.2.1, .int u.2.2.2.1, .int i4, .int i5, .int i6, .ref c3, .int i7, .int i8, .int i9])), (c0, .inl (dA 0, 4096, .inl (u.2.2.2.2.1))), (c1, .inl (dA 0, 8, .inl (u.2.2.2.2.2.1))), (c2, .inl (dA 0, 4, .inl (u.2.2.2.2.2.2))), (c3, .inl (dA 0, 30, .inl m3))])) (va_A [(t0, .inr (4, [.ref c0, .ref c1, .ref c2, .int i0, .int i1, .int i2, .int i3, .int i4, .int i5, .int i6, .ref c3, .int i7, .int i8, .int i9])), (c0, .inl (dA 0, 4096, .inl m0)), (c1, .inl (dA 0, 8, .inl m1)), (c2, .inl (dA 0, 4, .inl m2)), (c3, .inl (dA 0, 30, .inl m3))] sz)) 0 0 (va_A [(t0, .inr (4, [.ref c0, .ref c1, .ref c2, .int i0, .int i1, .int i2, .int i3, .int i4, .int i5, .int i6, .ref c3, .int i7, .int i8, .int i9])), (c0, .inl (dA 0, 4096, .inl m0)), (c1, .inl (dA 0, 8, .inl m1)), (c2, .inl (dA 0, 4, .inl m2)), (c3, .inl (dA 0, 30, .inl m3))] sz) := by
  refine Met.ofW (cc := cX4_executeM) (maxL := 2) (ret := (some .int)) (by decide) rfl ?_
  intro p e s m args below meth c s₁ B hml hv
  obtain ⟨rfl, hsz, hP, hK, hD0⟩ := hv
  have hx := B.exec
  have hb := B.bytes
  have hr := B.returns
  have hts := atoms_spec (ws := gws yX4_executeM cX4_executeM 2 (some .int)) B.pre
  have hg : ∀ w ∈ gw, w.before _ s = true := fun w h => hts w (List.mem_cons_of_mem _ h)
  have hown : s.vm.findClass RX4 = some m.cls := findClass_of_methodNamed B.named
  have hlocks := B.notSynchronized
  subst hsz
  have hD := hD0.self (sz := s.heap.size)
  generalize hAe : va_A [(t0, .inr (4, [.ref c0, .ref c1, .ref c2, .int i0, .int i1, .int i2, .int i3, .int i4, .int i5, .int i6, .ref c3, .int i7, .int i8, .int i9])), (c0, .inl (dA 0, 4096, .inl m0)), (c1, .inl (dA 0, 8, .inl m1)), (c2, .inl (dA 0, 4, .inl m2)), (c3, .inl (dA 0, 30, .inl m3))] s.heap.size = A at hD ⊢
  have hA : ∀ q : Nat, s.heap.size ≤ q → A q := fun q h => by rw [← hAe]; exact Or.inr h
  have hS : va_S A s.heap s.heap [] := va_S.rf
  have hP : va_P D vwC [(t0, .inr (4, [.ref c0, .ref c1, .ref c2, .int i0, .int i1, .int i2, .int i3, .int i4, .int i5, .int i6, .ref c3, .int i7, .int i8, .int i9])), (c0, .inl (dA 0, 4096, .inl m0)), (c1, .inl (dA 0, 8, .inl m1)), (c2, .inl (dA 0, 4, .inl m2)), (c3, .inl (dA 0, 30, .inl m3))] s.heap := hP
  have hl := lv_entry ([.ref t0, .int a0]) (n := 2) (Nat.le_of_ble_eq_true rfl)
  rw [lg_entry_eq]
  generalize (lg_sl ([.ref t0, .int a0]) ++ List.replicate (2 - (lg_sl ([.ref t0, .int a0])).length) Slot.unset).toArray = ls at hl ⊢
  have hl : lv_has ls 2 [(0, .ref t0), (1, .int a0)] := hl
  refine lv_iload_n hx hb dX4_executeM_0 rfl (lv_at hl 1 rfl) ?_
  by_cases s1 : a0 = 129
  · have g2 : a0.toInt = 129 := by rw [s1]; decide
    refine lv_lookup (off := 67) (tgt := 68) hx hb dX4_executeM_1 (by decide) (by rw [s1] <;> rfl) (by decide) ?_
    refine lv_aload_n hx hb dX4_executeM_68 rfl (lv_at hl 0 rfl) ?_
    refine g_get hx hb hg hown hK hP 0 rfl rfl inX4 11 (by decide) q574 rfl dX4_executeM_69 ?_
    refine g_Si (n := 1) (As := [.int i7]) (rest := []) (wr := [(t0, .inr (4, [.ref c0, .ref c1, .ref c2, .int i0, .int i1, .int i2, .int i3, .int i4, .int i5, .int i6, .ref c3, .int i7, .int i8, .int i9])), (c0, .inl (dA 0, 4096, .inl m0)), (c1, .inl (dA 0, 8, .inl m1)), (c2, .inl (dA 0, 4, .inl m2)), (c3, .inl (dA 0, 30, .inl m3))]) hx hb hml hg hown hK hP hD hS hA (s_X4_isArithmetic l D dA i7 _) [] [0, 1, 2, 3, 4] rfl (by decide) rfl (by decide) (by decide) q1419 q159 q1417 q1418 (by decide +kernel) ⟨(Nat.le_of_ble_eq_true rfl), (Nat.le_of_ble_eq_true rfl)⟩ rfl hl.1 rfl (Nat.le_of_ble_eq_true rfl) dX4_executeM_72 ⟨(Nat.le_of_ble_eq_true rfl), (Nat.le_of_ble_eq_true rfl)⟩ (fun x4 u3 H locs w5 hP hD hS => ?_)
    refine W.widen (k := 0) (n := 0) (Nat.le_of_ble_eq_true rfl) (Nat.le_of_ble_eq_true rfl) ?_
    have hP : va_P D vwC [(t0, .inr (4, [.ref c0, .ref c1, .ref c2, .int i0, .int i1, .int i2, .int i3, .int i4, .int i5, .int i6, .ref c3, .int i7, .int i8, .int i9])), (c0, .inl (dA 0, 4096, .inl m0)), (c1, .inl (dA 0, 8, .inl m1)), (c2, .inl (dA 0, 4, .inl m2)), (c3, .inl (dA 0, 30, .inl m3))] H := hP
    have hD : va_D A [(t0, .inr (4, [.ref c0, .ref c1, .ref c2, .int i0, .int i1, .int i2, .int i3, .int i4, .int i5, .int i6, .ref c3, .int i7, .int i8, .int i9])), (c0, .inl (dA 0, 4096, .inl m0)), (c1, .inl (dA 0, 8, .inl m1)), (c2, .inl (dA 0, 4, .inl m2)), (c3, .inl (dA 0, 30, .inl m3))] := hD
    have g6 := w5
    have g6 : 0 ≤ x4.toInt ∧ x4.toInt ≤ 1 := g6
    refine lv_if_ne (tgt := 80) hx hb dX4_executeM_75 (by decide) (fun k7 => ?_) (fun k7 => ?_)
    · have g8 : x4.toInt ≠ 0 := gi_neq (rfl : x4.toInt = x4.toInt) (by decide : (0 : Int32).toInt = 0) k7
      refine lv_aload_n hx hb dX4_executeM_80 rfl (lv_at hl 0 rfl) ?_
      refine lv_aload_n hx hb dX4_executeM_81 rfl (lv_at hl 0 rfl) ?_
      refine g_get hx hb hg hown hK hP 0 rfl rfl inX4 11 (by decide) q574 rfl dX4_executeM_82 ?_
      refine lv_aload_n hx hb dX4_executeM_85 rfl (lv_at hl 0 rfl) ?_
      refine g_Vi (n := 0) (As := []) (rest := [.int i7, .ref t0]) (wr := []) hx hb hml hg hown hK hP hD hS hA (s_X4_fetchWord l D dA t0 c0 c1 c2 i0 i1 i2 i3 i4 i5 i6 c3 i7 i8 i9 m0 m1 m2 m3 (by omega) (by omega) (by omega) (by omega) p4 _) [0, 1, 2, 3, 4] [] rfl (by decide) rfl (by decide) (by decide) 0 rfl rfl q1431 q159 q1428 q1430 q59 (by decide +kernel) ⟨(Nat.le_of_ble_eq_true rfl), (Nat.le_of_ble_eq_true rfl)⟩ rfl hl.1 rfl (Nat.le_of_ble_eq_true rfl) dX4_executeM_86 ⟨(Nat.le_of_ble_eq_true rfl), (Nat.le_of_ble_eq_true rfl)⟩ (fun x10 u9 H locs w11 hP hD hS => ?_)
      refine W.widen (k := 0) (n := 0) (Nat.le_of_ble_eq_true rfl) (Nat.le_of_ble_eq_true rfl) ?_
      obtain ⟨x12, rfl⟩ : ∃ z, z = u9 := ⟨_, rfl⟩
      have hP : va_P D vwC [(t0, .inr (4, [.ref c0, .ref c1, .ref c2, .int x12, .int i1, .int i2, .int i3, .int i4, .int i5, .int i6, .ref c3, .int i7, .int i8, .int i9])), (c0, .inl (dA 0, 4096, .inl m0)), (c1, .inl (dA 0, 8, .inl m1)), (c2, .inl (dA 0, 4, .inl m2)), (c3, .inl (dA 0, 30, .inl m3))] H := hP
      have hD : va_D A [(t0, .inr (4, [.ref c0, .ref c1, .ref c2, .int x12, .int i1, .int i2, .int i3, .int i4, .int i5, .int i6, .ref c3, .int i7, .int i8, .int i9])), (c0, .inl (dA 0, 4096, .inl m0)), (c1, .inl (dA 0, 8, .inl m1)), (c2, .inl (dA 0, 4, .inl m2)), (c3, .inl (dA 0, 30, .inl m3))] := hD
      refine g_Vv (n := 2) (As := [.int i7, .int x10]) (rest := []) (wr := []) hx hb hml hg hown hK hP hD hS hA (s_X4_arithmeticOnM l D dA t0 i7 x10 c0 c1 c2 x12 i1 i2 i3 i4 i5 i6 c3 i7 i8 i9 m0 m1 m2 m3 (by omega) (by omega) (by omega) (by omega) p4 _) [0, 1, 2, 3, 4] [] rfl (by decide) rfl (by decide) (by decide) 0 rfl rfl q1439 q159 q1436 q1438 q61 (by decide +kernel) ⟨(Nat.le_of_ble_eq_true rfl), (Nat.le_of_ble_eq_true rfl)⟩ rfl hl.1 rfl (Nat.le_of_ble_eq_true rfl) dX4_executeM_89 ⟨(Nat.le_of_ble_eq_true rfl), (Nat.le_of_ble_eq_true rfl)⟩ (fun u13 H locs w15 hP hD hS => ?_)
      refine W.widen (k := 0) (n := 0) (Nat.le_of_ble_eq_true rfl) (Nat.le_of_ble_eq_true rfl) ?_
      obtain ⟨x16, x17, x18, f19, f20⟩ := u13
      have hP : va_P D vwC [(t0, .inr (4, [.ref c0, .ref c1, .ref c2, .int x12, .int x16, .int x17, .int x18, .int i4, .int i5, .int i6, .ref c3, .int i7, .int i8, .int i9])), (c0, .inl (dA 0, 4096, .inl f19)), (c1, .inl (dA 0, 8, .inl f20)), (c2, .inl (dA 0, 4, .inl m2)), (c3, .inl (dA 0, 30, .inl m3))] H := hP
      have hD : va_D A [(t0, .inr (4, [.ref c0, .ref c1, .ref c2, .int x12, .int x16, .int x17, .int x18, .int i4, .int i5, .int i6, .ref c3, .int i7, .int i8, .int i9])), (c0, .inl (dA 0, 4096, .inl f19)), (c1, .inl (dA 0, 8, .inl f20)), (c2, .inl (dA 0, 4, .inl m2)), (c3, .inl (dA 0, 30, .inl m3))] := hD
      have g21 := w15
      have g21 : ∀ j : Nat, 0 ≤ (f19 j).toInt ∧ (f19 j).toInt ≤ 255 := g21
      refine lv_iconst (v := 3) hx hb dX4_executeM_92 (by decide) ?_
      exact g_iret hx hb hr rfl hlocks hK (x12, x16, x17, x18, f19, f20, m2) hP hD hS ⟨(show 0 ≤ ((3 : Int32)).toInt ∧ ((3 : Int32)).toInt ≤ 3 from by decide), g21⟩ (Nat.le_of_ble_eq_true rfl) (Nat.le_of_ble_eq_true rfl) dX4_executeM_93
    · have g22 : x4.toInt = 0 := gi_eq (rfl : x4.toInt = x4.toInt) (by decide : (0 : Int32).toInt = 0) k7
      refine lv_iconst (v := 2) hx hb dX4_executeM_78 (by decide) ?_
      exact g_iret hx hb hr rfl hlocks hK (i0, i1, i2, i3, m0, m1, m2) hP hD hS ⟨(show 0 ≤ ((2 : Int32)).toInt ∧ ((2 : Int32)).toInt ≤ 3 from by decide), p4⟩ (Nat.le_of_ble_eq_true rfl) (Nat.le_of_ble_eq_true rfl) dX4_executeM_79
  by_cases s23 : a0 = 137
  · have g24 : a0.toInt = 137 := by rw [s23]; decide
    refine lv_lookup (off := 93) (tgt := 94) hx hb dX4_executeM_1 (by decide) (by rw [s23] <;> rfl) (by decide) ?_
    refine lv_aload_n hx hb dX4_executeM_94 rfl (lv_at hl 0 rfl) ?_
    refine lv_aload_n hx hb dX4_executeM_95 rfl (lv_at hl 0 rfl) ?_
    refine g_get hx hb hg hown hK hP 0 rfl rfl inX4 1 (by decide) q554 rfl dX4_executeM_96 ?_
    refine lv_aload_n hx hb dX4_executeM_99 rfl (lv_at hl 0 rfl) ?_
    refine g_get hx hb hg hown hK hP 0 rfl rfl inX4 11 (by decide) q574 rfl dX4_executeM_100 ?_
    refine va_iald hx hb hK hP 2 0 rfl rfl (by rw [vp_in_iff]; omega) dX4_executeM_103 ?_
    refine lv_topi (fun x25 e26 => ?_)
    refine g_Vv (n := 1) (As := [.int x25]) (rest := []) (wr := []) hx hb hml hg hown hK hP hD hS hA (s_X4_writeM l D dA t0 x25 c0 c1 c2 i0 i1 i2 i3 i4 i5 i6 c3 i7 i8 i9 m0 m1 m2 m3 (by omega) (by omega) (by omega) (by omega) p4 _) [0, 1, 2, 3, 4] [] rfl (by decide) rfl (by decide) (by decide) 0 rfl rfl q1455 q159 q1452 q1454 q65 (by decide +kernel) ⟨(Nat.le_of_ble_eq_true rfl), (Nat.le_of_ble_eq_true rfl)⟩ rfl hl.1 rfl (Nat.le_of_ble_eq_true rfl) dX4_executeM_104 ⟨(Nat.le_of_ble_eq_true rfl), (Nat.le_of_ble_eq_true rfl)⟩ (fun u27 H locs w29 hP hD hS => ?_)
    refine W.widen (k := 0) (n := 0) (Nat.le_of_ble_eq_true rfl) (Nat.le_of_ble_eq_true rfl) ?_
    obtain ⟨f30, f31⟩ := u27
    have hP : va_P D vwC [(t0, .inr (4, [.ref c0, .ref c1, .ref c2, .int i0, .int i1, .int i2, .int i3, .int i4, .int i5, .int i6, .ref c3, .int i7, .int i8, .int i9])), (c0, .inl (dA 0, 4096, .inl f30)), (c1, .inl (dA 0, 8, .inl f31)), (c2, .inl (dA 0, 4, .inl m2)), (c3, .inl (dA 0, 30, .inl m3))] H := hP
    have hD : va_D A [(t0, .inr (4, [.ref c0, .ref c1, .ref c2, .int i0, .int i1, .int i2, .int i3, .int i4, .int i5, .int i6, .ref c3, .int i7, .int i8, .int i9])), (c0, .inl (dA 0, 4096, .inl f30)), (c1, .inl (dA 0, 8, .inl f31)), (c2, .inl (dA 0, 4, .inl m2)), (c3, .inl (dA 0, 30, .inl m3))] := hD
    have g32 := w29
    have g32 : ∀ j : Nat, 0 ≤ (f30 j).toInt ∧ (f30 j).toInt ≤ 255 := g32
    refine lv_iconst (v := 3) hx hb dX4_executeM_107 (by decide) ?_
    exact g_iret hx hb hr rfl hlocks hK (i0, i1, i2, i3, f30, f31, m2) hP hD hS ⟨(show 0 ≤ ((3 : Int32)).toInt ∧ ((3 : Int32)).toInt ≤ 3 from by decide), g32⟩ (Nat.le_of_ble_eq_true rfl) (Nat.le_of_ble_eq_true rfl) dX4_executeM_108
  by_cases s33 : a0 = 139
  · have g34 : a0.toInt = 139 := by rw [s33]; decide
    refine lv_lookup (off := 108) (tgt := 109) hx hb dX4_executeM_1 (by decide) (by rw [s33] <;> rfl) (by decide) ?_
    refine lv_aload_n hx hb dX4_executeM_109 rfl (lv_at hl 0 rfl) ?_
    refine g_get hx hb hg hown hK hP 0 rfl rfl inX4 1 (by decide) q554 rfl dX4_executeM_110 ?_
    refine lv_aload_n hx hb dX4_executeM_113 rfl (lv_at hl 0 rfl) ?_
    refine g_get hx hb hg hown hK hP 0 rfl rfl inX4 11 (by decide) q574 rfl dX4_executeM_114 ?_
    refine lv_aload_n hx hb dX4_executeM_117 rfl (lv_at hl 0 rfl) ?_
    refine g_Vi (n := 0) (As := []) (rest := [.int i7, .ref c1]) (wr := []) hx hb hml hg hown hK hP hD hS hA (s_X4_readM l D dA t0 c0 c1 c2 i0 i1 i2 i3 i4 i5 i6 c3 i7 i8 i9 m0 m1 m2 m3 (by omega) (by omega) (by omega) (by omega) p4 _) [0, 1, 2, 3, 4] [] rfl (by decide) rfl (by decide) (by decide) 0 rfl rfl q1443 q159 q1440 q1442 q62 (by decide +kernel) ⟨(Nat.le_of_ble_eq_true rfl), (Nat.le_of_ble_eq_true rfl)⟩ rfl hl.1 rfl (Nat.le_of_ble_eq_true rfl) dX4_executeM_118 ⟨(Nat.le_of_ble_eq_true rfl), (Nat.le_of_ble_eq_true rfl)⟩ (fun x36 u35 H locs w37 hP hD hS => ?_)
    refine W.widen (k := 0) (n := 0) (Nat.le_of_ble_eq_true rfl) (Nat.le_of_ble_eq_true rfl) ?_
    have hP : va_P D vwC [(t0, .inr (4, [.ref c0, .ref c1, .ref c2, .int i0, .int i1, .int i2, .int i3, .int i4, .int i5, .int i6, .ref c3, .int i7, .int i8, .int i9])), (c0, .inl (dA 0, 4096, .inl m0)), (c1, .inl (dA 0, 8, .inl m1)), (c2, .inl (dA 0, 4, .inl m2)), (c3, .inl (dA 0, 30, .inl m3))] H := hP
    have hD : va_D A [(t0, .inr (4, [.ref c0, .ref c1, .ref c2, .int i0, .int i1, .int i2, .int i3, .int i4, .int i5, .int i6, .ref c3, .int i7, .int i8, .int i9])), (c0, .inl (dA 0, 4096, .inl m0)), (c1, .inl (dA 0, 8, .inl m1)), (c2, .inl (dA 0, 4, .inl m2)), (c3, .inl (dA 0, 30, .inl m3))] := hD
    refine va_iast hx hb hK hP hD hS 2 0 rfl rfl (by rw [vp_in_iff]; omega) dX4_executeM_121 (fun H locs hP hD hS => ?_)
    have hP : va_P D vwC [(t0, .inr (4, [.ref c0, .ref c1, .ref c2, .int i0, .int i1, .int i2, .int i3, .int i4, .int i5, .int i6, .ref c3, .int i7, .int i8, .int i9])), (c0, .inl (dA 0, 4096, .inl m0)), (c1, .inl (dA 0, 8, .inl (upd m1 (i7 : Int32).toNatClampNeg x36))), (c2, .inl (dA 0, 4, .inl m2)), (c3, .inl (dA 0, 30, .inl m3))] H := hP
    have hD : va_D A [(t0, .inr (4, [.ref c0, .ref c1, .ref c2, .int i0, .int i1, .int i2, .int i3, .int i4, .int i5, .int i6, .ref c3, .int i7, .int i8, .int i9])), (c0, .inl (dA 0, 4096, .inl m0)), (c1, .inl (dA 0, 8, .inl (upd m1 (i7 : Int32).toNatClampNeg x36))), (c2, .inl (dA 0, 4, .inl m2)), (c3, .inl (dA 0, 30, .inl m3))] := hD
    obtain ⟨f38, ef38⟩ : ∃ f : Nat → Int32, f = (upd m1 (i7 : Int32).toNatClampNeg x36) := ⟨_, rfl⟩
    rw [← ef38] at hP hD
    refine lv_iconst (v := 3) hx hb dX4_executeM_122 (by decide) ?_
    exact g_iret hx hb hr rfl hlocks hK (i0, i1, i2, i3, m0, f38, m2) hP hD hS ⟨(show 0 ≤ ((3 : Int32)).toInt ∧ ((3 : Int32)).toInt ≤ 3 from by decide), p4⟩ (Nat.le_of_ble_eq_true rfl) (Nat.le_of_ble_eq_true rfl) dX4_executeM_123
  by_cases s39 : a0 = 140
  · have g40 : a0.toInt = 140 := by rw [s39]; decide
    refine lv_lookup (off := 123) (tgt := 124) hx hb dX4_executeM_1 (by decide) (by rw [s39] <;> rfl) (by decide) ?_
    refine lv_aload_n hx hb dX4_executeM_124 rfl (lv_at hl 0 rfl) ?_
    refine g_get hx hb hg hown hK hP 0 rfl rfl inX4 11 (by decide) q574 rfl dX4_executeM_125 ?_
    refine lv_iconst (v := 3) hx hb dX4_executeM_128 (by decide) ?_
    refine lv_icmp_le (tgt := 134) hx hb dX4_executeM_129 (by decide) (fun k41 => ?_) (fun k41 => ?_)
    · have g42 : i7.toInt ≤ 3 := gi_le (rfl : i7.toInt = i7.toInt) (by decide : (3 : Int32).toInt = 3) k41
      refine lv_aload_n hx hb dX4_executeM_134 rfl (lv_at hl 0 rfl) ?_
      refine lv_aload_n hx hb dX4_executeM_135 rfl (lv_at hl 0 rfl) ?_
      refine g_get hx hb hg hown hK hP 0 rfl rfl inX4 2 (by decide) q556 rfl dX4_executeM_136 ?_
      refine lv_aload_n hx hb dX4_executeM_139 rfl (lv_at hl 0 rfl) ?_
      refine g_get hx hb hg hown hK hP 0 rfl rfl inX4 11 (by decide) q574 rfl dX4_executeM_140 ?_
      refine va_iald hx hb hK hP 3 0 rfl rfl (by rw [vp_in_iff]; omega) dX4_executeM_143 ?_
      refine lv_topi (fun x43 e44 => ?_)
      refine g_Vv (n := 1) (As := [.int x43]) (rest := []) (wr := []) hx hb hml hg hown hK hP hD hS hA (s_X4_writeM l D dA t0 x43 c0 c1 c2 i0 i1 i2 i3 i4 i5 i6 c3 i7 i8 i9 m0 m1 m2 m3 (by omega) (by omega) (by omega) (by omega) p4 _) [0, 1, 2, 3, 4] [] rfl (by decide) rfl (by decide) (by decide) 0 rfl rfl q1455 q159 q1452 q1454 q65 (by decide +kernel) ⟨(Nat.le_of_ble_eq_true rfl), (Nat.le_of_ble_eq_true rfl)⟩ rfl hl.1 rfl (Nat.le_of_ble_eq_true rfl) dX4_executeM_144 ⟨(Nat.le_of_ble_eq_true rfl), (Nat.le_of_ble_eq_true rfl)⟩ (fun u45 H locs w47 hP hD hS => ?_)
      refine W.widen (k := 0) (n := 0) (Nat.le_of_ble_eq_true rfl) (Nat.le_of_ble_eq_true rfl) ?_
      obtain ⟨f48, f49⟩ := u45
      have hP : va_P D vwC [(t0, .inr (4, [.ref c0, .ref c1, .ref c2, .int i0, .int i1, .int i2, .int i3, .int i4, .int i5, .int i6, .ref c3, .int i7, .int i8, .int i9])), (c0, .inl (dA 0, 4096, .inl f48)), (c1, .inl (dA 0, 8, .inl f49)), (c2, .inl (dA 0, 4, .inl m2)), (c3, .inl (dA 0, 30, .inl m3))] H := hP
      have hD : va_D A [(t0, .inr (4, [.ref c0, .ref c1, .ref c2, .int i0, .int i1, .int i2, .int i3, .int i4, .int i5, .int i6, .ref c3, .int i7, .int i8, .int i9])), (c0, .inl (dA 0, 4096, .inl f48)), (c1, .inl (dA 0, 8, .inl f49)), (c2, .inl (dA 0, 4, .inl m2)), (c3, .inl (dA 0, 30, .inl m3))] := hD
      have g50 := w47
      have g50 : ∀ j : Nat, 0 ≤ (f48 j).toInt ∧ (f48 j).toInt ≤ 255 := g50
      refine lv_iconst (v := 3) hx hb dX4_executeM_147 (by decide) ?_
      exact g_iret hx hb hr rfl hlocks hK (i0, i1, i2, i3, f48, f49, m2) hP hD hS ⟨(show 0 ≤ ((3 : Int32)).toInt ∧ ((3 : Int32)).toInt ≤ 3 from by decide), g50⟩ (Nat.le_of_ble_eq_true rfl) (Nat.le_of_ble_eq_true rfl) dX4_executeM_148
    · have g51 : i7.toInt > 3 := gi_nle (rfl : i7.toInt = i7.toInt) (by decide : (3 : Int32).toInt = 3) k41
      refine lv_iconst (v := 2) hx hb dX4_executeM_132 (by decide) ?_
      exact g_iret hx hb hr rfl hlocks hK (i0, i1, i2, i3, m0, m1, m2) hP hD hS ⟨(show 0 ≤ ((2 : Int32)).toInt ∧ ((2 : Int32)).toInt ≤ 3 from by decide), p4⟩ (Nat.le_of_ble_eq_true rfl) (Nat.le_of_ble_eq_true rfl) dX4_executeM_133
  by_cases s52 : a0 = 142
  · have g53 : a0.toInt = 142 := by rw [s52]; decide
    refine lv_lookup (off := 148) (tgt := 149) hx hb dX4_executeM_1 (by decide) (by rw [s52] <;> rfl) (by decide) ?_
    refine lv_aload_n hx hb dX4_executeM_149 rfl (lv_at hl 0 rfl) ?_
    refine g_get hx hb hg hown hK hP 0 rfl rfl inX4 11 (by decide) q574 rfl dX4_executeM_150 ?_
    refine lv_iconst (v := 3) hx hb dX4_executeM_153 (by decide) ?_
    refine lv_icmp_gt (tgt := 165) hx hb dX4_executeM_154 (by decide) (fun k54 => ?_) (fun k54 => ?_)
    · have g55 : 3 < i7.toInt := gi_lt (by decide : (3 : Int32).toInt = 3) (rfl : i7.toInt = i7.toInt) k54
      refine lv_iconst (v := 2) hx hb dX4_executeM_165 (by decide) ?_
      exact g_iret hx hb hr rfl hlocks hK (i0, i1, i2, i3, m0, m1, m2) hP hD hS ⟨(show 0 ≤ ((2 : Int32)).toInt ∧ ((2 : Int32)).toInt ≤ 3 from by decide), p4⟩ (Nat.le_of_ble_eq_true rfl) (Nat.le_of_ble_eq_true rfl) dX4_executeM_166
    · have g56 : 3 ≥ i7.toInt := gi_nlt (by decide : (3 : Int32).toInt = 3) (rfl : i7.toInt = i7.toInt) k54
      refine lv_aload_n hx hb dX4_executeM_157 rfl (lv_at hl 0 rfl) ?_
      refine g_get hx hb hg hown hK hP 0 rfl rfl inX4 11 (by decide) q574 rfl dX4_executeM_158 ?_
      refine lv_iconst (v := 1) hx hb dX4_executeM_161 (by decide) ?_
      refine lv_icmp_ne (tgt := 167) hx hb dX4_executeM_162 (by decide) (fun k57 => ?_) (fun k57 => ?_)
      · have g58 : i7.toInt ≠ 1 := gi_neq (rfl : i7.toInt = i7.toInt) (by decide : (1 : Int32).toInt = 1) k57
        refine lv_aload_n hx hb dX4_executeM_167 rfl (lv_at hl 0 rfl) ?_
        refine g_get hx hb hg hown hK hP 0 rfl rfl inX4 2 (by decide) q556 rfl dX4_executeM_168 ?_
        refine lv_aload_n hx hb dX4_executeM_171 rfl (lv_at hl 0 rfl) ?_
        refine g_get hx hb hg hown hK hP 0 rfl rfl inX4 11 (by decide) q574 rfl dX4_executeM_172 ?_
        refine lv_aload_n hx hb dX4_executeM_175 rfl (lv_at hl 0 rfl) ?_
        refine g_Vi (n := 0) (As := []) (rest := [.int i7, .ref c2]) (wr := []) hx hb hml hg hown hK hP hD hS hA (s_X4_readM l D dA t0 c0 c1 c2 i0 i1 i2 i3 i4 i5 i6 c3 i7 i8 i9 m0 m1 m2 m3 (by omega) (by omega) (by omega) (by omega) p4 _) [0, 1, 2, 3, 4] [] rfl (by decide) rfl (by decide) (by decide) 0 rfl rfl q1443 q159 q1440 q1442 q62 (by decide +kernel) ⟨(Nat.le_of_ble_eq_true rfl), (Nat.le_of_ble_eq_true rfl)⟩ rfl hl.1 rfl (Nat.le_of_ble_eq_true rfl) dX4_executeM_176 ⟨(Nat.le_of_ble_eq_true rfl), (Nat.le_of_ble_eq_true rfl)⟩ (fun x60 u59 H locs w61 hP hD hS => ?_)
        refine W.widen (k := 0) (n := 0) (Nat.le_of_ble_eq_true rfl) (Nat.le_of_ble_eq_true rfl) ?_
        have hP : va_P D vwC [(t0, .inr (4, [.ref c0, .ref c1, .ref c2, .int i0, .int i1, .int i2, .int i3, .int i4, .int i5, .int i6, .ref c3, .int i7, .int i8, .int i9])), (c0, .inl (dA 0, 4096, .inl m0)), (c1, .inl (dA 0, 8, .inl m1)), (c2, .inl (dA 0, 4, .inl m2)), (c3, .inl (dA 0, 30, .inl m3))] H := hP
        have hD : va_D A [(t0, .inr (4, [.ref c0, .ref c1, .ref c2, .int i0, .int i1, .int i2, .int i3, .int i4, .int i5, .int i6, .ref c3, .int i7, .int i8, .int i9])), (c0, .inl (dA 0, 4096, .inl m0)), (c1, .inl (dA 0, 8, .inl m1)), (c2, .inl (dA 0, 4, .inl m2)), (c3, .inl (dA 0, 30, .inl m3))] := hD
        refine va_iast hx hb hK hP hD hS 3 0 rfl rfl (by rw [vp_in_iff]; omega) dX4_executeM_179 (fun H locs hP hD hS => ?_)
        have hP : va_P D vwC [(t0, .inr (4, [.ref c0, .ref c1, .ref c2, .int i0, .int i1, .int i2, .int i3, .int i4, .int i5, .int i6, .ref c3, .int i7, .int i8, .int i9])), (c0, .inl (dA 0, 4096, .inl m0)), (c1, .inl (dA 0, 8, .inl m1)), (c2, .inl (dA 0, 4, .inl (upd m2 (i7 : Int32).toNatClampNeg x60))), (c3, .inl (dA 0, 30, .inl m3))] H := hP
        have hD : va_D A [(t0, .inr (4, [.ref c0, .ref c1, .ref c2, .int i0, .int i1, .int i2, .int i3, .int i4, .int i5, .int i6, .ref c3, .int i7, .int i8, .int i9])), (c0, .inl (dA 0, 4096, .inl m0)), (c1, .inl (dA 0, 8, .inl m1)), (c2, .inl (dA 0, 4, .inl (upd m2 (i7 : Int32).toNatClampNeg x60))), (c3, .inl (dA 0, 30, .inl m3))] := hD
        obtain ⟨f62, ef62⟩ : ∃ f : Nat → Int32, f = (upd m2 (i7 : Int32).toNatClampNeg x60) := ⟨_, rfl⟩
        rw [← ef62] at hP hD
        refine lv_iconst (v := 3) hx hb dX4_executeM_180 (by decide) ?_
        exact g_iret hx hb hr rfl hlocks hK (i0, i1, i2, i3, m0, m1, f62) hP hD hS ⟨(show 0 ≤ ((3 : Int32)).toInt ∧ ((3 : Int32)).toInt ≤ 3 from by decide), p4⟩ (Nat.le_of_ble_eq_true rfl) (Nat.le_of_ble_eq_true rfl) dX4_executeM_181
      · have g63 : i7.toInt = 1 := gi_eq (rfl : i7.toInt = i7.toInt) (by decide : (1 : Int32).toInt = 1) k57
        refine lv_iconst (v := 2) hx hb dX4_executeM_165 (by decide) ?_
        exact g_iret hx hb hr rfl hlocks hK (i0, i1, i2, i3, m0, m1, m2) hP hD hS ⟨(show 0 ≤ ((2 : Int32)).toInt ∧ ((2 : Int32)).toInt ≤ 3 from by decide), p4⟩ (Nat.le_of_ble_eq_true rfl) (Nat.le_of_ble_eq_true rfl) dX4_executeM_166
  by_cases s64 : a0 = 199
  · have g65 : a0.toInt = 199 := by rw [s64]; decide
    refine lv_lookup (off := 181) (tgt := 182) hx hb dX4_executeM_1 (by decide) (by rw [s64] <;> rfl) (by decide) ?_
    refine lv_aload_n hx hb dX4_executeM_182 rfl (lv_at hl 0 rfl) ?_
    refine g_get hx hb hg hown hK hP 0 rfl rfl inX4 11 (by decide) q574 rfl dX4_executeM_183 ?_
    refine lv_if_eq (tgt := 191) hx hb dX4_executeM_186 (by decide) (fun k66 => ?_) (fun k66 => ?_)
    · have g67 : i7.toInt = 0 := gi_eq (rfl : i7.toInt = i7.toInt) (by decide : (0 : Int32).toInt = 0) k66
      refine lv_aload_n hx hb dX4_executeM_191 rfl (lv_at hl 0 rfl) ?_
      refine lv_aload_n hx hb dX4_executeM_192 rfl (lv_at hl 0 rfl) ?_
      refine g_Vi (n := 0) (As := []) (rest := [.ref t0]) (wr := []) hx hb hml hg hown hK hP hD hS hA (s_X4_fetchWord l D dA t0 c0 c1 c2 i0 i1 i2 i3 i4 i5 i6 c3 i7 i8 i9 m0 m1 m2 m3 (by omega) (by omega) (by omega) (by omega) p4 _) [0, 1, 2, 3, 4] [] rfl (by decide) rfl (by decide) (by decide) 0 rfl rfl q1431 q159 q1428 q1430 q59 (by decide +kernel) ⟨(Nat.le_of_ble_eq_true rfl), (Nat.le_of_ble_eq_true rfl)⟩ rfl hl.1 rfl (Nat.le_of_ble_eq_true rfl) dX4_executeM_193 ⟨(Nat.le_of_ble_eq_true rfl), (Nat.le_of_ble_eq_true rfl)⟩ (fun x69 u68 H locs w70 hP hD hS => ?_)
      refine W.widen (k := 0) (n := 0) (Nat.le_of_ble_eq_true rfl) (Nat.le_of_ble_eq_true rfl) ?_
      obtain ⟨x71, rfl⟩ : ∃ z, z = u68 := ⟨_, rfl⟩
      have hP : va_P D vwC [(t0, .inr (4, [.ref c0, .ref c1, .ref c2, .int x71, .int i1, .int i2, .int i3, .int i4, .int i5, .int i6, .ref c3, .int i7, .int i8, .int i9])), (c0, .inl (dA 0, 4096, .inl m0)), (c1, .inl (dA 0, 8, .inl m1)), (c2, .inl (dA 0, 4, .inl m2)), (c3, .inl (dA 0, 30, .inl m3))] H := hP
      have hD : va_D A [(t0, .inr (4, [.ref c0, .ref c1, .ref c2, .int x71, .int i1, .int i2, .int i3, .int i4, .int i5, .int i6, .ref c3, .int i7, .int i8, .int i9])), (c0, .inl (dA 0, 4096, .inl m0)), (c1, .inl (dA 0, 8, .inl m1)), (c2, .inl (dA 0, 4, .inl m2)), (c3, .inl (dA 0, 30, .inl m3))] := hD
      refine g_Vv (n := 1) (As := [.int x69]) (rest := []) (wr := []) hx hb hml hg hown hK hP hD hS hA (s_X4_writeM l D dA t0 x69 c0 c1 c2 x71 i1 i2 i3 i4 i5 i6 c3 i7 i8 i9 m0 m1 m2 m3 (by omega) (by omega) (by omega) (by omega) p4 _) [0, 1, 2, 3, 4] [] rfl (by decide) rfl (by decide) (by decide) 0 rfl rfl q1455 q159 q1452 q1454 q65 (by decide +kernel) ⟨(Nat.le_of_ble_eq_true rfl), (Nat.le_of_ble_eq_true rfl)⟩ rfl hl.1 rfl (Nat.le_of_ble_eq_true rfl) dX4_executeM_196 ⟨(Nat.le_of_ble_eq_true rfl), (Nat.le_of_ble_eq_true rfl)⟩ (fun u72 H locs w74 hP hD hS => ?_)
      refine W.widen (k := 0) (n := 0) (Nat.le_of_ble_eq_true rfl) (Nat.le_of_ble_eq_true rfl) ?_
      obtain ⟨f75, f76⟩ := u72
      have hP : va_P D vwC [(t0, .inr (4, [.ref c0, .ref c1, .ref c2, .int x71, .int i1, .int i2, .int i3, .int i4, .int i5, .int i6, .ref c3, .int i7, .int i8, .int i9])), (c0, .inl (dA 0, 4096, .inl f75)), (c1, .inl (dA 0, 8, .inl f76)), (c2, .inl (dA 0, 4, .inl m2)), (c3, .inl (dA 0, 30, .inl m3))] H := hP
      have hD : va_D A [(t0, .inr (4, [.ref c0, .ref c1, .ref c2, .int x71, .int i1, .int i2, .int i3, .int i4, .int i5, .int i6, .ref c3, .int i7, .int i8, .int i9])), (c0, .inl (dA 0, 4096, .inl f75)), (c1, .inl (dA 0, 8, .inl f76)), (c2, .inl (dA 0, 4, .inl m2)), (c3, .inl (dA 0, 30, .inl m3))] := hD
      have g77 := w74
      have g77 : ∀ j : Nat, 0 ≤ (f75 j).toInt ∧ (f75 j).toInt ≤ 255 := g77
      refine lv_iconst (v := 3) hx hb dX4_executeM_199 (by decide) ?_
      exact g_iret hx hb hr rfl hlocks hK (x71, i1, i2, i3, f75, f76, m2) hP hD hS ⟨(show 0 ≤ ((3 : Int32)).toInt ∧ ((3 : Int32)).toInt ≤ 3 from by decide), g77⟩ (Nat.le_of_ble_eq_true rfl) (Nat.le_of_ble_eq_true rfl) dX4_executeM_200
    · have g78 : i7.toInt ≠ 0 := gi_neq (rfl : i7.toInt = i7.toInt) (by decide : (0 : Int32).toInt = 0) k66
      refine lv_iconst (v := 2) hx hb dX4_executeM_189 (by decide) ?_
      exact g_iret hx hb hr rfl hlocks hK (i0, i1, i2, i3, m0, m1, m2) hP hD hS ⟨(show 0 ≤ ((2 : Int32)).toInt ∧ ((2 : Int32)).toInt ≤ 3 from by decide), p4⟩ (Nat.le_of_ble_eq_true rfl) (Nat.le_of_ble_eq_true rfl) dX4_executeM_190
  by_cases s79 : a0 = 209
  · have g80 : a0.toInt = 209 := by rw [s79]; decide
    refine lv_lookup (off := 200) (tgt := 201) hx hb dX4_executeM_1 (by decide) (by rw [s79] <;> rfl) (by decide) ?_
    refine lv_aload_n hx hb dX4_executeM_201 rfl (lv_at hl 0 rfl) ?_
    refine g_Vi (n := 0) (As := []) (rest := []) (wr := []) hx hb hml hg hown hK hP hD hS hA (s_X4_shift l D dA t0 c0 c1 c2 i0 i1 i2 i3 i4 i5 i6 c3 i7 i8 i9 m0 m1 m2 m3 (by omega) (by omega) (by omega) (by omega) p4 _) [0, 1, 2, 3, 4] [] rfl (by decide) rfl (by decide) (by decide) 0 rfl rfl q1475 q159 q1472 q1474 q70 (by decide +kernel) ⟨(Nat.le_of_ble_eq_true rfl), (Nat.le_of_ble_eq_true rfl)⟩ rfl hl.1 rfl (Nat.le_of_ble_eq_true rfl) dX4_executeM_202 ⟨(Nat.le_of_ble_eq_true rfl), (Nat.le_of_ble_eq_true rfl)⟩ (fun x82 u81 H locs w83 hP hD hS => ?_)
    refine W.widen (k := 0) (n := 0) (Nat.le_of_ble_eq_true rfl) (Nat.le_of_ble_eq_true rfl) ?_
    obtain ⟨x84, x85, x86, f87, f88⟩ := u81
    have hP : va_P D vwC [(t0, .inr (4, [.ref c0, .ref c1, .ref c2, .int i0, .int x84, .int x85, .int x86, .int i4, .int i5, .int i6, .ref c3, .int i7, .int i8, .int i9])), (c0, .inl (dA 0, 4096, .inl f87)), (c1, .inl (dA 0, 8, .inl f88)), (c2, .inl (dA 0, 4, .inl m2)), (c3, .inl (dA 0, 30, .inl m3))] H := hP
    have hD : va_D A [(t0, .inr (4, [.ref c0, .ref c1, .ref c2, .int i0, .int x84, .int x85, .int x86, .int i4, .int i5, .int i6, .ref c3, .int i7, .int i8, .int i9])), (c0, .inl (dA 0, 4096, .inl f87)), (c1, .inl (dA 0, 8, .inl f88)), (c2, .inl (dA 0, 4, .inl m2)), (c3, .inl (dA 0, 30, .inl m3))] := hD
    obtain ⟨g89, g90⟩ := w83
    have g89 : 0 ≤ x82.toInt ∧ x82.toInt ≤ 3 := g89
    have g90 : ∀ j : Nat, 0 ≤ (f87 j).toInt ∧ (f87 j).toInt ≤ 255 := g90
    exact g_iret hx hb hr rfl hlocks hK (i0, x84, x85, x86, f87, f88, m2) hP hD hS ⟨(show 0 ≤ x82.toInt ∧ x82.toInt ≤ 3 from by omega), g90⟩ (Nat.le_of_ble_eq_true rfl) (Nat.le_of_ble_eq_true rfl) dX4_executeM_205
  have g91 : a0.toInt ≠ 129 := lv_neT s1 (by decide)
  have g92 : a0.toInt ≠ 137 := lv_neT s23 (by decide)
  have g93 : a0.toInt ≠ 139 := lv_neT s33 (by decide)
  have g94 : a0.toInt ≠ 140 := lv_neT s39 (by decide)
  have g95 : a0.toInt ≠ 142 := lv_neT s52 (by decide)
  have g96 : a0.toInt ≠ 199 := lv_neT s64 (by decide)
  have g97 : a0.toInt ≠ 209 := lv_neT s79 (by decide)
  refine lv_lookup (off := 205) (tgt := 206) hx hb dX4_executeM_1 (by decide) (by exact (lv_osw s1 (by decide)).trans ((lv_osw s23 (by decide)).trans ((lv_osw s33 (by decide)).trans ((lv_osw s39 (by decide)).trans ((lv_osw s52 (by decide)).trans ((lv_osw s64 (by decide)).trans ((lv_osw s79 (by decide)).trans (rfl)))))))) (by decide) ?_
  refine lv_aload_n hx hb dX4_executeM_206 rfl (lv_at hl 0 rfl) ?_
  refine g_Vi (n := 0) (As := []) (rest := []) (wr := []) hx hb hml hg hown hK hP hD hS hA (s_X4_single l D dA t0 c0 c1 c2 i0 i1 i2 i3 i4 i5 i6 c3 i7 i8 i9 m0 m1 m2 m3 (by omega) (by omega) (by omega) (by omega) p4 _) [0, 1, 2, 3, 4] [] rfl (by decide) rfl (by decide) (by decide) 0 rfl rfl q1479 q159 q1476 q1478 q71 (by decide +kernel) ⟨(Nat.le_of_ble_eq_true rfl), (Nat.le_of_ble_eq_true rfl)⟩ rfl hl.1 rfl (Nat.le_of_ble_eq_true rfl) dX4_executeM_207 ⟨(Nat.le_of_ble_eq_true rfl), (Nat.le_of_ble_eq_true rfl)⟩ (fun x99 u98 H locs w100 hP hD hS => ?_)
  refine W.widen (k := 0) (n := 0) (Nat.le_of_ble_eq_true rfl) (Nat.le_of_ble_eq_true rfl) ?_
  obtain ⟨x101, x102, x103, f104, f105⟩ := u98
  have hP : va_P D vwC [(t0, .inr (4, [.ref c0, .ref c1, .ref c2, .int i0, .int x101, .int x102, .int x103, .int i4, .int i5, .int i6, .ref c3, .int i7, .int i8, .int i9])), (c0, .inl (dA 0, 4096, .inl f104)), (c1, .inl (dA 0, 8, .inl f105)), (c2, .inl (dA 0, 4, .inl m2)), (c3, .inl (dA 0, 30, .inl m3))] H := hP
  have hD : va_D A [(t0, .inr (4, [.ref c0, .ref c1, .ref c2, .int i0, .int x101, .int x102, .int x103, .int i4, .int i5, .int i6, .ref c3, .int i7, .int i8, .int i9])), (c0, .inl (dA 0, 4096, .inl f104)), (c1, .inl (dA 0, 8, .inl f105)), (c2, .inl (dA 0, 4, .inl m2)), (c3, .inl (dA 0, 30, .inl m3))] := hD
  obtain ⟨g106, g107⟩ := w100
  have g106 : 0 ≤ x99.toInt ∧ x99.toInt ≤ 3 := g106
  have g107 : ∀ j : Nat, 0 ≤ (f104 j).toInt ∧ (f104 j).toInt ≤ 255 := g107
  exact g_iret hx hb hr rfl hlocks hK (i0, x101, x102, x103, f104, f105, m2) hP hD hS ⟨(show 0 ≤ x99.toInt ∧ x99.toInt ≤ 3 from by omega), g107⟩ (Nat.le_of_ble_eq_true rfl) (Nat.le_of_ble_eq_true rfl) dX4_executeM_210
set_option maxHeartbeats 4000000 in
set_option maxRecDepth 100000 in
theorem s_X4_branch (l : Launch) (D : va_G) (dA : Nat → ClassId) (t0 : Nat) (a0 : Int32) (c0 : Nat) (c1 : Nat) (c2 : Nat) (i0 : Int32) (i1 : Int32) (i2 : Int32) (i3 : Int32) (i4 : Int32) (i5 : Int32) (i6 : Int32) (c3 : Nat) (i7 : Int32) (i8 : Int32) (i9 : Int32) (m0 : Nat → Int32) (m1 : Nat → Int32) (m2 : Nat → Int32) (m3 : Nat → Int32) (p0 : 0 ≤ i4.toInt ∧ i4.toInt ≤ 1) (p1 : 0 ≤ i6.toInt ∧ i6.toInt ≤ 1000000) (p2 : 0 ≤ i7.toInt ∧ i7.toInt ≤ 7) (p3 : -1 ≤ i8.toInt ∧ i8.toInt ≤ 7) (p4 : ∀ j : Nat, 0 ≤ (m0 j).toInt ∧ (m0 j).toInt ≤ 255) (sz : Nat) : Met l yX4_branch (gws yX4_branch cX4_branch 4 (some .int)) (gR 3 0 0) (gPre D dA [.ref t0, .int a0] [(t0, .inr (4, [.ref c0, .ref c1, .ref c2, .int i0, .int i1, .int i2, .int i3, .int i4, .int i5, .int i6, .ref c3, .int i7, .int i8, .int i9])), (c0, .inl (dA 0, 4096, .inl m0)), (c1, .inl (dA 0, 8, .inl m1)), (c2, .inl (dA 0, 4, .inl m2)), (c3, .inl (dA 0, 30, .inl m3))] sz) (va_Qi (fun (r : Int32) (u : Int32) => (0 ≤ r.toInt ∧ r.toInt ≤ 3)) (gAt D dA (va_A [(t0, .inr (4, [.ref c0, .ref c1, .ref c2, .int i0, .int i1, .int i2, .int i3, .int i4, .int i5, .int i6, .ref c3, .int i7, .int i8, .int i9])), (c0, .inl (dA 0, 4096, .inl m0)), (c1, .inl (dA 0, 8, .inl m1)), (c2, .inl (dA 0, 4, .inl m2)), (c3, .inl (dA 0, 30, .inl m3))] sz) (fun u : Int32 => [(t0, .inr (4, [.ref c0, .ref c1, .ref c2, .int u, .int i1, .int i2, .int i3, .int i4, .int i5, .int i6, .ref c3, .int i7, .int i8, .int i9])), (c0, .inl (dA 0, 4096, .inl m0)), (c1, .inl (dA 0, 8, .inl m1)), (c2, .inl (dA 0, 4, .inl m2)), (c3, .inl (dA 0, 30, .inl m3))])) (va_A [(t0, .inr (4, [.ref c0, .ref c1, .ref c2, .int i0, .int i1, .int i2, .int i3, .int i4, .int i5, .int i6, .ref c3, .int i7, .int i8, .int i9])), (c0, .inl (dA 0, 4096, .inl m0)), (c1, .inl (dA 0, 8, .inl m1)), (c2, .inl (dA 0, 4, .inl m2)), (c3, .inl (dA 0, 30, .inl m3))] sz)) 0 0 (va_A [(t0, .inr (4, [.ref c0, .ref c1, .ref c2, .int i0, .int i1, .int i2, .int i3, .int i4, .int i5, .int i6, .ref c3, .int i7, .int i8, .int i9])), (c0, .inl (dA 0, 4096, .inl m0)), (c1, .inl (dA 0, 8, .inl m1)), (c2, .inl (dA 0, 4, .inl m2)), (c3, .inl (dA 0, 30, .inl m3))] sz) := by
  refine Met.ofW (cc := cX4_branch) (maxL := 4) (ret := (some .int)) (by decide) rfl ?_
  intro p e s m args below meth c s₁ B hml hv
  obtain ⟨rfl, hsz, hP, hK, hD0⟩ := hv
  have hx := B.exec
  have hb := B.bytes
  have hr := B.returns
  have hts := atoms_spec (ws := gws yX4_branch cX4_branch 4 (some .int)) B.pre
  have hg : ∀ w ∈ gw, w.before _ s = true := fun w h => hts w (List.mem_cons_of_mem _ h)
  have hown : s.vm.findClass RX4 = some m.cls := findClass_of_methodNamed B.named
  have hlocks := B.notSynchronized
  subst hsz
  have hD := hD0.self (sz := s.heap.size)
  generalize hAe : va_A [(t0, .inr (4, [.ref c0, .ref c1, .ref c2, .int i0, .int i1, .int i2, .int i3, .int i4, .int i5, .int i6, .ref c3, .int i7, .int i8, .int i9])), (c0, .inl (dA 0, 4096, .inl m0)), (c1, .inl (dA 0, 8, .inl m1)), (c2, .inl (dA 0, 4, .inl m2)), (c3, .inl (dA 0, 30, .inl m3))] s.heap.size = A at hD ⊢
  have hA : ∀ q : Nat, s.heap.size ≤ q → A q := fun q h => by rw [← hAe]; exact Or.inr h
  have hS : va_S A s.heap s.heap [] := va_S.rf
  have hP : va_P D vwC [(t0, .inr (4, [.ref c0, .ref c1, .ref c2, .int i0, .int i1, .int i2, .int i3, .int i4, .int i5, .int i6, .ref c3, .int i7, .int i8, .int i9])), (c0, .inl (dA 0, 4096, .inl m0)), (c1, .inl (dA 0, 8, .inl m1)), (c2, .inl (dA 0, 4, .inl m2)), (c3, .inl (dA 0, 30, .inl m3))] s.heap := hP
  have hl := lv_entry ([.ref t0, .int a0]) (n := 4) (Nat.le_of_ble_eq_true rfl)
  rw [lg_entry_eq]
  generalize (lg_sl ([.ref t0, .int a0]) ++ List.replicate (4 - (lg_sl ([.ref t0, .int a0])).length) Slot.unset).toArray = ls at hl ⊢
  have hl : lv_has ls 4 [(0, .ref t0), (1, .int a0)] := hl
  refine lv_iload_n hx hb dX4_branch_0 rfl (lv_at hl 1 rfl) ?_
  refine lv_iconst (v := 1) hx hb dX4_branch_1 (by decide) ?_
  refine lv_ishr hx hb dX4_branch_2 ?_
  refine lv_topi (fun x1 e2 => ?_)
  have g3 : x1.toInt * 2 ≤ a0.toInt ∧ a0.toInt < x1.toInt * 2 + 2 := g_shr e2 1 (by decide) (by decide) (by decide)
  by_cases s4 : x1 = 57
  · have g5 : x1.toInt = 57 := by rw [s4]; decide
    refine lv_tableIn (tgt := 32) hx hb dX4_branch_3 (by rw [s4]; decide) (by rw [s4]; decide) (by rw [s4]; rfl) (by decide) ?_
    refine lv_aload_n hx hb dX4_branch_32 rfl (lv_at hl 0 rfl) ?_
    refine g_get hx hb hg hown hK hP 0 rfl rfl inX4 4 (by decide) q560 rfl dX4_branch_33 ?_
    refine lv_istore_n (lv' := [(2, .int i1), (0, .ref t0), (1, .int a0)]) hx hb dX4_branch_36 rfl hl (by decide) rfl (fun ls hl => ?_)
    refine lv_goto (tgt := 58) hx hb dX4_branch_37 (by decide) ?_
    refine lv_aload_n hx hb dX4_branch_58 rfl (lv_at hl 1 rfl) ?_
    refine g_Vi (n := 0) (As := []) (rest := []) (wr := []) hx hb hml hg hown hK hP hD hS hA (s_X4_fetchSigned l D dA t0 c0 c1 c2 i0 i1 i2 i3 i4 i5 i6 c3 i7 i8 i9 m0 m1 m2 m3 (by omega) (by omega) (by omega) (by omega) p4 _) [0, 1, 2, 3, 4] [] rfl (by decide) rfl (by decide) (by decide) 0 rfl rfl q1435 q159 q1432 q1434 q60 (by decide +kernel) ⟨(Nat.le_of_ble_eq_true rfl), (Nat.le_of_ble_eq_true rfl)⟩ rfl hl.1 rfl (Nat.le_of_ble_eq_true rfl) dX4_branch_59 ⟨(Nat.le_of_ble_eq_true rfl), (Nat.le_of_ble_eq_true rfl)⟩ (fun x7 u6 H locs w8 hP hD hS => ?_)
    refine W.widen (k := 0) (n := 0) (Nat.le_of_ble_eq_true rfl) (Nat.le_of_ble_eq_true rfl) ?_
    obtain ⟨x9, rfl⟩ : ∃ z, z = u6 := ⟨_, rfl⟩
    have hP : va_P D vwC [(t0, .inr (4, [.ref c0, .ref c1, .ref c2, .int x9, .int i1, .int i2, .int i3, .int i4, .int i5, .int i6, .ref c3, .int i7, .int i8, .int i9])), (c0, .inl (dA 0, 4096, .inl m0)), (c1, .inl (dA 0, 8, .inl m1)), (c2, .inl (dA 0, 4, .inl m2)), (c3, .inl (dA 0, 30, .inl m3))] H := hP
    have hD : va_D A [(t0, .inr (4, [.ref c0, .ref c1, .ref c2, .int x9, .int i1, .int i2, .int i3, .int i4, .int i5, .int i6, .ref c3, .int i7, .int i8, .int i9])), (c0, .inl (dA 0, 4096, .inl m0)), (c1, .inl (dA 0, 8, .inl m1)), (c2, .inl (dA 0, 4, .inl m2)), (c3, .inl (dA 0, 30, .inl m3))] := hD
    have g10 := w8
    have g10 : -128 ≤ x7.toInt ∧ x7.toInt ≤ 127 := g10
    refine lv_istore_n (lv' := [(3, .int x7), (2, .int i1), (0, .ref t0), (1, .int a0)]) hx hb dX4_branch_62 rfl hl (by decide) rfl (fun ls hl => ?_)
    refine lv_iload_n hx hb dX4_branch_63 rfl (lv_at hl 1 rfl) ?_
    refine lv_iload_n hx hb dX4_branch_64 rfl (lv_at hl 3 rfl) ?_
    refine lv_iconst (v := 1) hx hb dX4_branch_65 (by decide) ?_
    refine lv_iand hx hb dX4_branch_66 ?_
    refine lv_topi (fun x11 e12 => ?_)
    have g13 : 0 ≤ x11.toInt ∧ x11.toInt ≤ 1 := g_msk e12 1 (by decide) (by decide) (by decide)
    refine lv_icmp_eq (tgt := 75) hx hb dX4_branch_67 (by decide) (fun k14 => ?_) (fun k14 => ?_)
    · have g15 : i1.toInt = x11.toInt := gi_eq (rfl : i1.toInt = i1.toInt) (rfl : x11.toInt = x11.toInt) k14
      refine lv_iconst (v := 3) hx hb dX4_branch_75 (by decide) ?_
      exact g_iret hx hb hr rfl hlocks hK x9 hP hD hS (show 0 ≤ ((3 : Int32)).toInt ∧ ((3 : Int32)).toInt ≤ 3 from by decide) (Nat.le_of_ble_eq_true rfl) (Nat.le_of_ble_eq_true rfl) dX4_branch_76
    · have g16 : i1.toInt ≠ x11.toInt := gi_neq (rfl : i1.toInt = i1.toInt) (rfl : x11.toInt = x11.toInt) k14
      refine lv_aload_n hx hb dX4_branch_70 rfl (lv_at hl 2 rfl) ?_
      refine lv_iload_n hx hb dX4_branch_71 rfl (lv_at hl 0 rfl) ?_
      refine g_Vv (n := 1) (As := [.int x7]) (rest := []) (wr := []) hx hb hml hg hown hK hP hD hS hA (s_X4_jump l D dA t0 x7 c0 c1 c2 x9 i1 i2 i3 i4 i5 i6 c3 i7 i8 i9 m0 m1 m2 m3 (by omega) (by omega) (by omega) (by omega) p4 _) [0, 1, 2, 3, 4] [] rfl (by decide) rfl (by decide) (by decide) 0 rfl rfl q1467 q159 q1464 q1466 q68 (by decide +kernel) ⟨(Nat.le_of_ble_eq_true rfl), (Nat.le_of_ble_eq_true rfl)⟩ rfl hl.1 rfl (Nat.le_of_ble_eq_true rfl) dX4_branch_72 ⟨(Nat.le_of_ble_eq_true rfl), (Nat.le_of_ble_eq_true rfl)⟩ (fun u17 H locs w19 hP hD hS => ?_)
      refine W.widen (k := 0) (n := 0) (Nat.le_of_ble_eq_true rfl) (Nat.le_of_ble_eq_true rfl) ?_
      obtain ⟨x20, rfl⟩ : ∃ z, z = u17 := ⟨_, rfl⟩
      have hP : va_P D vwC [(t0, .inr (4, [.ref c0, .ref c1, .ref c2, .int x20, .int i1, .int i2, .int i3, .int i4, .int i5, .int i6, .ref c3, .int i7, .int i8, .int i9])), (c0, .inl (dA 0, 4096, .inl m0)), (c1, .inl (dA 0, 8, .inl m1)), (c2, .inl (dA 0, 4, .inl m2)), (c3, .inl (dA 0, 30, .inl m3))] H := hP
      have hD : va_D A [(t0, .inr (4, [.ref c0, .ref c1, .ref c2, .int x20, .int i1, .int i2, .int i3, .int i4, .int i5, .int i6, .ref c3, .int i7, .int i8, .int i9])), (c0, .inl (dA 0, 4096, .inl m0)), (c1, .inl (dA 0, 8, .inl m1)), (c2, .inl (dA 0, 4, .inl m2)), (c3, .inl (dA 0, 30, .inl m3))] := hD
      refine lv_iconst (v := 3) hx hb dX4_branch_75 (by decide) ?_
      exact g_iret hx hb hr rfl hlocks hK x20 hP hD hS (show 0 ≤ ((3 : Int32)).toInt ∧ ((3 : Int32)).toInt ≤ 3 from by decide) (Nat.le_of_ble_eq_true rfl) (Nat.le_of_ble_eq_true rfl) dX4_branch_76
  by_cases s21 : x1 = 58
  · have g22 : x1.toInt = 58 := by rw [s21]; decide
    refine lv_tableIn (tgt := 40) hx hb dX4_branch_3 (by rw [s21]; decide) (by rw [s21]; decide) (by rw [s21]; rfl) (by decide) ?_
    refine lv_aload_n hx hb dX4_branch_40 rfl (lv_at hl 0 rfl) ?_
    refine g_get hx hb hg hown hK hP 0 rfl rfl inX4 5 (by decide) q562 rfl dX4_branch_41 ?_
    refine lv_istore_n (lv' := [(2, .int i2), (0, .ref t0), (1, .int a0)]) hx hb dX4_branch_44 rfl hl (by decide) rfl (fun ls hl => ?_)
    refine lv_goto (tgt := 58) hx hb dX4_branch_45 (by decide) ?_
    refine lv_aload_n hx hb dX4_branch_58 rfl (lv_at hl 1 rfl) ?_
    refine g_Vi (n := 0) (As := []) (rest := []) (wr := []) hx hb hml hg hown hK hP hD hS hA (s_X4_fetchSigned l D dA t0 c0 c1 c2 i0 i1 i2 i3 i4 i5 i6 c3 i7 i8 i9 m0 m1 m2 m3 (by omega) (by omega) (by omega) (by omega) p4 _) [0, 1, 2, 3, 4] [] rfl (by decide) rfl (by decide) (by decide) 0 rfl rfl q1435 q159 q1432 q1434 q60 (by decide +kernel) ⟨(Nat.le_of_ble_eq_true rfl), (Nat.le_of_ble_eq_true rfl)⟩ rfl hl.1 rfl (Nat.le_of_ble_eq_true rfl) dX4_branch_59 ⟨(Nat.le_of_ble_eq_true rfl), (Nat.le_of_ble_eq_true rfl)⟩ (fun x24 u23 H locs w25 hP hD hS => ?_)
    refine W.widen (k := 0) (n := 0) (Nat.le_of_ble_eq_true rfl) (Nat.le_of_ble_eq_true rfl) ?_
    obtain ⟨x26, rfl⟩ : ∃ z, z = u23 := ⟨_, rfl⟩
    have hP : va_P D vwC [(t0, .inr (4, [.ref c0, .ref c1, .ref c2, .int x26, .int i1, .int i2, .int i3, .int i4, .int i5, .int i6, .ref c3, .int i7, .int i8, .int i9])), (c0, .inl (dA 0, 4096, .inl m0)), (c1, .inl (dA 0, 8, .inl m1)), (c2, .inl (dA 0, 4, .inl m2)), (c3, .inl (dA 0, 30, .inl m3))] H := hP
    have hD : va_D A [(t0, .inr (4, [.ref c0, .ref c1, .ref c2, .int x26, .int i1, .int i2, .int i3, .int i4, .int i5, .int i6, .ref c3, .int i7, .int i8, .int i9])), (c0, .inl (dA 0, 4096, .inl m0)), (c1, .inl (dA 0, 8, .inl m1)), (c2, .inl (dA 0, 4, .inl m2)), (c3, .inl (dA 0, 30, .inl m3))] := hD
    have g27 := w25
    have g27 : -128 ≤ x24.toInt ∧ x24.toInt ≤ 127 := g27
    refine lv_istore_n (lv' := [(3, .int x24), (2, .int i2), (0, .ref t0), (1, .int a0)]) hx hb dX4_branch_62 rfl hl (by decide) rfl (fun ls hl => ?_)
    refine lv_iload_n hx hb dX4_branch_63 rfl (lv_at hl 1 rfl) ?_
    refine lv_iload_n hx hb dX4_branch_64 rfl (lv_at hl 3 rfl) ?_
    refine lv_iconst (v := 1) hx hb dX4_branch_65 (by decide) ?_
    refine lv_iand hx hb dX4_branch_66 ?_
    refine lv_topi (fun x28 e29 => ?_)
    have g30 : 0 ≤ x28.toInt ∧ x28.toInt ≤ 1 := g_msk e29 1 (by decide) (by decide) (by decide)
    refine lv_icmp_eq (tgt := 75) hx hb dX4_branch_67 (by decide) (fun k31 => ?_) (fun k31 => ?_)
    · have g32 : i2.toInt = x28.toInt := gi_eq (rfl : i2.toInt = i2.toInt) (rfl : x28.toInt = x28.toInt) k31
      refine lv_iconst (v := 3) hx hb dX4_branch_75 (by decide) ?_
      exact g_iret hx hb hr rfl hlocks hK x26 hP hD hS (show 0 ≤ ((3 : Int32)).toInt ∧ ((3 : Int32)).toInt ≤ 3 from by decide) (Nat.le_of_ble_eq_true rfl) (Nat.le_of_ble_eq_true rfl) dX4_branch_76
    · have g33 : i2.toInt ≠ x28.toInt := gi_neq (rfl : i2.toInt = i2.toInt) (rfl : x28.toInt = x28.toInt) k31
      refine lv_aload_n hx hb dX4_branch_70 rfl (lv_at hl 2 rfl) ?_
      refine lv_iload_n hx hb dX4_branch_71 rfl (lv_at hl 0 rfl) ?_
      refine g_Vv (n := 1) (As := [.int x24]) (rest := []) (wr := []) hx hb hml hg hown hK hP hD hS hA (s_X4_jump l D dA t0 x24 c0 c1 c2 x26 i1 i2 i3 i4 i5 i6 c3 i7 i8 i9 m0 m1 m2 m3 (by omega) (by omega) (by omega) (by omega) p4 _) [0, 1, 2, 3, 4] [] rfl (by decide) rfl (by decide) (by decide) 0 rfl rfl q1467 q159 q1464 q1466 q68 (by decide +kernel) ⟨(Nat.le_of_ble_eq_true rfl), (Nat.le_of_ble_eq_true rfl)⟩ rfl hl.1 rfl (Nat.le_of_ble_eq_true rfl) dX4_branch_72 ⟨(Nat.le_of_ble_eq_true rfl), (Nat.le_of_ble_eq_true rfl)⟩ (fun u34 H locs w36 hP hD hS => ?_)
      refine W.widen (k := 0) (n := 0) (Nat.le_of_ble_eq_true rfl) (Nat.le_of_ble_eq_true rfl) ?_
      obtain ⟨x37, rfl⟩ : ∃ z, z = u34 := ⟨_, rfl⟩
      have hP : va_P D vwC [(t0, .inr (4, [.ref c0, .ref c1, .ref c2, .int x37, .int i1, .int i2, .int i3, .int i4, .int i5, .int i6, .ref c3, .int i7, .int i8, .int i9])), (c0, .inl (dA 0, 4096, .inl m0)), (c1, .inl (dA 0, 8, .inl m1)), (c2, .inl (dA 0, 4, .inl m2)), (c3, .inl (dA 0, 30, .inl m3))] H := hP
      have hD : va_D A [(t0, .inr (4, [.ref c0, .ref c1, .ref c2, .int x37, .int i1, .int i2, .int i3, .int i4, .int i5, .int i6, .ref c3, .int i7, .int i8, .int i9])), (c0, .inl (dA 0, 4096, .inl m0)), (c1, .inl (dA 0, 8, .inl m1)), (c2, .inl (dA 0, 4, .inl m2)), (c3, .inl (dA 0, 30, .inl m3))] := hD
      refine lv_iconst (v := 3) hx hb dX4_branch_75 (by decide) ?_
      exact g_iret hx hb hr rfl hlocks hK x37 hP hD hS (show 0 ≤ ((3 : Int32)).toInt ∧ ((3 : Int32)).toInt ≤ 3 from by decide) (Nat.le_of_ble_eq_true rfl) (Nat.le_of_ble_eq_true rfl) dX4_branch_76
  by_cases s38 : x1 = 59
  · have g39 : x1.toInt = 59 := by rw [s38]; decide
    refine lv_tableIn (tgt := 56) hx hb dX4_branch_3 (by rw [s38]; decide) (by rw [s38]; decide) (by rw [s38]; rfl) (by decide) ?_
    refine lv_iconst (v := 2) hx hb dX4_branch_56 (by decide) ?_
    exact g_iret hx hb hr rfl hlocks hK i0 hP hD hS (show 0 ≤ ((2 : Int32)).toInt ∧ ((2 : Int32)).toInt ≤ 3 from by decide) (Nat.le_of_ble_eq_true rfl) (Nat.le_of_ble_eq_true rfl) dX4_branch_57
  by_cases s40 : x1 = 60
  · have g41 : x1.toInt = 60 := by rw [s40]; decide
    refine lv_tableIn (tgt := 48) hx hb dX4_branch_3 (by rw [s40]; decide) (by rw [s40]; decide) (by rw [s40]; rfl) (by decide) ?_
    refine lv_aload_n hx hb dX4_branch_48 rfl (lv_at hl 0 rfl) ?_
    refine g_get hx hb hg hown hK hP 0 rfl rfl inX4 6 (by decide) q564 rfl dX4_branch_49 ?_
    refine lv_istore_n (lv' := [(2, .int i3), (0, .ref t0), (1, .int a0)]) hx hb dX4_branch_52 rfl hl (by decide) rfl (fun ls hl => ?_)
    refine lv_goto (tgt := 58) hx hb dX4_branch_53 (by decide) ?_
    refine lv_aload_n hx hb dX4_branch_58 rfl (lv_at hl 1 rfl) ?_
    refine g_Vi (n := 0) (As := []) (rest := []) (wr := []) hx hb hml hg hown hK hP hD hS hA (s_X4_fetchSigned l D dA t0 c0 c1 c2 i0 i1 i2 i3 i4 i5 i6 c3 i7 i8 i9 m0 m1 m2 m3 (by omega) (by omega) (by omega) (by omega) p4 _) [0, 1, 2, 3, 4] [] rfl (by decide) rfl (by decide) (by decide) 0 rfl rfl q1435 q159 q1432 q1434 q60 (by decide +kernel) ⟨(Nat.le_of_ble_eq_true rfl), (Nat.le_of_ble_eq_true rfl)⟩ rfl hl.1 rfl (Nat.le_of_ble_eq_true rfl) dX4_branch_59 ⟨(Nat.le_of_ble_eq_true rfl), (Nat.le_of_ble_eq_true rfl)⟩ (fun x43 u42 H locs w44 hP hD hS => ?_)
    refine W.widen (k := 0) (n := 0) (Nat.le_of_ble_eq_true rfl) (Nat.le_of_ble_eq_true rfl) ?_
    obtain ⟨x45, rfl⟩ : ∃ z, z = u42 := ⟨_, rfl⟩
    have hP : va_P D vwC [(t0, .inr (4, [.ref c0, .ref c1, .ref c2, .int x45, .int i1, .int i2, .int i3, .int i4, .int i5, .int i6, .ref c3, .int i7, .int i8, .int i9])), (c0, .inl (dA 0, 4096, .inl m0)), (c1, .inl (dA 0, 8, .inl m1)), (c2, .inl (dA 0, 4, .inl m2)), (c3, .inl (dA 0, 30, .inl m3))] H := hP
    have hD : va_D A [(t0, .inr (4, [.ref c0, .ref c1, .ref c2, .int x45, .int i1, .int i2, .int i3, .int i4, .int i5, .int i6, .ref c3, .int i7, .int i8, .int i9])), (c0, .inl (dA 0, 4096, .inl m0)), (c1, .inl (dA 0, 8, .inl m1)), (c2, .inl (dA 0, 4, .inl m2)), (c3, .inl (dA 0, 30, .inl m3))] := hD
    have g46 := w44
    have g46 : -128 ≤ x43.toInt ∧ x43.toInt ≤ 127 := g46
    refine lv_istore_n (lv' := [(3, .int x43), (2, .int i3), (0, .ref t0), (1, .int a0)]) hx hb dX4_branch_62 rfl hl (by decide) rfl (fun ls hl => ?_)
    refine lv_iload_n hx hb dX4_branch_63 rfl (lv_at hl 1 rfl) ?_
    refine lv_iload_n hx hb dX4_branch_64 rfl (lv_at hl 3 rfl) ?_
    refine lv_iconst (v := 1) hx hb dX4_branch_65 (by decide) ?_
    refine lv_iand hx hb dX4_branch_66 ?_
    refine lv_topi (fun x47 e48 => ?_)
    have g49 : 0 ≤ x47.toInt ∧ x47.toInt ≤ 1 := g_msk e48 1 (by decide) (by decide) (by decide)
    refine lv_icmp_eq (tgt := 75) hx hb dX4_branch_67 (by decide) (fun k50 => ?_) (fun k50 => ?_)
    · have g51 : i3.toInt = x47.toInt := gi_eq (rfl : i3.toInt = i3.toInt) (rfl : x47.toInt = x47.toInt) k50
      refine lv_iconst (v := 3) hx hb dX4_branch_75 (by decide) ?_
      exact g_iret hx hb hr rfl hlocks hK x45 hP hD hS (show 0 ≤ ((3 : Int32)).toInt ∧ ((3 : Int32)).toInt ≤ 3 from by decide) (Nat.le_of_ble_eq_true rfl) (Nat.le_of_ble_eq_true rfl) dX4_branch_76
    · have g52 : i3.toInt ≠ x47.toInt := gi_neq (rfl : i3.toInt = i3.toInt) (rfl : x47.toInt = x47.toInt) k50
      refine lv_aload_n hx hb dX4_branch_70 rfl (lv_at hl 2 rfl) ?_
      refine lv_iload_n hx hb dX4_branch_71 rfl (lv_at hl 0 rfl) ?_
      refine g_Vv (n := 1) (As := [.int x43]) (rest := []) (wr := []) hx hb hml hg hown hK hP hD hS hA (s_X4_jump l D dA t0 x43 c0 c1 c2 x45 i1 i2 i3 i4 i5 i6 c3 i7 i8 i9 m0 m1 m2 m3 (by omega) (by omega) (by omega) (by omega) p4 _) [0, 1, 2, 3, 4] [] rfl (by decide) rfl (by decide) (by decide) 0 rfl rfl q1467 q159 q1464 q1466 q68 (by decide +kernel) ⟨(Nat.le_of_ble_eq_true rfl), (Nat.le_of_ble_eq_true rfl)⟩ rfl hl.1 rfl (Nat.le_of_ble_eq_true rfl) dX4_branch_72 ⟨(Nat.le_of_ble_eq_true rfl), (Nat.le_of_ble_eq_true rfl)⟩ (fun u53 H locs w55 hP hD hS => ?_)
      refine W.widen (k := 0) (n := 0) (Nat.le_of_ble_eq_true rfl) (Nat.le_of_ble_eq_true rfl) ?_
      obtain ⟨x56, rfl⟩ : ∃ z, z = u53 := ⟨_, rfl⟩
      have hP : va_P D vwC [(t0, .inr (4, [.ref c0, .ref c1, .ref c2, .int x56, .int i1, .int i2, .int i3, .int i4, .int i5, .int i6, .ref c3, .int i7, .int i8, .int i9])), (c0, .inl (dA 0, 4096, .inl m0)), (c1, .inl (dA 0, 8, .inl m1)), (c2, .inl (dA 0, 4, .inl m2)), (c3, .inl (dA 0, 30, .inl m3))] H := hP
      have hD : va_D A [(t0, .inr (4, [.ref c0, .ref c1, .ref c2, .int x56, .int i1, .int i2, .int i3, .int i4, .int i5, .int i6, .ref c3, .int i7, .int i8, .int i9])), (c0, .inl (dA 0, 4096, .inl m0)), (c1, .inl (dA 0, 8, .inl m1)), (c2, .inl (dA 0, 4, .inl m2)), (c3, .inl (dA 0, 30, .inl m3))] := hD
      refine lv_iconst (v := 3) hx hb dX4_branch_75 (by decide) ?_
      exact g_iret hx hb hr rfl hlocks hK x56 hP hD hS (show 0 ≤ ((3 : Int32)).toInt ∧ ((3 : Int32)).toInt ≤ 3 from by decide) (Nat.le_of_ble_eq_true rfl) (Nat.le_of_ble_eq_true rfl) dX4_branch_76
  have g57 : x1.toInt ≠ 57 := lv_neT s4 (by decide)
  have g58 : x1.toInt ≠ 58 := lv_neT s21 (by decide)
  have g59 : x1.toInt ≠ 59 := lv_neT s38 (by decide)
  have g60 : x1.toInt ≠ 60 := lv_neT s40 (by decide)
  refine lv_tableOut (tgt := 56) hx hb dX4_branch_3 (by omega) (by decide) ?_
  refine lv_iconst (v := 2) hx hb dX4_branch_56 (by decide) ?_
  exact g_iret hx hb hr rfl hlocks hK i0 hP hD hS (show 0 ≤ ((2 : Int32)).toInt ∧ ((2 : Int32)).toInt ≤ 3 from by decide) (Nat.le_of_ble_eq_true rfl) (Nat.le_of_ble_eq_true rfl) dX4_branch_57
set_option maxHeartbeats 4000000 in
set_option maxRecDepth 100000 in
theorem s_X4_executeRegister (l : Launch) (D : va_G) (dA : Nat → ClassId) (t0 : Nat) (a0 : Int32) (a1 : Int32) (c0 : Nat) (c1 : Nat) (c2 : Nat) (i0 : Int32) (i1 : Int32) (i2 : Int32) (i3 : Int32) (i4 : Int32) (i5 : Int32) (i6 : Int32) (c3 : Nat) (i7 : Int32) (i8 : Int32) (i9 : Int32) (m0 : Nat → Int32) (m1 : Nat → Int32) (m2 : Nat → Int32) (m3 : Nat → Int32) (p0 : 0 ≤ a1.toInt ∧ a1.toInt ≤ 7) (p1 : 0 ≤ i4.toInt ∧ i4.toInt ≤ 1) (p2 : 0 ≤ i6.toInt ∧ i6.toInt ≤ 1000000) (p3 : 0 ≤ i7.toInt ∧ i7.toInt ≤ 7) (p4 : -1 ≤ i8.toInt ∧ i8.toInt ≤ 7) (p5 : ∀ j : Nat, 0 ≤ (m0 j).toInt ∧ (m0 j).toInt ≤ 255) (sz : Nat) : Met l yX4_executeRegister (gws yX4_executeRegister cX4_executeRegister 3 (some .int)) (gR 3 0 0) (gPre D dA [.ref t0, .int a0, .int a1] [(t0, .inr (4, [.ref c0, .ref c1, .ref c2, .int i0, .int i1, .int i2, .int i3, .int i4, .int i5, .int i6, .ref c3, .int i7, .int i8, .int i9])), (c0, .inl (dA 0, 4096, .inl m0)), (c1, .inl (dA 0, 8, .inl m1)), (c2, .inl (dA 0, 4, .inl m2)), (c3, .inl (dA 0, 30, .inl m3))] sz) (va_Qi (fun (r : Int32) (u : Int32 × Int32 × (Nat → Int32) × (Nat → Int32)) => (0 ≤ r.toInt ∧ r.toInt ≤ 3) ∧ (∀ j : Nat, 0 ≤ (u.2.2.1 j).toInt ∧ (u.2.2.1 j).toInt ≤ 255)) (gAt D dA (va_A [(t0, .inr (4, [.ref c0, .ref c1, .ref c2, .int i0, .int i1, .int i2, .int i3, .int i4, .int i5, .int i6, .ref c3, .int i7, .int i8, .int i9])), (c0, .inl (dA 0, 4096, .inl m0)), (c1, .inl (dA 0, 8, .inl m1)), (c2, .inl (dA 0, 4, .inl m2)), (c3, .inl (dA 0, 30, .inl m3))] sz) (fun u : Int32 × Int32 × (Nat → Int32) × (Nat → Int32) => [(t0, .inr (4, [.ref c0, .ref c1, .ref c2, .int i0, .int i1, .int u.1, .int u.2.1, .int i4, .int i5, .int i6, .ref c3, .int i7, .int i8, .int i9])), (c0, .inl (dA 0, 4096, .inl (u.2.2.1))), (c1, .inl (dA 0, 8, .inl (u.2.2.2))), (c2, .inl (dA 0, 4, .inl m2)), (c3, .inl (dA 0, 30, .inl m3))])) (va_A [(t0, .inr (4, [.ref c0, .ref c1, .ref c2, .int i0, .int i1, .int i2, .int i3, .int i4, .int i5, .int i6, .ref c3, .int i7, .int i8, .int i9])), (c0, .inl (dA 0, 4096, .inl m0)), (c1, .inl (dA 0, 8, .inl m1)), (c2, .inl (dA 0, 4, .inl m2)), (c3, .inl (dA 0, 30, .inl m3))] sz)) 0 0 (va_A [(t0, .inr (4, [.ref c0, .ref c1, .ref c2, .int i0, .int i1, .int i2, .int i3, .int i4, .int i5, .int i6, .ref c3, .int i7, .int i8, .int i9])), (c0, .inl (dA 0, 4096, .inl m0)), (c1, .inl (dA 0, 8, .inl m1)), (c2, .inl (dA 0, 4, .inl m2)), (c3, .inl (dA 0, 30, .inl m3))] sz) := by
  refine Met.ofW (cc := cX4_executeRegister) (maxL := 3) (ret := (some .int)) (by decide) rfl ?_
  intro p e s m args below meth c s₁ B hml hv
  obtain ⟨rfl, hsz, hP, hK, hD0⟩ := hv
  have hx := B.exec
  have hb := B.bytes
  have hr := B.returns
  have hts := atoms_spec (ws := gws yX4_executeRegister cX4_executeRegister 3 (some .int)) B.pre
  have hg : ∀ w ∈ gw, w.before _ s = true := fun w h => hts w (List.mem_cons_of_mem _ h)
  have hown : s.vm.findClass RX4 = some m.cls := findClass_of_methodNamed B.named
  have hlocks := B.notSynchronized
  subst hsz
  have hD := hD0.self (sz := s.heap.size)
  generalize hAe : va_A [(t0, .inr (4, [.ref c0, .ref c1, .ref c2, .int i0, .int i1, .int i2, .int i3, .int i4, .int i5, .int i6, .ref c3, .int i7, .int i8, .int i9])), (c0, .inl (dA 0, 4096, .inl m0)), (c1, .inl (dA 0, 8, .inl m1)), (c2, .inl (dA 0, 4, .inl m2)), (c3, .inl (dA 0, 30, .inl m3))] s.heap.size = A at hD ⊢
  have hA : ∀ q : Nat, s.heap.size ≤ q → A q := fun q h => by rw [← hAe]; exact Or.inr h
  have hS : va_S A s.heap s.heap [] := va_S.rf
  have hP : va_P D vwC [(t0, .inr (4, [.ref c0, .ref c1, .ref c2, .int i0, .int i1, .int i2, .int i3, .int i4, .int i5, .int i6, .ref c3, .int i7, .int i8, .int i9])), (c0, .inl (dA 0, 4096, .inl m0)), (c1, .inl (dA 0, 8, .inl m1)), (c2, .inl (dA 0, 4, .inl m2)), (c3, .inl (dA 0, 30, .inl m3))] s.heap := hP
  have hl := lv_entry ([.ref t0, .int a0, .int a1]) (n := 3) (Nat.le_of_ble_eq_true rfl)
  rw [lg_entry_eq]
  generalize (lg_sl ([.ref t0, .int a0, .int a1]) ++ List.replicate (3 - (lg_sl ([.ref t0, .int a0, .int a1])).length) Slot.unset).toArray = ls at hl ⊢
  have hl : lv_has ls 3 [(0, .ref t0), (1, .int a0), (2, .int a1)] := hl
  refine lv_iload_n hx hb dX4_executeRegister_0 rfl (lv_at hl 1 rfl) ?_
  by_cases s1 : a0 = 8
  · have g2 : a0.toInt = 8 := by rw [s1]; decide
    refine lv_tableIn (tgt := 28) hx hb dX4_executeRegister_1 (by rw [s1]; decide) (by rw [s1]; decide) (by rw [s1]; rfl) (by decide) ?_
    refine lv_aload_n hx hb dX4_executeRegister_28 rfl (lv_at hl 0 rfl) ?_
    refine g_get hx hb hg hown hK hP 0 rfl rfl inX4 1 (by decide) q554 rfl dX4_executeRegister_29 ?_
    refine lv_iload_n hx hb dX4_executeRegister_32 rfl (lv_at hl 2 rfl) ?_
    refine lv_aload_n hx hb dX4_executeRegister_33 rfl (lv_at hl 0 rfl) ?_
    refine g_get hx hb hg hown hK hP 0 rfl rfl inX4 1 (by decide) q554 rfl dX4_executeRegister_34 ?_
    refine lv_iload_n hx hb dX4_executeRegister_37 rfl (lv_at hl 2 rfl) ?_
    refine va_iald hx hb hK hP 2 0 rfl rfl (by rw [vp_in_iff]; omega) dX4_executeRegister_38 ?_
    refine lv_topi (fun x3 e4 => ?_)
    refine lv_iconst (v := 1) hx hb dX4_executeRegister_39 (by decide) ?_
    refine lv_iadd hx hb dX4_executeRegister_40 ?_
    have g5 := g_i32 x3
    refine lv_topi (fun x6 e7 => ?_)
    refine lv_ldc hx hb hown (hg _ q1400) dX4_executeRegister_41 ?_
    refine lv_iand hx hb dX4_executeRegister_43 ?_
    refine lv_topi (fun x8 e9 => ?_)
    have g10 : 0 ≤ x8.toInt ∧ x8.toInt ≤ 65535 := g_msk e9 16 (by decide) (by decide) (by decide)
    refine va_iast hx hb hK hP hD hS 2 0 rfl rfl (by rw [vp_in_iff]; omega) dX4_executeRegister_44 (fun H locs hP hD hS => ?_)
    have hP : va_P D vwC [(t0, .inr (4, [.ref c0, .ref c1, .ref c2, .int i0, .int i1, .int i2, .int i3, .int i4, .int i5, .int i6, .ref c3, .int i7, .int i8, .int i9])), (c0, .inl (dA 0, 4096, .inl m0)), (c1, .inl (dA 0, 8, .inl (upd m1 (a1 : Int32).toNatClampNeg x8))), (c2, .inl (dA 0, 4, .inl m2)), (c3, .inl (dA 0, 30, .inl m3))] H := hP
    have hD : va_D A [(t0, .inr (4, [.ref c0, .ref c1, .ref c2, .int i0, .int i1, .int i2, .int i3, .int i4, .int i5, .int i6, .ref c3, .int i7, .int i8, .int i9])), (c0, .inl (dA 0, 4096, .inl m0)), (c1, .inl (dA 0, 8, .inl (upd m1 (a1 : Int32).toNatClampNeg x8))), (c2, .inl (dA 0, 4, .inl m2)), (c3, .inl (dA 0, 30, .inl m3))] := hD
    obtain ⟨f11, ef11⟩ : ∃ f : Nat → Int32, f = (upd m1 (a1 : Int32).toNatClampNeg x8) := ⟨_, rfl⟩
    rw [← ef11] at hP hD
    refine lv_aload_n hx hb dX4_executeRegister_45 rfl (lv_at hl 0 rfl) ?_
    refine lv_aload_n hx hb dX4_executeRegister_46 rfl (lv_at hl 0 rfl) ?_
    refine g_get hx hb hg hown hK hP 0 rfl rfl inX4 1 (by decide) q554 rfl dX4_executeRegister_47 ?_
    refine lv_iload_n hx hb dX4_executeRegister_50 rfl (lv_at hl 2 rfl) ?_
    refine va_iald hx hb hK hP 2 0 rfl rfl (by rw [vp_in_iff]; omega) dX4_executeRegister_51 ?_
    refine lv_topi (fun x12 e13 => ?_)
    refine g_Vv (n := 1) (As := [.int x12]) (rest := []) (wr := []) hx hb hml hg hown hK hP hD hS hA (s_X4_judge l D dA t0 x12 c0 c1 c2 i0 i1 i2 i3 i4 i5 i6 c3 i7 i8 i9 m0 f11 m2 m3 (by omega) (by omega) (by omega) (by omega) p5 _) [0, 1, 2, 3, 4] [] rfl (by decide) rfl (by decide) (by decide) 0 rfl rfl q1451 q159 q1448 q1450 q64 (by decide +kernel) ⟨(Nat.le_of_ble_eq_true rfl), (Nat.le_of_ble_eq_true rfl)⟩ rfl hl.1 rfl (Nat.le_of_ble_eq_true rfl) dX4_executeRegister_52 ⟨(Nat.le_of_ble_eq_true rfl), (Nat.le_of_ble_eq_true rfl)⟩ (fun u14 H locs w16 hP hD hS => ?_)
    refine W.widen (k := 0) (n := 0) (Nat.le_of_ble_eq_true rfl) (Nat.le_of_ble_eq_true rfl) ?_
    obtain ⟨x17, x18⟩ := u14
    have hP : va_P D vwC [(t0, .inr (4, [.ref c0, .ref c1, .ref c2, .int i0, .int i1, .int x17, .int x18, .int i4, .int i5, .int i6, .ref c3, .int i7, .int i8, .int i9])), (c0, .inl (dA 0, 4096, .inl m0)), (c1, .inl (dA 0, 8, .inl f11)), (c2, .inl (dA 0, 4, .inl m2)), (c3, .inl (dA 0, 30, .inl m3))] H := hP
    have hD : va_D A [(t0, .inr (4, [.ref c0, .ref c1, .ref c2, .int i0, .int i1, .int x17, .int x18, .int i4, .int i5, .int i6, .ref c3, .int i7, .int i8, .int i9])), (c0, .inl (dA 0, 4096, .inl m0)), (c1, .inl (dA 0, 8, .inl f11)), (c2, .inl (dA 0, 4, .inl m2)), (c3, .inl (dA 0, 30, .inl m3))] := hD
    refine lv_goto (tgt := 111) hx hb dX4_executeRegister_55 (by decide) ?_
    refine lv_iconst (v := 3) hx hb dX4_executeRegister_111 (by decide) ?_
    exact g_iret hx hb hr rfl hlocks hK (x17, x18, m0, f11) hP hD hS ⟨(show 0 ≤ ((3 : Int32)).toInt ∧ ((3 : Int32)).toInt ≤ 3 from by decide), p5⟩ (Nat.le_of_ble_eq_true rfl) (Nat.le_of_ble_eq_true rfl) dX4_executeRegister_112
  by_cases s19 : a0 = 9
  · have g20 : a0.toInt = 9 := by rw [s19]; decide
    refine lv_tableIn (tgt := 58) hx hb dX4_executeRegister_1 (by rw [s19]; decide) (by rw [s19]; decide) (by rw [s19]; rfl) (by decide) ?_
    refine lv_aload_n hx hb dX4_executeRegister_58 rfl (lv_at hl 0 rfl) ?_
    refine g_get hx hb hg hown hK hP 0 rfl rfl inX4 1 (by decide) q554 rfl dX4_executeRegister_59 ?_
    refine lv_iload_n hx hb dX4_executeRegister_62 rfl (lv_at hl 2 rfl) ?_
    refine lv_aload_n hx hb dX4_executeRegister_63 rfl (lv_at hl 0 rfl) ?_
    refine g_get hx hb hg hown hK hP 0 rfl rfl inX4 1 (by decide) q554 rfl dX4_executeRegister_64 ?_
    refine lv_iload_n hx hb dX4_executeRegister_67 rfl (lv_at hl 2 rfl) ?_
    refine va_iald hx hb hK hP 2 0 rfl rfl (by rw [vp_in_iff]; omega) dX4_executeRegister_68 ?_
    refine lv_topi (fun x21 e22 => ?_)
    refine lv_iconst (v := 1) hx hb dX4_executeRegister_69 (by decide) ?_
    refine lv_isub hx hb dX4_executeRegister_70 ?_
    have g23 := g_i32 x21
    refine lv_topi (fun x24 e25 => ?_)
    refine lv_ldc hx hb hown (hg _ q1400) dX4_executeRegister_71 ?_
    refine lv_iand hx hb dX4_executeRegister_73 ?_
    refine lv_topi (fun x26 e27 => ?_)
    have g28 : 0 ≤ x26.toInt ∧ x26.toInt ≤ 65535 := g_msk e27 16 (by decide) (by decide) (by decide)
    refine va_iast hx hb hK hP hD hS 2 0 rfl rfl (by rw [vp_in_iff]; omega) dX4_executeRegister_74 (fun H locs hP hD hS => ?_)
    have hP : va_P D vwC [(t0, .inr (4, [.ref c0, .ref c1, .ref c2, .int i0, .int i1, .int i2, .int i3, .int i4, .int i5, .int i6, .ref c3, .int i7, .int i8, .int i9])), (c0, .inl (dA 0, 4096, .inl m0)), (c1, .inl (dA 0, 8, .inl (upd m1 (a1 : Int32).toNatClampNeg x26))), (c2, .inl (dA 0, 4, .inl m2)), (c3, .inl (dA 0, 30, .inl m3))] H := hP
    have hD : va_D A [(t0, .inr (4, [.ref c0, .ref c1, .ref c2, .int i0, .int i1, .int i2, .int i3, .int i4, .int i5, .int i6, .ref c3, .int i7, .int i8, .int i9])), (c0, .inl (dA 0, 4096, .inl m0)), (c1, .inl (dA 0, 8, .inl (upd m1 (a1 : Int32).toNatClampNeg x26))), (c2, .inl (dA 0, 4, .inl m2)), (c3, .inl (dA 0, 30, .inl m3))] := hD
    obtain ⟨f29, ef29⟩ : ∃ f : Nat → Int32, f = (upd m1 (a1 : Int32).toNatClampNeg x26) := ⟨_, rfl⟩
    rw [← ef29] at hP hD
    refine lv_aload_n hx hb dX4_executeRegister_75 rfl (lv_at hl 0 rfl) ?_
    refine lv_aload_n hx hb dX4_executeRegister_76 rfl (lv_at hl 0 rfl) ?_
    refine g_get hx hb hg hown hK hP 0 rfl rfl inX4 1 (by decide) q554 rfl dX4_executeRegister_77 ?_
    refine lv_iload_n hx hb dX4_executeRegister_80 rfl (lv_at hl 2 rfl) ?_
    refine va_iald hx hb hK hP 2 0 rfl rfl (by rw [vp_in_iff]; omega) dX4_executeRegister_81 ?_
    refine lv_topi (fun x30 e31 => ?_)
    refine g_Vv (n := 1) (As := [.int x30]) (rest := []) (wr := []) hx hb hml hg hown hK hP hD hS hA (s_X4_judge l D dA t0 x30 c0 c1 c2 i0 i1 i2 i3 i4 i5 i6 c3 i7 i8 i9 m0 f29 m2 m3 (by omega) (by omega) (by omega) (by omega) p5 _) [0, 1, 2, 3, 4] [] rfl (by decide) rfl (by decide) (by decide) 0 rfl rfl q1451 q159 q1448 q1450 q64 (by decide +kernel) ⟨(Nat.le_of_ble_eq_true rfl), (Nat.le_of_ble_eq_true rfl)⟩ rfl hl.1 rfl (Nat.le_of_ble_eq_true rfl) dX4_executeRegister_82 ⟨(Nat.le_of_ble_eq_true rfl), (Nat.le_of_ble_eq_true rfl)⟩ (fun u32 H locs w34 hP hD hS => ?_)
    refine W.widen (k := 0) (n := 0) (Nat.le_of_ble_eq_true rfl) (Nat.le_of_ble_eq_true rfl) ?_
    obtain ⟨x35, x36⟩ := u32
    have hP : va_P D vwC [(t0, .inr (4, [.ref c0, .ref c1, .ref c2, .int i0, .int i1, .int x35, .int x36, .int i4, .int i5, .int i6, .ref c3, .int i7, .int i8, .int i9])), (c0, .inl (dA 0, 4096, .inl m0)), (c1, .inl (dA 0, 8, .inl f29)), (c2, .inl (dA 0, 4, .inl m2)), (c3, .inl (dA 0, 30, .inl m3))] H := hP
    have hD : va_D A [(t0, .inr (4, [.ref c0, .ref c1, .ref c2, .int i0, .int i1, .int x35, .int x36, .int i4, .int i5, .int i6, .ref c3, .int i7, .int i8, .int i9])), (c0, .inl (dA 0, 4096, .inl m0)), (c1, .inl (dA 0, 8, .inl f29)), (c2, .inl (dA 0, 4, .inl m2)), (c3, .inl (dA 0, 30, .inl m3))] := hD
    refine lv_goto (tgt := 111) hx hb dX4_executeRegister_85 (by decide) ?_
    refine lv_iconst (v := 3) hx hb dX4_executeRegister_111 (by decide) ?_
    exact g_iret hx hb hr rfl hlocks hK (x35, x36, m0, f29) hP hD hS ⟨(show 0 ≤ ((3 : Int32)).toInt ∧ ((3 : Int32)).toInt ≤ 3 from by decide), p5⟩ (Nat.le_of_ble_eq_true rfl) (Nat.le_of_ble_eq_true rfl) dX4_executeRegister_112
  by_cases s37 : a0 = 10
  · have g38 : a0.toInt = 10 := by rw [s37]; decide
    refine lv_tableIn (tgt := 88) hx hb dX4_executeRegister_1 (by rw [s37]; decide) (by rw [s37]; decide) (by rw [s37]; rfl) (by decide) ?_
    refine lv_aload_n hx hb dX4_executeRegister_88 rfl (lv_at hl 0 rfl) ?_
    refine lv_aload_n hx hb dX4_executeRegister_89 rfl (lv_at hl 0 rfl) ?_
    refine g_get hx hb hg hown hK hP 0 rfl rfl inX4 1 (by decide) q554 rfl dX4_executeRegister_90 ?_
    refine lv_iload_n hx hb dX4_executeRegister_93 rfl (lv_at hl 2 rfl) ?_
    refine va_iald hx hb hK hP 2 0 rfl rfl (by rw [vp_in_iff]; omega) dX4_executeRegister_94 ?_
    refine lv_topi (fun x39 e40 => ?_)
    refine g_Vv (n := 1) (As := [.int x39]) (rest := []) (wr := []) hx hb hml hg hown hK hP hD hS hA (s_X4_push l D dA t0 x39 c0 c1 c2 i0 i1 i2 i3 i4 i5 i6 c3 i7 i8 i9 m0 m1 m2 m3 (by omega) (by omega) (by omega) (by omega) p5 _) [0, 1, 2, 3, 4] [] rfl (by decide) rfl (by decide) (by decide) 0 rfl rfl q1412 q159 q1409 q1411 q55 (by decide +kernel) ⟨(Nat.le_of_ble_eq_true rfl), (Nat.le_of_ble_eq_true rfl)⟩ rfl hl.1 rfl (Nat.le_of_ble_eq_true rfl) dX4_executeRegister_95 ⟨(Nat.le_of_ble_eq_true rfl), (Nat.le_of_ble_eq_true rfl)⟩ (fun u41 H locs w43 hP hD hS => ?_)
    refine W.widen (k := 0) (n := 0) (Nat.le_of_ble_eq_true rfl) (Nat.le_of_ble_eq_true rfl) ?_
    obtain ⟨f44, f45⟩ := u41
    have hP : va_P D vwC [(t0, .inr (4, [.ref c0, .ref c1, .ref c2, .int i0, .int i1, .int i2, .int i3, .int i4, .int i5, .int i6, .ref c3, .int i7, .int i8, .int i9])), (c0, .inl (dA 0, 4096, .inl f44)), (c1, .inl (dA 0, 8, .inl f45)), (c2, .inl (dA 0, 4, .inl m2)), (c3, .inl (dA 0, 30, .inl m3))] H := hP
    have hD : va_D A [(t0, .inr (4, [.ref c0, .ref c1, .ref c2, .int i0, .int i1, .int i2, .int i3, .int i4, .int i5, .int i6, .ref c3, .int i7, .int i8, .int i9])), (c0, .inl (dA 0, 4096, .inl f44)), (c1, .inl (dA 0, 8, .inl f45)), (c2, .inl (dA 0, 4, .inl m2)), (c3, .inl (dA 0, 30, .inl m3))] := hD
    have g46 := w43
    have g46 : ∀ j : Nat, 0 ≤ (f44 j).toInt ∧ (f44 j).toInt ≤ 255 := g46
    refine lv_goto (tgt := 111) hx hb dX4_executeRegister_98 (by decide) ?_
    refine lv_iconst (v := 3) hx hb dX4_executeRegister_111 (by decide) ?_
    exact g_iret hx hb hr rfl hlocks hK (i2, i3, f44, f45) hP hD hS ⟨(show 0 ≤ ((3 : Int32)).toInt ∧ ((3 : Int32)).toInt ≤ 3 from by decide), g46⟩ (Nat.le_of_ble_eq_true rfl) (Nat.le_of_ble_eq_true rfl) dX4_executeRegister_112
  have g47 : a0.toInt ≠ 8 := lv_neT s1 (by decide)
  have g48 : a0.toInt ≠ 9 := lv_neT s19 (by decide)
  have g49 : a0.toInt ≠ 10 := lv_neT s37 (by decide)
  refine lv_tableOut (tgt := 101) hx hb dX4_executeRegister_1 (by omega) (by decide) ?_
  refine lv_aload_n hx hb dX4_executeRegister_101 rfl (lv_at hl 0 rfl) ?_
  refine g_get hx hb hg hown hK hP 0 rfl rfl inX4 1 (by decide) q554 rfl dX4_executeRegister_102 ?_
  refine lv_iload_n hx hb dX4_executeRegister_105 rfl (lv_at hl 2 rfl) ?_
  refine lv_aload_n hx hb dX4_executeRegister_106 rfl (lv_at hl 0 rfl) ?_
  refine g_Vi (n := 0) (As := []) (rest := [.int a1, .ref c1]) (wr := []) hx hb hml hg hown hK hP hD hS hA (s_X4_pop l D dA t0 c0 c1 c2 i0 i1 i2 i3 i4 i5 i6 c3 i7 i8 i9 m0 m1 m2 m3 (by omega) (by omega) (by omega) (by omega) p5 _) [0, 1, 2, 3, 4] [] rfl (by decide) rfl (by decide) (by decide) 0 rfl rfl q1416 q159 q1413 q1415 q56 (by decide +kernel) ⟨(Nat.le_of_ble_eq_true rfl), (Nat.le_of_ble_eq_true rfl)⟩ rfl hl.1 rfl (Nat.le_of_ble_eq_true rfl) dX4_executeRegister_107 ⟨(Nat.le_of_ble_eq_true rfl), (Nat.le_of_ble_eq_true rfl)⟩ (fun x51 u50 H locs w52 hP hD hS => ?_)
  refine W.widen (k := 0) (n := 0) (Nat.le_of_ble_eq_true rfl) (Nat.le_of_ble_eq_true rfl) ?_
  obtain ⟨f53, rfl⟩ : ∃ z, z = u50 := ⟨_, rfl⟩
  have hP : va_P D vwC [(t0, .inr (4, [.ref c0, .ref c1, .ref c2, .int i0, .int i1, .int i2, .int i3, .int i4, .int i5, .int i6, .ref c3, .int i7, .int i8, .int i9])), (c0, .inl (dA 0, 4096, .inl m0)), (c1, .inl (dA 0, 8, .inl f53)), (c2, .inl (dA 0, 4, .inl m2)), (c3, .inl (dA 0, 30, .inl m3))] H := hP
  have hD : va_D A [(t0, .inr (4, [.ref c0, .ref c1, .ref c2, .int i0, .int i1, .int i2, .int i3, .int i4, .int i5, .int i6, .ref c3, .int i7, .int i8, .int i9])), (c0, .inl (dA 0, 4096, .inl m0)), (c1, .inl (dA 0, 8, .inl f53)), (c2, .inl (dA 0, 4, .inl m2)), (c3, .inl (dA 0, 30, .inl m3))] := hD
  refine va_iast hx hb hK hP hD hS 2 0 rfl rfl (by rw [vp_in_iff]; omega) dX4_executeRegister_110 (fun H locs hP hD hS => ?_)
  have hP : va_P D vwC [(t0, .inr (4, [.ref c0, .ref c1, .ref c2, .int i0, .int i1, .int i2, .int i3, .int i4, .int i5, .int i6, .ref c3, .int i7, .int i8, .int i9])), (c0, .inl (dA 0, 4096, .inl m0)), (c1, .inl (dA 0, 8, .inl (upd f53 (a1 : Int32).toNatClampNeg x51))), (c2, .inl (dA 0, 4, .inl m2)), (c3, .inl (dA 0, 30, .inl m3))] H := hP
  have hD : va_D A [(t0, .inr (4, [.ref c0, .ref c1, .ref c2, .int i0, .int i1, .int i2, .int i3, .int i4, .int i5, .int i6, .ref c3, .int i7, .int i8, .int i9])), (c0, .inl (dA 0, 4096, .inl m0)), (c1, .inl (dA 0, 8, .inl (upd f53 (a1 : Int32).toNatClampNeg x51))), (c2, .inl (dA 0, 4, .inl m2)), (c3, .inl (dA 0, 30, .inl m3))] := hD
  obtain ⟨f54, ef54⟩ : ∃ f : Nat → Int32, f = (upd f53 (a1 : Int32).toNatClampNeg x51) := ⟨_, rfl⟩
  rw [← ef54] at hP hD
  refine lv_iconst (v := 3) hx hb dX4_executeRegister_111 (by decide) ?_
  exact g_iret hx hb hr rfl hlocks hK (i2, i3, m0, f54) hP hD hS ⟨(show 0 ≤ ((3 : Int32)).toInt ∧ ((3 : Int32)).toInt ≤ 3 from by decide), p5⟩ (Nat.le_of_ble_eq_true rfl) (Nat.le_of_ble_eq_true rfl) dX4_executeRegister_112
