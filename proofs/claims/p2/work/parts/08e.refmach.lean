theorem q2185 : Cond.constantLong RX11 590 (65535) ∈ gw := gw_in (i := 2185) (by decide +kernel) rfl
theorem dX11_group_0 : decode cX11_group 0 = .ok (.aload_n 0, 1) := by decide +kernel
theorem dX11_group_1 : decode cX11_group 1 = .ok (.invokevirtual 572, 3) := by decide +kernel
theorem dX11_group_4 : decode cX11_group 4 = .ok (.istore_n 1, 1) := by decide +kernel
theorem dX11_group_5 : decode cX11_group 5 = .ok (.aload_n 0, 1) := by decide +kernel
theorem dX11_group_6 : decode cX11_group 6 = .ok (.getfield 545, 3) := by decide +kernel
theorem dX11_group_9 : decode cX11_group 9 = .ok (.iconst 3, 1) := by decide +kernel
theorem dX11_group_10 : decode cX11_group 10 = .ok (.if_icmp .ne 33, 3) := by decide +kernel
theorem dX11_group_43 : decode cX11_group 43 = .ok (.aload_n 0, 1) := by decide +kernel
theorem dX11_group_44 : decode cX11_group 44 = .ok (.getfield 545, 3) := by decide +kernel
theorem dX11_group_47 : decode cX11_group 47 = .ok (.iconst 4, 1) := by decide +kernel
theorem dX11_group_48 : decode cX11_group 48 = .ok (.if_icmp .ne 64, 3) := by decide +kernel
theorem dX11_group_112 : decode cX11_group 112 = .ok (.aload_n 0, 1) := by decide +kernel
theorem dX11_group_113 : decode cX11_group 113 = .ok (.getfield 545, 3) := by decide +kernel
theorem dX11_group_116 : decode cX11_group 116 = .ok (.bipush 6, 2) := by decide +kernel
theorem dX11_group_118 : decode cX11_group 118 = .ok (.if_icmp .eq 5, 3) := by decide +kernel
theorem dX11_group_123 : decode cX11_group 123 = .ok (.aload_n 0, 1) := by decide +kernel
theorem dX11_group_124 : decode cX11_group 124 = .ok (.getfield 253, 3) := by decide +kernel
theorem dX11_group_127 : decode cX11_group 127 = .ok (.iconst 2, 1) := by decide +kernel
theorem dX11_group_128 : decode cX11_group 128 = .ok (.iaload, 1) := by decide +kernel
theorem dX11_group_129 : decode cX11_group 129 = .ok (.i2l, 1) := by decide +kernel
theorem dX11_group_130 : decode cX11_group 130 = .ok (.bipush 16, 2) := by decide +kernel
theorem dX11_group_132 : decode cX11_group 132 = .ok (.lshl, 1) := by decide +kernel
theorem dX11_group_133 : decode cX11_group 133 = .ok (.aload_n 0, 1) := by decide +kernel
theorem dX11_group_134 : decode cX11_group 134 = .ok (.getfield 253, 3) := by decide +kernel
theorem dX11_group_137 : decode cX11_group 137 = .ok (.iconst 0, 1) := by decide +kernel
theorem dX11_group_138 : decode cX11_group 138 = .ok (.iaload, 1) := by decide +kernel
theorem dX11_group_139 : decode cX11_group 139 = .ok (.i2l, 1) := by decide +kernel
theorem dX11_group_140 : decode cX11_group 140 = .ok (.lor, 1) := by decide +kernel
theorem dX11_group_141 : decode cX11_group 141 = .ok (.lstore_n 2, 1) := by decide +kernel
theorem dX11_group_142 : decode cX11_group 142 = .ok (.iload_n 1, 1) := by decide +kernel
theorem dX11_group_143 : decode cX11_group 143 = .ok (.ifCond .eq 14, 3) := by decide +kernel
theorem dX11_group_157 : decode cX11_group 157 = .ok (.iconst 1, 1) := by decide +kernel
theorem dX11_group_158 : decode cX11_group 158 = .ok (.ireturn, 1) := by decide +kernel
theorem dX11_group_146 : decode cX11_group 146 = .ok (.lload_n 2, 1) := by decide +kernel
theorem dX11_group_147 : decode cX11_group 147 = .ok (.iload_n 1, 1) := by decide +kernel
theorem dX11_group_148 : decode cX11_group 148 = .ok (.i2l, 1) := by decide +kernel
theorem dX11_group_149 : decode cX11_group 149 = .ok (.ldiv, 1) := by decide +kernel
theorem dX11_group_150 : decode cX11_group 150 = .ok (.ldc2_w 590, 3) := by decide +kernel
theorem dX11_group_153 : decode cX11_group 153 = .ok (.lcmp, 1) := by decide +kernel
theorem dX11_group_154 : decode cX11_group 154 = .ok (.ifCond .le 5, 3) := by decide +kernel
theorem dX11_group_159 : decode cX11_group 159 = .ok (.aload_n 0, 1) := by decide +kernel
theorem dX11_group_160 : decode cX11_group 160 = .ok (.getfield 253, 3) := by decide +kernel
theorem dX11_group_163 : decode cX11_group 163 = .ok (.iconst 0, 1) := by decide +kernel
theorem dX11_group_164 : decode cX11_group 164 = .ok (.lload_n 2, 1) := by decide +kernel
theorem dX11_group_165 : decode cX11_group 165 = .ok (.iload_n 1, 1) := by decide +kernel
theorem dX11_group_166 : decode cX11_group 166 = .ok (.i2l, 1) := by decide +kernel
theorem dX11_group_167 : decode cX11_group 167 = .ok (.ldiv, 1) := by decide +kernel
theorem dX11_group_168 : decode cX11_group 168 = .ok (.l2i, 1) := by decide +kernel
theorem dX11_group_169 : decode cX11_group 169 = .ok (.iastore, 1) := by decide +kernel
theorem dX11_group_170 : decode cX11_group 170 = .ok (.aload_n 0, 1) := by decide +kernel
theorem dX11_group_171 : decode cX11_group 171 = .ok (.getfield 253, 3) := by decide +kernel
theorem dX11_group_174 : decode cX11_group 174 = .ok (.iconst 2, 1) := by decide +kernel
theorem dX11_group_175 : decode cX11_group 175 = .ok (.lload_n 2, 1) := by decide +kernel
theorem dX11_group_176 : decode cX11_group 176 = .ok (.iload_n 1, 1) := by decide +kernel
theorem dX11_group_177 : decode cX11_group 177 = .ok (.i2l, 1) := by decide +kernel
theorem dX11_group_178 : decode cX11_group 178 = .ok (.lrem, 1) := by decide +kernel
theorem dX11_group_179 : decode cX11_group 179 = .ok (.l2i, 1) := by decide +kernel
theorem dX11_group_180 : decode cX11_group 180 = .ok (.iastore, 1) := by decide +kernel
theorem dX11_group_181 : decode cX11_group 181 = .ok (.iconst 0, 1) := by decide +kernel
theorem dX11_group_182 : decode cX11_group 182 = .ok (.ireturn, 1) := by decide +kernel
theorem dX11_group_121 : decode cX11_group 121 = .ok (.iconst 2, 1) := by decide +kernel
theorem dX11_group_122 : decode cX11_group 122 = .ok (.ireturn, 1) := by decide +kernel
theorem dX11_group_51 : decode cX11_group 51 = .ok (.aload_n 0, 1) := by decide +kernel
theorem dX11_group_52 : decode cX11_group 52 = .ok (.getfield 253, 3) := by decide +kernel
theorem dX11_group_55 : decode cX11_group 55 = .ok (.iconst 0, 1) := by decide +kernel
theorem dX11_group_56 : decode cX11_group 56 = .ok (.iaload, 1) := by decide +kernel
theorem dX11_group_57 : decode cX11_group 57 = .ok (.i2l, 1) := by decide +kernel
theorem dX11_group_58 : decode cX11_group 58 = .ok (.iload_n 1, 1) := by decide +kernel
theorem dX11_group_59 : decode cX11_group 59 = .ok (.i2l, 1) := by decide +kernel
theorem dX11_group_60 : decode cX11_group 60 = .ok (.lmul, 1) := by decide +kernel
theorem dX11_group_61 : decode cX11_group 61 = .ok (.lstore_n 2, 1) := by decide +kernel
theorem dX11_group_62 : decode cX11_group 62 = .ok (.aload_n 0, 1) := by decide +kernel
theorem dX11_group_63 : decode cX11_group 63 = .ok (.getfield 253, 3) := by decide +kernel
theorem dX11_group_66 : decode cX11_group 66 = .ok (.iconst 0, 1) := by decide +kernel
theorem dX11_group_67 : decode cX11_group 67 = .ok (.lload_n 2, 1) := by decide +kernel
theorem dX11_group_68 : decode cX11_group 68 = .ok (.l2i, 1) := by decide +kernel
theorem dX11_group_69 : decode cX11_group 69 = .ok (.ldc_w 300, 3) := by decide +kernel
theorem dX11_group_72 : decode cX11_group 72 = .ok (.iand, 1) := by decide +kernel
theorem dX11_group_73 : decode cX11_group 73 = .ok (.iastore, 1) := by decide +kernel
theorem dX11_group_74 : decode cX11_group 74 = .ok (.aload_n 0, 1) := by decide +kernel
theorem dX11_group_75 : decode cX11_group 75 = .ok (.getfield 253, 3) := by decide +kernel
theorem dX11_group_78 : decode cX11_group 78 = .ok (.iconst 2, 1) := by decide +kernel
theorem dX11_group_79 : decode cX11_group 79 = .ok (.lload_n 2, 1) := by decide +kernel
theorem dX11_group_80 : decode cX11_group 80 = .ok (.bipush 16, 2) := by decide +kernel
theorem dX11_group_82 : decode cX11_group 82 = .ok (.lshr, 1) := by decide +kernel
theorem dX11_group_83 : decode cX11_group 83 = .ok (.l2i, 1) := by decide +kernel
theorem dX11_group_84 : decode cX11_group 84 = .ok (.ldc_w 300, 3) := by decide +kernel
theorem dX11_group_87 : decode cX11_group 87 = .ok (.iand, 1) := by decide +kernel
theorem dX11_group_88 : decode cX11_group 88 = .ok (.iastore, 1) := by decide +kernel
theorem dX11_group_89 : decode cX11_group 89 = .ok (.aload_n 0, 1) := by decide +kernel
theorem dX11_group_90 : decode cX11_group 90 = .ok (.getfield 253, 3) := by decide +kernel
theorem dX11_group_93 : decode cX11_group 93 = .ok (.bipush 13, 2) := by decide +kernel
theorem dX11_group_95 : decode cX11_group 95 = .ok (.aload_n 0, 1) := by decide +kernel
theorem dX11_group_96 : decode cX11_group 96 = .ok (.getfield 253, 3) := by decide +kernel
theorem dX11_group_99 : decode cX11_group 99 = .ok (.iconst 2, 1) := by decide +kernel
theorem dX11_group_100 : decode cX11_group 100 = .ok (.iaload, 1) := by decide +kernel
theorem dX11_group_101 : decode cX11_group 101 = .ok (.ifCond .eq 7, 3) := by decide +kernel
theorem dX11_group_108 : decode cX11_group 108 = .ok (.iconst 0, 1) := by decide +kernel
theorem dX11_group_109 : decode cX11_group 109 = .ok (.iastore, 1) := by decide +kernel
theorem dX11_group_110 : decode cX11_group 110 = .ok (.iconst 0, 1) := by decide +kernel
theorem dX11_group_111 : decode cX11_group 111 = .ok (.ireturn, 1) := by decide +kernel
theorem dX11_group_104 : decode cX11_group 104 = .ok (.iconst 1, 1) := by decide +kernel
theorem dX11_group_105 : decode cX11_group 105 = .ok (.goto 4, 3) := by decide +kernel
theorem dX11_group_13 : decode cX11_group 13 = .ok (.aload_n 0, 1) := by decide +kernel
theorem dX11_group_14 : decode cX11_group 14 = .ok (.getfield 253, 3) := by decide +kernel
theorem dX11_group_17 : decode cX11_group 17 = .ok (.bipush 13, 2) := by decide +kernel
theorem dX11_group_19 : decode cX11_group 19 = .ok (.iload_n 1, 1) := by decide +kernel
theorem dX11_group_20 : decode cX11_group 20 = .ok (.ifCond .eq 7, 3) := by decide +kernel
theorem dX11_group_27 : decode cX11_group 27 = .ok (.iconst 0, 1) := by decide +kernel
theorem dX11_group_28 : decode cX11_group 28 = .ok (.iastore, 1) := by decide +kernel
theorem dX11_group_29 : decode cX11_group 29 = .ok (.aload_n 0, 1) := by decide +kernel
theorem dX11_group_30 : decode cX11_group 30 = .ok (.iload_n 1, 1) := by decide +kernel
theorem dX11_group_31 : decode cX11_group 31 = .ok (.ineg, 1) := by decide +kernel
theorem dX11_group_32 : decode cX11_group 32 = .ok (.invokevirtual 566, 3) := by decide +kernel
theorem dX11_group_35 : decode cX11_group 35 = .ok (.aload_n 0, 1) := by decide +kernel
theorem dX11_group_36 : decode cX11_group 36 = .ok (.iload_n 1, 1) := by decide +kernel
theorem dX11_group_37 : decode cX11_group 37 = .ok (.ineg, 1) := by decide +kernel
theorem dX11_group_38 : decode cX11_group 38 = .ok (.invokevirtual 578, 3) := by decide +kernel
theorem dX11_group_41 : decode cX11_group 41 = .ok (.iconst 0, 1) := by decide +kernel
theorem dX11_group_42 : decode cX11_group 42 = .ok (.ireturn, 1) := by decide +kernel
theorem dX11_group_23 : decode cX11_group 23 = .ok (.iconst 1, 1) := by decide +kernel
theorem dX11_group_24 : decode cX11_group 24 = .ok (.goto 4, 3) := by decide +kernel
set_option maxHeartbeats 4000000 in
set_option maxRecDepth 100000 in
theorem s_X11_group (l : Launch) (D : va_G) (dA : Nat → ClassId) (t0 : Nat) (i0 : Int32) (c1 : Nat) (i2 : Int32) (i3 : Int32) (i4 : Int32) (i5 : Int32) (i6 : Int32) (i7 : Int32) (i8 : Int64) (i9 : Int32) (i10 : Int32) (c11 : Nat) (c12 : Nat) (c13 : Nat) (c14 : Nat) (c15 : Nat) (c16 : Nat) (i17 : Int32) (i18 : Int32) (c19 : Nat) (c20 : Nat) (c21 : Nat) (c22 : Nat) (i23 : Int32) (c24 : Nat) (c25 : Nat) (c26 : Nat) (c27 : Nat) (c28 : Nat) (c29 : Nat) (c30 : Nat) (i31 : Int32) (i32 : Int32) (i33 : Int32) (i34 : Int32) (c35 : Nat) (c36 : Nat) (i37 : Int32) (i38 : Int32) (i39 : Int32) (i40 : Int32) (i41 : Int32) (i42 : Int32) (c43 : Nat) (c44 : Nat) (c45 : Nat) (c46 : Nat) (c47 : Nat) (c48 : Nat) (c49 : Nat) (c50 : Nat) (c51 : Nat) (c52 : Nat) (c53 : Nat) (c54 : Nat) (c55 : Nat) (c56 : Nat) (c57 : Nat) (c58 : Nat) (c59 : Nat) (i60 : Int32) (c61 : Nat) (i62 : Int32) (c63 : Nat) (i64 : Int32) (i65 : Int32) (i66 : Int32) (c67 : Nat) (c68 : Nat) (c69 : Nat) (c70 : Nat) (c71 : Nat) (c72 : Nat) (i73 : Int32) (c74 : Nat) (c75 : Nat) (i76 : Int32) (i77 : Int32) (i78 : Int32) (c79 : Nat) (i80 : Int32) (i81 : Int32) (i82 : Int32) (i83 : Int32) (i84 : Int32) (m74 : Nat → Int32) (m75 : Nat → Int32) (p0 : 0 ≤ i33.toInt ∧ i33.toInt ≤ 1) (p1 : 0 ≤ i60.toInt ∧ i60.toInt ≤ 1) (p2 : 0 ≤ i76.toInt ∧ i76.toInt ≤ 1) (p3 : 0 ≤ i78.toInt ∧ i78.toInt ≤ 1000000) (p4 : 0 ≤ i81.toInt ∧ i81.toInt ≤ 255) (p5 : 0 ≤ i82.toInt ∧ i82.toInt ≤ 7) (p6 : 0 ≤ i83.toInt ∧ i83.toInt ≤ 15) (p7 : ∀ j : Nat, 0 ≤ (m74 j).toInt ∧ (m74 j).toInt ≤ 255) (sz : Nat) : Met l yX11_group (gws yX11_group cX11_group 4 (some .int)) (gR 4 0 0) (gPre D dA [.ref t0] [(t0, .inr (11, [.int i0, .ref c1, .int i2, .int i3, .int i4, .int i5, .int i6, .int i7, .long i8, .int i9, .int i10, .ref c11, .ref c12, .ref c13, .ref c14, .ref c15, .ref c16, .int i17, .int i18, .ref c19, .ref c20, .ref c21, .ref c22, .int i23, .ref c24, .ref c25, .ref c26, .ref c27, .ref c28, .ref c29, .ref c30, .int i31, .int i32, .int i33, .int i34, .ref c35, .ref c36, .int i37, .int i38, .int i39, .int i40, .int i41, .int i42, .ref c43, .ref c44, .ref c45, .ref c46, .ref c47, .ref c48, .ref c49, .ref c50, .ref c51, .ref c52, .ref c53, .ref c54, .ref c55, .ref c56, .ref c57, .ref c58, .ref c59, .int i60, .ref c61, .int i62, .ref c63, .int i64, .int i65, .int i66, .ref c67, .ref c68, .ref c69, .ref c70, .ref c71, .ref c72, .int i73, .ref c74, .ref c75, .int i76, .int i77, .int i78, .ref c79, .int i80, .int i81, .int i82, .int i83, .int i84])), (c74, .inl (dA 0, 4096, .inl m74)), (c75, .inl (dA 0, 16, .inl m75))] sz) (va_Qi (fun (r : Int32) (u : (Nat → Int32) × (Nat → Int32)) => (0 ≤ r.toInt ∧ r.toInt ≤ 3) ∧ (∀ j : Nat, 0 ≤ (u.1 j).toInt ∧ (u.1 j).toInt ≤ 255)) (gAt D dA (va_A [(t0, .inr (11, [.int i0, .ref c1, .int i2, .int i3, .int i4, .int i5, .int i6, .int i7, .long i8, .int i9, .int i10, .ref c11, .ref c12, .ref c13, .ref c14, .ref c15, .ref c16, .int i17, .int i18, .ref c19, .ref c20, .ref c21, .ref c22, .int i23, .ref c24, .ref c25, .ref c26, .ref c27, .ref c28, .ref c29, .ref c30, .int i31, .int i32, .int i33, .int i34, .ref c35, .ref c36, .int i37, .int i38, .int i39, .int i40, .int i41, .int i42, .ref c43, .ref c44, .ref c45, .ref c46, .ref c47, .ref c48, .ref c49, .ref c50, .ref c51, .ref c52, .ref c53, .ref c54, .ref c55, .ref c56, .ref c57, .ref c58, .ref c59, .int i60, .ref c61, .int i62, .ref c63, .int i64, .int i65, .int i66, .ref c67, .ref c68, .ref c69, .ref c70, .ref c71, .ref c72, .int i73, .ref c74, .ref c75, .int i76, .int i77, .int i78, .ref c79, .int i80, .int i81, .int i82, .int i83, .int i84])), (c74, .inl (dA 0, 4096, .inl m74)), (c75, .inl (dA 0, 16, .inl m75))] sz) (fun u : (Nat → Int32) × (Nat → Int32) => [(t0, .inr (11, [.int i0, .ref c1, .int i2, .int i3, .int i4, .int i5, .int i6, .int i7, .long i8, .int i9, .int i10, .ref c11, .ref c12, .ref c13, .ref c14, .ref c15, .ref c16, .int i17, .int i18, .ref c19, .ref c20, .ref c21, .ref c22, .int i23, .ref c24, .ref c25, .ref c26, .ref c27, .ref c28, .ref c29, .ref c30, .int i31, .int i32, .int i33, .int i34, .ref c35, .ref c36, .int i37, .int i38, .int i39, .int i40, .int i41, .int i42, .ref c43, .ref c44, .ref c45, .ref c46, .ref c47, .ref c48, .ref c49, .ref c50, .ref c51, .ref c52, .ref c53, .ref c54, .ref c55, .ref c56, .ref c57, .ref c58, .ref c59, .int i60, .ref c61, .int i62, .ref c63, .int i64, .int i65, .int i66, .ref c67, .ref c68, .ref c69, .ref c70, .ref c71, .ref c72, .int i73, .ref c74, .ref c75, .int i76, .int i77, .int i78, .ref c79, .int i80, .int i81, .int i82, .int i83, .int i84])), (c74, .inl (dA 0, 4096, .inl (u.1))), (c75, .inl (dA 0, 16, .inl (u.2)))])) (va_A [(t0, .inr (11, [.int i0, .ref c1, .int i2, .int i3, .int i4, .int i5, .int i6, .int i7, .long i8, .int i9, .int i10, .ref c11, .ref c12, .ref c13, .ref c14, .ref c15, .ref c16, .int i17, .int i18, .ref c19, .ref c20, .ref c21, .ref c22, .int i23, .ref c24, .ref c25, .ref c26, .ref c27, .ref c28, .ref c29, .ref c30, .int i31, .int i32, .int i33, .int i34, .ref c35, .ref c36, .int i37, .int i38, .int i39, .int i40, .int i41, .int i42, .ref c43, .ref c44, .ref c45, .ref c46, .ref c47, .ref c48, .ref c49, .ref c50, .ref c51, .ref c52, .ref c53, .ref c54, .ref c55, .ref c56, .ref c57, .ref c58, .ref c59, .int i60, .ref c61, .int i62, .ref c63, .int i64, .int i65, .int i66, .ref c67, .ref c68, .ref c69, .ref c70, .ref c71, .ref c72, .int i73, .ref c74, .ref c75, .int i76, .int i77, .int i78, .ref c79, .int i80, .int i81, .int i82, .int i83, .int i84])), (c74, .inl (dA 0, 4096, .inl m74)), (c75, .inl (dA 0, 16, .inl m75))] sz)) 0 0 (va_A [(t0, .inr (11, [.int i0, .ref c1, .int i2, .int i3, .int i4, .int i5, .int i6, .int i7, .long i8, .int i9, .int i10, .ref c11, .ref c12, .ref c13, .ref c14, .ref c15, .ref c16, .int i17, .int i18, .ref c19, .ref c20, .ref c21, .ref c22, .int i23, .ref c24, .ref c25, .ref c26, .ref c27, .ref c28, .ref c29, .ref c30, .int i31, .int i32, .int i33, .int i34, .ref c35, .ref c36, .int i37, .int i38, .int i39, .int i40, .int i41, .int i42, .ref c43, .ref c44, .ref c45, .ref c46, .ref c47, .ref c48, .ref c49, .ref c50, .ref c51, .ref c52, .ref c53, .ref c54, .ref c55, .ref c56, .ref c57, .ref c58, .ref c59, .int i60, .ref c61, .int i62, .ref c63, .int i64, .int i65, .int i66, .ref c67, .ref c68, .ref c69, .ref c70, .ref c71, .ref c72, .int i73, .ref c74, .ref c75, .int i76, .int i77, .int i78, .ref c79, .int i80, .int i81, .int i82, .int i83, .int i84])), (c74, .inl (dA 0, 4096, .inl m74)), (c75, .inl (dA 0, 16, .inl m75))] sz) := by
  refine Met.ofW (cc := cX11_group) (maxL := 4) (ret := (some .int)) (by decide) rfl ?_
  intro p e s m args below meth c s₁ B hml hv
  obtain ⟨rfl, hsz, hP, hK, hD0⟩ := hv
  have hx := B.exec
  have hb := B.bytes
  have hr := B.returns
  have hts := atoms_spec (ws := gws yX11_group cX11_group 4 (some .int)) B.pre
  have hg : ∀ w ∈ gw, w.before _ s = true := fun w h => hts w (List.mem_cons_of_mem _ h)
  have hown : s.vm.findClass RX11 = some m.cls := findClass_of_methodNamed B.named
  have hlocks := B.notSynchronized
  subst hsz
  have hD := hD0.self (sz := s.heap.size)
  generalize hAe : va_A [(t0, .inr (11, [.int i0, .ref c1, .int i2, .int i3, .int i4, .int i5, .int i6, .int i7, .long i8, .int i9, .int i10, .ref c11, .ref c12, .ref c13, .ref c14, .ref c15, .ref c16, .int i17, .int i18, .ref c19, .ref c20, .ref c21, .ref c22, .int i23, .ref c24, .ref c25, .ref c26, .ref c27, .ref c28, .ref c29, .ref c30, .int i31, .int i32, .int i33, .int i34, .ref c35, .ref c36, .int i37, .int i38, .int i39, .int i40, .int i41, .int i42, .ref c43, .ref c44, .ref c45, .ref c46, .ref c47, .ref c48, .ref c49, .ref c50, .ref c51, .ref c52, .ref c53, .ref c54, .ref c55, .ref c56, .ref c57, .ref c58, .ref c59, .int i60, .ref c61, .int i62, .ref c63, .int i64, .int i65, .int i66, .ref c67, .ref c68, .ref c69, .ref c70, .ref c71, .ref c72, .int i73, .ref c74, .ref c75, .int i76, .int i77, .int i78, .ref c79, .int i80, .int i81, .int i82, .int i83, .int i84])), (c74, .inl (dA 0, 4096, .inl m74)), (c75, .inl (dA 0, 16, .inl m75))] s.heap.size = A at hD ⊢
  have hA : ∀ q : Nat, s.heap.size ≤ q → A q := fun q h => by rw [← hAe]; exact Or.inr h
  have hS : va_S A s.heap s.heap [] := va_S.rf
  have hP : va_P D vwC [(t0, .inr (11, [.int i0, .ref c1, .int i2, .int i3, .int i4, .int i5, .int i6, .int i7, .long i8, .int i9, .int i10, .ref c11, .ref c12, .ref c13, .ref c14, .ref c15, .ref c16, .int i17, .int i18, .ref c19, .ref c20, .ref c21, .ref c22, .int i23, .ref c24, .ref c25, .ref c26, .ref c27, .ref c28, .ref c29, .ref c30, .int i31, .int i32, .int i33, .int i34, .ref c35, .ref c36, .int i37, .int i38, .int i39, .int i40, .int i41, .int i42, .ref c43, .ref c44, .ref c45, .ref c46, .ref c47, .ref c48, .ref c49, .ref c50, .ref c51, .ref c52, .ref c53, .ref c54, .ref c55, .ref c56, .ref c57, .ref c58, .ref c59, .int i60, .ref c61, .int i62, .ref c63, .int i64, .int i65, .int i66, .ref c67, .ref c68, .ref c69, .ref c70, .ref c71, .ref c72, .int i73, .ref c74, .ref c75, .int i76, .int i77, .int i78, .ref c79, .int i80, .int i81, .int i82, .int i83, .int i84])), (c74, .inl (dA 0, 4096, .inl m74)), (c75, .inl (dA 0, 16, .inl m75))] s.heap := hP
  have hl := lv_entry ([.ref t0]) (n := 4) (Nat.le_of_ble_eq_true rfl)
  rw [lg_entry_eq]
  generalize (lg_sl ([.ref t0]) ++ List.replicate (4 - (lg_sl ([.ref t0])).length) Slot.unset).toArray = ls at hl ⊢
  have hl : lv_has ls 4 [(0, .ref t0)] := hl
  refine lv_aload_n hx hb dX11_group_0 rfl (lv_at hl 0 rfl) ?_
  refine g_Vi (n := 0) (As := []) (rest := []) (wr := []) hx hb hml hg hown hK hP hD hS hA (s_X11_formGet l D dA t0 i0 c1 i2 i3 i4 i5 i6 i7 i8 i9 i10 c11 c12 c13 c14 c15 c16 i17 i18 c19 c20 c21 c22 i23 c24 c25 c26 c27 c28 c29 c30 i31 i32 i33 i34 c35 c36 i37 i38 i39 i40 i41 i42 c43 c44 c45 c46 c47 c48 c49 c50 c51 c52 c53 c54 c55 c56 c57 c58 c59 i60 c61 i62 c63 i64 i65 i66 c67 c68 c69 c70 c71 c72 i73 c74 c75 i76 i77 i78 c79 i80 i81 i82 i83 i84 m74 m75 (by omega) (by omega) (by omega) (by omega) (by omega) (by omega) (by omega) p7 _) [0, 1, 2] [] rfl (by decide) rfl (by decide) (by decide) 0 rfl rfl q2156 q160 q2153 q2155 q135 (by decide +kernel) ⟨(Nat.le_of_ble_eq_true rfl), (Nat.le_of_ble_eq_true rfl)⟩ rfl hl.1 rfl (Nat.le_of_ble_eq_true rfl) dX11_group_1 ⟨(Nat.le_of_ble_eq_true rfl), (Nat.le_of_ble_eq_true rfl)⟩ (fun x2 u1 H locs w3 hP hD hS => ?_)
  refine W.widen (k := 0) (n := 0) (Nat.le_of_ble_eq_true rfl) (Nat.le_of_ble_eq_true rfl) ?_
  have hP : va_P D vwC [(t0, .inr (11, [.int i0, .ref c1, .int i2, .int i3, .int i4, .int i5, .int i6, .int i7, .long i8, .int i9, .int i10, .ref c11, .ref c12, .ref c13, .ref c14, .ref c15, .ref c16, .int i17, .int i18, .ref c19, .ref c20, .ref c21, .ref c22, .int i23, .ref c24, .ref c25, .ref c26, .ref c27, .ref c28, .ref c29, .ref c30, .int i31, .int i32, .int i33, .int i34, .ref c35, .ref c36, .int i37, .int i38, .int i39, .int i40, .int i41, .int i42, .ref c43, .ref c44, .ref c45, .ref c46, .ref c47, .ref c48, .ref c49, .ref c50, .ref c51, .ref c52, .ref c53, .ref c54, .ref c55, .ref c56, .ref c57, .ref c58, .ref c59, .int i60, .ref c61, .int i62, .ref c63, .int i64, .int i65, .int i66, .ref c67, .ref c68, .ref c69, .ref c70, .ref c71, .ref c72, .int i73, .ref c74, .ref c75, .int i76, .int i77, .int i78, .ref c79, .int i80, .int i81, .int i82, .int i83, .int i84])), (c74, .inl (dA 0, 4096, .inl m74)), (c75, .inl (dA 0, 16, .inl m75))] H := hP
  have hD : va_D A [(t0, .inr (11, [.int i0, .ref c1, .int i2, .int i3, .int i4, .int i5, .int i6, .int i7, .long i8, .int i9, .int i10, .ref c11, .ref c12, .ref c13, .ref c14, .ref c15, .ref c16, .int i17, .int i18, .ref c19, .ref c20, .ref c21, .ref c22, .int i23, .ref c24, .ref c25, .ref c26, .ref c27, .ref c28, .ref c29, .ref c30, .int i31, .int i32, .int i33, .int i34, .ref c35, .ref c36, .int i37, .int i38, .int i39, .int i40, .int i41, .int i42, .ref c43, .ref c44, .ref c45, .ref c46, .ref c47, .ref c48, .ref c49, .ref c50, .ref c51, .ref c52, .ref c53, .ref c54, .ref c55, .ref c56, .ref c57, .ref c58, .ref c59, .int i60, .ref c61, .int i62, .ref c63, .int i64, .int i65, .int i66, .ref c67, .ref c68, .ref c69, .ref c70, .ref c71, .ref c72, .int i73, .ref c74, .ref c75, .int i76, .int i77, .int i78, .ref c79, .int i80, .int i81, .int i82, .int i83, .int i84])), (c74, .inl (dA 0, 4096, .inl m74)), (c75, .inl (dA 0, 16, .inl m75))] := hD
  refine lv_istore_n (lv' := [(1, .int x2), (0, .ref t0)]) hx hb dX11_group_4 rfl hl (by decide) rfl (fun ls hl => ?_)
  refine lv_aload_n hx hb dX11_group_5 rfl (lv_at hl 1 rfl) ?_
  refine g_get hx hb hg hown hK hP 0 rfl rfl inX11 82 (by decide) q1697 rfl dX11_group_6 ?_
  refine lv_iconst (v := 3) hx hb dX11_group_9 (by decide) ?_
  refine lv_icmp_ne (tgt := 43) hx hb dX11_group_10 (by decide) (fun k4 => ?_) (fun k4 => ?_)
  · have g5 : i82.toInt ≠ 3 := gi_neq (rfl : i82.toInt = i82.toInt) (by decide : (3 : Int32).toInt = 3) k4
    refine lv_aload_n hx hb dX11_group_43 rfl (lv_at hl 1 rfl) ?_
    refine g_get hx hb hg hown hK hP 0 rfl rfl inX11 82 (by decide) q1697 rfl dX11_group_44 ?_
    refine lv_iconst (v := 4) hx hb dX11_group_47 (by decide) ?_
    refine lv_icmp_ne (tgt := 112) hx hb dX11_group_48 (by decide) (fun k6 => ?_) (fun k6 => ?_)
    · have g7 : i82.toInt ≠ 4 := gi_neq (rfl : i82.toInt = i82.toInt) (by decide : (4 : Int32).toInt = 4) k6
      refine lv_aload_n hx hb dX11_group_112 rfl (lv_at hl 1 rfl) ?_
      refine g_get hx hb hg hown hK hP 0 rfl rfl inX11 82 (by decide) q1697 rfl dX11_group_113 ?_
      refine lv_bipush (v := 6) hx hb dX11_group_116 (by decide) ?_
      refine lv_icmp_eq (tgt := 123) hx hb dX11_group_118 (by decide) (fun k8 => ?_) (fun k8 => ?_)
      · have g9 : i82.toInt = 6 := gi_eq (rfl : i82.toInt = i82.toInt) (by decide : (6 : Int32).toInt = 6) k8
        refine lv_aload_n hx hb dX11_group_123 rfl (lv_at hl 1 rfl) ?_
        refine g_get hx hb hg hown hK hP 0 rfl rfl inX11 75 (by decide) q1690 rfl dX11_group_124 ?_
        refine lv_iconst (v := 2) hx hb dX11_group_127 (by decide) ?_
        refine va_iald hx hb hK hP 2 0 rfl rfl (by unfold vp_in; decide) dX11_group_128 ?_
        refine lv_topi (fun x10 e11 => ?_)
        refine lv_i2l hx hb dX11_group_129 rfl ?_
        refine lv_topl (fun y12 y12e => ?_)
        refine lv_bipush (v := 16) hx hb dX11_group_130 (by decide) ?_
        refine lv_lshl hx hb dX11_group_132 rfl ?_
        refine lv_topl (fun y13 y13e => ?_)
        refine lv_aload_n hx hb dX11_group_133 rfl (lv_at hl 1 rfl) ?_
        refine g_get hx hb hg hown hK hP 0 rfl rfl inX11 75 (by decide) q1690 rfl dX11_group_134 ?_
        refine lv_iconst (v := 0) hx hb dX11_group_137 (by decide) ?_
        refine va_iald hx hb hK hP 2 0 rfl rfl (by unfold vp_in; decide) dX11_group_138 ?_
        refine lv_topi (fun x14 e15 => ?_)
        refine lv_i2l hx hb dX11_group_139 rfl ?_
        refine lv_topl (fun y16 y16e => ?_)
        refine lv_lor hx hb dX11_group_140 ?_
        refine lv_topl (fun y17 y17e => ?_)
        refine lv_lstore_n (lv' := [(2, .long y17), (1, .int x2), (0, .ref t0)]) hx hb dX11_group_141 rfl hl (by decide) rfl (fun ls hl => ?_)
        refine lv_iload_n hx hb dX11_group_142 rfl (lv_at hl 1 rfl) ?_
        refine lv_if_eq (tgt := 157) hx hb dX11_group_143 (by decide) (fun k18 => ?_) (fun k18 => ?_)
        · have g19 : x2.toInt = 0 := gi_eq (rfl : x2.toInt = x2.toInt) (by decide : (0 : Int32).toInt = 0) k18
          refine lv_iconst (v := 1) hx hb dX11_group_157 (by decide) ?_
          exact g_iret hx hb hr rfl hlocks hK (m74, m75) hP hD hS ⟨(show 0 ≤ ((1 : Int32)).toInt ∧ ((1 : Int32)).toInt ≤ 3 from by decide), p7⟩ (Nat.le_of_ble_eq_true rfl) (Nat.le_of_ble_eq_true rfl) dX11_group_158
        · have g20 : x2.toInt ≠ 0 := gi_neq (rfl : x2.toInt = x2.toInt) (by decide : (0 : Int32).toInt = 0) k18
          refine lv_lload_n hx hb dX11_group_146 rfl (lv_at hl 0 rfl) ?_
          refine lv_iload_n hx hb dX11_group_147 rfl (lv_at hl 1 rfl) ?_
          refine lv_i2l hx hb dX11_group_148 rfl ?_
          refine lv_topl (fun y21 y21e => ?_)
          refine lv_ldiv hx hb dX11_group_149 (g_nzl y21e (by omega)) ?_
          refine lv_topl (fun y22 y22e => ?_)
          refine lv_ldc2 hx hb hown (hg _ q2185) dX11_group_150 ?_
          refine W.lcmp hx hb dX11_group_153 ?_
          refine lv_topi (fun x23 e24 => ?_)
          refine lv_if_le (tgt := 159) hx hb dX11_group_154 (by decide) (fun k25 => ?_) (fun k25 => ?_)
          · have g26 : x23.toInt ≤ 0 := gi_le (rfl : x23.toInt = x23.toInt) (by decide : (0 : Int32).toInt = 0) k25
            refine lv_aload_n hx hb dX11_group_159 rfl (lv_at hl 2 rfl) ?_
            refine g_get hx hb hg hown hK hP 0 rfl rfl inX11 75 (by decide) q1690 rfl dX11_group_160 ?_
            refine lv_iconst (v := 0) hx hb dX11_group_163 (by decide) ?_
            refine lv_lload_n hx hb dX11_group_164 rfl (lv_at hl 0 rfl) ?_
            refine lv_iload_n hx hb dX11_group_165 rfl (lv_at hl 1 rfl) ?_
            refine lv_i2l hx hb dX11_group_166 rfl ?_
            refine lv_topl (fun y27 y27e => ?_)
            refine lv_ldiv hx hb dX11_group_167 (g_nzl y27e (by omega)) ?_
            refine lv_topl (fun y28 y28e => ?_)
            refine lv_l2i hx hb dX11_group_168 rfl ?_
            refine lv_topi (fun x29 e30 => ?_)
            refine va_iast hx hb hK hP hD hS 2 0 rfl rfl (by unfold vp_in; decide) dX11_group_169 (fun H locs hP hD hS => ?_)
            have hP : va_P D vwC [(t0, .inr (11, [.int i0, .ref c1, .int i2, .int i3, .int i4, .int i5, .int i6, .int i7, .long i8, .int i9, .int i10, .ref c11, .ref c12, .ref c13, .ref c14, .ref c15, .ref c16, .int i17, .int i18, .ref c19, .ref c20, .ref c21, .ref c22, .int i23, .ref c24, .ref c25, .ref c26, .ref c27, .ref c28, .ref c29, .ref c30, .int i31, .int i32, .int i33, .int i34, .ref c35, .ref c36, .int i37, .int i38, .int i39, .int i40, .int i41, .int i42, .ref c43, .ref c44, .ref c45, .ref c46, .ref c47, .ref c48, .ref c49, .ref c50, .ref c51, .ref c52, .ref c53, .ref c54, .ref c55, .ref c56, .ref c57, .ref c58, .ref c59, .int i60, .ref c61, .int i62, .ref c63, .int i64, .int i65, .int i66, .ref c67, .ref c68, .ref c69, .ref c70, .ref c71, .ref c72, .int i73, .ref c74, .ref c75, .int i76, .int i77, .int i78, .ref c79, .int i80, .int i81, .int i82, .int i83, .int i84])), (c74, .inl (dA 0, 4096, .inl m74)), (c75, .inl (dA 0, 16, .inl (upd m75 (0 : Int32).toNatClampNeg x29)))] H := hP
            have hD : va_D A [(t0, .inr (11, [.int i0, .ref c1, .int i2, .int i3, .int i4, .int i5, .int i6, .int i7, .long i8, .int i9, .int i10, .ref c11, .ref c12, .ref c13, .ref c14, .ref c15, .ref c16, .int i17, .int i18, .ref c19, .ref c20, .ref c21, .ref c22, .int i23, .ref c24, .ref c25, .ref c26, .ref c27, .ref c28, .ref c29, .ref c30, .int i31, .int i32, .int i33, .int i34, .ref c35, .ref c36, .int i37, .int i38, .int i39, .int i40, .int i41, .int i42, .ref c43, .ref c44, .ref c45, .ref c46, .ref c47, .ref c48, .ref c49, .ref c50, .ref c51, .ref c52, .ref c53, .ref c54, .ref c55, .ref c56, .ref c57, .ref c58, .ref c59, .int i60, .ref c61, .int i62, .ref c63, .int i64, .int i65, .int i66, .ref c67, .ref c68, .ref c69, .ref c70, .ref c71, .ref c72, .int i73, .ref c74, .ref c75, .int i76, .int i77, .int i78, .ref c79, .int i80, .int i81, .int i82, .int i83, .int i84])), (c74, .inl (dA 0, 4096, .inl m74)), (c75, .inl (dA 0, 16, .inl (upd m75 (0 : Int32).toNatClampNeg x29)))] := hD
            obtain ⟨f31, ef31⟩ : ∃ f : Nat → Int32, f = (upd m75 (0 : Int32).toNatClampNeg x29) := ⟨_, rfl⟩
            rw [← ef31] at hP hD
            refine lv_aload_n hx hb dX11_group_170 rfl (lv_at hl 2 rfl) ?_
            refine g_get hx hb hg hown hK hP 0 rfl rfl inX11 75 (by decide) q1690 rfl dX11_group_171 ?_
            refine lv_iconst (v := 2) hx hb dX11_group_174 (by decide) ?_
            refine lv_lload_n hx hb dX11_group_175 rfl (lv_at hl 0 rfl) ?_
            refine lv_iload_n hx hb dX11_group_176 rfl (lv_at hl 1 rfl) ?_
            refine lv_i2l hx hb dX11_group_177 rfl ?_
            refine lv_topl (fun y32 y32e => ?_)
            refine lv_lrem hx hb dX11_group_178 (g_nzl y32e (by omega)) ?_
            refine lv_topl (fun y33 y33e => ?_)
            refine lv_l2i hx hb dX11_group_179 rfl ?_
            refine lv_topi (fun x34 e35 => ?_)
            refine va_iast hx hb hK hP hD hS 2 0 rfl rfl (by unfold vp_in; decide) dX11_group_180 (fun H locs hP hD hS => ?_)
            have hP : va_P D vwC [(t0, .inr (11, [.int i0, .ref c1, .int i2, .int i3, .int i4, .int i5, .int i6, .int i7, .long i8, .int i9, .int i10, .ref c11, .ref c12, .ref c13, .ref c14, .ref c15, .ref c16, .int i17, .int i18, .ref c19, .ref c20, .ref c21, .ref c22, .int i23, .ref c24, .ref c25, .ref c26, .ref c27, .ref c28, .ref c29, .ref c30, .int i31, .int i32, .int i33, .int i34, .ref c35, .ref c36, .int i37, .int i38, .int i39, .int i40, .int i41, .int i42, .ref c43, .ref c44, .ref c45, .ref c46, .ref c47, .ref c48, .ref c49, .ref c50, .ref c51, .ref c52, .ref c53, .ref c54, .ref c55, .ref c56, .ref c57, .ref c58, .ref c59, .int i60, .ref c61, .int i62, .ref c63, .int i64, .int i65, .int i66, .ref c67, .ref c68, .ref c69, .ref c70, .ref c71, .ref c72, .int i73, .ref c74, .ref c75, .int i76, .int i77, .int i78, .ref c79, .int i80, .int i81, .int i82, .int i83, .int i84])), (c74, .inl (dA 0, 4096, .inl m74)), (c75, .inl (dA 0, 16, .inl (upd f31 (2 : Int32).toNatClampNeg x34)))] H := hP
            have hD : va_D A [(t0, .inr (11, [.int i0, .ref c1, .int i2, .int i3, .int i4, .int i5, .int i6, .int i7, .long i8, .int i9, .int i10, .ref c11, .ref c12, .ref c13, .ref c14, .ref c15, .ref c16, .int i17, .int i18, .ref c19, .ref c20, .ref c21, .ref c22, .int i23, .ref c24, .ref c25, .ref c26, .ref c27, .ref c28, .ref c29, .ref c30, .int i31, .int i32, .int i33, .int i34, .ref c35, .ref c36, .int i37, .int i38, .int i39, .int i40, .int i41, .int i42, .ref c43, .ref c44, .ref c45, .ref c46, .ref c47, .ref c48, .ref c49, .ref c50, .ref c51, .ref c52, .ref c53, .ref c54, .ref c55, .ref c56, .ref c57, .ref c58, .ref c59, .int i60, .ref c61, .int i62, .ref c63, .int i64, .int i65, .int i66, .ref c67, .ref c68, .ref c69, .ref c70, .ref c71, .ref c72, .int i73, .ref c74, .ref c75, .int i76, .int i77, .int i78, .ref c79, .int i80, .int i81, .int i82, .int i83, .int i84])), (c74, .inl (dA 0, 4096, .inl m74)), (c75, .inl (dA 0, 16, .inl (upd f31 (2 : Int32).toNatClampNeg x34)))] := hD
            obtain ⟨f36, ef36⟩ : ∃ f : Nat → Int32, f = (upd f31 (2 : Int32).toNatClampNeg x34) := ⟨_, rfl⟩
            rw [← ef36] at hP hD
            refine lv_iconst (v := 0) hx hb dX11_group_181 (by decide) ?_
            exact g_iret hx hb hr rfl hlocks hK (m74, f36) hP hD hS ⟨(show 0 ≤ ((0 : Int32)).toInt ∧ ((0 : Int32)).toInt ≤ 3 from by decide), p7⟩ (Nat.le_of_ble_eq_true rfl) (Nat.le_of_ble_eq_true rfl) dX11_group_182
          · have g37 : x23.toInt > 0 := gi_nle (rfl : x23.toInt = x23.toInt) (by decide : (0 : Int32).toInt = 0) k25
            refine lv_iconst (v := 1) hx hb dX11_group_157 (by decide) ?_
            exact g_iret hx hb hr rfl hlocks hK (m74, m75) hP hD hS ⟨(show 0 ≤ ((1 : Int32)).toInt ∧ ((1 : Int32)).toInt ≤ 3 from by decide), p7⟩ (Nat.le_of_ble_eq_true rfl) (Nat.le_of_ble_eq_true rfl) dX11_group_158
      · have g38 : i82.toInt ≠ 6 := gi_neq (rfl : i82.toInt = i82.toInt) (by decide : (6 : Int32).toInt = 6) k8
        refine lv_iconst (v := 2) hx hb dX11_group_121 (by decide) ?_
        exact g_iret hx hb hr rfl hlocks hK (m74, m75) hP hD hS ⟨(show 0 ≤ ((2 : Int32)).toInt ∧ ((2 : Int32)).toInt ≤ 3 from by decide), p7⟩ (Nat.le_of_ble_eq_true rfl) (Nat.le_of_ble_eq_true rfl) dX11_group_122
    · have g39 : i82.toInt = 4 := gi_eq (rfl : i82.toInt = i82.toInt) (by decide : (4 : Int32).toInt = 4) k6
      refine lv_aload_n hx hb dX11_group_51 rfl (lv_at hl 1 rfl) ?_
      refine g_get hx hb hg hown hK hP 0 rfl rfl inX11 75 (by decide) q1690 rfl dX11_group_52 ?_
      refine lv_iconst (v := 0) hx hb dX11_group_55 (by decide) ?_
      refine va_iald hx hb hK hP 2 0 rfl rfl (by unfold vp_in; decide) dX11_group_56 ?_
      refine lv_topi (fun x40 e41 => ?_)
      refine lv_i2l hx hb dX11_group_57 rfl ?_
      refine lv_topl (fun y42 y42e => ?_)
      refine lv_iload_n hx hb dX11_group_58 rfl (lv_at hl 0 rfl) ?_
      refine lv_i2l hx hb dX11_group_59 rfl ?_
      refine lv_topl (fun y43 y43e => ?_)
      refine lv_lmul hx hb dX11_group_60 ?_
      refine lv_topl (fun y44 y44e => ?_)
      refine lv_lstore_n (lv' := [(2, .long y44), (1, .int x2), (0, .ref t0)]) hx hb dX11_group_61 rfl hl (by decide) rfl (fun ls hl => ?_)
      refine lv_aload_n hx hb dX11_group_62 rfl (lv_at hl 2 rfl) ?_
      refine g_get hx hb hg hown hK hP 0 rfl rfl inX11 75 (by decide) q1690 rfl dX11_group_63 ?_
      refine lv_iconst (v := 0) hx hb dX11_group_66 (by decide) ?_
      refine lv_lload_n hx hb dX11_group_67 rfl (lv_at hl 0 rfl) ?_
      refine lv_l2i hx hb dX11_group_68 rfl ?_
      refine lv_topi (fun x45 e46 => ?_)
      refine lv_ldcw hx hb hown (hg _ q1907) dX11_group_69 ?_
      refine lv_iand hx hb dX11_group_72 ?_
      refine lv_topi (fun x47 e48 => ?_)
      have g49 : 0 ≤ x47.toInt ∧ x47.toInt ≤ 65535 := g_msk e48 16 (by decide) (by decide) (by decide)
      refine va_iast hx hb hK hP hD hS 2 0 rfl rfl (by unfold vp_in; decide) dX11_group_73 (fun H locs hP hD hS => ?_)
      have hP : va_P D vwC [(t0, .inr (11, [.int i0, .ref c1, .int i2, .int i3, .int i4, .int i5, .int i6, .int i7, .long i8, .int i9, .int i10, .ref c11, .ref c12, .ref c13, .ref c14, .ref c15, .ref c16, .int i17, .int i18, .ref c19, .ref c20, .ref c21, .ref c22, .int i23, .ref c24, .ref c25, .ref c26, .ref c27, .ref c28, .ref c29, .ref c30, .int i31, .int i32, .int i33, .int i34, .ref c35, .ref c36, .int i37, .int i38, .int i39, .int i40, .int i41, .int i42, .ref c43, .ref c44, .ref c45, .ref c46, .ref c47, .ref c48, .ref c49, .ref c50, .ref c51, .ref c52, .ref c53, .ref c54, .ref c55, .ref c56, .ref c57, .ref c58, .ref c59, .int i60, .ref c61, .int i62, .ref c63, .int i64, .int i65, .int i66, .ref c67, .ref c68, .ref c69, .ref c70, .ref c71, .ref c72, .int i73, .ref c74, .ref c75, .int i76, .int i77, .int i78, .ref c79, .int i80, .int i81, .int i82, .int i83, .int i84])), (c74, .inl (dA 0, 4096, .inl m74)), (c75, .inl (dA 0, 16, .inl (upd m75 (0 : Int32).toNatClampNeg x47)))] H := hP
      have hD : va_D A [(t0, .inr (11, [.int i0, .ref c1, .int i2, .int i3, .int i4, .int i5, .int i6, .int i7, .long i8, .int i9, .int i10, .ref c11, .ref c12, .ref c13, .ref c14, .ref c15, .ref c16, .int i17, .int i18, .ref c19, .ref c20, .ref c21, .ref c22, .int i23, .ref c24, .ref c25, .ref c26, .ref c27, .ref c28, .ref c29, .ref c30, .int i31, .int i32, .int i33, .int i34, .ref c35, .ref c36, .int i37, .int i38, .int i39, .int i40, .int i41, .int i42, .ref c43, .ref c44, .ref c45, .ref c46, .ref c47, .ref c48, .ref c49, .ref c50, .ref c51, .ref c52, .ref c53, .ref c54, .ref c55, .ref c56, .ref c57, .ref c58, .ref c59, .int i60, .ref c61, .int i62, .ref c63, .int i64, .int i65, .int i66, .ref c67, .ref c68, .ref c69, .ref c70, .ref c71, .ref c72, .int i73, .ref c74, .ref c75, .int i76, .int i77, .int i78, .ref c79, .int i80, .int i81, .int i82, .int i83, .int i84])), (c74, .inl (dA 0, 4096, .inl m74)), (c75, .inl (dA 0, 16, .inl (upd m75 (0 : Int32).toNatClampNeg x47)))] := hD
      obtain ⟨f50, ef50⟩ : ∃ f : Nat → Int32, f = (upd m75 (0 : Int32).toNatClampNeg x47) := ⟨_, rfl⟩
      rw [← ef50] at hP hD
      refine lv_aload_n hx hb dX11_group_74 rfl (lv_at hl 2 rfl) ?_
      refine g_get hx hb hg hown hK hP 0 rfl rfl inX11 75 (by decide) q1690 rfl dX11_group_75 ?_
      refine lv_iconst (v := 2) hx hb dX11_group_78 (by decide) ?_
      refine lv_lload_n hx hb dX11_group_79 rfl (lv_at hl 0 rfl) ?_
      refine lv_bipush (v := 16) hx hb dX11_group_80 (by decide) ?_
      refine lv_lshr hx hb dX11_group_82 rfl ?_
      refine lv_topl (fun y51 y51e => ?_)
      refine lv_l2i hx hb dX11_group_83 rfl ?_
      refine lv_topi (fun x52 e53 => ?_)
      refine lv_ldcw hx hb hown (hg _ q1907) dX11_group_84 ?_
      refine lv_iand hx hb dX11_group_87 ?_
      refine lv_topi (fun x54 e55 => ?_)
      have g56 : 0 ≤ x54.toInt ∧ x54.toInt ≤ 65535 := g_msk e55 16 (by decide) (by decide) (by decide)
      refine va_iast hx hb hK hP hD hS 2 0 rfl rfl (by unfold vp_in; decide) dX11_group_88 (fun H locs hP hD hS => ?_)
      have hP : va_P D vwC [(t0, .inr (11, [.int i0, .ref c1, .int i2, .int i3, .int i4, .int i5, .int i6, .int i7, .long i8, .int i9, .int i10, .ref c11, .ref c12, .ref c13, .ref c14, .ref c15, .ref c16, .int i17, .int i18, .ref c19, .ref c20, .ref c21, .ref c22, .int i23, .ref c24, .ref c25, .ref c26, .ref c27, .ref c28, .ref c29, .ref c30, .int i31, .int i32, .int i33, .int i34, .ref c35, .ref c36, .int i37, .int i38, .int i39, .int i40, .int i41, .int i42, .ref c43, .ref c44, .ref c45, .ref c46, .ref c47, .ref c48, .ref c49, .ref c50, .ref c51, .ref c52, .ref c53, .ref c54, .ref c55, .ref c56, .ref c57, .ref c58, .ref c59, .int i60, .ref c61, .int i62, .ref c63, .int i64, .int i65, .int i66, .ref c67, .ref c68, .ref c69, .ref c70, .ref c71, .ref c72, .int i73, .ref c74, .ref c75, .int i76, .int i77, .int i78, .ref c79, .int i80, .int i81, .int i82, .int i83, .int i84])), (c74, .inl (dA 0, 4096, .inl m74)), (c75, .inl (dA 0, 16, .inl (upd f50 (2 : Int32).toNatClampNeg x54)))] H := hP
      have hD : va_D A [(t0, .inr (11, [.int i0, .ref c1, .int i2, .int i3, .int i4, .int i5, .int i6, .int i7, .long i8, .int i9, .int i10, .ref c11, .ref c12, .ref c13, .ref c14, .ref c15, .ref c16, .int i17, .int i18, .ref c19, .ref c20, .ref c21, .ref c22, .int i23, .ref c24, .ref c25, .ref c26, .ref c27, .ref c28, .ref c29, .ref c30, .int i31, .int i32, .int i33, .int i34, .ref c35, .ref c36, .int i37, .int i38, .int i39, .int i40, .int i41, .int i42, .ref c43, .ref c44, .ref c45, .ref c46, .ref c47, .ref c48, .ref c49, .ref c50, .ref c51, .ref c52, .ref c53, .ref c54, .ref c55, .ref c56, .ref c57, .ref c58, .ref c59, .int i60, .ref c61, .int i62, .ref c63, .int i64, .int i65, .int i66, .ref c67, .ref c68, .ref c69, .ref c70, .ref c71, .ref c72, .int i73, .ref c74, .ref c75, .int i76, .int i77, .int i78, .ref c79, .int i80, .int i81, .int i82, .int i83, .int i84])), (c74, .inl (dA 0, 4096, .inl m74)), (c75, .inl (dA 0, 16, .inl (upd f50 (2 : Int32).toNatClampNeg x54)))] := hD
      obtain ⟨f57, ef57⟩ : ∃ f : Nat → Int32, f = (upd f50 (2 : Int32).toNatClampNeg x54) := ⟨_, rfl⟩
      rw [← ef57] at hP hD
      refine lv_aload_n hx hb dX11_group_89 rfl (lv_at hl 2 rfl) ?_
      refine g_get hx hb hg hown hK hP 0 rfl rfl inX11 75 (by decide) q1690 rfl dX11_group_90 ?_
      refine lv_bipush (v := 13) hx hb dX11_group_93 (by decide) ?_
      refine lv_aload_n hx hb dX11_group_95 rfl (lv_at hl 2 rfl) ?_
      refine g_get hx hb hg hown hK hP 0 rfl rfl inX11 75 (by decide) q1690 rfl dX11_group_96 ?_
      refine lv_iconst (v := 2) hx hb dX11_group_99 (by decide) ?_
      refine va_iald hx hb hK hP 2 0 rfl rfl (by unfold vp_in; decide) dX11_group_100 ?_
      refine lv_topi (fun x58 e59 => ?_)
      refine lv_if_eq (tgt := 108) hx hb dX11_group_101 (by decide) (fun k60 => ?_) (fun k60 => ?_)
      · have g61 : x58.toInt = 0 := gi_eq (rfl : x58.toInt = x58.toInt) (by decide : (0 : Int32).toInt = 0) k60
        refine lv_iconst (v := 0) hx hb dX11_group_108 (by decide) ?_
        refine va_iast hx hb hK hP hD hS 2 0 rfl rfl (by unfold vp_in; decide) dX11_group_109 (fun H locs hP hD hS => ?_)
        have hP : va_P D vwC [(t0, .inr (11, [.int i0, .ref c1, .int i2, .int i3, .int i4, .int i5, .int i6, .int i7, .long i8, .int i9, .int i10, .ref c11, .ref c12, .ref c13, .ref c14, .ref c15, .ref c16, .int i17, .int i18, .ref c19, .ref c20, .ref c21, .ref c22, .int i23, .ref c24, .ref c25, .ref c26, .ref c27, .ref c28, .ref c29, .ref c30, .int i31, .int i32, .int i33, .int i34, .ref c35, .ref c36, .int i37, .int i38, .int i39, .int i40, .int i41, .int i42, .ref c43, .ref c44, .ref c45, .ref c46, .ref c47, .ref c48, .ref c49, .ref c50, .ref c51, .ref c52, .ref c53, .ref c54, .ref c55, .ref c56, .ref c57, .ref c58, .ref c59, .int i60, .ref c61, .int i62, .ref c63, .int i64, .int i65, .int i66, .ref c67, .ref c68, .ref c69, .ref c70, .ref c71, .ref c72, .int i73, .ref c74, .ref c75, .int i76, .int i77, .int i78, .ref c79, .int i80, .int i81, .int i82, .int i83, .int i84])), (c74, .inl (dA 0, 4096, .inl m74)), (c75, .inl (dA 0, 16, .inl (upd f57 (13 : Int32).toNatClampNeg 0)))] H := hP
        have hD : va_D A [(t0, .inr (11, [.int i0, .ref c1, .int i2, .int i3, .int i4, .int i5, .int i6, .int i7, .long i8, .int i9, .int i10, .ref c11, .ref c12, .ref c13, .ref c14, .ref c15, .ref c16, .int i17, .int i18, .ref c19, .ref c20, .ref c21, .ref c22, .int i23, .ref c24, .ref c25, .ref c26, .ref c27, .ref c28, .ref c29, .ref c30, .int i31, .int i32, .int i33, .int i34, .ref c35, .ref c36, .int i37, .int i38, .int i39, .int i40, .int i41, .int i42, .ref c43, .ref c44, .ref c45, .ref c46, .ref c47, .ref c48, .ref c49, .ref c50, .ref c51, .ref c52, .ref c53, .ref c54, .ref c55, .ref c56, .ref c57, .ref c58, .ref c59, .int i60, .ref c61, .int i62, .ref c63, .int i64, .int i65, .int i66, .ref c67, .ref c68, .ref c69, .ref c70, .ref c71, .ref c72, .int i73, .ref c74, .ref c75, .int i76, .int i77, .int i78, .ref c79, .int i80, .int i81, .int i82, .int i83, .int i84])), (c74, .inl (dA 0, 4096, .inl m74)), (c75, .inl (dA 0, 16, .inl (upd f57 (13 : Int32).toNatClampNeg 0)))] := hD
        obtain ⟨f62, ef62⟩ : ∃ f : Nat → Int32, f = (upd f57 (13 : Int32).toNatClampNeg 0) := ⟨_, rfl⟩
        rw [← ef62] at hP hD
        refine lv_iconst (v := 0) hx hb dX11_group_110 (by decide) ?_
        exact g_iret hx hb hr rfl hlocks hK (m74, f62) hP hD hS ⟨(show 0 ≤ ((0 : Int32)).toInt ∧ ((0 : Int32)).toInt ≤ 3 from by decide), p7⟩ (Nat.le_of_ble_eq_true rfl) (Nat.le_of_ble_eq_true rfl) dX11_group_111
      · have g63 : x58.toInt ≠ 0 := gi_neq (rfl : x58.toInt = x58.toInt) (by decide : (0 : Int32).toInt = 0) k60
        refine lv_iconst (v := 1) hx hb dX11_group_104 (by decide) ?_
        refine lv_goto (tgt := 109) hx hb dX11_group_105 (by decide) ?_
        refine va_iast hx hb hK hP hD hS 2 0 rfl rfl (by unfold vp_in; decide) dX11_group_109 (fun H locs hP hD hS => ?_)
        have hP : va_P D vwC [(t0, .inr (11, [.int i0, .ref c1, .int i2, .int i3, .int i4, .int i5, .int i6, .int i7, .long i8, .int i9, .int i10, .ref c11, .ref c12, .ref c13, .ref c14, .ref c15, .ref c16, .int i17, .int i18, .ref c19, .ref c20, .ref c21, .ref c22, .int i23, .ref c24, .ref c25, .ref c26, .ref c27, .ref c28, .ref c29, .ref c30, .int i31, .int i32, .int i33, .int i34, .ref c35, .ref c36, .int i37, .int i38, .int i39, .int i40, .int i41, .int i42, .ref c43, .ref c44, .ref c45, .ref c46, .ref c47, .ref c48, .ref c49, .ref c50, .ref c51, .ref c52, .ref c53, .ref c54, .ref c55, .ref c56, .ref c57, .ref c58, .ref c59, .int i60, .ref c61, .int i62, .ref c63, .int i64, .int i65, .int i66, .ref c67, .ref c68, .ref c69, .ref c70, .ref c71, .ref c72, .int i73, .ref c74, .ref c75, .int i76, .int i77, .int i78, .ref c79, .int i80, .int i81, .int i82, .int i83, .int i84])), (c74, .inl (dA 0, 4096, .inl m74)), (c75, .inl (dA 0, 16, .inl (upd f57 (13 : Int32).toNatClampNeg 1)))] H := hP
        have hD : va_D A [(t0, .inr (11, [.int i0, .ref c1, .int i2, .int i3, .int i4, .int i5, .int i6, .int i7, .long i8, .int i9, .int i10, .ref c11, .ref c12, .ref c13, .ref c14, .ref c15, .ref c16, .int i17, .int i18, .ref c19, .ref c20, .ref c21, .ref c22, .int i23, .ref c24, .ref c25, .ref c26, .ref c27, .ref c28, .ref c29, .ref c30, .int i31, .int i32, .int i33, .int i34, .ref c35, .ref c36, .int i37, .int i38, .int i39, .int i40, .int i41, .int i42, .ref c43, .ref c44, .ref c45, .ref c46, .ref c47, .ref c48, .ref c49, .ref c50, .ref c51, .ref c52, .ref c53, .ref c54, .ref c55, .ref c56, .ref c57, .ref c58, .ref c59, .int i60, .ref c61, .int i62, .ref c63, .int i64, .int i65, .int i66, .ref c67, .ref c68, .ref c69, .ref c70, .ref c71, .ref c72, .int i73, .ref c74, .ref c75, .int i76, .int i77, .int i78, .ref c79, .int i80, .int i81, .int i82, .int i83, .int i84])), (c74, .inl (dA 0, 4096, .inl m74)), (c75, .inl (dA 0, 16, .inl (upd f57 (13 : Int32).toNatClampNeg 1)))] := hD
        obtain ⟨f64, ef64⟩ : ∃ f : Nat → Int32, f = (upd f57 (13 : Int32).toNatClampNeg 1) := ⟨_, rfl⟩
        rw [← ef64] at hP hD
        refine lv_iconst (v := 0) hx hb dX11_group_110 (by decide) ?_
        exact g_iret hx hb hr rfl hlocks hK (m74, f64) hP hD hS ⟨(show 0 ≤ ((0 : Int32)).toInt ∧ ((0 : Int32)).toInt ≤ 3 from by decide), p7⟩ (Nat.le_of_ble_eq_true rfl) (Nat.le_of_ble_eq_true rfl) dX11_group_111
  · have g65 : i82.toInt = 3 := gi_eq (rfl : i82.toInt = i82.toInt) (by decide : (3 : Int32).toInt = 3) k4
    refine lv_aload_n hx hb dX11_group_13 rfl (lv_at hl 1 rfl) ?_
    refine g_get hx hb hg hown hK hP 0 rfl rfl inX11 75 (by decide) q1690 rfl dX11_group_14 ?_
    refine lv_bipush (v := 13) hx hb dX11_group_17 (by decide) ?_
    refine lv_iload_n hx hb dX11_group_19 rfl (lv_at hl 0 rfl) ?_
    refine lv_if_eq (tgt := 27) hx hb dX11_group_20 (by decide) (fun k66 => ?_) (fun k66 => ?_)
    · have g67 : x2.toInt = 0 := gi_eq (rfl : x2.toInt = x2.toInt) (by decide : (0 : Int32).toInt = 0) k66
      refine lv_iconst (v := 0) hx hb dX11_group_27 (by decide) ?_
      refine va_iast hx hb hK hP hD hS 2 0 rfl rfl (by unfold vp_in; decide) dX11_group_28 (fun H locs hP hD hS => ?_)
      have hP : va_P D vwC [(t0, .inr (11, [.int i0, .ref c1, .int i2, .int i3, .int i4, .int i5, .int i6, .int i7, .long i8, .int i9, .int i10, .ref c11, .ref c12, .ref c13, .ref c14, .ref c15, .ref c16, .int i17, .int i18, .ref c19, .ref c20, .ref c21, .ref c22, .int i23, .ref c24, .ref c25, .ref c26, .ref c27, .ref c28, .ref c29, .ref c30, .int i31, .int i32, .int i33, .int i34, .ref c35, .ref c36, .int i37, .int i38, .int i39, .int i40, .int i41, .int i42, .ref c43, .ref c44, .ref c45, .ref c46, .ref c47, .ref c48, .ref c49, .ref c50, .ref c51, .ref c52, .ref c53, .ref c54, .ref c55, .ref c56, .ref c57, .ref c58, .ref c59, .int i60, .ref c61, .int i62, .ref c63, .int i64, .int i65, .int i66, .ref c67, .ref c68, .ref c69, .ref c70, .ref c71, .ref c72, .int i73, .ref c74, .ref c75, .int i76, .int i77, .int i78, .ref c79, .int i80, .int i81, .int i82, .int i83, .int i84])), (c74, .inl (dA 0, 4096, .inl m74)), (c75, .inl (dA 0, 16, .inl (upd m75 (13 : Int32).toNatClampNeg 0)))] H := hP
      have hD : va_D A [(t0, .inr (11, [.int i0, .ref c1, .int i2, .int i3, .int i4, .int i5, .int i6, .int i7, .long i8, .int i9, .int i10, .ref c11, .ref c12, .ref c13, .ref c14, .ref c15, .ref c16, .int i17, .int i18, .ref c19, .ref c20, .ref c21, .ref c22, .int i23, .ref c24, .ref c25, .ref c26, .ref c27, .ref c28, .ref c29, .ref c30, .int i31, .int i32, .int i33, .int i34, .ref c35, .ref c36, .int i37, .int i38, .int i39, .int i40, .int i41, .int i42, .ref c43, .ref c44, .ref c45, .ref c46, .ref c47, .ref c48, .ref c49, .ref c50, .ref c51, .ref c52, .ref c53, .ref c54, .ref c55, .ref c56, .ref c57, .ref c58, .ref c59, .int i60, .ref c61, .int i62, .ref c63, .int i64, .int i65, .int i66, .ref c67, .ref c68, .ref c69, .ref c70, .ref c71, .ref c72, .int i73, .ref c74, .ref c75, .int i76, .int i77, .int i78, .ref c79, .int i80, .int i81, .int i82, .int i83, .int i84])), (c74, .inl (dA 0, 4096, .inl m74)), (c75, .inl (dA 0, 16, .inl (upd m75 (13 : Int32).toNatClampNeg 0)))] := hD
      obtain ⟨f68, ef68⟩ : ∃ f : Nat → Int32, f = (upd m75 (13 : Int32).toNatClampNeg 0) := ⟨_, rfl⟩
      rw [← ef68] at hP hD
      refine lv_aload_n hx hb dX11_group_29 rfl (lv_at hl 1 rfl) ?_
      refine lv_iload_n hx hb dX11_group_30 rfl (lv_at hl 0 rfl) ?_
      refine lv_ineg hx hb dX11_group_31 ?_
      refine lv_topi (fun x69 e70 => ?_)
      refine g_Vv (n := 1) (As := [.int x69]) (rest := []) (wr := [(c74, .inl (dA 0, 4096, .inl m74))]) hx hb hml hg hown hK hP hD hS hA (s_X11_flags l D dA t0 x69 i0 c1 i2 i3 i4 i5 i6 i7 i8 i9 i10 c11 c12 c13 c14 c15 c16 i17 i18 c19 c20 c21 c22 i23 c24 c25 c26 c27 c28 c29 c30 i31 i32 i33 i34 c35 c36 i37 i38 i39 i40 i41 i42 c43 c44 c45 c46 c47 c48 c49 c50 c51 c52 c53 c54 c55 c56 c57 c58 c59 i60 c61 i62 c63 i64 i65 i66 c67 c68 c69 c70 c71 c72 i73 c74 c75 i76 i77 i78 c79 i80 i81 i82 i83 i84 f68 (by omega) (by omega) (by omega) (by omega) (by omega) (by omega) (by omega) _) [0, 2] [1] rfl (by decide) rfl (by decide) (by decide) 0 rfl rfl q2168 q160 q2165 q2167 q138 (by decide +kernel) ⟨(Nat.le_of_ble_eq_true rfl), (Nat.le_of_ble_eq_true rfl)⟩ rfl hl.1 rfl (Nat.le_of_ble_eq_true rfl) dX11_group_32 ⟨(Nat.le_of_ble_eq_true rfl), (Nat.le_of_ble_eq_true rfl)⟩ (fun u71 H locs w73 hP hD hS => ?_)
      refine W.widen (k := 0) (n := 0) (Nat.le_of_ble_eq_true rfl) (Nat.le_of_ble_eq_true rfl) ?_
      obtain ⟨f74, rfl⟩ : ∃ z, z = u71 := ⟨_, rfl⟩
      have hP : va_P D vwC [(c74, .inl (dA 0, 4096, .inl m74)), (t0, .inr (11, [.int i0, .ref c1, .int i2, .int i3, .int i4, .int i5, .int i6, .int i7, .long i8, .int i9, .int i10, .ref c11, .ref c12, .ref c13, .ref c14, .ref c15, .ref c16, .int i17, .int i18, .ref c19, .ref c20, .ref c21, .ref c22, .int i23, .ref c24, .ref c25, .ref c26, .ref c27, .ref c28, .ref c29, .ref c30, .int i31, .int i32, .int i33, .int i34, .ref c35, .ref c36, .int i37, .int i38, .int i39, .int i40, .int i41, .int i42, .ref c43, .ref c44, .ref c45, .ref c46, .ref c47, .ref c48, .ref c49, .ref c50, .ref c51, .ref c52, .ref c53, .ref c54, .ref c55, .ref c56, .ref c57, .ref c58, .ref c59, .int i60, .ref c61, .int i62, .ref c63, .int i64, .int i65, .int i66, .ref c67, .ref c68, .ref c69, .ref c70, .ref c71, .ref c72, .int i73, .ref c74, .ref c75, .int i76, .int i77, .int i78, .ref c79, .int i80, .int i81, .int i82, .int i83, .int i84])), (c75, .inl (dA 0, 16, .inl f74))] H := hP
      have hD : va_D A [(c74, .inl (dA 0, 4096, .inl m74)), (t0, .inr (11, [.int i0, .ref c1, .int i2, .int i3, .int i4, .int i5, .int i6, .int i7, .long i8, .int i9, .int i10, .ref c11, .ref c12, .ref c13, .ref c14, .ref c15, .ref c16, .int i17, .int i18, .ref c19, .ref c20, .ref c21, .ref c22, .int i23, .ref c24, .ref c25, .ref c26, .ref c27, .ref c28, .ref c29, .ref c30, .int i31, .int i32, .int i33, .int i34, .ref c35, .ref c36, .int i37, .int i38, .int i39, .int i40, .int i41, .int i42, .ref c43, .ref c44, .ref c45, .ref c46, .ref c47, .ref c48, .ref c49, .ref c50, .ref c51, .ref c52, .ref c53, .ref c54, .ref c55, .ref c56, .ref c57, .ref c58, .ref c59, .int i60, .ref c61, .int i62, .ref c63, .int i64, .int i65, .int i66, .ref c67, .ref c68, .ref c69, .ref c70, .ref c71, .ref c72, .int i73, .ref c74, .ref c75, .int i76, .int i77, .int i78, .ref c79, .int i80, .int i81, .int i82, .int i83, .int i84])), (c75, .inl (dA 0, 16, .inl f74))] := hD
      refine lv_aload_n hx hb dX11_group_35 rfl (lv_at hl 1 rfl) ?_
      refine lv_iload_n hx hb dX11_group_36 rfl (lv_at hl 0 rfl) ?_
      refine lv_ineg hx hb dX11_group_37 ?_
      refine lv_topi (fun x75 e76 => ?_)
      refine g_Vv (n := 1) (As := [.int x75]) (rest := []) (wr := []) hx hb hml hg hown hK hP hD hS hA (s_X11_formSet l D dA t0 x75 i0 c1 i2 i3 i4 i5 i6 i7 i8 i9 i10 c11 c12 c13 c14 c15 c16 i17 i18 c19 c20 c21 c22 i23 c24 c25 c26 c27 c28 c29 c30 i31 i32 i33 i34 c35 c36 i37 i38 i39 i40 i41 i42 c43 c44 c45 c46 c47 c48 c49 c50 c51 c52 c53 c54 c55 c56 c57 c58 c59 i60 c61 i62 c63 i64 i65 i66 c67 c68 c69 c70 c71 c72 i73 c74 c75 i76 i77 i78 c79 i80 i81 i82 i83 i84 m74 f74 (by omega) (by omega) (by omega) (by omega) (by omega) (by omega) (by omega) p7 _) [1, 0, 2] [] rfl (by decide) rfl (by decide) (by decide) 0 rfl rfl q2172 q160 q2169 q2171 q139 (by decide +kernel) ⟨(Nat.le_of_ble_eq_true rfl), (Nat.le_of_ble_eq_true rfl)⟩ rfl hl.1 rfl (Nat.le_of_ble_eq_true rfl) dX11_group_38 ⟨(Nat.le_of_ble_eq_true rfl), (Nat.le_of_ble_eq_true rfl)⟩ (fun u77 H locs w79 hP hD hS => ?_)
      refine W.widen (k := 0) (n := 0) (Nat.le_of_ble_eq_true rfl) (Nat.le_of_ble_eq_true rfl) ?_
      obtain ⟨f80, f81⟩ := u77
      have hP : va_P D vwC [(t0, .inr (11, [.int i0, .ref c1, .int i2, .int i3, .int i4, .int i5, .int i6, .int i7, .long i8, .int i9, .int i10, .ref c11, .ref c12, .ref c13, .ref c14, .ref c15, .ref c16, .int i17, .int i18, .ref c19, .ref c20, .ref c21, .ref c22, .int i23, .ref c24, .ref c25, .ref c26, .ref c27, .ref c28, .ref c29, .ref c30, .int i31, .int i32, .int i33, .int i34, .ref c35, .ref c36, .int i37, .int i38, .int i39, .int i40, .int i41, .int i42, .ref c43, .ref c44, .ref c45, .ref c46, .ref c47, .ref c48, .ref c49, .ref c50, .ref c51, .ref c52, .ref c53, .ref c54, .ref c55, .ref c56, .ref c57, .ref c58, .ref c59, .int i60, .ref c61, .int i62, .ref c63, .int i64, .int i65, .int i66, .ref c67, .ref c68, .ref c69, .ref c70, .ref c71, .ref c72, .int i73, .ref c74, .ref c75, .int i76, .int i77, .int i78, .ref c79, .int i80, .int i81, .int i82, .int i83, .int i84])), (c74, .inl (dA 0, 4096, .inl f80)), (c75, .inl (dA 0, 16, .inl f81))] H := hP
      have hD : va_D A [(t0, .inr (11, [.int i0, .ref c1, .int i2, .int i3, .int i4, .int i5, .int i6, .int i7, .long i8, .int i9, .int i10, .ref c11, .ref c12, .ref c13, .ref c14, .ref c15, .ref c16, .int i17, .int i18, .ref c19, .ref c20, .ref c21, .ref c22, .int i23, .ref c24, .ref c25, .ref c26, .ref c27, .ref c28, .ref c29, .ref c30, .int i31, .int i32, .int i33, .int i34, .ref c35, .ref c36, .int i37, .int i38, .int i39, .int i40, .int i41, .int i42, .ref c43, .ref c44, .ref c45, .ref c46, .ref c47, .ref c48, .ref c49, .ref c50, .ref c51, .ref c52, .ref c53, .ref c54, .ref c55, .ref c56, .ref c57, .ref c58, .ref c59, .int i60, .ref c61, .int i62, .ref c63, .int i64, .int i65, .int i66, .ref c67, .ref c68, .ref c69, .ref c70, .ref c71, .ref c72, .int i73, .ref c74, .ref c75, .int i76, .int i77, .int i78, .ref c79, .int i80, .int i81, .int i82, .int i83, .int i84])), (c74, .inl (dA 0, 4096, .inl f80)), (c75, .inl (dA 0, 16, .inl f81))] := hD
      have g82 := w79
      have g82 : ∀ j : Nat, 0 ≤ (f80 j).toInt ∧ (f80 j).toInt ≤ 255 := g82
      refine lv_iconst (v := 0) hx hb dX11_group_41 (by decide) ?_
      exact g_iret hx hb hr rfl hlocks hK (f80, f81) hP hD hS ⟨(show 0 ≤ ((0 : Int32)).toInt ∧ ((0 : Int32)).toInt ≤ 3 from by decide), g82⟩ (Nat.le_of_ble_eq_true rfl) (Nat.le_of_ble_eq_true rfl) dX11_group_42
    · have g83 : x2.toInt ≠ 0 := gi_neq (rfl : x2.toInt = x2.toInt) (by decide : (0 : Int32).toInt = 0) k66
      refine lv_iconst (v := 1) hx hb dX11_group_23 (by decide) ?_
      refine lv_goto (tgt := 28) hx hb dX11_group_24 (by decide) ?_
      refine va_iast hx hb hK hP hD hS 2 0 rfl rfl (by unfold vp_in; decide) dX11_group_28 (fun H locs hP hD hS => ?_)
      have hP : va_P D vwC [(t0, .inr (11, [.int i0, .ref c1, .int i2, .int i3, .int i4, .int i5, .int i6, .int i7, .long i8, .int i9, .int i10, .ref c11, .ref c12, .ref c13, .ref c14, .ref c15, .ref c16, .int i17, .int i18, .ref c19, .ref c20, .ref c21, .ref c22, .int i23, .ref c24, .ref c25, .ref c26, .ref c27, .ref c28, .ref c29, .ref c30, .int i31, .int i32, .int i33, .int i34, .ref c35, .ref c36, .int i37, .int i38, .int i39, .int i40, .int i41, .int i42, .ref c43, .ref c44, .ref c45, .ref c46, .ref c47, .ref c48, .ref c49, .ref c50, .ref c51, .ref c52, .ref c53, .ref c54, .ref c55, .ref c56, .ref c57, .ref c58, .ref c59, .int i60, .ref c61, .int i62, .ref c63, .int i64, .int i65, .int i66, .ref c67, .ref c68, .ref c69, .ref c70, .ref c71, .ref c72, .int i73, .ref c74, .ref c75, .int i76, .int i77, .int i78, .ref c79, .int i80, .int i81, .int i82, .int i83, .int i84])), (c74, .inl (dA 0, 4096, .inl m74)), (c75, .inl (dA 0, 16, .inl (upd m75 (13 : Int32).toNatClampNeg 1)))] H := hP
      have hD : va_D A [(t0, .inr (11, [.int i0, .ref c1, .int i2, .int i3, .int i4, .int i5, .int i6, .int i7, .long i8, .int i9, .int i10, .ref c11, .ref c12, .ref c13, .ref c14, .ref c15, .ref c16, .int i17, .int i18, .ref c19, .ref c20, .ref c21, .ref c22, .int i23, .ref c24, .ref c25, .ref c26, .ref c27, .ref c28, .ref c29, .ref c30, .int i31, .int i32, .int i33, .int i34, .ref c35, .ref c36, .int i37, .int i38, .int i39, .int i40, .int i41, .int i42, .ref c43, .ref c44, .ref c45, .ref c46, .ref c47, .ref c48, .ref c49, .ref c50, .ref c51, .ref c52, .ref c53, .ref c54, .ref c55, .ref c56, .ref c57, .ref c58, .ref c59, .int i60, .ref c61, .int i62, .ref c63, .int i64, .int i65, .int i66, .ref c67, .ref c68, .ref c69, .ref c70, .ref c71, .ref c72, .int i73, .ref c74, .ref c75, .int i76, .int i77, .int i78, .ref c79, .int i80, .int i81, .int i82, .int i83, .int i84])), (c74, .inl (dA 0, 4096, .inl m74)), (c75, .inl (dA 0, 16, .inl (upd m75 (13 : Int32).toNatClampNeg 1)))] := hD
      obtain ⟨f84, ef84⟩ : ∃ f : Nat → Int32, f = (upd m75 (13 : Int32).toNatClampNeg 1) := ⟨_, rfl⟩
      rw [← ef84] at hP hD
      refine lv_aload_n hx hb dX11_group_29 rfl (lv_at hl 1 rfl) ?_
      refine lv_iload_n hx hb dX11_group_30 rfl (lv_at hl 0 rfl) ?_
      refine lv_ineg hx hb dX11_group_31 ?_
      refine lv_topi (fun x85 e86 => ?_)
      refine g_Vv (n := 1) (As := [.int x85]) (rest := []) (wr := [(c74, .inl (dA 0, 4096, .inl m74))]) hx hb hml hg hown hK hP hD hS hA (s_X11_flags l D dA t0 x85 i0 c1 i2 i3 i4 i5 i6 i7 i8 i9 i10 c11 c12 c13 c14 c15 c16 i17 i18 c19 c20 c21 c22 i23 c24 c25 c26 c27 c28 c29 c30 i31 i32 i33 i34 c35 c36 i37 i38 i39 i40 i41 i42 c43 c44 c45 c46 c47 c48 c49 c50 c51 c52 c53 c54 c55 c56 c57 c58 c59 i60 c61 i62 c63 i64 i65 i66 c67 c68 c69 c70 c71 c72 i73 c74 c75 i76 i77 i78 c79 i80 i81 i82 i83 i84 f84 (by omega) (by omega) (by omega) (by omega) (by omega) (by omega) (by omega) _) [0, 2] [1] rfl (by decide) rfl (by decide) (by decide) 0 rfl rfl q2168 q160 q2165 q2167 q138 (by decide +kernel) ⟨(Nat.le_of_ble_eq_true rfl), (Nat.le_of_ble_eq_true rfl)⟩ rfl hl.1 rfl (Nat.le_of_ble_eq_true rfl) dX11_group_32 ⟨(Nat.le_of_ble_eq_true rfl), (Nat.le_of_ble_eq_true rfl)⟩ (fun u87 H locs w89 hP hD hS => ?_)
      refine W.widen (k := 0) (n := 0) (Nat.le_of_ble_eq_true rfl) (Nat.le_of_ble_eq_true rfl) ?_
      obtain ⟨f90, rfl⟩ : ∃ z, z = u87 := ⟨_, rfl⟩
      have hP : va_P D vwC [(c74, .inl (dA 0, 4096, .inl m74)), (t0, .inr (11, [.int i0, .ref c1, .int i2, .int i3, .int i4, .int i5, .int i6, .int i7, .long i8, .int i9, .int i10, .ref c11, .ref c12, .ref c13, .ref c14, .ref c15, .ref c16, .int i17, .int i18, .ref c19, .ref c20, .ref c21, .ref c22, .int i23, .ref c24, .ref c25, .ref c26, .ref c27, .ref c28, .ref c29, .ref c30, .int i31, .int i32, .int i33, .int i34, .ref c35, .ref c36, .int i37, .int i38, .int i39, .int i40, .int i41, .int i42, .ref c43, .ref c44, .ref c45, .ref c46, .ref c47, .ref c48, .ref c49, .ref c50, .ref c51, .ref c52, .ref c53, .ref c54, .ref c55, .ref c56, .ref c57, .ref c58, .ref c59, .int i60, .ref c61, .int i62, .ref c63, .int i64, .int i65, .int i66, .ref c67, .ref c68, .ref c69, .ref c70, .ref c71, .ref c72, .int i73, .ref c74, .ref c75, .int i76, .int i77, .int i78, .ref c79, .int i80, .int i81, .int i82, .int i83, .int i84])), (c75, .inl (dA 0, 16, .inl f90))] H := hP
      have hD : va_D A [(c74, .inl (dA 0, 4096, .inl m74)), (t0, .inr (11, [.int i0, .ref c1, .int i2, .int i3, .int i4, .int i5, .int i6, .int i7, .long i8, .int i9, .int i10, .ref c11, .ref c12, .ref c13, .ref c14, .ref c15, .ref c16, .int i17, .int i18, .ref c19, .ref c20, .ref c21, .ref c22, .int i23, .ref c24, .ref c25, .ref c26, .ref c27, .ref c28, .ref c29, .ref c30, .int i31, .int i32, .int i33, .int i34, .ref c35, .ref c36, .int i37, .int i38, .int i39, .int i40, .int i41, .int i42, .ref c43, .ref c44, .ref c45, .ref c46, .ref c47, .ref c48, .ref c49, .ref c50, .ref c51, .ref c52, .ref c53, .ref c54, .ref c55, .ref c56, .ref c57, .ref c58, .ref c59, .int i60, .ref c61, .int i62, .ref c63, .int i64, .int i65, .int i66, .ref c67, .ref c68, .ref c69, .ref c70, .ref c71, .ref c72, .int i73, .ref c74, .ref c75, .int i76, .int i77, .int i78, .ref c79, .int i80, .int i81, .int i82, .int i83, .int i84])), (c75, .inl (dA 0, 16, .inl f90))] := hD
      refine lv_aload_n hx hb dX11_group_35 rfl (lv_at hl 1 rfl) ?_
      refine lv_iload_n hx hb dX11_group_36 rfl (lv_at hl 0 rfl) ?_
      refine lv_ineg hx hb dX11_group_37 ?_
      refine lv_topi (fun x91 e92 => ?_)
      refine g_Vv (n := 1) (As := [.int x91]) (rest := []) (wr := []) hx hb hml hg hown hK hP hD hS hA (s_X11_formSet l D dA t0 x91 i0 c1 i2 i3 i4 i5 i6 i7 i8 i9 i10 c11 c12 c13 c14 c15 c16 i17 i18 c19 c20 c21 c22 i23 c24 c25 c26 c27 c28 c29 c30 i31 i32 i33 i34 c35 c36 i37 i38 i39 i40 i41 i42 c43 c44 c45 c46 c47 c48 c49 c50 c51 c52 c53 c54 c55 c56 c57 c58 c59 i60 c61 i62 c63 i64 i65 i66 c67 c68 c69 c70 c71 c72 i73 c74 c75 i76 i77 i78 c79 i80 i81 i82 i83 i84 m74 f90 (by omega) (by omega) (by omega) (by omega) (by omega) (by omega) (by omega) p7 _) [1, 0, 2] [] rfl (by decide) rfl (by decide) (by decide) 0 rfl rfl q2172 q160 q2169 q2171 q139 (by decide +kernel) ⟨(Nat.le_of_ble_eq_true rfl), (Nat.le_of_ble_eq_true rfl)⟩ rfl hl.1 rfl (Nat.le_of_ble_eq_true rfl) dX11_group_38 ⟨(Nat.le_of_ble_eq_true rfl), (Nat.le_of_ble_eq_true rfl)⟩ (fun u93 H locs w95 hP hD hS => ?_)
      refine W.widen (k := 0) (n := 0) (Nat.le_of_ble_eq_true rfl) (Nat.le_of_ble_eq_true rfl) ?_
      obtain ⟨f96, f97⟩ := u93
      have hP : va_P D vwC [(t0, .inr (11, [.int i0, .ref c1, .int i2, .int i3, .int i4, .int i5, .int i6, .int i7, .long i8, .int i9, .int i10, .ref c11, .ref c12, .ref c13, .ref c14, .ref c15, .ref c16, .int i17, .int i18, .ref c19, .ref c20, .ref c21, .ref c22, .int i23, .ref c24, .ref c25, .ref c26, .ref c27, .ref c28, .ref c29, .ref c30, .int i31, .int i32, .int i33, .int i34, .ref c35, .ref c36, .int i37, .int i38, .int i39, .int i40, .int i41, .int i42, .ref c43, .ref c44, .ref c45, .ref c46, .ref c47, .ref c48, .ref c49, .ref c50, .ref c51, .ref c52, .ref c53, .ref c54, .ref c55, .ref c56, .ref c57, .ref c58, .ref c59, .int i60, .ref c61, .int i62, .ref c63, .int i64, .int i65, .int i66, .ref c67, .ref c68, .ref c69, .ref c70, .ref c71, .ref c72, .int i73, .ref c74, .ref c75, .int i76, .int i77, .int i78, .ref c79, .int i80, .int i81, .int i82, .int i83, .int i84])), (c74, .inl (dA 0, 4096, .inl f96)), (c75, .inl (dA 0, 16, .inl f97))] H := hP
      have hD : va_D A [(t0, .inr (11, [.int i0, .ref c1, .int i2, .int i3, .int i4, .int i5, .int i6, .int i7, .long i8, .int i9, .int i10, .ref c11, .ref c12, .ref c13, .ref c14, .ref c15, .ref c16, .int i17, .int i18, .ref c19, .ref c20, .ref c21, .ref c22, .int i23, .ref c24, .ref c25, .ref c26, .ref c27, .ref c28, .ref c29, .ref c30, .int i31, .int i32, .int i33, .int i34, .ref c35, .ref c36, .int i37, .int i38, .int i39, .int i40, .int i41, .int i42, .ref c43, .ref c44, .ref c45, .ref c46, .ref c47, .ref c48, .ref c49, .ref c50, .ref c51, .ref c52, .ref c53, .ref c54, .ref c55, .ref c56, .ref c57, .ref c58, .ref c59, .int i60, .ref c61, .int i62, .ref c63, .int i64, .int i65, .int i66, .ref c67, .ref c68, .ref c69, .ref c70, .ref c71, .ref c72, .int i73, .ref c74, .ref c75, .int i76, .int i77, .int i78, .ref c79, .int i80, .int i81, .int i82, .int i83, .int i84])), (c74, .inl (dA 0, 4096, .inl f96)), (c75, .inl (dA 0, 16, .inl f97))] := hD
      have g98 := w95
      have g98 : ∀ j : Nat, 0 ≤ (f96 j).toInt ∧ (f96 j).toInt ≤ 255 := g98
      refine lv_iconst (v := 0) hx hb dX11_group_41 (by decide) ?_
      exact g_iret hx hb hr rfl hlocks hK (f96, f97) hP hD hS ⟨(show 0 ≤ ((0 : Int32)).toInt ∧ ((0 : Int32)).toInt ≤ 3 from by decide), g98⟩ (Nat.le_of_ble_eq_true rfl) (Nat.le_of_ble_eq_true rfl) dX11_group_42
