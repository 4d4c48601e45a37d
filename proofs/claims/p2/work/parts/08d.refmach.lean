theorem q134 : Cond.selects RX11 yX11_fetchSigned yX11_fetchSigned ∈ gw := gw_in (i := 134) (by decide +kernel) rfl
theorem q2149 : Cond.methodLink RX11 551 yX11_fetchSigned ∈ gw := gw_in (i := 2149) (by decide +kernel) rfl
theorem q2151 : Cond.instanceMethod yX11_fetchSigned ∈ gw := gw_in (i := 2151) (by decide +kernel) rfl
theorem q2152 : Cond.code yX11_fetchSigned cX11_fetchSigned 1 (some .int) ∈ gw := gw_in (i := 2152) (by decide +kernel) rfl
theorem dX11_readForm_0 : decode cX11_readForm 0 = .ok (.aload_n 0, 1) := by decide +kernel
theorem dX11_readForm_1 : decode cX11_readForm 1 = .ok (.aload_n 0, 1) := by decide +kernel
theorem dX11_readForm_2 : decode cX11_readForm 2 = .ok (.invokevirtual 539, 3) := by decide +kernel
theorem dX11_readForm_5 : decode cX11_readForm 5 = .ok (.putfield 542, 3) := by decide +kernel
theorem dX11_readForm_8 : decode cX11_readForm 8 = .ok (.aload_n 0, 1) := by decide +kernel
theorem dX11_readForm_9 : decode cX11_readForm 9 = .ok (.aload_n 0, 1) := by decide +kernel
theorem dX11_readForm_10 : decode cX11_readForm 10 = .ok (.getfield 542, 3) := by decide +kernel
theorem dX11_readForm_13 : decode cX11_readForm 13 = .ok (.iconst 3, 1) := by decide +kernel
theorem dX11_readForm_14 : decode cX11_readForm 14 = .ok (.ishr, 1) := by decide +kernel
theorem dX11_readForm_15 : decode cX11_readForm 15 = .ok (.bipush 7, 2) := by decide +kernel
theorem dX11_readForm_17 : decode cX11_readForm 17 = .ok (.iand, 1) := by decide +kernel
theorem dX11_readForm_18 : decode cX11_readForm 18 = .ok (.putfield 545, 3) := by decide +kernel
theorem dX11_readForm_21 : decode cX11_readForm 21 = .ok (.aload_n 0, 1) := by decide +kernel
theorem dX11_readForm_22 : decode cX11_readForm 22 = .ok (.getfield 542, 3) := by decide +kernel
theorem dX11_readForm_25 : decode cX11_readForm 25 = .ok (.bipush 6, 2) := by decide +kernel
theorem dX11_readForm_27 : decode cX11_readForm 27 = .ok (.ishr, 1) := by decide +kernel
theorem dX11_readForm_28 : decode cX11_readForm 28 = .ok (.istore_n 1, 1) := by decide +kernel
theorem dX11_readForm_29 : decode cX11_readForm 29 = .ok (.aload_n 0, 1) := by decide +kernel
theorem dX11_readForm_30 : decode cX11_readForm 30 = .ok (.getfield 542, 3) := by decide +kernel
theorem dX11_readForm_33 : decode cX11_readForm 33 = .ok (.bipush 7, 2) := by decide +kernel
theorem dX11_readForm_35 : decode cX11_readForm 35 = .ok (.iand, 1) := by decide +kernel
theorem dX11_readForm_36 : decode cX11_readForm 36 = .ok (.istore_n 2, 1) := by decide +kernel
theorem dX11_readForm_37 : decode cX11_readForm 37 = .ok (.iload_n 1, 1) := by decide +kernel
theorem dX11_readForm_38 : decode cX11_readForm 38 = .ok (.iconst 3, 1) := by decide +kernel
theorem dX11_readForm_39 : decode cX11_readForm 39 = .ok (.if_icmp .ne 4, 3) := by decide +kernel
theorem dX11_readForm_43 : decode cX11_readForm 43 = .ok (.iload_n 1, 1) := by decide +kernel
theorem dX11_readForm_44 : decode cX11_readForm 44 = .ok (.ifCond .ne 20, 3) := by decide +kernel
theorem dX11_readForm_47 : decode cX11_readForm 47 = .ok (.iload_n 2, 1) := by decide +kernel
theorem dX11_readForm_48 : decode cX11_readForm 48 = .ok (.bipush 6, 2) := by decide +kernel
theorem dX11_readForm_50 : decode cX11_readForm 50 = .ok (.if_icmp .ne 10, 3) := by decide +kernel
theorem dX11_readForm_60 : decode cX11_readForm 60 = .ok (.iconst 0, 1) := by decide +kernel
theorem dX11_readForm_61 : decode cX11_readForm 61 = .ok (.goto 19, 3) := by decide +kernel
theorem dX11_readForm_80 : decode cX11_readForm 80 = .ok (.istore_n 3, 1) := by decide +kernel
theorem dX11_readForm_81 : decode cX11_readForm 81 = .ok (.iconst 0, 1) := by decide +kernel
theorem dX11_readForm_82 : decode cX11_readForm 82 = .ok (.istore 4, 2) := by decide +kernel
theorem dX11_readForm_84 : decode cX11_readForm 84 = .ok (.iload_n 2, 1) := by decide +kernel
theorem dX11_readForm_85 : decode cX11_readForm 85 = .ok (.ifCond .eq 14, 3) := by decide +kernel
theorem dX11_readForm_99 : decode cX11_readForm 99 = .ok (.aload_n 0, 1) := by decide +kernel
theorem dX11_readForm_100 : decode cX11_readForm 100 = .ok (.getfield 253, 3) := by decide +kernel
theorem dX11_readForm_103 : decode cX11_readForm 103 = .ok (.iconst 3, 1) := by decide +kernel
theorem dX11_readForm_104 : decode cX11_readForm 104 = .ok (.iaload, 1) := by decide +kernel
theorem dX11_readForm_105 : decode cX11_readForm 105 = .ok (.istore 4, 2) := by decide +kernel
theorem dX11_readForm_107 : decode cX11_readForm 107 = .ok (.iload_n 2, 1) := by decide +kernel
theorem dX11_readForm_108 : decode cX11_readForm 108 = .ok (.iconst 2, 1) := by decide +kernel
theorem dX11_readForm_109 : decode cX11_readForm 109 = .ok (.if_icmp .eq 18, 3) := by decide +kernel
theorem dX11_readForm_112 : decode cX11_readForm 112 = .ok (.iload_n 2, 1) := by decide +kernel
theorem dX11_readForm_113 : decode cX11_readForm 113 = .ok (.iconst 3, 1) := by decide +kernel
theorem dX11_readForm_114 : decode cX11_readForm 114 = .ok (.if_icmp .eq 13, 3) := by decide +kernel
theorem dX11_readForm_117 : decode cX11_readForm 117 = .ok (.iload_n 2, 1) := by decide +kernel
theorem dX11_readForm_118 : decode cX11_readForm 118 = .ok (.bipush 6, 2) := by decide +kernel
theorem dX11_readForm_120 : decode cX11_readForm 120 = .ok (.if_icmp .ne 15, 3) := by decide +kernel
theorem dX11_readForm_135 : decode cX11_readForm 135 = .ok (.iload_n 2, 1) := by decide +kernel
theorem dX11_readForm_136 : decode cX11_readForm 136 = .ok (.ifCond .eq 13, 3) := by decide +kernel
theorem dX11_readForm_149 : decode cX11_readForm 149 = .ok (.iload 4, 2) := by decide +kernel
theorem dX11_readForm_151 : decode cX11_readForm 151 = .ok (.aload_n 0, 1) := by decide +kernel
theorem dX11_readForm_152 : decode cX11_readForm 152 = .ok (.getfield 253, 3) := by decide +kernel
theorem dX11_readForm_155 : decode cX11_readForm 155 = .ok (.bipush 6, 2) := by decide +kernel
theorem dX11_readForm_157 : decode cX11_readForm 157 = .ok (.iaload, 1) := by decide +kernel
theorem dX11_readForm_158 : decode cX11_readForm 158 = .ok (.iadd, 1) := by decide +kernel
theorem dX11_readForm_159 : decode cX11_readForm 159 = .ok (.istore 4, 2) := by decide +kernel
theorem dX11_readForm_161 : decode cX11_readForm 161 = .ok (.iload_n 2, 1) := by decide +kernel
theorem dX11_readForm_162 : decode cX11_readForm 162 = .ok (.iconst 1, 1) := by decide +kernel
theorem dX11_readForm_163 : decode cX11_readForm 163 = .ok (.if_icmp .eq 13, 3) := by decide +kernel
theorem dX11_readForm_166 : decode cX11_readForm 166 = .ok (.iload_n 2, 1) := by decide +kernel
theorem dX11_readForm_167 : decode cX11_readForm 167 = .ok (.iconst 3, 1) := by decide +kernel
theorem dX11_readForm_168 : decode cX11_readForm 168 = .ok (.if_icmp .eq 8, 3) := by decide +kernel
theorem dX11_readForm_171 : decode cX11_readForm 171 = .ok (.iload_n 2, 1) := by decide +kernel
theorem dX11_readForm_172 : decode cX11_readForm 172 = .ok (.iconst 5, 1) := by decide +kernel
theorem dX11_readForm_173 : decode cX11_readForm 173 = .ok (.if_icmp .ne 15, 3) := by decide +kernel
theorem dX11_readForm_188 : decode cX11_readForm 188 = .ok (.aload_n 0, 1) := by decide +kernel
theorem dX11_readForm_189 : decode cX11_readForm 189 = .ok (.iload 4, 2) := by decide +kernel
theorem dX11_readForm_191 : decode cX11_readForm 191 = .ok (.iload_n 3, 1) := by decide +kernel
theorem dX11_readForm_192 : decode cX11_readForm 192 = .ok (.iadd, 1) := by decide +kernel
theorem dX11_readForm_193 : decode cX11_readForm 193 = .ok (.ldc_w 300, 3) := by decide +kernel
theorem dX11_readForm_196 : decode cX11_readForm 196 = .ok (.iand, 1) := by decide +kernel
theorem dX11_readForm_197 : decode cX11_readForm 197 = .ok (.putfield 554, 3) := by decide +kernel
theorem dX11_readForm_200 : decode cX11_readForm 200 = .ok (.aload_n 0, 1) := by decide +kernel
theorem dX11_readForm_201 : decode cX11_readForm 201 = .ok (.iload_n 2, 1) := by decide +kernel
theorem dX11_readForm_202 : decode cX11_readForm 202 = .ok (.iconst 2, 1) := by decide +kernel
theorem dX11_readForm_203 : decode cX11_readForm 203 = .ok (.if_icmp .eq 18, 3) := by decide +kernel
theorem dX11_readForm_206 : decode cX11_readForm 206 = .ok (.iload_n 2, 1) := by decide +kernel
theorem dX11_readForm_207 : decode cX11_readForm 207 = .ok (.iconst 3, 1) := by decide +kernel
theorem dX11_readForm_208 : decode cX11_readForm 208 = .ok (.if_icmp .eq 13, 3) := by decide +kernel
theorem dX11_readForm_211 : decode cX11_readForm 211 = .ok (.iload_n 2, 1) := by decide +kernel
theorem dX11_readForm_212 : decode cX11_readForm 212 = .ok (.bipush 6, 2) := by decide +kernel
theorem dX11_readForm_214 : decode cX11_readForm 214 = .ok (.if_icmp .ne 12, 3) := by decide +kernel
theorem dX11_readForm_226 : decode cX11_readForm 226 = .ok (.bipush 11, 2) := by decide +kernel
theorem dX11_readForm_228 : decode cX11_readForm 228 = .ok (.putfield 557, 3) := by decide +kernel
theorem dX11_readForm_231 : decode cX11_readForm 231 = .ok (.return_, 1) := by decide +kernel
theorem dX11_readForm_88 : decode cX11_readForm 88 = .ok (.iload_n 2, 1) := by decide +kernel
theorem dX11_readForm_89 : decode cX11_readForm 89 = .ok (.iconst 1, 1) := by decide +kernel
theorem dX11_readForm_90 : decode cX11_readForm 90 = .ok (.if_icmp .eq 9, 3) := by decide +kernel
theorem dX11_readForm_139 : decode cX11_readForm 139 = .ok (.iload_n 2, 1) := by decide +kernel
theorem dX11_readForm_140 : decode cX11_readForm 140 = .ok (.iconst 2, 1) := by decide +kernel
theorem dX11_readForm_141 : decode cX11_readForm 141 = .ok (.if_icmp .eq 8, 3) := by decide +kernel
theorem dX11_readForm_144 : decode cX11_readForm 144 = .ok (.iload_n 2, 1) := by decide +kernel
theorem dX11_readForm_145 : decode cX11_readForm 145 = .ok (.iconst 4, 1) := by decide +kernel
theorem dX11_readForm_146 : decode cX11_readForm 146 = .ok (.if_icmp .ne 15, 3) := by decide +kernel
theorem dX11_readForm_176 : decode cX11_readForm 176 = .ok (.iload 4, 2) := by decide +kernel
theorem dX11_readForm_178 : decode cX11_readForm 178 = .ok (.aload_n 0, 1) := by decide +kernel
theorem dX11_readForm_179 : decode cX11_readForm 179 = .ok (.getfield 253, 3) := by decide +kernel
theorem dX11_readForm_182 : decode cX11_readForm 182 = .ok (.bipush 7, 2) := by decide +kernel
theorem dX11_readForm_184 : decode cX11_readForm 184 = .ok (.iaload, 1) := by decide +kernel
theorem dX11_readForm_185 : decode cX11_readForm 185 = .ok (.iadd, 1) := by decide +kernel
theorem dX11_readForm_186 : decode cX11_readForm 186 = .ok (.istore 4, 2) := by decide +kernel
theorem dX11_readForm_93 : decode cX11_readForm 93 = .ok (.iload_n 2, 1) := by decide +kernel
theorem dX11_readForm_94 : decode cX11_readForm 94 = .ok (.bipush 7, 2) := by decide +kernel
theorem dX11_readForm_96 : decode cX11_readForm 96 = .ok (.if_icmp .ne 11, 3) := by decide +kernel
theorem dX11_readForm_127 : decode cX11_readForm 127 = .ok (.aload_n 0, 1) := by decide +kernel
theorem dX11_readForm_128 : decode cX11_readForm 128 = .ok (.getfield 253, 3) := by decide +kernel
theorem dX11_readForm_131 : decode cX11_readForm 131 = .ok (.iconst 5, 1) := by decide +kernel
theorem dX11_readForm_132 : decode cX11_readForm 132 = .ok (.iaload, 1) := by decide +kernel
theorem dX11_readForm_133 : decode cX11_readForm 133 = .ok (.istore 4, 2) := by decide +kernel
theorem dX11_readForm_221 : decode cX11_readForm 221 = .ok (.bipush 10, 2) := by decide +kernel
theorem dX11_readForm_223 : decode cX11_readForm 223 = .ok (.goto 5, 3) := by decide +kernel
theorem dX11_readForm_53 : decode cX11_readForm 53 = .ok (.aload_n 0, 1) := by decide +kernel
theorem dX11_readForm_54 : decode cX11_readForm 54 = .ok (.invokevirtual 548, 3) := by decide +kernel
theorem dX11_readForm_57 : decode cX11_readForm 57 = .ok (.goto 23, 3) := by decide +kernel
theorem dX11_readForm_123 : decode cX11_readForm 123 = .ok (.iload_n 1, 1) := by decide +kernel
theorem dX11_readForm_124 : decode cX11_readForm 124 = .ok (.ifCond .eq 11, 3) := by decide +kernel
theorem dX11_readForm_217 : decode cX11_readForm 217 = .ok (.iload_n 1, 1) := by decide +kernel
theorem dX11_readForm_218 : decode cX11_readForm 218 = .ok (.ifCond .eq 8, 3) := by decide +kernel
theorem dX11_readForm_64 : decode cX11_readForm 64 = .ok (.iload_n 1, 1) := by decide +kernel
theorem dX11_readForm_65 : decode cX11_readForm 65 = .ok (.iconst 1, 1) := by decide +kernel
theorem dX11_readForm_66 : decode cX11_readForm 66 = .ok (.if_icmp .ne 10, 3) := by decide +kernel
theorem dX11_readForm_69 : decode cX11_readForm 69 = .ok (.aload_n 0, 1) := by decide +kernel
theorem dX11_readForm_70 : decode cX11_readForm 70 = .ok (.invokevirtual 551, 3) := by decide +kernel
theorem dX11_readForm_73 : decode cX11_readForm 73 = .ok (.goto 7, 3) := by decide +kernel
theorem dX11_readForm_76 : decode cX11_readForm 76 = .ok (.aload_n 0, 1) := by decide +kernel
theorem dX11_readForm_77 : decode cX11_readForm 77 = .ok (.invokevirtual 548, 3) := by decide +kernel
theorem dX11_readForm_42 : decode cX11_readForm 42 = .ok (.return_, 1) := by decide +kernel
theorem g_c0_3 {x : Int32} (h0 : 0 ≤ x.toInt) (h1 : x.toInt ≤ 3) : x = 0 ∨ x = 1 ∨ x = 2 ∨ x = 3 := by
  have h : x.toInt = 0 ∨ x.toInt = 1 ∨ x.toInt = 2 ∨ x.toInt = 3 := by omega
  rcases h with h | h | h | h
  · exact (Or.inl (Int32.toInt_inj.mp (by rw [h]; decide)))
  · exact (Or.inr (Or.inl (Int32.toInt_inj.mp (by rw [h]; decide))))
  · exact (Or.inr (Or.inr (Or.inl (Int32.toInt_inj.mp (by rw [h]; decide)))))
  · exact (Or.inr (Or.inr (Or.inr (Int32.toInt_inj.mp (by rw [h]; decide)))))
theorem g_c0_7 {x : Int32} (h0 : 0 ≤ x.toInt) (h1 : x.toInt ≤ 7) : x = 0 ∨ x = 1 ∨ x = 2 ∨ x = 3 ∨ x = 4 ∨ x = 5 ∨ x = 6 ∨ x = 7 := by
  have h : x.toInt = 0 ∨ x.toInt = 1 ∨ x.toInt = 2 ∨ x.toInt = 3 ∨ x.toInt = 4 ∨ x.toInt = 5 ∨ x.toInt = 6 ∨ x.toInt = 7 := by omega
  rcases h with h | h | h | h | h | h | h | h
  · exact (Or.inl (Int32.toInt_inj.mp (by rw [h]; decide)))
  · exact (Or.inr (Or.inl (Int32.toInt_inj.mp (by rw [h]; decide))))
  · exact (Or.inr (Or.inr (Or.inl (Int32.toInt_inj.mp (by rw [h]; decide)))))
  · exact (Or.inr (Or.inr (Or.inr (Or.inl (Int32.toInt_inj.mp (by rw [h]; decide))))))
  · exact (Or.inr (Or.inr (Or.inr (Or.inr (Or.inl (Int32.toInt_inj.mp (by rw [h]; decide)))))))
  · exact (Or.inr (Or.inr (Or.inr (Or.inr (Or.inr (Or.inl (Int32.toInt_inj.mp (by rw [h]; decide))))))))
  · exact (Or.inr (Or.inr (Or.inr (Or.inr (Or.inr (Or.inr (Or.inl (Int32.toInt_inj.mp (by rw [h]; decide)))))))))
  · exact (Or.inr (Or.inr (Or.inr (Or.inr (Or.inr (Or.inr (Or.inr (Int32.toInt_inj.mp (by rw [h]; decide)))))))))
set_option maxHeartbeats 4000000 in
set_option maxRecDepth 100000 in
theorem s_X11_readForm (l : Launch) (D : va_G) (dA : Nat → ClassId) (t0 : Nat) (i0 : Int32) (c1 : Nat) (i2 : Int32) (i3 : Int32) (i4 : Int32) (i5 : Int32) (i6 : Int32) (i7 : Int32) (i8 : Int64) (i9 : Int32) (i10 : Int32) (c11 : Nat) (c12 : Nat) (c13 : Nat) (c14 : Nat) (c15 : Nat) (c16 : Nat) (i17 : Int32) (i18 : Int32) (c19 : Nat) (c20 : Nat) (c21 : Nat) (c22 : Nat) (i23 : Int32) (c24 : Nat) (c25 : Nat) (c26 : Nat) (c27 : Nat) (c28 : Nat) (c29 : Nat) (c30 : Nat) (i31 : Int32) (i32 : Int32) (i33 : Int32) (i34 : Int32) (c35 : Nat) (c36 : Nat) (i37 : Int32) (i38 : Int32) (i39 : Int32) (i40 : Int32) (i41 : Int32) (i42 : Int32) (c43 : Nat) (c44 : Nat) (c45 : Nat) (c46 : Nat) (c47 : Nat) (c48 : Nat) (c49 : Nat) (c50 : Nat) (c51 : Nat) (c52 : Nat) (c53 : Nat) (c54 : Nat) (c55 : Nat) (c56 : Nat) (c57 : Nat) (c58 : Nat) (c59 : Nat) (i60 : Int32) (c61 : Nat) (i62 : Int32) (c63 : Nat) (i64 : Int32) (i65 : Int32) (i66 : Int32) (c67 : Nat) (c68 : Nat) (c69 : Nat) (c70 : Nat) (c71 : Nat) (c72 : Nat) (i73 : Int32) (c74 : Nat) (c75 : Nat) (i76 : Int32) (i77 : Int32) (i78 : Int32) (c79 : Nat) (i80 : Int32) (i81 : Int32) (i82 : Int32) (i83 : Int32) (i84 : Int32) (m74 : Nat → Int32) (m75 : Nat → Int32) (p0 : 0 ≤ i33.toInt ∧ i33.toInt ≤ 1) (p1 : 0 ≤ i60.toInt ∧ i60.toInt ≤ 1) (p2 : 0 ≤ i76.toInt ∧ i76.toInt ≤ 1) (p3 : 0 ≤ i78.toInt ∧ i78.toInt ≤ 1000000) (p4 : 0 ≤ i81.toInt ∧ i81.toInt ≤ 255) (p5 : 0 ≤ i82.toInt ∧ i82.toInt ≤ 7) (p6 : 0 ≤ i83.toInt ∧ i83.toInt ≤ 15) (p7 : ∀ j : Nat, 0 ≤ (m74 j).toInt ∧ (m74 j).toInt ≤ 255) (sz : Nat) : Met l yX11_readForm (gws yX11_readForm cX11_readForm 5 none) (gR 4 0 0) (gPre D dA [.ref t0] [(t0, .inr (11, [.int i0, .ref c1, .int i2, .int i3, .int i4, .int i5, .int i6, .int i7, .long i8, .int i9, .int i10, .ref c11, .ref c12, .ref c13, .ref c14, .ref c15, .ref c16, .int i17, .int i18, .ref c19, .ref c20, .ref c21, .ref c22, .int i23, .ref c24, .ref c25, .ref c26, .ref c27, .ref c28, .ref c29, .ref c30, .int i31, .int i32, .int i33, .int i34, .ref c35, .ref c36, .int i37, .int i38, .int i39, .int i40, .int i41, .int i42, .ref c43, .ref c44, .ref c45, .ref c46, .ref c47, .ref c48, .ref c49, .ref c50, .ref c51, .ref c52, .ref c53, .ref c54, .ref c55, .ref c56, .ref c57, .ref c58, .ref c59, .int i60, .ref c61, .int i62, .ref c63, .int i64, .int i65, .int i66, .ref c67, .ref c68, .ref c69, .ref c70, .ref c71, .ref c72, .int i73, .ref c74, .ref c75, .int i76, .int i77, .int i78, .ref c79, .int i80, .int i81, .int i82, .int i83, .int i84])), (c74, .inl (dA 0, 4096, .inl m74)), (c75, .inl (dA 0, 16, .inl m75))] sz) (va_Qv (fun u : Int32 × Int32 × Int32 × Int32 × Int32 => (0 ≤ u.2.1.toInt ∧ u.2.1.toInt ≤ 255) ∧ (0 ≤ u.2.2.1.toInt ∧ u.2.2.1.toInt ≤ 7) ∧ (0 ≤ u.2.2.2.1.toInt ∧ u.2.2.2.1.toInt ≤ 15)) (gAt D dA (va_A [(t0, .inr (11, [.int i0, .ref c1, .int i2, .int i3, .int i4, .int i5, .int i6, .int i7, .long i8, .int i9, .int i10, .ref c11, .ref c12, .ref c13, .ref c14, .ref c15, .ref c16, .int i17, .int i18, .ref c19, .ref c20, .ref c21, .ref c22, .int i23, .ref c24, .ref c25, .ref c26, .ref c27, .ref c28, .ref c29, .ref c30, .int i31, .int i32, .int i33, .int i34, .ref c35, .ref c36, .int i37, .int i38, .int i39, .int i40, .int i41, .int i42, .ref c43, .ref c44, .ref c45, .ref c46, .ref c47, .ref c48, .ref c49, .ref c50, .ref c51, .ref c52, .ref c53, .ref c54, .ref c55, .ref c56, .ref c57, .ref c58, .ref c59, .int i60, .ref c61, .int i62, .ref c63, .int i64, .int i65, .int i66, .ref c67, .ref c68, .ref c69, .ref c70, .ref c71, .ref c72, .int i73, .ref c74, .ref c75, .int i76, .int i77, .int i78, .ref c79, .int i80, .int i81, .int i82, .int i83, .int i84])), (c74, .inl (dA 0, 4096, .inl m74)), (c75, .inl (dA 0, 16, .inl m75))] sz) (fun u : Int32 × Int32 × Int32 × Int32 × Int32 => [(t0, .inr (11, [.int i0, .ref c1, .int i2, .int i3, .int i4, .int i5, .int i6, .int i7, .long i8, .int i9, .int i10, .ref c11, .ref c12, .ref c13, .ref c14, .ref c15, .ref c16, .int i17, .int i18, .ref c19, .ref c20, .ref c21, .ref c22, .int i23, .ref c24, .ref c25, .ref c26, .ref c27, .ref c28, .ref c29, .ref c30, .int i31, .int i32, .int i33, .int i34, .ref c35, .ref c36, .int i37, .int i38, .int i39, .int i40, .int i41, .int i42, .ref c43, .ref c44, .ref c45, .ref c46, .ref c47, .ref c48, .ref c49, .ref c50, .ref c51, .ref c52, .ref c53, .ref c54, .ref c55, .ref c56, .ref c57, .ref c58, .ref c59, .int i60, .ref c61, .int i62, .ref c63, .int i64, .int i65, .int i66, .ref c67, .ref c68, .ref c69, .ref c70, .ref c71, .ref c72, .int i73, .ref c74, .ref c75, .int i76, .int i77, .int i78, .ref c79, .int u.1, .int u.2.1, .int u.2.2.1, .int u.2.2.2.1, .int u.2.2.2.2])), (c74, .inl (dA 0, 4096, .inl m74)), (c75, .inl (dA 0, 16, .inl m75))])) (va_A [(t0, .inr (11, [.int i0, .ref c1, .int i2, .int i3, .int i4, .int i5, .int i6, .int i7, .long i8, .int i9, .int i10, .ref c11, .ref c12, .ref c13, .ref c14, .ref c15, .ref c16, .int i17, .int i18, .ref c19, .ref c20, .ref c21, .ref c22, .int i23, .ref c24, .ref c25, .ref c26, .ref c27, .ref c28, .ref c29, .ref c30, .int i31, .int i32, .int i33, .int i34, .ref c35, .ref c36, .int i37, .int i38, .int i39, .int i40, .int i41, .int i42, .ref c43, .ref c44, .ref c45, .ref c46, .ref c47, .ref c48, .ref c49, .ref c50, .ref c51, .ref c52, .ref c53, .ref c54, .ref c55, .ref c56, .ref c57, .ref c58, .ref c59, .int i60, .ref c61, .int i62, .ref c63, .int i64, .int i65, .int i66, .ref c67, .ref c68, .ref c69, .ref c70, .ref c71, .ref c72, .int i73, .ref c74, .ref c75, .int i76, .int i77, .int i78, .ref c79, .int i80, .int i81, .int i82, .int i83, .int i84])), (c74, .inl (dA 0, 4096, .inl m74)), (c75, .inl (dA 0, 16, .inl m75))] sz)) 0 0 (va_A [(t0, .inr (11, [.int i0, .ref c1, .int i2, .int i3, .int i4, .int i5, .int i6, .int i7, .long i8, .int i9, .int i10, .ref c11, .ref c12, .ref c13, .ref c14, .ref c15, .ref c16, .int i17, .int i18, .ref c19, .ref c20, .ref c21, .ref c22, .int i23, .ref c24, .ref c25, .ref c26, .ref c27, .ref c28, .ref c29, .ref c30, .int i31, .int i32, .int i33, .int i34, .ref c35, .ref c36, .int i37, .int i38, .int i39, .int i40, .int i41, .int i42, .ref c43, .ref c44, .ref c45, .ref c46, .ref c47, .ref c48, .ref c49, .ref c50, .ref c51, .ref c52, .ref c53, .ref c54, .ref c55, .ref c56, .ref c57, .ref c58, .ref c59, .int i60, .ref c61, .int i62, .ref c63, .int i64, .int i65, .int i66, .ref c67, .ref c68, .ref c69, .ref c70, .ref c71, .ref c72, .int i73, .ref c74, .ref c75, .int i76, .int i77, .int i78, .ref c79, .int i80, .int i81, .int i82, .int i83, .int i84])), (c74, .inl (dA 0, 4096, .inl m74)), (c75, .inl (dA 0, 16, .inl m75))] sz) := by
  refine Met.ofW (cc := cX11_readForm) (maxL := 5) (ret := none) (by decide) rfl ?_
  intro p e s m args below meth c s₁ B hml hv
  obtain ⟨rfl, hsz, hP, hK, hD0⟩ := hv
  have hx := B.exec
  have hb := B.bytes
  have hr := B.returns
  have hts := atoms_spec (ws := gws yX11_readForm cX11_readForm 5 none) B.pre
  have hg : ∀ w ∈ gw, w.before _ s = true := fun w h => hts w (List.mem_cons_of_mem _ h)
  have hown : s.vm.findClass RX11 = some m.cls := findClass_of_methodNamed B.named
  have hlocks := B.notSynchronized
  subst hsz
  have hD := hD0.self (sz := s.heap.size)
  generalize hAe : va_A [(t0, .inr (11, [.int i0, .ref c1, .int i2, .int i3, .int i4, .int i5, .int i6, .int i7, .long i8, .int i9, .int i10, .ref c11, .ref c12, .ref c13, .ref c14, .ref c15, .ref c16, .int i17, .int i18, .ref c19, .ref c20, .ref c21, .ref c22, .int i23, .ref c24, .ref c25, .ref c26, .ref c27, .ref c28, .ref c29, .ref c30, .int i31, .int i32, .int i33, .int i34, .ref c35, .ref c36, .int i37, .int i38, .int i39, .int i40, .int i41, .int i42, .ref c43, .ref c44, .ref c45, .ref c46, .ref c47, .ref c48, .ref c49, .ref c50, .ref c51, .ref c52, .ref c53, .ref c54, .ref c55, .ref c56, .ref c57, .ref c58, .ref c59, .int i60, .ref c61, .int i62, .ref c63, .int i64, .int i65, .int i66, .ref c67, .ref c68, .ref c69, .ref c70, .ref c71, .ref c72, .int i73, .ref c74, .ref c75, .int i76, .int i77, .int i78, .ref c79, .int i80, .int i81, .int i82, .int i83, .int i84])), (c74, .inl (dA 0, 4096, .inl m74)), (c75, .inl (dA 0, 16, .inl m75))] s.heap.size = A at hD ⊢
  have hA : ∀ q : Nat, s.heap.size ≤ q → A q := fun q h => by rw [← hAe]; exact Or.inr h
  have hS : va_S A s.heap s.heap [] := va_S.rf
  have hP : va_P D vwC [(t0, .inr (11, [.int i0, .ref c1, .int i2, .int i3, .int i4, .int i5, .int i6, .int i7, .long i8, .int i9, .int i10, .ref c11, .ref c12, .ref c13, .ref c14, .ref c15, .ref c16, .int i17, .int i18, .ref c19, .ref c20, .ref c21, .ref c22, .int i23, .ref c24, .ref c25, .ref c26, .ref c27, .ref c28, .ref c29, .ref c30, .int i31, .int i32, .int i33, .int i34, .ref c35, .ref c36, .int i37, .int i38, .int i39, .int i40, .int i41, .int i42, .ref c43, .ref c44, .ref c45, .ref c46, .ref c47, .ref c48, .ref c49, .ref c50, .ref c51, .ref c52, .ref c53, .ref c54, .ref c55, .ref c56, .ref c57, .ref c58, .ref c59, .int i60, .ref c61, .int i62, .ref c63, .int i64, .int i65, .int i66, .ref c67, .ref c68, .ref c69, .ref c70, .ref c71, .ref c72, .int i73, .ref c74, .ref c75, .int i76, .int i77, .int i78, .ref c79, .int i80, .int i81, .int i82, .int i83, .int i84])), (c74, .inl (dA 0, 4096, .inl m74)), (c75, .inl (dA 0, 16, .inl m75))] s.heap := hP
  have hl := lv_entry ([.ref t0]) (n := 5) (Nat.le_of_ble_eq_true rfl)
  rw [lg_entry_eq]
  generalize (lg_sl ([.ref t0]) ++ List.replicate (5 - (lg_sl ([.ref t0])).length) Slot.unset).toArray = ls at hl ⊢
  have hl : lv_has ls 5 [(0, .ref t0)] := hl
  refine lv_aload_n hx hb dX11_readForm_0 rfl (lv_at hl 0 rfl) ?_
  refine lv_aload_n hx hb dX11_readForm_1 rfl (lv_at hl 0 rfl) ?_
  refine g_Vi (n := 0) (As := []) (rest := [.ref t0]) (wr := []) hx hb hml hg hown hK hP hD hS hA (s_X11_fetch l D dA t0 i0 c1 i2 i3 i4 i5 i6 i7 i8 i9 i10 c11 c12 c13 c14 c15 c16 i17 i18 c19 c20 c21 c22 i23 c24 c25 c26 c27 c28 c29 c30 i31 i32 i33 i34 c35 c36 i37 i38 i39 i40 i41 i42 c43 c44 c45 c46 c47 c48 c49 c50 c51 c52 c53 c54 c55 c56 c57 c58 c59 i60 c61 i62 c63 i64 i65 i66 c67 c68 c69 c70 c71 c72 i73 c74 c75 i76 i77 i78 c79 i80 i81 i82 i83 i84 m74 m75 (by omega) (by omega) (by omega) (by omega) (by omega) (by omega) (by omega) p7 _) [0, 1, 2] [] rfl (by decide) rfl (by decide) (by decide) 0 rfl rfl q2126 q160 q2123 q2125 q129 (by decide +kernel) ⟨(Nat.le_of_ble_eq_true rfl), (Nat.le_of_ble_eq_true rfl)⟩ rfl hl.1 rfl (Nat.le_of_ble_eq_true rfl) dX11_readForm_2 ⟨(Nat.le_of_ble_eq_true rfl), (Nat.le_of_ble_eq_true rfl)⟩ (fun x2 u1 H locs w3 hP hD hS => ?_)
  refine W.widen (k := 0) (n := 0) (Nat.le_of_ble_eq_true rfl) (Nat.le_of_ble_eq_true rfl) ?_
  obtain ⟨x4, rfl⟩ : ∃ z, z = u1 := ⟨_, rfl⟩
  have hP : va_P D vwC [(t0, .inr (11, [.int i0, .ref c1, .int i2, .int i3, .int i4, .int i5, .int i6, .int i7, .long i8, .int i9, .int i10, .ref c11, .ref c12, .ref c13, .ref c14, .ref c15, .ref c16, .int i17, .int i18, .ref c19, .ref c20, .ref c21, .ref c22, .int i23, .ref c24, .ref c25, .ref c26, .ref c27, .ref c28, .ref c29, .ref c30, .int i31, .int i32, .int i33, .int i34, .ref c35, .ref c36, .int i37, .int i38, .int i39, .int i40, .int i41, .int i42, .ref c43, .ref c44, .ref c45, .ref c46, .ref c47, .ref c48, .ref c49, .ref c50, .ref c51, .ref c52, .ref c53, .ref c54, .ref c55, .ref c56, .ref c57, .ref c58, .ref c59, .int i60, .ref c61, .int i62, .ref c63, .int i64, .int i65, .int i66, .ref c67, .ref c68, .ref c69, .ref c70, .ref c71, .ref c72, .int i73, .ref c74, .ref c75, .int i76, .int i77, .int i78, .ref c79, .int x4, .int i81, .int i82, .int i83, .int i84])), (c74, .inl (dA 0, 4096, .inl m74)), (c75, .inl (dA 0, 16, .inl m75))] H := hP
  have hD : va_D A [(t0, .inr (11, [.int i0, .ref c1, .int i2, .int i3, .int i4, .int i5, .int i6, .int i7, .long i8, .int i9, .int i10, .ref c11, .ref c12, .ref c13, .ref c14, .ref c15, .ref c16, .int i17, .int i18, .ref c19, .ref c20, .ref c21, .ref c22, .int i23, .ref c24, .ref c25, .ref c26, .ref c27, .ref c28, .ref c29, .ref c30, .int i31, .int i32, .int i33, .int i34, .ref c35, .ref c36, .int i37, .int i38, .int i39, .int i40, .int i41, .int i42, .ref c43, .ref c44, .ref c45, .ref c46, .ref c47, .ref c48, .ref c49, .ref c50, .ref c51, .ref c52, .ref c53, .ref c54, .ref c55, .ref c56, .ref c57, .ref c58, .ref c59, .int i60, .ref c61, .int i62, .ref c63, .int i64, .int i65, .int i66, .ref c67, .ref c68, .ref c69, .ref c70, .ref c71, .ref c72, .int i73, .ref c74, .ref c75, .int i76, .int i77, .int i78, .ref c79, .int x4, .int i81, .int i82, .int i83, .int i84])), (c74, .inl (dA 0, 4096, .inl m74)), (c75, .inl (dA 0, 16, .inl m75))] := hD
  have g5 := w3
  have g5 : 0 ≤ x2.toInt ∧ x2.toInt ≤ 255 := g5
  refine g_put (w' := [(t0, .inr (11, [.int i0, .ref c1, .int i2, .int i3, .int i4, .int i5, .int i6, .int i7, .long i8, .int i9, .int i10, .ref c11, .ref c12, .ref c13, .ref c14, .ref c15, .ref c16, .int i17, .int i18, .ref c19, .ref c20, .ref c21, .ref c22, .int i23, .ref c24, .ref c25, .ref c26, .ref c27, .ref c28, .ref c29, .ref c30, .int i31, .int i32, .int i33, .int i34, .ref c35, .ref c36, .int i37, .int i38, .int i39, .int i40, .int i41, .int i42, .ref c43, .ref c44, .ref c45, .ref c46, .ref c47, .ref c48, .ref c49, .ref c50, .ref c51, .ref c52, .ref c53, .ref c54, .ref c55, .ref c56, .ref c57, .ref c58, .ref c59, .int i60, .ref c61, .int i62, .ref c63, .int i64, .int i65, .int i66, .ref c67, .ref c68, .ref c69, .ref c70, .ref c71, .ref c72, .int i73, .ref c74, .ref c75, .int i76, .int i77, .int i78, .ref c79, .int x4, .int x2, .int i82, .int i83, .int i84])), (c74, .inl (dA 0, 4096, .inl m74)), (c75, .inl (dA 0, 16, .inl m75))]) hx hb hg hown hK hP hD hS 0 rfl rfl inX11 tyX11_ok nmX11 81 (by decide) q1696 rfl rfl rfl (Nat.le_of_ble_eq_true rfl) rfl dX11_readForm_5 (fun H locs hP hD hS => ?_)
  refine lv_aload_n hx hb dX11_readForm_8 rfl (lv_at hl 0 rfl) ?_
  refine lv_aload_n hx hb dX11_readForm_9 rfl (lv_at hl 0 rfl) ?_
  refine g_get hx hb hg hown hK hP 0 rfl rfl inX11 81 (by decide) q1696 rfl dX11_readForm_10 ?_
  refine lv_iconst (v := 3) hx hb dX11_readForm_13 (by decide) ?_
  refine lv_ishr hx hb dX11_readForm_14 ?_
  refine lv_topi (fun x6 e7 => ?_)
  have g8 : x6.toInt * 8 ≤ x2.toInt ∧ x2.toInt < x6.toInt * 8 + 8 := g_shr e7 3 (by decide) (by decide) (by decide)
  refine lv_bipush (v := 7) hx hb dX11_readForm_15 (by decide) ?_
  refine lv_iand hx hb dX11_readForm_17 ?_
  refine lv_topi (fun x9 e10 => ?_)
  have g11 : 0 ≤ x9.toInt ∧ x9.toInt ≤ 7 := g_msk e10 3 (by decide) (by decide) (by decide)
  refine g_put (w' := [(t0, .inr (11, [.int i0, .ref c1, .int i2, .int i3, .int i4, .int i5, .int i6, .int i7, .long i8, .int i9, .int i10, .ref c11, .ref c12, .ref c13, .ref c14, .ref c15, .ref c16, .int i17, .int i18, .ref c19, .ref c20, .ref c21, .ref c22, .int i23, .ref c24, .ref c25, .ref c26, .ref c27, .ref c28, .ref c29, .ref c30, .int i31, .int i32, .int i33, .int i34, .ref c35, .ref c36, .int i37, .int i38, .int i39, .int i40, .int i41, .int i42, .ref c43, .ref c44, .ref c45, .ref c46, .ref c47, .ref c48, .ref c49, .ref c50, .ref c51, .ref c52, .ref c53, .ref c54, .ref c55, .ref c56, .ref c57, .ref c58, .ref c59, .int i60, .ref c61, .int i62, .ref c63, .int i64, .int i65, .int i66, .ref c67, .ref c68, .ref c69, .ref c70, .ref c71, .ref c72, .int i73, .ref c74, .ref c75, .int i76, .int i77, .int i78, .ref c79, .int x4, .int x2, .int x9, .int i83, .int i84])), (c74, .inl (dA 0, 4096, .inl m74)), (c75, .inl (dA 0, 16, .inl m75))]) hx hb hg hown hK hP hD hS 0 rfl rfl inX11 tyX11_ok nmX11 82 (by decide) q1697 rfl rfl rfl (Nat.le_of_ble_eq_true rfl) rfl dX11_readForm_18 (fun H locs hP hD hS => ?_)
  refine lv_aload_n hx hb dX11_readForm_21 rfl (lv_at hl 0 rfl) ?_
  refine g_get hx hb hg hown hK hP 0 rfl rfl inX11 81 (by decide) q1696 rfl dX11_readForm_22 ?_
  refine lv_bipush (v := 6) hx hb dX11_readForm_25 (by decide) ?_
  refine lv_ishr hx hb dX11_readForm_27 ?_
  refine lv_topi (fun x12 e13 => ?_)
  have g14 : x12.toInt * 64 ≤ x2.toInt ∧ x2.toInt < x12.toInt * 64 + 64 := g_shr e13 6 (by decide) (by decide) (by decide)
  refine lv_istore_n (lv' := [(1, .int x12), (0, .ref t0)]) hx hb dX11_readForm_28 rfl hl (by decide) rfl (fun ls hl => ?_)
  refine lv_aload_n hx hb dX11_readForm_29 rfl (lv_at hl 1 rfl) ?_
  refine g_get hx hb hg hown hK hP 0 rfl rfl inX11 81 (by decide) q1696 rfl dX11_readForm_30 ?_
  refine lv_bipush (v := 7) hx hb dX11_readForm_33 (by decide) ?_
  refine lv_iand hx hb dX11_readForm_35 ?_
  refine lv_topi (fun x15 e16 => ?_)
  have g17 : 0 ≤ x15.toInt ∧ x15.toInt ≤ 7 := g_msk e16 3 (by decide) (by decide) (by decide)
  refine lv_istore_n (lv' := [(2, .int x15), (1, .int x12), (0, .ref t0)]) hx hb dX11_readForm_36 rfl hl (by decide) rfl (fun ls hl => ?_)
  rcases g_c0_3 (x := x12) (by omega) (by omega) with rfl | rfl | rfl | rfl
  · refine lv_iload_n hx hb dX11_readForm_37 rfl (lv_at hl 1 rfl) ?_
    refine lv_iconst (v := 3) hx hb dX11_readForm_38 (by decide) ?_
    refine lv_icmp_ne (tgt := 43) hx hb dX11_readForm_39 (by decide) (fun _ => ?_) (fun h => absurd h (by decide))
    rcases g_c0_7 (x := x15) (by omega) (by omega) with rfl | rfl | rfl | rfl | rfl | rfl | rfl | rfl
    · refine lv_iload_n hx hb dX11_readForm_43 rfl (lv_at hl 1 rfl) ?_
      refine lv_if_ne (tgt := 64) hx hb dX11_readForm_44 (by decide) (fun h => absurd (by decide) h) (fun _ => ?_)
      refine lv_iload_n hx hb dX11_readForm_47 rfl (lv_at hl 0 rfl) ?_
      refine lv_bipush (v := 6) hx hb dX11_readForm_48 (by decide) ?_
      refine lv_icmp_ne (tgt := 60) hx hb dX11_readForm_50 (by decide) (fun _ => ?_) (fun h => absurd h (by decide))
      refine lv_iconst (v := 0) hx hb dX11_readForm_60 (by decide) ?_
      refine lv_goto (tgt := 80) hx hb dX11_readForm_61 (by decide) ?_
      refine lv_istore_n (lv' := [(3, .int 0), (2, .int 0), (1, .int 0), (0, .ref t0)]) hx hb dX11_readForm_80 rfl hl (by decide) rfl (fun ls hl => ?_)
      refine lv_iconst (v := 0) hx hb dX11_readForm_81 (by decide) ?_
      refine lv_istore (lv' := [(4, .int 0), (3, .int 0), (2, .int 0), (1, .int 0), (0, .ref t0)]) hx hb dX11_readForm_82 hl (by decide) rfl (fun ls hl => ?_)
      refine lv_iload_n hx hb dX11_readForm_84 rfl (lv_at hl 2 rfl) ?_
      refine lv_if_eq (tgt := 99) hx hb dX11_readForm_85 (by decide) (fun _ => ?_) (fun h => absurd (by decide) h)
      refine lv_aload_n hx hb dX11_readForm_99 rfl (lv_at hl 4 rfl) ?_
      refine g_get hx hb hg hown hK hP 0 rfl rfl inX11 75 (by decide) q1690 rfl dX11_readForm_100 ?_
      refine lv_iconst (v := 3) hx hb dX11_readForm_103 (by decide) ?_
      refine va_iald hx hb hK hP 2 0 rfl rfl (by unfold vp_in; decide) dX11_readForm_104 ?_
      refine lv_topi (fun x18 e19 => ?_)
      refine lv_istore (lv' := [(4, .int x18), (3, .int 0), (2, .int 0), (1, .int 0), (0, .ref t0)]) hx hb dX11_readForm_105 hl (by decide) rfl (fun ls hl => ?_)
      refine lv_iload_n hx hb dX11_readForm_107 rfl (lv_at hl 2 rfl) ?_
      refine lv_iconst (v := 2) hx hb dX11_readForm_108 (by decide) ?_
      refine lv_icmp_eq (tgt := 127) hx hb dX11_readForm_109 (by decide) (fun h => absurd h (by decide)) (fun _ => ?_)
      refine lv_iload_n hx hb dX11_readForm_112 rfl (lv_at hl 2 rfl) ?_
      refine lv_iconst (v := 3) hx hb dX11_readForm_113 (by decide) ?_
      refine lv_icmp_eq (tgt := 127) hx hb dX11_readForm_114 (by decide) (fun h => absurd h (by decide)) (fun _ => ?_)
      refine lv_iload_n hx hb dX11_readForm_117 rfl (lv_at hl 2 rfl) ?_
      refine lv_bipush (v := 6) hx hb dX11_readForm_118 (by decide) ?_
      refine lv_icmp_ne (tgt := 135) hx hb dX11_readForm_120 (by decide) (fun _ => ?_) (fun h => absurd h (by decide))
      refine lv_iload_n hx hb dX11_readForm_135 rfl (lv_at hl 2 rfl) ?_
      refine lv_if_eq (tgt := 149) hx hb dX11_readForm_136 (by decide) (fun _ => ?_) (fun h => absurd (by decide) h)
      refine lv_iload hx hb dX11_readForm_149 (lv_at hl 0 rfl) ?_
      refine lv_aload_n hx hb dX11_readForm_151 rfl (lv_at hl 4 rfl) ?_
      refine g_get hx hb hg hown hK hP 0 rfl rfl inX11 75 (by decide) q1690 rfl dX11_readForm_152 ?_
      refine lv_bipush (v := 6) hx hb dX11_readForm_155 (by decide) ?_
      refine va_iald hx hb hK hP 2 0 rfl rfl (by unfold vp_in; decide) dX11_readForm_157 ?_
      refine lv_topi (fun x20 e21 => ?_)
      refine lv_iadd hx hb dX11_readForm_158 ?_
      have g22 := g_i32 x18
      have g23 := g_i32 x20
      refine lv_topi (fun x24 e25 => ?_)
      refine lv_istore (lv' := [(4, .int x24), (3, .int 0), (2, .int 0), (1, .int 0), (0, .ref t0)]) hx hb dX11_readForm_159 hl (by decide) rfl (fun ls hl => ?_)
      refine lv_iload_n hx hb dX11_readForm_161 rfl (lv_at hl 2 rfl) ?_
      refine lv_iconst (v := 1) hx hb dX11_readForm_162 (by decide) ?_
      refine lv_icmp_eq (tgt := 176) hx hb dX11_readForm_163 (by decide) (fun h => absurd h (by decide)) (fun _ => ?_)
      refine lv_iload_n hx hb dX11_readForm_166 rfl (lv_at hl 2 rfl) ?_
      refine lv_iconst (v := 3) hx hb dX11_readForm_167 (by decide) ?_
      refine lv_icmp_eq (tgt := 176) hx hb dX11_readForm_168 (by decide) (fun h => absurd h (by decide)) (fun _ => ?_)
      refine lv_iload_n hx hb dX11_readForm_171 rfl (lv_at hl 2 rfl) ?_
      refine lv_iconst (v := 5) hx hb dX11_readForm_172 (by decide) ?_
      refine lv_icmp_ne (tgt := 188) hx hb dX11_readForm_173 (by decide) (fun _ => ?_) (fun h => absurd h (by decide))
      refine lv_aload_n hx hb dX11_readForm_188 rfl (lv_at hl 4 rfl) ?_
      refine lv_iload hx hb dX11_readForm_189 (lv_at hl 0 rfl) ?_
      refine lv_iload_n hx hb dX11_readForm_191 rfl (lv_at hl 1 rfl) ?_
      refine lv_iadd hx hb dX11_readForm_192 ?_
      have g26 := g_i32 x24
      refine lv_topi (fun x27 e28 => ?_)
      have g29 : x27.toInt = x24.toInt + 0 := g_add e28 rfl (by decide) (by omega) (by omega)
      refine lv_ldcw hx hb hown (hg _ q1907) dX11_readForm_193 ?_
      refine lv_iand hx hb dX11_readForm_196 ?_
      refine lv_topi (fun x30 e31 => ?_)
      have g32 : 0 ≤ x30.toInt ∧ x30.toInt ≤ 65535 := g_msk e31 16 (by decide) (by decide) (by decide)
      refine g_put (w' := [(t0, .inr (11, [.int i0, .ref c1, .int i2, .int i3, .int i4, .int i5, .int i6, .int i7, .long i8, .int i9, .int i10, .ref c11, .ref c12, .ref c13, .ref c14, .ref c15, .ref c16, .int i17, .int i18, .ref c19, .ref c20, .ref c21, .ref c22, .int i23, .ref c24, .ref c25, .ref c26, .ref c27, .ref c28, .ref c29, .ref c30, .int i31, .int i32, .int i33, .int i34, .ref c35, .ref c36, .int i37, .int i38, .int i39, .int i40, .int i41, .int i42, .ref c43, .ref c44, .ref c45, .ref c46, .ref c47, .ref c48, .ref c49, .ref c50, .ref c51, .ref c52, .ref c53, .ref c54, .ref c55, .ref c56, .ref c57, .ref c58, .ref c59, .int i60, .ref c61, .int i62, .ref c63, .int i64, .int i65, .int i66, .ref c67, .ref c68, .ref c69, .ref c70, .ref c71, .ref c72, .int i73, .ref c74, .ref c75, .int i76, .int i77, .int i78, .ref c79, .int x4, .int x2, .int x9, .int i83, .int x30])), (c74, .inl (dA 0, 4096, .inl m74)), (c75, .inl (dA 0, 16, .inl m75))]) hx hb hg hown hK hP hD hS 0 rfl rfl inX11 tyX11_ok nmX11 84 (by decide) q1699 rfl rfl rfl (Nat.le_of_ble_eq_true rfl) rfl dX11_readForm_197 (fun H locs hP hD hS => ?_)
      refine lv_aload_n hx hb dX11_readForm_200 rfl (lv_at hl 4 rfl) ?_
      refine lv_iload_n hx hb dX11_readForm_201 rfl (lv_at hl 2 rfl) ?_
      refine lv_iconst (v := 2) hx hb dX11_readForm_202 (by decide) ?_
      refine lv_icmp_eq (tgt := 221) hx hb dX11_readForm_203 (by decide) (fun h => absurd h (by decide)) (fun _ => ?_)
      refine lv_iload_n hx hb dX11_readForm_206 rfl (lv_at hl 2 rfl) ?_
      refine lv_iconst (v := 3) hx hb dX11_readForm_207 (by decide) ?_
      refine lv_icmp_eq (tgt := 221) hx hb dX11_readForm_208 (by decide) (fun h => absurd h (by decide)) (fun _ => ?_)
      refine lv_iload_n hx hb dX11_readForm_211 rfl (lv_at hl 2 rfl) ?_
      refine lv_bipush (v := 6) hx hb dX11_readForm_212 (by decide) ?_
      refine lv_icmp_ne (tgt := 226) hx hb dX11_readForm_214 (by decide) (fun _ => ?_) (fun h => absurd h (by decide))
      refine lv_bipush (v := 11) hx hb dX11_readForm_226 (by decide) ?_
      refine g_put (w' := [(t0, .inr (11, [.int i0, .ref c1, .int i2, .int i3, .int i4, .int i5, .int i6, .int i7, .long i8, .int i9, .int i10, .ref c11, .ref c12, .ref c13, .ref c14, .ref c15, .ref c16, .int i17, .int i18, .ref c19, .ref c20, .ref c21, .ref c22, .int i23, .ref c24, .ref c25, .ref c26, .ref c27, .ref c28, .ref c29, .ref c30, .int i31, .int i32, .int i33, .int i34, .ref c35, .ref c36, .int i37, .int i38, .int i39, .int i40, .int i41, .int i42, .ref c43, .ref c44, .ref c45, .ref c46, .ref c47, .ref c48, .ref c49, .ref c50, .ref c51, .ref c52, .ref c53, .ref c54, .ref c55, .ref c56, .ref c57, .ref c58, .ref c59, .int i60, .ref c61, .int i62, .ref c63, .int i64, .int i65, .int i66, .ref c67, .ref c68, .ref c69, .ref c70, .ref c71, .ref c72, .int i73, .ref c74, .ref c75, .int i76, .int i77, .int i78, .ref c79, .int x4, .int x2, .int x9, .int 11, .int x30])), (c74, .inl (dA 0, 4096, .inl m74)), (c75, .inl (dA 0, 16, .inl m75))]) hx hb hg hown hK hP hD hS 0 rfl rfl inX11 tyX11_ok nmX11 83 (by decide) q1698 rfl rfl rfl (Nat.le_of_ble_eq_true rfl) rfl dX11_readForm_228 (fun H locs hP hD hS => ?_)
      exact g_vret hx hb hr hlocks hK (x4, x2, x9, 11, x30) hP hD hS ⟨(show 0 ≤ x2.toInt ∧ x2.toInt ≤ 255 from by omega), (show 0 ≤ x9.toInt ∧ x9.toInt ≤ 7 from by omega), (show 0 ≤ ((11 : Int32)).toInt ∧ ((11 : Int32)).toInt ≤ 15 from by decide)⟩ (Nat.le_of_ble_eq_true rfl) (Nat.le_of_ble_eq_true rfl) dX11_readForm_231
    · refine lv_iload_n hx hb dX11_readForm_43 rfl (lv_at hl 1 rfl) ?_
      refine lv_if_ne (tgt := 64) hx hb dX11_readForm_44 (by decide) (fun h => absurd (by decide) h) (fun _ => ?_)
      refine lv_iload_n hx hb dX11_readForm_47 rfl (lv_at hl 0 rfl) ?_
      refine lv_bipush (v := 6) hx hb dX11_readForm_48 (by decide) ?_
      refine lv_icmp_ne (tgt := 60) hx hb dX11_readForm_50 (by decide) (fun _ => ?_) (fun h => absurd h (by decide))
      refine lv_iconst (v := 0) hx hb dX11_readForm_60 (by decide) ?_
      refine lv_goto (tgt := 80) hx hb dX11_readForm_61 (by decide) ?_
      refine lv_istore_n (lv' := [(3, .int 0), (2, .int 1), (1, .int 0), (0, .ref t0)]) hx hb dX11_readForm_80 rfl hl (by decide) rfl (fun ls hl => ?_)
      refine lv_iconst (v := 0) hx hb dX11_readForm_81 (by decide) ?_
      refine lv_istore (lv' := [(4, .int 0), (3, .int 0), (2, .int 1), (1, .int 0), (0, .ref t0)]) hx hb dX11_readForm_82 hl (by decide) rfl (fun ls hl => ?_)
      refine lv_iload_n hx hb dX11_readForm_84 rfl (lv_at hl 2 rfl) ?_
      refine lv_if_eq (tgt := 99) hx hb dX11_readForm_85 (by decide) (fun h => absurd h (by decide)) (fun _ => ?_)
      refine lv_iload_n hx hb dX11_readForm_88 rfl (lv_at hl 2 rfl) ?_
      refine lv_iconst (v := 1) hx hb dX11_readForm_89 (by decide) ?_
      refine lv_icmp_eq (tgt := 99) hx hb dX11_readForm_90 (by decide) (fun _ => ?_) (fun h => absurd (by decide) h)
      refine lv_aload_n hx hb dX11_readForm_99 rfl (lv_at hl 4 rfl) ?_
      refine g_get hx hb hg hown hK hP 0 rfl rfl inX11 75 (by decide) q1690 rfl dX11_readForm_100 ?_
      refine lv_iconst (v := 3) hx hb dX11_readForm_103 (by decide) ?_
      refine va_iald hx hb hK hP 2 0 rfl rfl (by unfold vp_in; decide) dX11_readForm_104 ?_
      refine lv_topi (fun x33 e34 => ?_)
      refine lv_istore (lv' := [(4, .int x33), (3, .int 0), (2, .int 1), (1, .int 0), (0, .ref t0)]) hx hb dX11_readForm_105 hl (by decide) rfl (fun ls hl => ?_)
      refine lv_iload_n hx hb dX11_readForm_107 rfl (lv_at hl 2 rfl) ?_
      refine lv_iconst (v := 2) hx hb dX11_readForm_108 (by decide) ?_
      refine lv_icmp_eq (tgt := 127) hx hb dX11_readForm_109 (by decide) (fun h => absurd h (by decide)) (fun _ => ?_)
      refine lv_iload_n hx hb dX11_readForm_112 rfl (lv_at hl 2 rfl) ?_
      refine lv_iconst (v := 3) hx hb dX11_readForm_113 (by decide) ?_
      refine lv_icmp_eq (tgt := 127) hx hb dX11_readForm_114 (by decide) (fun h => absurd h (by decide)) (fun _ => ?_)
      refine lv_iload_n hx hb dX11_readForm_117 rfl (lv_at hl 2 rfl) ?_
      refine lv_bipush (v := 6) hx hb dX11_readForm_118 (by decide) ?_
      refine lv_icmp_ne (tgt := 135) hx hb dX11_readForm_120 (by decide) (fun _ => ?_) (fun h => absurd h (by decide))
      refine lv_iload_n hx hb dX11_readForm_135 rfl (lv_at hl 2 rfl) ?_
      refine lv_if_eq (tgt := 149) hx hb dX11_readForm_136 (by decide) (fun h => absurd h (by decide)) (fun _ => ?_)
      refine lv_iload_n hx hb dX11_readForm_139 rfl (lv_at hl 2 rfl) ?_
      refine lv_iconst (v := 2) hx hb dX11_readForm_140 (by decide) ?_
      refine lv_icmp_eq (tgt := 149) hx hb dX11_readForm_141 (by decide) (fun h => absurd h (by decide)) (fun _ => ?_)
      refine lv_iload_n hx hb dX11_readForm_144 rfl (lv_at hl 2 rfl) ?_
      refine lv_iconst (v := 4) hx hb dX11_readForm_145 (by decide) ?_
      refine lv_icmp_ne (tgt := 161) hx hb dX11_readForm_146 (by decide) (fun _ => ?_) (fun h => absurd h (by decide))
      refine lv_iload_n hx hb dX11_readForm_161 rfl (lv_at hl 2 rfl) ?_
      refine lv_iconst (v := 1) hx hb dX11_readForm_162 (by decide) ?_
      refine lv_icmp_eq (tgt := 176) hx hb dX11_readForm_163 (by decide) (fun _ => ?_) (fun h => absurd (by decide) h)
      refine lv_iload hx hb dX11_readForm_176 (lv_at hl 0 rfl) ?_
      refine lv_aload_n hx hb dX11_readForm_178 rfl (lv_at hl 4 rfl) ?_
      refine g_get hx hb hg hown hK hP 0 rfl rfl inX11 75 (by decide) q1690 rfl dX11_readForm_179 ?_
      refine lv_bipush (v := 7) hx hb dX11_readForm_182 (by decide) ?_
      refine va_iald hx hb hK hP 2 0 rfl rfl (by unfold vp_in; decide) dX11_readForm_184 ?_
      refine lv_topi (fun x35 e36 => ?_)
      refine lv_iadd hx hb dX11_readForm_185 ?_
      have g37 := g_i32 x33
      have g38 := g_i32 x35
      refine lv_topi (fun x39 e40 => ?_)
      refine lv_istore (lv' := [(4, .int x39), (3, .int 0), (2, .int 1), (1, .int 0), (0, .ref t0)]) hx hb dX11_readForm_186 hl (by decide) rfl (fun ls hl => ?_)
      refine lv_aload_n hx hb dX11_readForm_188 rfl (lv_at hl 4 rfl) ?_
      refine lv_iload hx hb dX11_readForm_189 (lv_at hl 0 rfl) ?_
      refine lv_iload_n hx hb dX11_readForm_191 rfl (lv_at hl 1 rfl) ?_
      refine lv_iadd hx hb dX11_readForm_192 ?_
      have g41 := g_i32 x39
      refine lv_topi (fun x42 e43 => ?_)
      have g44 : x42.toInt = x39.toInt + 0 := g_add e43 rfl (by decide) (by omega) (by omega)
      refine lv_ldcw hx hb hown (hg _ q1907) dX11_readForm_193 ?_
      refine lv_iand hx hb dX11_readForm_196 ?_
      refine lv_topi (fun x45 e46 => ?_)
      have g47 : 0 ≤ x45.toInt ∧ x45.toInt ≤ 65535 := g_msk e46 16 (by decide) (by decide) (by decide)
      refine g_put (w' := [(t0, .inr (11, [.int i0, .ref c1, .int i2, .int i3, .int i4, .int i5, .int i6, .int i7, .long i8, .int i9, .int i10, .ref c11, .ref c12, .ref c13, .ref c14, .ref c15, .ref c16, .int i17, .int i18, .ref c19, .ref c20, .ref c21, .ref c22, .int i23, .ref c24, .ref c25, .ref c26, .ref c27, .ref c28, .ref c29, .ref c30, .int i31, .int i32, .int i33, .int i34, .ref c35, .ref c36, .int i37, .int i38, .int i39, .int i40, .int i41, .int i42, .ref c43, .ref c44, .ref c45, .ref c46, .ref c47, .ref c48, .ref c49, .ref c50, .ref c51, .ref c52, .ref c53, .ref c54, .ref c55, .ref c56, .ref c57, .ref c58, .ref c59, .int i60, .ref c61, .int i62, .ref c63, .int i64, .int i65, .int i66, .ref c67, .ref c68, .ref c69, .ref c70, .ref c71, .ref c72, .int i73, .ref c74, .ref c75, .int i76, .int i77, .int i78, .ref c79, .int x4, .int x2, .int x9, .int i83, .int x45])), (c74, .inl (dA 0, 4096, .inl m74)), (c75, .inl (dA 0, 16, .inl m75))]) hx hb hg hown hK hP hD hS 0 rfl rfl inX11 tyX11_ok nmX11 84 (by decide) q1699 rfl rfl rfl (Nat.le_of_ble_eq_true rfl) rfl dX11_readForm_197 (fun H locs hP hD hS => ?_)
      refine lv_aload_n hx hb dX11_readForm_200 rfl (lv_at hl 4 rfl) ?_
      refine lv_iload_n hx hb dX11_readForm_201 rfl (lv_at hl 2 rfl) ?_
      refine lv_iconst (v := 2) hx hb dX11_readForm_202 (by decide) ?_
      refine lv_icmp_eq (tgt := 221) hx hb dX11_readForm_203 (by decide) (fun h => absurd h (by decide)) (fun _ => ?_)
      refine lv_iload_n hx hb dX11_readForm_206 rfl (lv_at hl 2 rfl) ?_
      refine lv_iconst (v := 3) hx hb dX11_readForm_207 (by decide) ?_
      refine lv_icmp_eq (tgt := 221) hx hb dX11_readForm_208 (by decide) (fun h => absurd h (by decide)) (fun _ => ?_)
      refine lv_iload_n hx hb dX11_readForm_211 rfl (lv_at hl 2 rfl) ?_
      refine lv_bipush (v := 6) hx hb dX11_readForm_212 (by decide) ?_
      refine lv_icmp_ne (tgt := 226) hx hb dX11_readForm_214 (by decide) (fun _ => ?_) (fun h => absurd h (by decide))
      refine lv_bipush (v := 11) hx hb dX11_readForm_226 (by decide) ?_
      refine g_put (w' := [(t0, .inr (11, [.int i0, .ref c1, .int i2, .int i3, .int i4, .int i5, .int i6, .int i7, .long i8, .int i9, .int i10, .ref c11, .ref c12, .ref c13, .ref c14, .ref c15, .ref c16, .int i17, .int i18, .ref c19, .ref c20, .ref c21, .ref c22, .int i23, .ref c24, .ref c25, .ref c26, .ref c27, .ref c28, .ref c29, .ref c30, .int i31, .int i32, .int i33, .int i34, .ref c35, .ref c36, .int i37, .int i38, .int i39, .int i40, .int i41, .int i42, .ref c43, .ref c44, .ref c45, .ref c46, .ref c47, .ref c48, .ref c49, .ref c50, .ref c51, .ref c52, .ref c53, .ref c54, .ref c55, .ref c56, .ref c57, .ref c58, .ref c59, .int i60, .ref c61, .int i62, .ref c63, .int i64, .int i65, .int i66, .ref c67, .ref c68, .ref c69, .ref c70, .ref c71, .ref c72, .int i73, .ref c74, .ref c75, .int i76, .int i77, .int i78, .ref c79, .int x4, .int x2, .int x9, .int 11, .int x45])), (c74, .inl (dA 0, 4096, .inl m74)), (c75, .inl (dA 0, 16, .inl m75))]) hx hb hg hown hK hP hD hS 0 rfl rfl inX11 tyX11_ok nmX11 83 (by decide) q1698 rfl rfl rfl (Nat.le_of_ble_eq_true rfl) rfl dX11_readForm_228 (fun H locs hP hD hS => ?_)
      exact g_vret hx hb hr hlocks hK (x4, x2, x9, 11, x45) hP hD hS ⟨(show 0 ≤ x2.toInt ∧ x2.toInt ≤ 255 from by omega), (show 0 ≤ x9.toInt ∧ x9.toInt ≤ 7 from by omega), (show 0 ≤ ((11 : Int32)).toInt ∧ ((11 : Int32)).toInt ≤ 15 from by decide)⟩ (Nat.le_of_ble_eq_true rfl) (Nat.le_of_ble_eq_true rfl) dX11_readForm_231
    · refine lv_iload_n hx hb dX11_readForm_43 rfl (lv_at hl 1 rfl) ?_
      refine lv_if_ne (tgt := 64) hx hb dX11_readForm_44 (by decide) (fun h => absurd (by decide) h) (fun _ => ?_)
      refine lv_iload_n hx hb dX11_readForm_47 rfl (lv_at hl 0 rfl) ?_
      refine lv_bipush (v := 6) hx hb dX11_readForm_48 (by decide) ?_
      refine lv_icmp_ne (tgt := 60) hx hb dX11_readForm_50 (by decide) (fun _ => ?_) (fun h => absurd h (by decide))
      refine lv_iconst (v := 0) hx hb dX11_readForm_60 (by decide) ?_
      refine lv_goto (tgt := 80) hx hb dX11_readForm_61 (by decide) ?_
      refine lv_istore_n (lv' := [(3, .int 0), (2, .int 2), (1, .int 0), (0, .ref t0)]) hx hb dX11_readForm_80 rfl hl (by decide) rfl (fun ls hl => ?_)
      refine lv_iconst (v := 0) hx hb dX11_readForm_81 (by decide) ?_
      refine lv_istore (lv' := [(4, .int 0), (3, .int 0), (2, .int 2), (1, .int 0), (0, .ref t0)]) hx hb dX11_readForm_82 hl (by decide) rfl (fun ls hl => ?_)
      refine lv_iload_n hx hb dX11_readForm_84 rfl (lv_at hl 2 rfl) ?_
      refine lv_if_eq (tgt := 99) hx hb dX11_readForm_85 (by decide) (fun h => absurd h (by decide)) (fun _ => ?_)
      refine lv_iload_n hx hb dX11_readForm_88 rfl (lv_at hl 2 rfl) ?_
      refine lv_iconst (v := 1) hx hb dX11_readForm_89 (by decide) ?_
      refine lv_icmp_eq (tgt := 99) hx hb dX11_readForm_90 (by decide) (fun h => absurd h (by decide)) (fun _ => ?_)
      refine lv_iload_n hx hb dX11_readForm_93 rfl (lv_at hl 2 rfl) ?_
      refine lv_bipush (v := 7) hx hb dX11_readForm_94 (by decide) ?_
      refine lv_icmp_ne (tgt := 107) hx hb dX11_readForm_96 (by decide) (fun _ => ?_) (fun h => absurd h (by decide))
      refine lv_iload_n hx hb dX11_readForm_107 rfl (lv_at hl 2 rfl) ?_
      refine lv_iconst (v := 2) hx hb dX11_readForm_108 (by decide) ?_
      refine lv_icmp_eq (tgt := 127) hx hb dX11_readForm_109 (by decide) (fun _ => ?_) (fun h => absurd (by decide) h)
      refine lv_aload_n hx hb dX11_readForm_127 rfl (lv_at hl 4 rfl) ?_
      refine g_get hx hb hg hown hK hP 0 rfl rfl inX11 75 (by decide) q1690 rfl dX11_readForm_128 ?_
      refine lv_iconst (v := 5) hx hb dX11_readForm_131 (by decide) ?_
      refine va_iald hx hb hK hP 2 0 rfl rfl (by unfold vp_in; decide) dX11_readForm_132 ?_
      refine lv_topi (fun x48 e49 => ?_)
      refine lv_istore (lv' := [(4, .int x48), (3, .int 0), (2, .int 2), (1, .int 0), (0, .ref t0)]) hx hb dX11_readForm_133 hl (by decide) rfl (fun ls hl => ?_)
      refine lv_iload_n hx hb dX11_readForm_135 rfl (lv_at hl 2 rfl) ?_
      refine lv_if_eq (tgt := 149) hx hb dX11_readForm_136 (by decide) (fun h => absurd h (by decide)) (fun _ => ?_)
      refine lv_iload_n hx hb dX11_readForm_139 rfl (lv_at hl 2 rfl) ?_
      refine lv_iconst (v := 2) hx hb dX11_readForm_140 (by decide) ?_
      refine lv_icmp_eq (tgt := 149) hx hb dX11_readForm_141 (by decide) (fun _ => ?_) (fun h => absurd (by decide) h)
      refine lv_iload hx hb dX11_readForm_149 (lv_at hl 0 rfl) ?_
      refine lv_aload_n hx hb dX11_readForm_151 rfl (lv_at hl 4 rfl) ?_
      refine g_get hx hb hg hown hK hP 0 rfl rfl inX11 75 (by decide) q1690 rfl dX11_readForm_152 ?_
      refine lv_bipush (v := 6) hx hb dX11_readForm_155 (by decide) ?_
      refine va_iald hx hb hK hP 2 0 rfl rfl (by unfold vp_in; decide) dX11_readForm_157 ?_
      refine lv_topi (fun x50 e51 => ?_)
      refine lv_iadd hx hb dX11_readForm_158 ?_
      have g52 := g_i32 x48
      have g53 := g_i32 x50
      refine lv_topi (fun x54 e55 => ?_)
      refine lv_istore (lv' := [(4, .int x54), (3, .int 0), (2, .int 2), (1, .int 0), (0, .ref t0)]) hx hb dX11_readForm_159 hl (by decide) rfl (fun ls hl => ?_)
      refine lv_iload_n hx hb dX11_readForm_161 rfl (lv_at hl 2 rfl) ?_
      refine lv_iconst (v := 1) hx hb dX11_readForm_162 (by decide) ?_
      refine lv_icmp_eq (tgt := 176) hx hb dX11_readForm_163 (by decide) (fun h => absurd h (by decide)) (fun _ => ?_)
      refine lv_iload_n hx hb dX11_readForm_166 rfl (lv_at hl 2 rfl) ?_
      refine lv_iconst (v := 3) hx hb dX11_readForm_167 (by decide) ?_
      refine lv_icmp_eq (tgt := 176) hx hb dX11_readForm_168 (by decide) (fun h => absurd h (by decide)) (fun _ => ?_)
      refine lv_iload_n hx hb dX11_readForm_171 rfl (lv_at hl 2 rfl) ?_
      refine lv_iconst (v := 5) hx hb dX11_readForm_172 (by decide) ?_
      refine lv_icmp_ne (tgt := 188) hx hb dX11_readForm_173 (by decide) (fun _ => ?_) (fun h => absurd h (by decide))
      refine lv_aload_n hx hb dX11_readForm_188 rfl (lv_at hl 4 rfl) ?_
      refine lv_iload hx hb dX11_readForm_189 (lv_at hl 0 rfl) ?_
      refine lv_iload_n hx hb dX11_readForm_191 rfl (lv_at hl 1 rfl) ?_
      refine lv_iadd hx hb dX11_readForm_192 ?_
      have g56 := g_i32 x54
      refine lv_topi (fun x57 e58 => ?_)
      have g59 : x57.toInt = x54.toInt + 0 := g_add e58 rfl (by decide) (by omega) (by omega)
      refine lv_ldcw hx hb hown (hg _ q1907) dX11_readForm_193 ?_
      refine lv_iand hx hb dX11_readForm_196 ?_
      refine lv_topi (fun x60 e61 => ?_)
      have g62 : 0 ≤ x60.toInt ∧ x60.toInt ≤ 65535 := g_msk e61 16 (by decide) (by decide) (by decide)
      refine g_put (w' := [(t0, .inr (11, [.int i0, .ref c1, .int i2, .int i3, .int i4, .int i5, .int i6, .int i7, .long i8, .int i9, .int i10, .ref c11, .ref c12, .ref c13, .ref c14, .ref c15, .ref c16, .int i17, .int i18, .ref c19, .ref c20, .ref c21, .ref c22, .int i23, .ref c24, .ref c25, .ref c26, .ref c27, .ref c28, .ref c29, .ref c30, .int i31, .int i32, .int i33, .int i34, .ref c35, .ref c36, .int i37, .int i38, .int i39, .int i40, .int i41, .int i42, .ref c43, .ref c44, .ref c45, .ref c46, .ref c47, .ref c48, .ref c49, .ref c50, .ref c51, .ref c52, .ref c53, .ref c54, .ref c55, .ref c56, .ref c57, .ref c58, .ref c59, .int i60, .ref c61, .int i62, .ref c63, .int i64, .int i65, .int i66, .ref c67, .ref c68, .ref c69, .ref c70, .ref c71, .ref c72, .int i73, .ref c74, .ref c75, .int i76, .int i77, .int i78, .ref c79, .int x4, .int x2, .int x9, .int i83, .int x60])), (c74, .inl (dA 0, 4096, .inl m74)), (c75, .inl (dA 0, 16, .inl m75))]) hx hb hg hown hK hP hD hS 0 rfl rfl inX11 tyX11_ok nmX11 84 (by decide) q1699 rfl rfl rfl (Nat.le_of_ble_eq_true rfl) rfl dX11_readForm_197 (fun H locs hP hD hS => ?_)
      refine lv_aload_n hx hb dX11_readForm_200 rfl (lv_at hl 4 rfl) ?_
      refine lv_iload_n hx hb dX11_readForm_201 rfl (lv_at hl 2 rfl) ?_
      refine lv_iconst (v := 2) hx hb dX11_readForm_202 (by decide) ?_
      refine lv_icmp_eq (tgt := 221) hx hb dX11_readForm_203 (by decide) (fun _ => ?_) (fun h => absurd (by decide) h)
      refine lv_bipush (v := 10) hx hb dX11_readForm_221 (by decide) ?_
      refine lv_goto (tgt := 228) hx hb dX11_readForm_223 (by decide) ?_
      refine g_put (w' := [(t0, .inr (11, [.int i0, .ref c1, .int i2, .int i3, .int i4, .int i5, .int i6, .int i7, .long i8, .int i9, .int i10, .ref c11, .ref c12, .ref c13, .ref c14, .ref c15, .ref c16, .int i17, .int i18, .ref c19, .ref c20, .ref c21, .ref c22, .int i23, .ref c24, .ref c25, .ref c26, .ref c27, .ref c28, .ref c29, .ref c30, .int i31, .int i32, .int i33, .int i34, .ref c35, .ref c36, .int i37, .int i38, .int i39, .int i40, .int i41, .int i42, .ref c43, .ref c44, .ref c45, .ref c46, .ref c47, .ref c48, .ref c49, .ref c50, .ref c51, .ref c52, .ref c53, .ref c54, .ref c55, .ref c56, .ref c57, .ref c58, .ref c59, .int i60, .ref c61, .int i62, .ref c63, .int i64, .int i65, .int i66, .ref c67, .ref c68, .ref c69, .ref c70, .ref c71, .ref c72, .int i73, .ref c74, .ref c75, .int i76, .int i77, .int i78, .ref c79, .int x4, .int x2, .int x9, .int 10, .int x60])), (c74, .inl (dA 0, 4096, .inl m74)), (c75, .inl (dA 0, 16, .inl m75))]) hx hb hg hown hK hP hD hS 0 rfl rfl inX11 tyX11_ok nmX11 83 (by decide) q1698 rfl rfl rfl (Nat.le_of_ble_eq_true rfl) rfl dX11_readForm_228 (fun H locs hP hD hS => ?_)
      exact g_vret hx hb hr hlocks hK (x4, x2, x9, 10, x60) hP hD hS ⟨(show 0 ≤ x2.toInt ∧ x2.toInt ≤ 255 from by omega), (show 0 ≤ x9.toInt ∧ x9.toInt ≤ 7 from by omega), (show 0 ≤ ((10 : Int32)).toInt ∧ ((10 : Int32)).toInt ≤ 15 from by decide)⟩ (Nat.le_of_ble_eq_true rfl) (Nat.le_of_ble_eq_true rfl) dX11_readForm_231
    · refine lv_iload_n hx hb dX11_readForm_43 rfl (lv_at hl 1 rfl) ?_
      refine lv_if_ne (tgt := 64) hx hb dX11_readForm_44 (by decide) (fun h => absurd (by decide) h) (fun _ => ?_)
      refine lv_iload_n hx hb dX11_readForm_47 rfl (lv_at hl 0 rfl) ?_
      refine lv_bipush (v := 6) hx hb dX11_readForm_48 (by decide) ?_
      refine lv_icmp_ne (tgt := 60) hx hb dX11_readForm_50 (by decide) (fun _ => ?_) (fun h => absurd h (by decide))
      refine lv_iconst (v := 0) hx hb dX11_readForm_60 (by decide) ?_
      refine lv_goto (tgt := 80) hx hb dX11_readForm_61 (by decide) ?_
      refine lv_istore_n (lv' := [(3, .int 0), (2, .int 3), (1, .int 0), (0, .ref t0)]) hx hb dX11_readForm_80 rfl hl (by decide) rfl (fun ls hl => ?_)
      refine lv_iconst (v := 0) hx hb dX11_readForm_81 (by decide) ?_
      refine lv_istore (lv' := [(4, .int 0), (3, .int 0), (2, .int 3), (1, .int 0), (0, .ref t0)]) hx hb dX11_readForm_82 hl (by decide) rfl (fun ls hl => ?_)
      refine lv_iload_n hx hb dX11_readForm_84 rfl (lv_at hl 2 rfl) ?_
      refine lv_if_eq (tgt := 99) hx hb dX11_readForm_85 (by decide) (fun h => absurd h (by decide)) (fun _ => ?_)
      refine lv_iload_n hx hb dX11_readForm_88 rfl (lv_at hl 2 rfl) ?_
      refine lv_iconst (v := 1) hx hb dX11_readForm_89 (by decide) ?_
      refine lv_icmp_eq (tgt := 99) hx hb dX11_readForm_90 (by decide) (fun h => absurd h (by decide)) (fun _ => ?_)
      refine lv_iload_n hx hb dX11_readForm_93 rfl (lv_at hl 2 rfl) ?_
      refine lv_bipush (v := 7) hx hb dX11_readForm_94 (by decide) ?_
      refine lv_icmp_ne (tgt := 107) hx hb dX11_readForm_96 (by decide) (fun _ => ?_) (fun h => absurd h (by decide))
      refine lv_iload_n hx hb dX11_readForm_107 rfl (lv_at hl 2 rfl) ?_
      refine lv_iconst (v := 2) hx hb dX11_readForm_108 (by decide) ?_
      refine lv_icmp_eq (tgt := 127) hx hb dX11_readForm_109 (by decide) (fun h => absurd h (by decide)) (fun _ => ?_)
      refine lv_iload_n hx hb dX11_readForm_112 rfl (lv_at hl 2 rfl) ?_
      refine lv_iconst (v := 3) hx hb dX11_readForm_113 (by decide) ?_
      refine lv_icmp_eq (tgt := 127) hx hb dX11_readForm_114 (by decide) (fun _ => ?_) (fun h => absurd (by decide) h)
      refine lv_aload_n hx hb dX11_readForm_127 rfl (lv_at hl 4 rfl) ?_
      refine g_get hx hb hg hown hK hP 0 rfl rfl inX11 75 (by decide) q1690 rfl dX11_readForm_128 ?_
      refine lv_iconst (v := 5) hx hb dX11_readForm_131 (by decide) ?_
      refine va_iald hx hb hK hP 2 0 rfl rfl (by unfold vp_in; decide) dX11_readForm_132 ?_
      refine lv_topi (fun x63 e64 => ?_)
      refine lv_istore (lv' := [(4, .int x63), (3, .int 0), (2, .int 3), (1, .int 0), (0, .ref t0)]) hx hb dX11_readForm_133 hl (by decide) rfl (fun ls hl => ?_)
      refine lv_iload_n hx hb dX11_readForm_135 rfl (lv_at hl 2 rfl) ?_
      refine lv_if_eq (tgt := 149) hx hb dX11_readForm_136 (by decide) (fun h => absurd h (by decide)) (fun _ => ?_)
      refine lv_iload_n hx hb dX11_readForm_139 rfl (lv_at hl 2 rfl) ?_
      refine lv_iconst (v := 2) hx hb dX11_readForm_140 (by decide) ?_
      refine lv_icmp_eq (tgt := 149) hx hb dX11_readForm_141 (by decide) (fun h => absurd h (by decide)) (fun _ => ?_)
      refine lv_iload_n hx hb dX11_readForm_144 rfl (lv_at hl 2 rfl) ?_
      refine lv_iconst (v := 4) hx hb dX11_readForm_145 (by decide) ?_
      refine lv_icmp_ne (tgt := 161) hx hb dX11_readForm_146 (by decide) (fun _ => ?_) (fun h => absurd h (by decide))
      refine lv_iload_n hx hb dX11_readForm_161 rfl (lv_at hl 2 rfl) ?_
      refine lv_iconst (v := 1) hx hb dX11_readForm_162 (by decide) ?_
      refine lv_icmp_eq (tgt := 176) hx hb dX11_readForm_163 (by decide) (fun h => absurd h (by decide)) (fun _ => ?_)
      refine lv_iload_n hx hb dX11_readForm_166 rfl (lv_at hl 2 rfl) ?_
      refine lv_iconst (v := 3) hx hb dX11_readForm_167 (by decide) ?_
      refine lv_icmp_eq (tgt := 176) hx hb dX11_readForm_168 (by decide) (fun _ => ?_) (fun h => absurd (by decide) h)
      refine lv_iload hx hb dX11_readForm_176 (lv_at hl 0 rfl) ?_
      refine lv_aload_n hx hb dX11_readForm_178 rfl (lv_at hl 4 rfl) ?_
      refine g_get hx hb hg hown hK hP 0 rfl rfl inX11 75 (by decide) q1690 rfl dX11_readForm_179 ?_
      refine lv_bipush (v := 7) hx hb dX11_readForm_182 (by decide) ?_
      refine va_iald hx hb hK hP 2 0 rfl rfl (by unfold vp_in; decide) dX11_readForm_184 ?_
      refine lv_topi (fun x65 e66 => ?_)
      refine lv_iadd hx hb dX11_readForm_185 ?_
      have g67 := g_i32 x63
      have g68 := g_i32 x65
      refine lv_topi (fun x69 e70 => ?_)
      refine lv_istore (lv' := [(4, .int x69), (3, .int 0), (2, .int 3), (1, .int 0), (0, .ref t0)]) hx hb dX11_readForm_186 hl (by decide) rfl (fun ls hl => ?_)
      refine lv_aload_n hx hb dX11_readForm_188 rfl (lv_at hl 4 rfl) ?_
      refine lv_iload hx hb dX11_readForm_189 (lv_at hl 0 rfl) ?_
      refine lv_iload_n hx hb dX11_readForm_191 rfl (lv_at hl 1 rfl) ?_
      refine lv_iadd hx hb dX11_readForm_192 ?_
      have g71 := g_i32 x69
      refine lv_topi (fun x72 e73 => ?_)
      have g74 : x72.toInt = x69.toInt + 0 := g_add e73 rfl (by decide) (by omega) (by omega)
      refine lv_ldcw hx hb hown (hg _ q1907) dX11_readForm_193 ?_
      refine lv_iand hx hb dX11_readForm_196 ?_
      refine lv_topi (fun x75 e76 => ?_)
      have g77 : 0 ≤ x75.toInt ∧ x75.toInt ≤ 65535 := g_msk e76 16 (by decide) (by decide) (by decide)
      refine g_put (w' := [(t0, .inr (11, [.int i0, .ref c1, .int i2, .int i3, .int i4, .int i5, .int i6, .int i7, .long i8, .int i9, .int i10, .ref c11, .ref c12, .ref c13, .ref c14, .ref c15, .ref c16, .int i17, .int i18, .ref c19, .ref c20, .ref c21, .ref c22, .int i23, .ref c24, .ref c25, .ref c26, .ref c27, .ref c28, .ref c29, .ref c30, .int i31, .int i32, .int i33, .int i34, .ref c35, .ref c36, .int i37, .int i38, .int i39, .int i40, .int i41, .int i42, .ref c43, .ref c44, .ref c45, .ref c46, .ref c47, .ref c48, .ref c49, .ref c50, .ref c51, .ref c52, .ref c53, .ref c54, .ref c55, .ref c56, .ref c57, .ref c58, .ref c59, .int i60, .ref c61, .int i62, .ref c63, .int i64, .int i65, .int i66, .ref c67, .ref c68, .ref c69, .ref c70, .ref c71, .ref c72, .int i73, .ref c74, .ref c75, .int i76, .int i77, .int i78, .ref c79, .int x4, .int x2, .int x9, .int i83, .int x75])), (c74, .inl (dA 0, 4096, .inl m74)), (c75, .inl (dA 0, 16, .inl m75))]) hx hb hg hown hK hP hD hS 0 rfl rfl inX11 tyX11_ok nmX11 84 (by decide) q1699 rfl rfl rfl (Nat.le_of_ble_eq_true rfl) rfl dX11_readForm_197 (fun H locs hP hD hS => ?_)
      refine lv_aload_n hx hb dX11_readForm_200 rfl (lv_at hl 4 rfl) ?_
      refine lv_iload_n hx hb dX11_readForm_201 rfl (lv_at hl 2 rfl) ?_
      refine lv_iconst (v := 2) hx hb dX11_readForm_202 (by decide) ?_
      refine lv_icmp_eq (tgt := 221) hx hb dX11_readForm_203 (by decide) (fun h => absurd h (by decide)) (fun _ => ?_)
      refine lv_iload_n hx hb dX11_readForm_206 rfl (lv_at hl 2 rfl) ?_
      refine lv_iconst (v := 3) hx hb dX11_readForm_207 (by decide) ?_
      refine lv_icmp_eq (tgt := 221) hx hb dX11_readForm_208 (by decide) (fun _ => ?_) (fun h => absurd (by decide) h)
      refine lv_bipush (v := 10) hx hb dX11_readForm_221 (by decide) ?_
      refine lv_goto (tgt := 228) hx hb dX11_readForm_223 (by decide) ?_
      refine g_put (w' := [(t0, .inr (11, [.int i0, .ref c1, .int i2, .int i3, .int i4, .int i5, .int i6, .int i7, .long i8, .int i9, .int i10, .ref c11, .ref c12, .ref c13, .ref c14, .ref c15, .ref c16, .int i17, .int i18, .ref c19, .ref c20, .ref c21, .ref c22, .int i23, .ref c24, .ref c25, .ref c26, .ref c27, .ref c28, .ref c29, .ref c30, .int i31, .int i32, .int i33, .int i34, .ref c35, .ref c36, .int i37, .int i38, .int i39, .int i40, .int i41, .int i42, .ref c43, .ref c44, .ref c45, .ref c46, .ref c47, .ref c48, .ref c49, .ref c50, .ref c51, .ref c52, .ref c53, .ref c54, .ref c55, .ref c56, .ref c57, .ref c58, .ref c59, .int i60, .ref c61, .int i62, .ref c63, .int i64, .int i65, .int i66, .ref c67, .ref c68, .ref c69, .ref c70, .ref c71, .ref c72, .int i73, .ref c74, .ref c75, .int i76, .int i77, .int i78, .ref c79, .int x4, .int x2, .int x9, .int 10, .int x75])), (c74, .inl (dA 0, 4096, .inl m74)), (c75, .inl (dA 0, 16, .inl m75))]) hx hb hg hown hK hP hD hS 0 rfl rfl inX11 tyX11_ok nmX11 83 (by decide) q1698 rfl rfl rfl (Nat.le_of_ble_eq_true rfl) rfl dX11_readForm_228 (fun H locs hP hD hS => ?_)
      exact g_vret hx hb hr hlocks hK (x4, x2, x9, 10, x75) hP hD hS ⟨(show 0 ≤ x2.toInt ∧ x2.toInt ≤ 255 from by omega), (show 0 ≤ x9.toInt ∧ x9.toInt ≤ 7 from by omega), (show 0 ≤ ((10 : Int32)).toInt ∧ ((10 : Int32)).toInt ≤ 15 from by decide)⟩ (Nat.le_of_ble_eq_true rfl) (Nat.le_of_ble_eq_true rfl) dX11_readForm_231
    · refine lv_iload_n hx hb dX11_readForm_43 rfl (lv_at hl 1 rfl) ?_
      refine lv_if_ne (tgt := 64) hx hb dX11_readForm_44 (by decide) (fun h => absurd (by decide) h) (fun _ => ?_)
      refine lv_iload_n hx hb dX11_readForm_47 rfl (lv_at hl 0 rfl) ?_
      refine lv_bipush (v := 6) hx hb dX11_readForm_48 (by decide) ?_
      refine lv_icmp_ne (tgt := 60) hx hb dX11_readForm_50 (by decide) (fun _ => ?_) (fun h => absurd h (by decide))
      refine lv_iconst (v := 0) hx hb dX11_readForm_60 (by decide) ?_
      refine lv_goto (tgt := 80) hx hb dX11_readForm_61 (by decide) ?_
      refine lv_istore_n (lv' := [(3, .int 0), (2, .int 4), (1, .int 0), (0, .ref t0)]) hx hb dX11_readForm_80 rfl hl (by decide) rfl (fun ls hl => ?_)
      refine lv_iconst (v := 0) hx hb dX11_readForm_81 (by decide) ?_
      refine lv_istore (lv' := [(4, .int 0), (3, .int 0), (2, .int 4), (1, .int 0), (0, .ref t0)]) hx hb dX11_readForm_82 hl (by decide) rfl (fun ls hl => ?_)
      refine lv_iload_n hx hb dX11_readForm_84 rfl (lv_at hl 2 rfl) ?_
      refine lv_if_eq (tgt := 99) hx hb dX11_readForm_85 (by decide) (fun h => absurd h (by decide)) (fun _ => ?_)
      refine lv_iload_n hx hb dX11_readForm_88 rfl (lv_at hl 2 rfl) ?_
      refine lv_iconst (v := 1) hx hb dX11_readForm_89 (by decide) ?_
      refine lv_icmp_eq (tgt := 99) hx hb dX11_readForm_90 (by decide) (fun h => absurd h (by decide)) (fun _ => ?_)
      refine lv_iload_n hx hb dX11_readForm_93 rfl (lv_at hl 2 rfl) ?_
      refine lv_bipush (v := 7) hx hb dX11_readForm_94 (by decide) ?_
      refine lv_icmp_ne (tgt := 107) hx hb dX11_readForm_96 (by decide) (fun _ => ?_) (fun h => absurd h (by decide))
      refine lv_iload_n hx hb dX11_readForm_107 rfl (lv_at hl 2 rfl) ?_
      refine lv_iconst (v := 2) hx hb dX11_readForm_108 (by decide) ?_
      refine lv_icmp_eq (tgt := 127) hx hb dX11_readForm_109 (by decide) (fun h => absurd h (by decide)) (fun _ => ?_)
      refine lv_iload_n hx hb dX11_readForm_112 rfl (lv_at hl 2 rfl) ?_
      refine lv_iconst (v := 3) hx hb dX11_readForm_113 (by decide) ?_
      refine lv_icmp_eq (tgt := 127) hx hb dX11_readForm_114 (by decide) (fun h => absurd h (by decide)) (fun _ => ?_)
      refine lv_iload_n hx hb dX11_readForm_117 rfl (lv_at hl 2 rfl) ?_
      refine lv_bipush (v := 6) hx hb dX11_readForm_118 (by decide) ?_
      refine lv_icmp_ne (tgt := 135) hx hb dX11_readForm_120 (by decide) (fun _ => ?_) (fun h => absurd h (by decide))
      refine lv_iload_n hx hb dX11_readForm_135 rfl (lv_at hl 2 rfl) ?_
      refine lv_if_eq (tgt := 149) hx hb dX11_readForm_136 (by decide) (fun h => absurd h (by decide)) (fun _ => ?_)
      refine lv_iload_n hx hb dX11_readForm_139 rfl (lv_at hl 2 rfl) ?_
      refine lv_iconst (v := 2) hx hb dX11_readForm_140 (by decide) ?_
      refine lv_icmp_eq (tgt := 149) hx hb dX11_readForm_141 (by decide) (fun h => absurd h (by decide)) (fun _ => ?_)
      refine lv_iload_n hx hb dX11_readForm_144 rfl (lv_at hl 2 rfl) ?_
      refine lv_iconst (v := 4) hx hb dX11_readForm_145 (by decide) ?_
      refine lv_icmp_ne (tgt := 161) hx hb dX11_readForm_146 (by decide) (fun h => absurd (by decide) h) (fun _ => ?_)
      refine lv_iload hx hb dX11_readForm_149 (lv_at hl 0 rfl) ?_
      refine lv_aload_n hx hb dX11_readForm_151 rfl (lv_at hl 4 rfl) ?_
      refine g_get hx hb hg hown hK hP 0 rfl rfl inX11 75 (by decide) q1690 rfl dX11_readForm_152 ?_
      refine lv_bipush (v := 6) hx hb dX11_readForm_155 (by decide) ?_
      refine va_iald hx hb hK hP 2 0 rfl rfl (by unfold vp_in; decide) dX11_readForm_157 ?_
      refine lv_topi (fun x78 e79 => ?_)
      refine lv_iadd hx hb dX11_readForm_158 ?_
      have g80 := g_i32 x78
      refine lv_topi (fun x81 e82 => ?_)
      have g83 : x81.toInt = 0 + x78.toInt := g_add e82 (by decide) rfl (by omega) (by omega)
      refine lv_istore (lv' := [(4, .int x81), (3, .int 0), (2, .int 4), (1, .int 0), (0, .ref t0)]) hx hb dX11_readForm_159 hl (by decide) rfl (fun ls hl => ?_)
      refine lv_iload_n hx hb dX11_readForm_161 rfl (lv_at hl 2 rfl) ?_
      refine lv_iconst (v := 1) hx hb dX11_readForm_162 (by decide) ?_
      refine lv_icmp_eq (tgt := 176) hx hb dX11_readForm_163 (by decide) (fun h => absurd h (by decide)) (fun _ => ?_)
      refine lv_iload_n hx hb dX11_readForm_166 rfl (lv_at hl 2 rfl) ?_
      refine lv_iconst (v := 3) hx hb dX11_readForm_167 (by decide) ?_
      refine lv_icmp_eq (tgt := 176) hx hb dX11_readForm_168 (by decide) (fun h => absurd h (by decide)) (fun _ => ?_)
      refine lv_iload_n hx hb dX11_readForm_171 rfl (lv_at hl 2 rfl) ?_
      refine lv_iconst (v := 5) hx hb dX11_readForm_172 (by decide) ?_
      refine lv_icmp_ne (tgt := 188) hx hb dX11_readForm_173 (by decide) (fun _ => ?_) (fun h => absurd h (by decide))
      refine lv_aload_n hx hb dX11_readForm_188 rfl (lv_at hl 4 rfl) ?_
      refine lv_iload hx hb dX11_readForm_189 (lv_at hl 0 rfl) ?_
      refine lv_iload_n hx hb dX11_readForm_191 rfl (lv_at hl 1 rfl) ?_
      refine lv_iadd hx hb dX11_readForm_192 ?_
      have g84 := g_i32 x81
      refine lv_topi (fun x85 e86 => ?_)
      have g87 : x85.toInt = x81.toInt + 0 := g_add e86 rfl (by decide) (by omega) (by omega)
      refine lv_ldcw hx hb hown (hg _ q1907) dX11_readForm_193 ?_
      refine lv_iand hx hb dX11_readForm_196 ?_
      refine lv_topi (fun x88 e89 => ?_)
      have g90 : 0 ≤ x88.toInt ∧ x88.toInt ≤ 65535 := g_msk e89 16 (by decide) (by decide) (by decide)
      refine g_put (w' := [(t0, .inr (11, [.int i0, .ref c1, .int i2, .int i3, .int i4, .int i5, .int i6, .int i7, .long i8, .int i9, .int i10, .ref c11, .ref c12, .ref c13, .ref c14, .ref c15, .ref c16, .int i17, .int i18, .ref c19, .ref c20, .ref c21, .ref c22, .int i23, .ref c24, .ref c25, .ref c26, .ref c27, .ref c28, .ref c29, .ref c30, .int i31, .int i32, .int i33, .int i34, .ref c35, .ref c36, .int i37, .int i38, .int i39, .int i40, .int i41, .int i42, .ref c43, .ref c44, .ref c45, .ref c46, .ref c47, .ref c48, .ref c49, .ref c50, .ref c51, .ref c52, .ref c53, .ref c54, .ref c55, .ref c56, .ref c57, .ref c58, .ref c59, .int i60, .ref c61, .int i62, .ref c63, .int i64, .int i65, .int i66, .ref c67, .ref c68, .ref c69, .ref c70, .ref c71, .ref c72, .int i73, .ref c74, .ref c75, .int i76, .int i77, .int i78, .ref c79, .int x4, .int x2, .int x9, .int i83, .int x88])), (c74, .inl (dA 0, 4096, .inl m74)), (c75, .inl (dA 0, 16, .inl m75))]) hx hb hg hown hK hP hD hS 0 rfl rfl inX11 tyX11_ok nmX11 84 (by decide) q1699 rfl rfl rfl (Nat.le_of_ble_eq_true rfl) rfl dX11_readForm_197 (fun H locs hP hD hS => ?_)
      refine lv_aload_n hx hb dX11_readForm_200 rfl (lv_at hl 4 rfl) ?_
      refine lv_iload_n hx hb dX11_readForm_201 rfl (lv_at hl 2 rfl) ?_
      refine lv_iconst (v := 2) hx hb dX11_readForm_202 (by decide) ?_
      refine lv_icmp_eq (tgt := 221) hx hb dX11_readForm_203 (by decide) (fun h => absurd h (by decide)) (fun _ => ?_)
      refine lv_iload_n hx hb dX11_readForm_206 rfl (lv_at hl 2 rfl) ?_
      refine lv_iconst (v := 3) hx hb dX11_readForm_207 (by decide) ?_
      refine lv_icmp_eq (tgt := 221) hx hb dX11_readForm_208 (by decide) (fun h => absurd h (by decide)) (fun _ => ?_)
      refine lv_iload_n hx hb dX11_readForm_211 rfl (lv_at hl 2 rfl) ?_
      refine lv_bipush (v := 6) hx hb dX11_readForm_212 (by decide) ?_
      refine lv_icmp_ne (tgt := 226) hx hb dX11_readForm_214 (by decide) (fun _ => ?_) (fun h => absurd h (by decide))
      refine lv_bipush (v := 11) hx hb dX11_readForm_226 (by decide) ?_
      refine g_put (w' := [(t0, .inr (11, [.int i0, .ref c1, .int i2, .int i3, .int i4, .int i5, .int i6, .int i7, .long i8, .int i9, .int i10, .ref c11, .ref c12, .ref c13, .ref c14, .ref c15, .ref c16, .int i17, .int i18, .ref c19, .ref c20, .ref c21, .ref c22, .int i23, .ref c24, .ref c25, .ref c26, .ref c27, .ref c28, .ref c29, .ref c30, .int i31, .int i32, .int i33, .int i34, .ref c35, .ref c36, .int i37, .int i38, .int i39, .int i40, .int i41, .int i42, .ref c43, .ref c44, .ref c45, .ref c46, .ref c47, .ref c48, .ref c49, .ref c50, .ref c51, .ref c52, .ref c53, .ref c54, .ref c55, .ref c56, .ref c57, .ref c58, .ref c59, .int i60, .ref c61, .int i62, .ref c63, .int i64, .int i65, .int i66, .ref c67, .ref c68, .ref c69, .ref c70, .ref c71, .ref c72, .int i73, .ref c74, .ref c75, .int i76, .int i77, .int i78, .ref c79, .int x4, .int x2, .int x9, .int 11, .int x88])), (c74, .inl (dA 0, 4096, .inl m74)), (c75, .inl (dA 0, 16, .inl m75))]) hx hb hg hown hK hP hD hS 0 rfl rfl inX11 tyX11_ok nmX11 83 (by decide) q1698 rfl rfl rfl (Nat.le_of_ble_eq_true rfl) rfl dX11_readForm_228 (fun H locs hP hD hS => ?_)
      exact g_vret hx hb hr hlocks hK (x4, x2, x9, 11, x88) hP hD hS ⟨(show 0 ≤ x2.toInt ∧ x2.toInt ≤ 255 from by omega), (show 0 ≤ x9.toInt ∧ x9.toInt ≤ 7 from by omega), (show 0 ≤ ((11 : Int32)).toInt ∧ ((11 : Int32)).toInt ≤ 15 from by decide)⟩ (Nat.le_of_ble_eq_true rfl) (Nat.le_of_ble_eq_true rfl) dX11_readForm_231
    · refine lv_iload_n hx hb dX11_readForm_43 rfl (lv_at hl 1 rfl) ?_
      refine lv_if_ne (tgt := 64) hx hb dX11_readForm_44 (by decide) (fun h => absurd (by decide) h) (fun _ => ?_)
      refine lv_iload_n hx hb dX11_readForm_47 rfl (lv_at hl 0 rfl) ?_
      refine lv_bipush (v := 6) hx hb dX11_readForm_48 (by decide) ?_
      refine lv_icmp_ne (tgt := 60) hx hb dX11_readForm_50 (by decide) (fun _ => ?_) (fun h => absurd h (by decide))
      refine lv_iconst (v := 0) hx hb dX11_readForm_60 (by decide) ?_
      refine lv_goto (tgt := 80) hx hb dX11_readForm_61 (by decide) ?_
      refine lv_istore_n (lv' := [(3, .int 0), (2, .int 5), (1, .int 0), (0, .ref t0)]) hx hb dX11_readForm_80 rfl hl (by decide) rfl (fun ls hl => ?_)
      refine lv_iconst (v := 0) hx hb dX11_readForm_81 (by decide) ?_
      refine lv_istore (lv' := [(4, .int 0), (3, .int 0), (2, .int 5), (1, .int 0), (0, .ref t0)]) hx hb dX11_readForm_82 hl (by decide) rfl (fun ls hl => ?_)
      refine lv_iload_n hx hb dX11_readForm_84 rfl (lv_at hl 2 rfl) ?_
      refine lv_if_eq (tgt := 99) hx hb dX11_readForm_85 (by decide) (fun h => absurd h (by decide)) (fun _ => ?_)
      refine lv_iload_n hx hb dX11_readForm_88 rfl (lv_at hl 2 rfl) ?_
      refine lv_iconst (v := 1) hx hb dX11_readForm_89 (by decide) ?_
      refine lv_icmp_eq (tgt := 99) hx hb dX11_readForm_90 (by decide) (fun h => absurd h (by decide)) (fun _ => ?_)
      refine lv_iload_n hx hb dX11_readForm_93 rfl (lv_at hl 2 rfl) ?_
      refine lv_bipush (v := 7) hx hb dX11_readForm_94 (by decide) ?_
      refine lv_icmp_ne (tgt := 107) hx hb dX11_readForm_96 (by decide) (fun _ => ?_) (fun h => absurd h (by decide))
      refine lv_iload_n hx hb dX11_readForm_107 rfl (lv_at hl 2 rfl) ?_
      refine lv_iconst (v := 2) hx hb dX11_readForm_108 (by decide) ?_
      refine lv_icmp_eq (tgt := 127) hx hb dX11_readForm_109 (by decide) (fun h => absurd h (by decide)) (fun _ => ?_)
      refine lv_iload_n hx hb dX11_readForm_112 rfl (lv_at hl 2 rfl) ?_
      refine lv_iconst (v := 3) hx hb dX11_readForm_113 (by decide) ?_
      refine lv_icmp_eq (tgt := 127) hx hb dX11_readForm_114 (by decide) (fun h => absurd h (by decide)) (fun _ => ?_)
      refine lv_iload_n hx hb dX11_readForm_117 rfl (lv_at hl 2 rfl) ?_
      refine lv_bipush (v := 6) hx hb dX11_readForm_118 (by decide) ?_
      refine lv_icmp_ne (tgt := 135) hx hb dX11_readForm_120 (by decide) (fun _ => ?_) (fun h => absurd h (by decide))
      refine lv_iload_n hx hb dX11_readForm_135 rfl (lv_at hl 2 rfl) ?_
      refine lv_if_eq (tgt := 149) hx hb dX11_readForm_136 (by decide) (fun h => absurd h (by decide)) (fun _ => ?_)
      refine lv_iload_n hx hb dX11_readForm_139 rfl (lv_at hl 2 rfl) ?_
      refine lv_iconst (v := 2) hx hb dX11_readForm_140 (by decide) ?_
      refine lv_icmp_eq (tgt := 149) hx hb dX11_readForm_141 (by decide) (fun h => absurd h (by decide)) (fun _ => ?_)
      refine lv_iload_n hx hb dX11_readForm_144 rfl (lv_at hl 2 rfl) ?_
      refine lv_iconst (v := 4) hx hb dX11_readForm_145 (by decide) ?_
      refine lv_icmp_ne (tgt := 161) hx hb dX11_readForm_146 (by decide) (fun _ => ?_) (fun h => absurd h (by decide))
      refine lv_iload_n hx hb dX11_readForm_161 rfl (lv_at hl 2 rfl) ?_
      refine lv_iconst (v := 1) hx hb dX11_readForm_162 (by decide) ?_
      refine lv_icmp_eq (tgt := 176) hx hb dX11_readForm_163 (by decide) (fun h => absurd h (by decide)) (fun _ => ?_)
      refine lv_iload_n hx hb dX11_readForm_166 rfl (lv_at hl 2 rfl) ?_
      refine lv_iconst (v := 3) hx hb dX11_readForm_167 (by decide) ?_
      refine lv_icmp_eq (tgt := 176) hx hb dX11_readForm_168 (by decide) (fun h => absurd h (by decide)) (fun _ => ?_)
      refine lv_iload_n hx hb dX11_readForm_171 rfl (lv_at hl 2 rfl) ?_
      refine lv_iconst (v := 5) hx hb dX11_readForm_172 (by decide) ?_
      refine lv_icmp_ne (tgt := 188) hx hb dX11_readForm_173 (by decide) (fun h => absurd (by decide) h) (fun _ => ?_)
      refine lv_iload hx hb dX11_readForm_176 (lv_at hl 0 rfl) ?_
      refine lv_aload_n hx hb dX11_readForm_178 rfl (lv_at hl 4 rfl) ?_
      refine g_get hx hb hg hown hK hP 0 rfl rfl inX11 75 (by decide) q1690 rfl dX11_readForm_179 ?_
      refine lv_bipush (v := 7) hx hb dX11_readForm_182 (by decide) ?_
      refine va_iald hx hb hK hP 2 0 rfl rfl (by unfold vp_in; decide) dX11_readForm_184 ?_
      refine lv_topi (fun x91 e92 => ?_)
      refine lv_iadd hx hb dX11_readForm_185 ?_
      have g93 := g_i32 x91
      refine lv_topi (fun x94 e95 => ?_)
      have g96 : x94.toInt = 0 + x91.toInt := g_add e95 (by decide) rfl (by omega) (by omega)
      refine lv_istore (lv' := [(4, .int x94), (3, .int 0), (2, .int 5), (1, .int 0), (0, .ref t0)]) hx hb dX11_readForm_186 hl (by decide) rfl (fun ls hl => ?_)
      refine lv_aload_n hx hb dX11_readForm_188 rfl (lv_at hl 4 rfl) ?_
      refine lv_iload hx hb dX11_readForm_189 (lv_at hl 0 rfl) ?_
      refine lv_iload_n hx hb dX11_readForm_191 rfl (lv_at hl 1 rfl) ?_
      refine lv_iadd hx hb dX11_readForm_192 ?_
      have g97 := g_i32 x94
      refine lv_topi (fun x98 e99 => ?_)
      have g100 : x98.toInt = x94.toInt + 0 := g_add e99 rfl (by decide) (by omega) (by omega)
      refine lv_ldcw hx hb hown (hg _ q1907) dX11_readForm_193 ?_
      refine lv_iand hx hb dX11_readForm_196 ?_
      refine lv_topi (fun x101 e102 => ?_)
      have g103 : 0 ≤ x101.toInt ∧ x101.toInt ≤ 65535 := g_msk e102 16 (by decide) (by decide) (by decide)
      refine g_put (w' := [(t0, .inr (11, [.int i0, .ref c1, .int i2, .int i3, .int i4, .int i5, .int i6, .int i7, .long i8, .int i9, .int i10, .ref c11, .ref c12, .ref c13, .ref c14, .ref c15, .ref c16, .int i17, .int i18, .ref c19, .ref c20, .ref c21, .ref c22, .int i23, .ref c24, .ref c25, .ref c26, .ref c27, .ref c28, .ref c29, .ref c30, .int i31, .int i32, .int i33, .int i34, .ref c35, .ref c36, .int i37, .int i38, .int i39, .int i40, .int i41, .int i42, .ref c43, .ref c44, .ref c45, .ref c46, .ref c47, .ref c48, .ref c49, .ref c50, .ref c51, .ref c52, .ref c53, .ref c54, .ref c55, .ref c56, .ref c57, .ref c58, .ref c59, .int i60, .ref c61, .int i62, .ref c63, .int i64, .int i65, .int i66, .ref c67, .ref c68, .ref c69, .ref c70, .ref c71, .ref c72, .int i73, .ref c74, .ref c75, .int i76, .int i77, .int i78, .ref c79, .int x4, .int x2, .int x9, .int i83, .int x101])), (c74, .inl (dA 0, 4096, .inl m74)), (c75, .inl (dA 0, 16, .inl m75))]) hx hb hg hown hK hP hD hS 0 rfl rfl inX11 tyX11_ok nmX11 84 (by decide) q1699 rfl rfl rfl (Nat.le_of_ble_eq_true rfl) rfl dX11_readForm_197 (fun H locs hP hD hS => ?_)
      refine lv_aload_n hx hb dX11_readForm_200 rfl (lv_at hl 4 rfl) ?_
      refine lv_iload_n hx hb dX11_readForm_201 rfl (lv_at hl 2 rfl) ?_
      refine lv_iconst (v := 2) hx hb dX11_readForm_202 (by decide) ?_
      refine lv_icmp_eq (tgt := 221) hx hb dX11_readForm_203 (by decide) (fun h => absurd h (by decide)) (fun _ => ?_)
      refine lv_iload_n hx hb dX11_readForm_206 rfl (lv_at hl 2 rfl) ?_
      refine lv_iconst (v := 3) hx hb dX11_readForm_207 (by decide) ?_
      refine lv_icmp_eq (tgt := 221) hx hb dX11_readForm_208 (by decide) (fun h => absurd h (by decide)) (fun _ => ?_)
      refine lv_iload_n hx hb dX11_readForm_211 rfl (lv_at hl 2 rfl) ?_
      refine lv_bipush (v := 6) hx hb dX11_readForm_212 (by decide) ?_
      refine lv_icmp_ne (tgt := 226) hx hb dX11_readForm_214 (by decide) (fun _ => ?_) (fun h => absurd h (by decide))
      refine lv_bipush (v := 11) hx hb dX11_readForm_226 (by decide) ?_
      refine g_put (w' := [(t0, .inr (11, [.int i0, .ref c1, .int i2, .int i3, .int i4, .int i5, .int i6, .int i7, .long i8, .int i9, .int i10, .ref c11, .ref c12, .ref c13, .ref c14, .ref c15, .ref c16, .int i17, .int i18, .ref c19, .ref c20, .ref c21, .ref c22, .int i23, .ref c24, .ref c25, .ref c26, .ref c27, .ref c28, .ref c29, .ref c30, .int i31, .int i32, .int i33, .int i34, .ref c35, .ref c36, .int i37, .int i38, .int i39, .int i40, .int i41, .int i42, .ref c43, .ref c44, .ref c45, .ref c46, .ref c47, .ref c48, .ref c49, .ref c50, .ref c51, .ref c52, .ref c53, .ref c54, .ref c55, .ref c56, .ref c57, .ref c58, .ref c59, .int i60, .ref c61, .int i62, .ref c63, .int i64, .int i65, .int i66, .ref c67, .ref c68, .ref c69, .ref c70, .ref c71, .ref c72, .int i73, .ref c74, .ref c75, .int i76, .int i77, .int i78, .ref c79, .int x4, .int x2, .int x9, .int 11, .int x101])), (c74, .inl (dA 0, 4096, .inl m74)), (c75, .inl (dA 0, 16, .inl m75))]) hx hb hg hown hK hP hD hS 0 rfl rfl inX11 tyX11_ok nmX11 83 (by decide) q1698 rfl rfl rfl (Nat.le_of_ble_eq_true rfl) rfl dX11_readForm_228 (fun H locs hP hD hS => ?_)
      exact g_vret hx hb hr hlocks hK (x4, x2, x9, 11, x101) hP hD hS ⟨(show 0 ≤ x2.toInt ∧ x2.toInt ≤ 255 from by omega), (show 0 ≤ x9.toInt ∧ x9.toInt ≤ 7 from by omega), (show 0 ≤ ((11 : Int32)).toInt ∧ ((11 : Int32)).toInt ≤ 15 from by decide)⟩ (Nat.le_of_ble_eq_true rfl) (Nat.le_of_ble_eq_true rfl) dX11_readForm_231
    · refine lv_iload_n hx hb dX11_readForm_43 rfl (lv_at hl 1 rfl) ?_
      refine lv_if_ne (tgt := 64) hx hb dX11_readForm_44 (by decide) (fun h => absurd (by decide) h) (fun _ => ?_)
      refine lv_iload_n hx hb dX11_readForm_47 rfl (lv_at hl 0 rfl) ?_
      refine lv_bipush (v := 6) hx hb dX11_readForm_48 (by decide) ?_
      refine lv_icmp_ne (tgt := 60) hx hb dX11_readForm_50 (by decide) (fun h => absurd (by decide) h) (fun _ => ?_)
      refine lv_aload_n hx hb dX11_readForm_53 rfl (lv_at hl 2 rfl) ?_
      refine g_Vi (n := 0) (As := []) (rest := []) (wr := []) hx hb hml hg hown hK hP hD hS hA (s_X11_fetchTwo l D dA t0 i0 c1 i2 i3 i4 i5 i6 i7 i8 i9 i10 c11 c12 c13 c14 c15 c16 i17 i18 c19 c20 c21 c22 i23 c24 c25 c26 c27 c28 c29 c30 i31 i32 i33 i34 c35 c36 i37 i38 i39 i40 i41 i42 c43 c44 c45 c46 c47 c48 c49 c50 c51 c52 c53 c54 c55 c56 c57 c58 c59 i60 c61 i62 c63 i64 i65 i66 c67 c68 c69 c70 c71 c72 i73 c74 c75 i76 i77 i78 c79 x4 x2 x9 i83 i84 m74 m75 (by omega) (by omega) (by omega) (by omega) (by omega) (by omega) (by omega) p7 _) [0, 1, 2] [] rfl (by decide) rfl (by decide) (by decide) 0 rfl rfl q2148 q160 q2145 q2147 q133 (by decide +kernel) ⟨(Nat.le_of_ble_eq_true rfl), (Nat.le_of_ble_eq_true rfl)⟩ rfl hl.1 rfl (Nat.le_of_ble_eq_true rfl) dX11_readForm_54 ⟨(Nat.le_of_ble_eq_true rfl), (Nat.le_of_ble_eq_true rfl)⟩ (fun x105 u104 H locs w106 hP hD hS => ?_)
      refine W.widen (k := 0) (n := 0) (Nat.le_of_ble_eq_true rfl) (Nat.le_of_ble_eq_true rfl) ?_
      obtain ⟨x107, rfl⟩ : ∃ z, z = u104 := ⟨_, rfl⟩
      have hP : va_P D vwC [(t0, .inr (11, [.int i0, .ref c1, .int i2, .int i3, .int i4, .int i5, .int i6, .int i7, .long i8, .int i9, .int i10, .ref c11, .ref c12, .ref c13, .ref c14, .ref c15, .ref c16, .int i17, .int i18, .ref c19, .ref c20, .ref c21, .ref c22, .int i23, .ref c24, .ref c25, .ref c26, .ref c27, .ref c28, .ref c29, .ref c30, .int i31, .int i32, .int i33, .int i34, .ref c35, .ref c36, .int i37, .int i38, .int i39, .int i40, .int i41, .int i42, .ref c43, .ref c44, .ref c45, .ref c46, .ref c47, .ref c48, .ref c49, .ref c50, .ref c51, .ref c52, .ref c53, .ref c54, .ref c55, .ref c56, .ref c57, .ref c58, .ref c59, .int i60, .ref c61, .int i62, .ref c63, .int i64, .int i65, .int i66, .ref c67, .ref c68, .ref c69, .ref c70, .ref c71, .ref c72, .int i73, .ref c74, .ref c75, .int i76, .int i77, .int i78, .ref c79, .int x107, .int x2, .int x9, .int i83, .int i84])), (c74, .inl (dA 0, 4096, .inl m74)), (c75, .inl (dA 0, 16, .inl m75))] H := hP
      have hD : va_D A [(t0, .inr (11, [.int i0, .ref c1, .int i2, .int i3, .int i4, .int i5, .int i6, .int i7, .long i8, .int i9, .int i10, .ref c11, .ref c12, .ref c13, .ref c14, .ref c15, .ref c16, .int i17, .int i18, .ref c19, .ref c20, .ref c21, .ref c22, .int i23, .ref c24, .ref c25, .ref c26, .ref c27, .ref c28, .ref c29, .ref c30, .int i31, .int i32, .int i33, .int i34, .ref c35, .ref c36, .int i37, .int i38, .int i39, .int i40, .int i41, .int i42, .ref c43, .ref c44, .ref c45, .ref c46, .ref c47, .ref c48, .ref c49, .ref c50, .ref c51, .ref c52, .ref c53, .ref c54, .ref c55, .ref c56, .ref c57, .ref c58, .ref c59, .int i60, .ref c61, .int i62, .ref c63, .int i64, .int i65, .int i66, .ref c67, .ref c68, .ref c69, .ref c70, .ref c71, .ref c72, .int i73, .ref c74, .ref c75, .int i76, .int i77, .int i78, .ref c79, .int x107, .int x2, .int x9, .int i83, .int i84])), (c74, .inl (dA 0, 4096, .inl m74)), (c75, .inl (dA 0, 16, .inl m75))] := hD
      refine lv_goto (tgt := 80) hx hb dX11_readForm_57 (by decide) ?_
      refine lv_istore_n (lv' := [(3, .int x105), (2, .int 6), (1, .int 0), (0, .ref t0)]) hx hb dX11_readForm_80 rfl hl (by decide) rfl (fun ls hl => ?_)
      refine lv_iconst (v := 0) hx hb dX11_readForm_81 (by decide) ?_
      refine lv_istore (lv' := [(4, .int 0), (3, .int x105), (2, .int 6), (1, .int 0), (0, .ref t0)]) hx hb dX11_readForm_82 hl (by decide) rfl (fun ls hl => ?_)
      refine lv_iload_n hx hb dX11_readForm_84 rfl (lv_at hl 2 rfl) ?_
      refine lv_if_eq (tgt := 99) hx hb dX11_readForm_85 (by decide) (fun h => absurd h (by decide)) (fun _ => ?_)
      refine lv_iload_n hx hb dX11_readForm_88 rfl (lv_at hl 2 rfl) ?_
      refine lv_iconst (v := 1) hx hb dX11_readForm_89 (by decide) ?_
      refine lv_icmp_eq (tgt := 99) hx hb dX11_readForm_90 (by decide) (fun h => absurd h (by decide)) (fun _ => ?_)
      refine lv_iload_n hx hb dX11_readForm_93 rfl (lv_at hl 2 rfl) ?_
      refine lv_bipush (v := 7) hx hb dX11_readForm_94 (by decide) ?_
      refine lv_icmp_ne (tgt := 107) hx hb dX11_readForm_96 (by decide) (fun _ => ?_) (fun h => absurd h (by decide))
      refine lv_iload_n hx hb dX11_readForm_107 rfl (lv_at hl 2 rfl) ?_
      refine lv_iconst (v := 2) hx hb dX11_readForm_108 (by decide) ?_
      refine lv_icmp_eq (tgt := 127) hx hb dX11_readForm_109 (by decide) (fun h => absurd h (by decide)) (fun _ => ?_)
      refine lv_iload_n hx hb dX11_readForm_112 rfl (lv_at hl 2 rfl) ?_
      refine lv_iconst (v := 3) hx hb dX11_readForm_113 (by decide) ?_
      refine lv_icmp_eq (tgt := 127) hx hb dX11_readForm_114 (by decide) (fun h => absurd h (by decide)) (fun _ => ?_)
      refine lv_iload_n hx hb dX11_readForm_117 rfl (lv_at hl 2 rfl) ?_
      refine lv_bipush (v := 6) hx hb dX11_readForm_118 (by decide) ?_
      refine lv_icmp_ne (tgt := 135) hx hb dX11_readForm_120 (by decide) (fun h => absurd (by decide) h) (fun _ => ?_)
      refine lv_iload_n hx hb dX11_readForm_123 rfl (lv_at hl 3 rfl) ?_
      refine lv_if_eq (tgt := 135) hx hb dX11_readForm_124 (by decide) (fun _ => ?_) (fun h => absurd (by decide) h)
      refine lv_iload_n hx hb dX11_readForm_135 rfl (lv_at hl 2 rfl) ?_
      refine lv_if_eq (tgt := 149) hx hb dX11_readForm_136 (by decide) (fun h => absurd h (by decide)) (fun _ => ?_)
      refine lv_iload_n hx hb dX11_readForm_139 rfl (lv_at hl 2 rfl) ?_
      refine lv_iconst (v := 2) hx hb dX11_readForm_140 (by decide) ?_
      refine lv_icmp_eq (tgt := 149) hx hb dX11_readForm_141 (by decide) (fun h => absurd h (by decide)) (fun _ => ?_)
      refine lv_iload_n hx hb dX11_readForm_144 rfl (lv_at hl 2 rfl) ?_
      refine lv_iconst (v := 4) hx hb dX11_readForm_145 (by decide) ?_
      refine lv_icmp_ne (tgt := 161) hx hb dX11_readForm_146 (by decide) (fun _ => ?_) (fun h => absurd h (by decide))
      refine lv_iload_n hx hb dX11_readForm_161 rfl (lv_at hl 2 rfl) ?_
      refine lv_iconst (v := 1) hx hb dX11_readForm_162 (by decide) ?_
      refine lv_icmp_eq (tgt := 176) hx hb dX11_readForm_163 (by decide) (fun h => absurd h (by decide)) (fun _ => ?_)
      refine lv_iload_n hx hb dX11_readForm_166 rfl (lv_at hl 2 rfl) ?_
      refine lv_iconst (v := 3) hx hb dX11_readForm_167 (by decide) ?_
      refine lv_icmp_eq (tgt := 176) hx hb dX11_readForm_168 (by decide) (fun h => absurd h (by decide)) (fun _ => ?_)
      refine lv_iload_n hx hb dX11_readForm_171 rfl (lv_at hl 2 rfl) ?_
      refine lv_iconst (v := 5) hx hb dX11_readForm_172 (by decide) ?_
      refine lv_icmp_ne (tgt := 188) hx hb dX11_readForm_173 (by decide) (fun _ => ?_) (fun h => absurd h (by decide))
      refine lv_aload_n hx hb dX11_readForm_188 rfl (lv_at hl 4 rfl) ?_
      refine lv_iload hx hb dX11_readForm_189 (lv_at hl 0 rfl) ?_
      refine lv_iload_n hx hb dX11_readForm_191 rfl (lv_at hl 1 rfl) ?_
      refine lv_iadd hx hb dX11_readForm_192 ?_
      have g108 := g_i32 x105
      refine lv_topi (fun x109 e110 => ?_)
      have g111 : x109.toInt = 0 + x105.toInt := g_add e110 (by decide) rfl (by omega) (by omega)
      refine lv_ldcw hx hb hown (hg _ q1907) dX11_readForm_193 ?_
      refine lv_iand hx hb dX11_readForm_196 ?_
      refine lv_topi (fun x112 e113 => ?_)
      have g114 : 0 ≤ x112.toInt ∧ x112.toInt ≤ 65535 := g_msk e113 16 (by decide) (by decide) (by decide)
      refine g_put (w' := [(t0, .inr (11, [.int i0, .ref c1, .int i2, .int i3, .int i4, .int i5, .int i6, .int i7, .long i8, .int i9, .int i10, .ref c11, .ref c12, .ref c13, .ref c14, .ref c15, .ref c16, .int i17, .int i18, .ref c19, .ref c20, .ref c21, .ref c22, .int i23, .ref c24, .ref c25, .ref c26, .ref c27, .ref c28, .ref c29, .ref c30, .int i31, .int i32, .int i33, .int i34, .ref c35, .ref c36, .int i37, .int i38, .int i39, .int i40, .int i41, .int i42, .ref c43, .ref c44, .ref c45, .ref c46, .ref c47, .ref c48, .ref c49, .ref c50, .ref c51, .ref c52, .ref c53, .ref c54, .ref c55, .ref c56, .ref c57, .ref c58, .ref c59, .int i60, .ref c61, .int i62, .ref c63, .int i64, .int i65, .int i66, .ref c67, .ref c68, .ref c69, .ref c70, .ref c71, .ref c72, .int i73, .ref c74, .ref c75, .int i76, .int i77, .int i78, .ref c79, .int x107, .int x2, .int x9, .int i83, .int x112])), (c74, .inl (dA 0, 4096, .inl m74)), (c75, .inl (dA 0, 16, .inl m75))]) hx hb hg hown hK hP hD hS 0 rfl rfl inX11 tyX11_ok nmX11 84 (by decide) q1699 rfl rfl rfl (Nat.le_of_ble_eq_true rfl) rfl dX11_readForm_197 (fun H locs hP hD hS => ?_)
      refine lv_aload_n hx hb dX11_readForm_200 rfl (lv_at hl 4 rfl) ?_
      refine lv_iload_n hx hb dX11_readForm_201 rfl (lv_at hl 2 rfl) ?_
      refine lv_iconst (v := 2) hx hb dX11_readForm_202 (by decide) ?_
      refine lv_icmp_eq (tgt := 221) hx hb dX11_readForm_203 (by decide) (fun h => absurd h (by decide)) (fun _ => ?_)
      refine lv_iload_n hx hb dX11_readForm_206 rfl (lv_at hl 2 rfl) ?_
      refine lv_iconst (v := 3) hx hb dX11_readForm_207 (by decide) ?_
      refine lv_icmp_eq (tgt := 221) hx hb dX11_readForm_208 (by decide) (fun h => absurd h (by decide)) (fun _ => ?_)
      refine lv_iload_n hx hb dX11_readForm_211 rfl (lv_at hl 2 rfl) ?_
      refine lv_bipush (v := 6) hx hb dX11_readForm_212 (by decide) ?_
      refine lv_icmp_ne (tgt := 226) hx hb dX11_readForm_214 (by decide) (fun h => absurd (by decide) h) (fun _ => ?_)
      refine lv_iload_n hx hb dX11_readForm_217 rfl (lv_at hl 3 rfl) ?_
      refine lv_if_eq (tgt := 226) hx hb dX11_readForm_218 (by decide) (fun _ => ?_) (fun h => absurd (by decide) h)
      refine lv_bipush (v := 11) hx hb dX11_readForm_226 (by decide) ?_
      refine g_put (w' := [(t0, .inr (11, [.int i0, .ref c1, .int i2, .int i3, .int i4, .int i5, .int i6, .int i7, .long i8, .int i9, .int i10, .ref c11, .ref c12, .ref c13, .ref c14, .ref c15, .ref c16, .int i17, .int i18, .ref c19, .ref c20, .ref c21, .ref c22, .int i23, .ref c24, .ref c25, .ref c26, .ref c27, .ref c28, .ref c29, .ref c30, .int i31, .int i32, .int i33, .int i34, .ref c35, .ref c36, .int i37, .int i38, .int i39, .int i40, .int i41, .int i42, .ref c43, .ref c44, .ref c45, .ref c46, .ref c47, .ref c48, .ref c49, .ref c50, .ref c51, .ref c52, .ref c53, .ref c54, .ref c55, .ref c56, .ref c57, .ref c58, .ref c59, .int i60, .ref c61, .int i62, .ref c63, .int i64, .int i65, .int i66, .ref c67, .ref c68, .ref c69, .ref c70, .ref c71, .ref c72, .int i73, .ref c74, .ref c75, .int i76, .int i77, .int i78, .ref c79, .int x107, .int x2, .int x9, .int 11, .int x112])), (c74, .inl (dA 0, 4096, .inl m74)), (c75, .inl (dA 0, 16, .inl m75))]) hx hb hg hown hK hP hD hS 0 rfl rfl inX11 tyX11_ok nmX11 83 (by decide) q1698 rfl rfl rfl (Nat.le_of_ble_eq_true rfl) rfl dX11_readForm_228 (fun H locs hP hD hS => ?_)
      exact g_vret hx hb hr hlocks hK (x107, x2, x9, 11, x112) hP hD hS ⟨(show 0 ≤ x2.toInt ∧ x2.toInt ≤ 255 from by omega), (show 0 ≤ x9.toInt ∧ x9.toInt ≤ 7 from by omega), (show 0 ≤ ((11 : Int32)).toInt ∧ ((11 : Int32)).toInt ≤ 15 from by decide)⟩ (Nat.le_of_ble_eq_true rfl) (Nat.le_of_ble_eq_true rfl) dX11_readForm_231
    · refine lv_iload_n hx hb dX11_readForm_43 rfl (lv_at hl 1 rfl) ?_
      refine lv_if_ne (tgt := 64) hx hb dX11_readForm_44 (by decide) (fun h => absurd (by decide) h) (fun _ => ?_)
      refine lv_iload_n hx hb dX11_readForm_47 rfl (lv_at hl 0 rfl) ?_
      refine lv_bipush (v := 6) hx hb dX11_readForm_48 (by decide) ?_
      refine lv_icmp_ne (tgt := 60) hx hb dX11_readForm_50 (by decide) (fun _ => ?_) (fun h => absurd h (by decide))
      refine lv_iconst (v := 0) hx hb dX11_readForm_60 (by decide) ?_
      refine lv_goto (tgt := 80) hx hb dX11_readForm_61 (by decide) ?_
      refine lv_istore_n (lv' := [(3, .int 0), (2, .int 7), (1, .int 0), (0, .ref t0)]) hx hb dX11_readForm_80 rfl hl (by decide) rfl (fun ls hl => ?_)
      refine lv_iconst (v := 0) hx hb dX11_readForm_81 (by decide) ?_
      refine lv_istore (lv' := [(4, .int 0), (3, .int 0), (2, .int 7), (1, .int 0), (0, .ref t0)]) hx hb dX11_readForm_82 hl (by decide) rfl (fun ls hl => ?_)
      refine lv_iload_n hx hb dX11_readForm_84 rfl (lv_at hl 2 rfl) ?_
      refine lv_if_eq (tgt := 99) hx hb dX11_readForm_85 (by decide) (fun h => absurd h (by decide)) (fun _ => ?_)
      refine lv_iload_n hx hb dX11_readForm_88 rfl (lv_at hl 2 rfl) ?_
      refine lv_iconst (v := 1) hx hb dX11_readForm_89 (by decide) ?_
      refine lv_icmp_eq (tgt := 99) hx hb dX11_readForm_90 (by decide) (fun h => absurd h (by decide)) (fun _ => ?_)
      refine lv_iload_n hx hb dX11_readForm_93 rfl (lv_at hl 2 rfl) ?_
      refine lv_bipush (v := 7) hx hb dX11_readForm_94 (by decide) ?_
      refine lv_icmp_ne (tgt := 107) hx hb dX11_readForm_96 (by decide) (fun h => absurd (by decide) h) (fun _ => ?_)
      refine lv_aload_n hx hb dX11_readForm_99 rfl (lv_at hl 4 rfl) ?_
      refine g_get hx hb hg hown hK hP 0 rfl rfl inX11 75 (by decide) q1690 rfl dX11_readForm_100 ?_
      refine lv_iconst (v := 3) hx hb dX11_readForm_103 (by decide) ?_
      refine va_iald hx hb hK hP 2 0 rfl rfl (by unfold vp_in; decide) dX11_readForm_104 ?_
      refine lv_topi (fun x115 e116 => ?_)
      refine lv_istore (lv' := [(4, .int x115), (3, .int 0), (2, .int 7), (1, .int 0), (0, .ref t0)]) hx hb dX11_readForm_105 hl (by decide) rfl (fun ls hl => ?_)
      refine lv_iload_n hx hb dX11_readForm_107 rfl (lv_at hl 2 rfl) ?_
      refine lv_iconst (v := 2) hx hb dX11_readForm_108 (by decide) ?_
      refine lv_icmp_eq (tgt := 127) hx hb dX11_readForm_109 (by decide) (fun h => absurd h (by decide)) (fun _ => ?_)
      refine lv_iload_n hx hb dX11_readForm_112 rfl (lv_at hl 2 rfl) ?_
      refine lv_iconst (v := 3) hx hb dX11_readForm_113 (by decide) ?_
      refine lv_icmp_eq (tgt := 127) hx hb dX11_readForm_114 (by decide) (fun h => absurd h (by decide)) (fun _ => ?_)
      refine lv_iload_n hx hb dX11_readForm_117 rfl (lv_at hl 2 rfl) ?_
      refine lv_bipush (v := 6) hx hb dX11_readForm_118 (by decide) ?_
      refine lv_icmp_ne (tgt := 135) hx hb dX11_readForm_120 (by decide) (fun _ => ?_) (fun h => absurd h (by decide))
      refine lv_iload_n hx hb dX11_readForm_135 rfl (lv_at hl 2 rfl) ?_
      refine lv_if_eq (tgt := 149) hx hb dX11_readForm_136 (by decide) (fun h => absurd h (by decide)) (fun _ => ?_)
      refine lv_iload_n hx hb dX11_readForm_139 rfl (lv_at hl 2 rfl) ?_
      refine lv_iconst (v := 2) hx hb dX11_readForm_140 (by decide) ?_
      refine lv_icmp_eq (tgt := 149) hx hb dX11_readForm_141 (by decide) (fun h => absurd h (by decide)) (fun _ => ?_)
      refine lv_iload_n hx hb dX11_readForm_144 rfl (lv_at hl 2 rfl) ?_
      refine lv_iconst (v := 4) hx hb dX11_readForm_145 (by decide) ?_
      refine lv_icmp_ne (tgt := 161) hx hb dX11_readForm_146 (by decide) (fun _ => ?_) (fun h => absurd h (by decide))
      refine lv_iload_n hx hb dX11_readForm_161 rfl (lv_at hl 2 rfl) ?_
      refine lv_iconst (v := 1) hx hb dX11_readForm_162 (by decide) ?_
      refine lv_icmp_eq (tgt := 176) hx hb dX11_readForm_163 (by decide) (fun h => absurd h (by decide)) (fun _ => ?_)
      refine lv_iload_n hx hb dX11_readForm_166 rfl (lv_at hl 2 rfl) ?_
      refine lv_iconst (v := 3) hx hb dX11_readForm_167 (by decide) ?_
      refine lv_icmp_eq (tgt := 176) hx hb dX11_readForm_168 (by decide) (fun h => absurd h (by decide)) (fun _ => ?_)
      refine lv_iload_n hx hb dX11_readForm_171 rfl (lv_at hl 2 rfl) ?_
      refine lv_iconst (v := 5) hx hb dX11_readForm_172 (by decide) ?_
      refine lv_icmp_ne (tgt := 188) hx hb dX11_readForm_173 (by decide) (fun _ => ?_) (fun h => absurd h (by decide))
      refine lv_aload_n hx hb dX11_readForm_188 rfl (lv_at hl 4 rfl) ?_
      refine lv_iload hx hb dX11_readForm_189 (lv_at hl 0 rfl) ?_
      refine lv_iload_n hx hb dX11_readForm_191 rfl (lv_at hl 1 rfl) ?_
      refine lv_iadd hx hb dX11_readForm_192 ?_
      have g117 := g_i32 x115
      refine lv_topi (fun x118 e119 => ?_)
      have g120 : x118.toInt = x115.toInt + 0 := g_add e119 rfl (by decide) (by omega) (by omega)
      refine lv_ldcw hx hb hown (hg _ q1907) dX11_readForm_193 ?_
      refine lv_iand hx hb dX11_readForm_196 ?_
      refine lv_topi (fun x121 e122 => ?_)
      have g123 : 0 ≤ x121.toInt ∧ x121.toInt ≤ 65535 := g_msk e122 16 (by decide) (by decide) (by decide)
      refine g_put (w' := [(t0, .inr (11, [.int i0, .ref c1, .int i2, .int i3, .int i4, .int i5, .int i6, .int i7, .long i8, .int i9, .int i10, .ref c11, .ref c12, .ref c13, .ref c14, .ref c15, .ref c16, .int i17, .int i18, .ref c19, .ref c20, .ref c21, .ref c22, .int i23, .ref c24, .ref c25, .ref c26, .ref c27, .ref c28, .ref c29, .ref c30, .int i31, .int i32, .int i33, .int i34, .ref c35, .ref c36, .int i37, .int i38, .int i39, .int i40, .int i41, .int i42, .ref c43, .ref c44, .ref c45, .ref c46, .ref c47, .ref c48, .ref c49, .ref c50, .ref c51, .ref c52, .ref c53, .ref c54, .ref c55, .ref c56, .ref c57, .ref c58, .ref c59, .int i60, .ref c61, .int i62, .ref c63, .int i64, .int i65, .int i66, .ref c67, .ref c68, .ref c69, .ref c70, .ref c71, .ref c72, .int i73, .ref c74, .ref c75, .int i76, .int i77, .int i78, .ref c79, .int x4, .int x2, .int x9, .int i83, .int x121])), (c74, .inl (dA 0, 4096, .inl m74)), (c75, .inl (dA 0, 16, .inl m75))]) hx hb hg hown hK hP hD hS 0 rfl rfl inX11 tyX11_ok nmX11 84 (by decide) q1699 rfl rfl rfl (Nat.le_of_ble_eq_true rfl) rfl dX11_readForm_197 (fun H locs hP hD hS => ?_)
      refine lv_aload_n hx hb dX11_readForm_200 rfl (lv_at hl 4 rfl) ?_
      refine lv_iload_n hx hb dX11_readForm_201 rfl (lv_at hl 2 rfl) ?_
      refine lv_iconst (v := 2) hx hb dX11_readForm_202 (by decide) ?_
      refine lv_icmp_eq (tgt := 221) hx hb dX11_readForm_203 (by decide) (fun h => absurd h (by decide)) (fun _ => ?_)
      refine lv_iload_n hx hb dX11_readForm_206 rfl (lv_at hl 2 rfl) ?_
      refine lv_iconst (v := 3) hx hb dX11_readForm_207 (by decide) ?_
      refine lv_icmp_eq (tgt := 221) hx hb dX11_readForm_208 (by decide) (fun h => absurd h (by decide)) (fun _ => ?_)
      refine lv_iload_n hx hb dX11_readForm_211 rfl (lv_at hl 2 rfl) ?_
      refine lv_bipush (v := 6) hx hb dX11_readForm_212 (by decide) ?_
      refine lv_icmp_ne (tgt := 226) hx hb dX11_readForm_214 (by decide) (fun _ => ?_) (fun h => absurd h (by decide))
      refine lv_bipush (v := 11) hx hb dX11_readForm_226 (by decide) ?_
      refine g_put (w' := [(t0, .inr (11, [.int i0, .ref c1, .int i2, .int i3, .int i4, .int i5, .int i6, .int i7, .long i8, .int i9, .int i10, .ref c11, .ref c12, .ref c13, .ref c14, .ref c15, .ref c16, .int i17, .int i18, .ref c19, .ref c20, .ref c21, .ref c22, .int i23, .ref c24, .ref c25, .ref c26, .ref c27, .ref c28, .ref c29, .ref c30, .int i31, .int i32, .int i33, .int i34, .ref c35, .ref c36, .int i37, .int i38, .int i39, .int i40, .int i41, .int i42, .ref c43, .ref c44, .ref c45, .ref c46, .ref c47, .ref c48, .ref c49, .ref c50, .ref c51, .ref c52, .ref c53, .ref c54, .ref c55, .ref c56, .ref c57, .ref c58, .ref c59, .int i60, .ref c61, .int i62, .ref c63, .int i64, .int i65, .int i66, .ref c67, .ref c68, .ref c69, .ref c70, .ref c71, .ref c72, .int i73, .ref c74, .ref c75, .int i76, .int i77, .int i78, .ref c79, .int x4, .int x2, .int x9, .int 11, .int x121])), (c74, .inl (dA 0, 4096, .inl m74)), (c75, .inl (dA 0, 16, .inl m75))]) hx hb hg hown hK hP hD hS 0 rfl rfl inX11 tyX11_ok nmX11 83 (by decide) q1698 rfl rfl rfl (Nat.le_of_ble_eq_true rfl) rfl dX11_readForm_228 (fun H locs hP hD hS => ?_)
      exact g_vret hx hb hr hlocks hK (x4, x2, x9, 11, x121) hP hD hS ⟨(show 0 ≤ x2.toInt ∧ x2.toInt ≤ 255 from by omega), (show 0 ≤ x9.toInt ∧ x9.toInt ≤ 7 from by omega), (show 0 ≤ ((11 : Int32)).toInt ∧ ((11 : Int32)).toInt ≤ 15 from by decide)⟩ (Nat.le_of_ble_eq_true rfl) (Nat.le_of_ble_eq_true rfl) dX11_readForm_231
  · refine lv_iload_n hx hb dX11_readForm_37 rfl (lv_at hl 1 rfl) ?_
    refine lv_iconst (v := 3) hx hb dX11_readForm_38 (by decide) ?_
    refine lv_icmp_ne (tgt := 43) hx hb dX11_readForm_39 (by decide) (fun _ => ?_) (fun h => absurd h (by decide))
    rcases g_c0_7 (x := x15) (by omega) (by omega) with rfl | rfl | rfl | rfl | rfl | rfl | rfl | rfl
    · refine lv_iload_n hx hb dX11_readForm_43 rfl (lv_at hl 1 rfl) ?_
      refine lv_if_ne (tgt := 64) hx hb dX11_readForm_44 (by decide) (fun _ => ?_) (fun h => absurd h (by decide))
      refine lv_iload_n hx hb dX11_readForm_64 rfl (lv_at hl 1 rfl) ?_
      refine lv_iconst (v := 1) hx hb dX11_readForm_65 (by decide) ?_
      refine lv_icmp_ne (tgt := 76) hx hb dX11_readForm_66 (by decide) (fun h => absurd (by decide) h) (fun _ => ?_)
      refine lv_aload_n hx hb dX11_readForm_69 rfl (lv_at hl 2 rfl) ?_
      refine g_Vi (n := 0) (As := []) (rest := []) (wr := []) hx hb hml hg hown hK hP hD hS hA (s_X11_fetchSigned l D dA t0 i0 c1 i2 i3 i4 i5 i6 i7 i8 i9 i10 c11 c12 c13 c14 c15 c16 i17 i18 c19 c20 c21 c22 i23 c24 c25 c26 c27 c28 c29 c30 i31 i32 i33 i34 c35 c36 i37 i38 i39 i40 i41 i42 c43 c44 c45 c46 c47 c48 c49 c50 c51 c52 c53 c54 c55 c56 c57 c58 c59 i60 c61 i62 c63 i64 i65 i66 c67 c68 c69 c70 c71 c72 i73 c74 c75 i76 i77 i78 c79 x4 x2 x9 i83 i84 m74 m75 (by omega) (by omega) (by omega) (by omega) (by omega) (by omega) (by omega) p7 _) [0, 1, 2] [] rfl (by decide) rfl (by decide) (by decide) 0 rfl rfl q2152 q160 q2149 q2151 q134 (by decide +kernel) ⟨(Nat.le_of_ble_eq_true rfl), (Nat.le_of_ble_eq_true rfl)⟩ rfl hl.1 rfl (Nat.le_of_ble_eq_true rfl) dX11_readForm_70 ⟨(Nat.le_of_ble_eq_true rfl), (Nat.le_of_ble_eq_true rfl)⟩ (fun x125 u124 H locs w126 hP hD hS => ?_)
      refine W.widen (k := 0) (n := 0) (Nat.le_of_ble_eq_true rfl) (Nat.le_of_ble_eq_true rfl) ?_
      obtain ⟨x127, rfl⟩ : ∃ z, z = u124 := ⟨_, rfl⟩
      have hP : va_P D vwC [(t0, .inr (11, [.int i0, .ref c1, .int i2, .int i3, .int i4, .int i5, .int i6, .int i7, .long i8, .int i9, .int i10, .ref c11, .ref c12, .ref c13, .ref c14, .ref c15, .ref c16, .int i17, .int i18, .ref c19, .ref c20, .ref c21, .ref c22, .int i23, .ref c24, .ref c25, .ref c26, .ref c27, .ref c28, .ref c29, .ref c30, .int i31, .int i32, .int i33, .int i34, .ref c35, .ref c36, .int i37, .int i38, .int i39, .int i40, .int i41, .int i42, .ref c43, .ref c44, .ref c45, .ref c46, .ref c47, .ref c48, .ref c49, .ref c50, .ref c51, .ref c52, .ref c53, .ref c54, .ref c55, .ref c56, .ref c57, .ref c58, .ref c59, .int i60, .ref c61, .int i62, .ref c63, .int i64, .int i65, .int i66, .ref c67, .ref c68, .ref c69, .ref c70, .ref c71, .ref c72, .int i73, .ref c74, .ref c75, .int i76, .int i77, .int i78, .ref c79, .int x127, .int x2, .int x9, .int i83, .int i84])), (c74, .inl (dA 0, 4096, .inl m74)), (c75, .inl (dA 0, 16, .inl m75))] H := hP
      have hD : va_D A [(t0, .inr (11, [.int i0, .ref c1, .int i2, .int i3, .int i4, .int i5, .int i6, .int i7, .long i8, .int i9, .int i10, .ref c11, .ref c12, .ref c13, .ref c14, .ref c15, .ref c16, .int i17, .int i18, .ref c19, .ref c20, .ref c21, .ref c22, .int i23, .ref c24, .ref c25, .ref c26, .ref c27, .ref c28, .ref c29, .ref c30, .int i31, .int i32, .int i33, .int i34, .ref c35, .ref c36, .int i37, .int i38, .int i39, .int i40, .int i41, .int i42, .ref c43, .ref c44, .ref c45, .ref c46, .ref c47, .ref c48, .ref c49, .ref c50, .ref c51, .ref c52, .ref c53, .ref c54, .ref c55, .ref c56, .ref c57, .ref c58, .ref c59, .int i60, .ref c61, .int i62, .ref c63, .int i64, .int i65, .int i66, .ref c67, .ref c68, .ref c69, .ref c70, .ref c71, .ref c72, .int i73, .ref c74, .ref c75, .int i76, .int i77, .int i78, .ref c79, .int x127, .int x2, .int x9, .int i83, .int i84])), (c74, .inl (dA 0, 4096, .inl m74)), (c75, .inl (dA 0, 16, .inl m75))] := hD
      have g128 := w126
      have g128 : -128 ≤ x125.toInt ∧ x125.toInt ≤ 127 := g128
      refine lv_goto (tgt := 80) hx hb dX11_readForm_73 (by decide) ?_
      refine lv_istore_n (lv' := [(3, .int x125), (2, .int 0), (1, .int 1), (0, .ref t0)]) hx hb dX11_readForm_80 rfl hl (by decide) rfl (fun ls hl => ?_)
      refine lv_iconst (v := 0) hx hb dX11_readForm_81 (by decide) ?_
      refine lv_istore (lv' := [(4, .int 0), (3, .int x125), (2, .int 0), (1, .int 1), (0, .ref t0)]) hx hb dX11_readForm_82 hl (by decide) rfl (fun ls hl => ?_)
      refine lv_iload_n hx hb dX11_readForm_84 rfl (lv_at hl 2 rfl) ?_
      refine lv_if_eq (tgt := 99) hx hb dX11_readForm_85 (by decide) (fun _ => ?_) (fun h => absurd (by decide) h)
      refine lv_aload_n hx hb dX11_readForm_99 rfl (lv_at hl 4 rfl) ?_
      refine g_get hx hb hg hown hK hP 0 rfl rfl inX11 75 (by decide) q1690 rfl dX11_readForm_100 ?_
      refine lv_iconst (v := 3) hx hb dX11_readForm_103 (by decide) ?_
      refine va_iald hx hb hK hP 2 0 rfl rfl (by unfold vp_in; decide) dX11_readForm_104 ?_
      refine lv_topi (fun x129 e130 => ?_)
      refine lv_istore (lv' := [(4, .int x129), (3, .int x125), (2, .int 0), (1, .int 1), (0, .ref t0)]) hx hb dX11_readForm_105 hl (by decide) rfl (fun ls hl => ?_)
      refine lv_iload_n hx hb dX11_readForm_107 rfl (lv_at hl 2 rfl) ?_
      refine lv_iconst (v := 2) hx hb dX11_readForm_108 (by decide) ?_
      refine lv_icmp_eq (tgt := 127) hx hb dX11_readForm_109 (by decide) (fun h => absurd h (by decide)) (fun _ => ?_)
      refine lv_iload_n hx hb dX11_readForm_112 rfl (lv_at hl 2 rfl) ?_
      refine lv_iconst (v := 3) hx hb dX11_readForm_113 (by decide) ?_
      refine lv_icmp_eq (tgt := 127) hx hb dX11_readForm_114 (by decide) (fun h => absurd h (by decide)) (fun _ => ?_)
      refine lv_iload_n hx hb dX11_readForm_117 rfl (lv_at hl 2 rfl) ?_
      refine lv_bipush (v := 6) hx hb dX11_readForm_118 (by decide) ?_
      refine lv_icmp_ne (tgt := 135) hx hb dX11_readForm_120 (by decide) (fun _ => ?_) (fun h => absurd h (by decide))
      refine lv_iload_n hx hb dX11_readForm_135 rfl (lv_at hl 2 rfl) ?_
      refine lv_if_eq (tgt := 149) hx hb dX11_readForm_136 (by decide) (fun _ => ?_) (fun h => absurd (by decide) h)
      refine lv_iload hx hb dX11_readForm_149 (lv_at hl 0 rfl) ?_
      refine lv_aload_n hx hb dX11_readForm_151 rfl (lv_at hl 4 rfl) ?_
      refine g_get hx hb hg hown hK hP 0 rfl rfl inX11 75 (by decide) q1690 rfl dX11_readForm_152 ?_
      refine lv_bipush (v := 6) hx hb dX11_readForm_155 (by decide) ?_
      refine va_iald hx hb hK hP 2 0 rfl rfl (by unfold vp_in; decide) dX11_readForm_157 ?_
      refine lv_topi (fun x131 e132 => ?_)
      refine lv_iadd hx hb dX11_readForm_158 ?_
      have g133 := g_i32 x129
      have g134 := g_i32 x131
      refine lv_topi (fun x135 e136 => ?_)
      refine lv_istore (lv' := [(4, .int x135), (3, .int x125), (2, .int 0), (1, .int 1), (0, .ref t0)]) hx hb dX11_readForm_159 hl (by decide) rfl (fun ls hl => ?_)
      refine lv_iload_n hx hb dX11_readForm_161 rfl (lv_at hl 2 rfl) ?_
      refine lv_iconst (v := 1) hx hb dX11_readForm_162 (by decide) ?_
      refine lv_icmp_eq (tgt := 176) hx hb dX11_readForm_163 (by decide) (fun h => absurd h (by decide)) (fun _ => ?_)
      refine lv_iload_n hx hb dX11_readForm_166 rfl (lv_at hl 2 rfl) ?_
      refine lv_iconst (v := 3) hx hb dX11_readForm_167 (by decide) ?_
      refine lv_icmp_eq (tgt := 176) hx hb dX11_readForm_168 (by decide) (fun h => absurd h (by decide)) (fun _ => ?_)
      refine lv_iload_n hx hb dX11_readForm_171 rfl (lv_at hl 2 rfl) ?_
      refine lv_iconst (v := 5) hx hb dX11_readForm_172 (by decide) ?_
      refine lv_icmp_ne (tgt := 188) hx hb dX11_readForm_173 (by decide) (fun _ => ?_) (fun h => absurd h (by decide))
      refine lv_aload_n hx hb dX11_readForm_188 rfl (lv_at hl 4 rfl) ?_
      refine lv_iload hx hb dX11_readForm_189 (lv_at hl 0 rfl) ?_
      refine lv_iload_n hx hb dX11_readForm_191 rfl (lv_at hl 1 rfl) ?_
      refine lv_iadd hx hb dX11_readForm_192 ?_
      have g137 := g_i32 x135
      refine lv_topi (fun x138 e139 => ?_)
      refine lv_ldcw hx hb hown (hg _ q1907) dX11_readForm_193 ?_
      refine lv_iand hx hb dX11_readForm_196 ?_
      refine lv_topi (fun x140 e141 => ?_)
      have g142 : 0 ≤ x140.toInt ∧ x140.toInt ≤ 65535 := g_msk e141 16 (by decide) (by decide) (by decide)
      refine g_put (w' := [(t0, .inr (11, [.int i0, .ref c1, .int i2, .int i3, .int i4, .int i5, .int i6, .int i7, .long i8, .int i9, .int i10, .ref c11, .ref c12, .ref c13, .ref c14, .ref c15, .ref c16, .int i17, .int i18, .ref c19, .ref c20, .ref c21, .ref c22, .int i23, .ref c24, .ref c25, .ref c26, .ref c27, .ref c28, .ref c29, .ref c30, .int i31, .int i32, .int i33, .int i34, .ref c35, .ref c36, .int i37, .int i38, .int i39, .int i40, .int i41, .int i42, .ref c43, .ref c44, .ref c45, .ref c46, .ref c47, .ref c48, .ref c49, .ref c50, .ref c51, .ref c52, .ref c53, .ref c54, .ref c55, .ref c56, .ref c57, .ref c58, .ref c59, .int i60, .ref c61, .int i62, .ref c63, .int i64, .int i65, .int i66, .ref c67, .ref c68, .ref c69, .ref c70, .ref c71, .ref c72, .int i73, .ref c74, .ref c75, .int i76, .int i77, .int i78, .ref c79, .int x127, .int x2, .int x9, .int i83, .int x140])), (c74, .inl (dA 0, 4096, .inl m74)), (c75, .inl (dA 0, 16, .inl m75))]) hx hb hg hown hK hP hD hS 0 rfl rfl inX11 tyX11_ok nmX11 84 (by decide) q1699 rfl rfl rfl (Nat.le_of_ble_eq_true rfl) rfl dX11_readForm_197 (fun H locs hP hD hS => ?_)
      refine lv_aload_n hx hb dX11_readForm_200 rfl (lv_at hl 4 rfl) ?_
      refine lv_iload_n hx hb dX11_readForm_201 rfl (lv_at hl 2 rfl) ?_
      refine lv_iconst (v := 2) hx hb dX11_readForm_202 (by decide) ?_
      refine lv_icmp_eq (tgt := 221) hx hb dX11_readForm_203 (by decide) (fun h => absurd h (by decide)) (fun _ => ?_)
      refine lv_iload_n hx hb dX11_readForm_206 rfl (lv_at hl 2 rfl) ?_
      refine lv_iconst (v := 3) hx hb dX11_readForm_207 (by decide) ?_
      refine lv_icmp_eq (tgt := 221) hx hb dX11_readForm_208 (by decide) (fun h => absurd h (by decide)) (fun _ => ?_)
      refine lv_iload_n hx hb dX11_readForm_211 rfl (lv_at hl 2 rfl) ?_
      refine lv_bipush (v := 6) hx hb dX11_readForm_212 (by decide) ?_
      refine lv_icmp_ne (tgt := 226) hx hb dX11_readForm_214 (by decide) (fun _ => ?_) (fun h => absurd h (by decide))
      refine lv_bipush (v := 11) hx hb dX11_readForm_226 (by decide) ?_
      refine g_put (w' := [(t0, .inr (11, [.int i0, .ref c1, .int i2, .int i3, .int i4, .int i5, .int i6, .int i7, .long i8, .int i9, .int i10, .ref c11, .ref c12, .ref c13, .ref c14, .ref c15, .ref c16, .int i17, .int i18, .ref c19, .ref c20, .ref c21, .ref c22, .int i23, .ref c24, .ref c25, .ref c26, .ref c27, .ref c28, .ref c29, .ref c30, .int i31, .int i32, .int i33, .int i34, .ref c35, .ref c36, .int i37, .int i38, .int i39, .int i40, .int i41, .int i42, .ref c43, .ref c44, .ref c45, .ref c46, .ref c47, .ref c48, .ref c49, .ref c50, .ref c51, .ref c52, .ref c53, .ref c54, .ref c55, .ref c56, .ref c57, .ref c58, .ref c59, .int i60, .ref c61, .int i62, .ref c63, .int i64, .int i65, .int i66, .ref c67, .ref c68, .ref c69, .ref c70, .ref c71, .ref c72, .int i73, .ref c74, .ref c75, .int i76, .int i77, .int i78, .ref c79, .int x127, .int x2, .int x9, .int 11, .int x140])), (c74, .inl (dA 0, 4096, .inl m74)), (c75, .inl (dA 0, 16, .inl m75))]) hx hb hg hown hK hP hD hS 0 rfl rfl inX11 tyX11_ok nmX11 83 (by decide) q1698 rfl rfl rfl (Nat.le_of_ble_eq_true rfl) rfl dX11_readForm_228 (fun H locs hP hD hS => ?_)
      exact g_vret hx hb hr hlocks hK (x127, x2, x9, 11, x140) hP hD hS ⟨(show 0 ≤ x2.toInt ∧ x2.toInt ≤ 255 from by omega), (show 0 ≤ x9.toInt ∧ x9.toInt ≤ 7 from by omega), (show 0 ≤ ((11 : Int32)).toInt ∧ ((11 : Int32)).toInt ≤ 15 from by decide)⟩ (Nat.le_of_ble_eq_true rfl) (Nat.le_of_ble_eq_true rfl) dX11_readForm_231
    · refine lv_iload_n hx hb dX11_readForm_43 rfl (lv_at hl 1 rfl) ?_
      refine lv_if_ne (tgt := 64) hx hb dX11_readForm_44 (by decide) (fun _ => ?_) (fun h => absurd h (by decide))
      refine lv_iload_n hx hb dX11_readForm_64 rfl (lv_at hl 1 rfl) ?_
      refine lv_iconst (v := 1) hx hb dX11_readForm_65 (by decide) ?_
      refine lv_icmp_ne (tgt := 76) hx hb dX11_readForm_66 (by decide) (fun h => absurd (by decide) h) (fun _ => ?_)
      refine lv_aload_n hx hb dX11_readForm_69 rfl (lv_at hl 2 rfl) ?_
      refine g_Vi (n := 0) (As := []) (rest := []) (wr := []) hx hb hml hg hown hK hP hD hS hA (s_X11_fetchSigned l D dA t0 i0 c1 i2 i3 i4 i5 i6 i7 i8 i9 i10 c11 c12 c13 c14 c15 c16 i17 i18 c19 c20 c21 c22 i23 c24 c25 c26 c27 c28 c29 c30 i31 i32 i33 i34 c35 c36 i37 i38 i39 i40 i41 i42 c43 c44 c45 c46 c47 c48 c49 c50 c51 c52 c53 c54 c55 c56 c57 c58 c59 i60 c61 i62 c63 i64 i65 i66 c67 c68 c69 c70 c71 c72 i73 c74 c75 i76 i77 i78 c79 x4 x2 x9 i83 i84 m74 m75 (by omega) (by omega) (by omega) (by omega) (by omega) (by omega) (by omega) p7 _) [0, 1, 2] [] rfl (by decide) rfl (by decide) (by decide) 0 rfl rfl q2152 q160 q2149 q2151 q134 (by decide +kernel) ⟨(Nat.le_of_ble_eq_true rfl), (Nat.le_of_ble_eq_true rfl)⟩ rfl hl.1 rfl (Nat.le_of_ble_eq_true rfl) dX11_readForm_70 ⟨(Nat.le_of_ble_eq_true rfl), (Nat.le_of_ble_eq_true rfl)⟩ (fun x144 u143 H locs w145 hP hD hS => ?_)
      refine W.widen (k := 0) (n := 0) (Nat.le_of_ble_eq_true rfl) (Nat.le_of_ble_eq_true rfl) ?_
      obtain ⟨x146, rfl⟩ : ∃ z, z = u143 := ⟨_, rfl⟩
      have hP : va_P D vwC [(t0, .inr (11, [.int i0, .ref c1, .int i2, .int i3, .int i4, .int i5, .int i6, .int i7, .long i8, .int i9, .int i10, .ref c11, .ref c12, .ref c13, .ref c14, .ref c15, .ref c16, .int i17, .int i18, .ref c19, .ref c20, .ref c21, .ref c22, .int i23, .ref c24, .ref c25, .ref c26, .ref c27, .ref c28, .ref c29, .ref c30, .int i31, .int i32, .int i33, .int i34, .ref c35, .ref c36, .int i37, .int i38, .int i39, .int i40, .int i41, .int i42, .ref c43, .ref c44, .ref c45, .ref c46, .ref c47, .ref c48, .ref c49, .ref c50, .ref c51, .ref c52, .ref c53, .ref c54, .ref c55, .ref c56, .ref c57, .ref c58, .ref c59, .int i60, .ref c61, .int i62, .ref c63, .int i64, .int i65, .int i66, .ref c67, .ref c68, .ref c69, .ref c70, .ref c71, .ref c72, .int i73, .ref c74, .ref c75, .int i76, .int i77, .int i78, .ref c79, .int x146, .int x2, .int x9, .int i83, .int i84])), (c74, .inl (dA 0, 4096, .inl m74)), (c75, .inl (dA 0, 16, .inl m75))] H := hP
      have hD : va_D A [(t0, .inr (11, [.int i0, .ref c1, .int i2, .int i3, .int i4, .int i5, .int i6, .int i7, .long i8, .int i9, .int i10, .ref c11, .ref c12, .ref c13, .ref c14, .ref c15, .ref c16, .int i17, .int i18, .ref c19, .ref c20, .ref c21, .ref c22, .int i23, .ref c24, .ref c25, .ref c26, .ref c27, .ref c28, .ref c29, .ref c30, .int i31, .int i32, .int i33, .int i34, .ref c35, .ref c36, .int i37, .int i38, .int i39, .int i40, .int i41, .int i42, .ref c43, .ref c44, .ref c45, .ref c46, .ref c47, .ref c48, .ref c49, .ref c50, .ref c51, .ref c52, .ref c53, .ref c54, .ref c55, .ref c56, .ref c57, .ref c58, .ref c59, .int i60, .ref c61, .int i62, .ref c63, .int i64, .int i65, .int i66, .ref c67, .ref c68, .ref c69, .ref c70, .ref c71, .ref c72, .int i73, .ref c74, .ref c75, .int i76, .int i77, .int i78, .ref c79, .int x146, .int x2, .int x9, .int i83, .int i84])), (c74, .inl (dA 0, 4096, .inl m74)), (c75, .inl (dA 0, 16, .inl m75))] := hD
      have g147 := w145
      have g147 : -128 ≤ x144.toInt ∧ x144.toInt ≤ 127 := g147
      refine lv_goto (tgt := 80) hx hb dX11_readForm_73 (by decide) ?_
      refine lv_istore_n (lv' := [(3, .int x144), (2, .int 1), (1, .int 1), (0, .ref t0)]) hx hb dX11_readForm_80 rfl hl (by decide) rfl (fun ls hl => ?_)
      refine lv_iconst (v := 0) hx hb dX11_readForm_81 (by decide) ?_
      refine lv_istore (lv' := [(4, .int 0), (3, .int x144), (2, .int 1), (1, .int 1), (0, .ref t0)]) hx hb dX11_readForm_82 hl (by decide) rfl (fun ls hl => ?_)
      refine lv_iload_n hx hb dX11_readForm_84 rfl (lv_at hl 2 rfl) ?_
      refine lv_if_eq (tgt := 99) hx hb dX11_readForm_85 (by decide) (fun h => absurd h (by decide)) (fun _ => ?_)
      refine lv_iload_n hx hb dX11_readForm_88 rfl (lv_at hl 2 rfl) ?_
      refine lv_iconst (v := 1) hx hb dX11_readForm_89 (by decide) ?_
      refine lv_icmp_eq (tgt := 99) hx hb dX11_readForm_90 (by decide) (fun _ => ?_) (fun h => absurd (by decide) h)
      refine lv_aload_n hx hb dX11_readForm_99 rfl (lv_at hl 4 rfl) ?_
      refine g_get hx hb hg hown hK hP 0 rfl rfl inX11 75 (by decide) q1690 rfl dX11_readForm_100 ?_
      refine lv_iconst (v := 3) hx hb dX11_readForm_103 (by decide) ?_
      refine va_iald hx hb hK hP 2 0 rfl rfl (by unfold vp_in; decide) dX11_readForm_104 ?_
      refine lv_topi (fun x148 e149 => ?_)
      refine lv_istore (lv' := [(4, .int x148), (3, .int x144), (2, .int 1), (1, .int 1), (0, .ref t0)]) hx hb dX11_readForm_105 hl (by decide) rfl (fun ls hl => ?_)
      refine lv_iload_n hx hb dX11_readForm_107 rfl (lv_at hl 2 rfl) ?_
      refine lv_iconst (v := 2) hx hb dX11_readForm_108 (by decide) ?_
      refine lv_icmp_eq (tgt := 127) hx hb dX11_readForm_109 (by decide) (fun h => absurd h (by decide)) (fun _ => ?_)
      refine lv_iload_n hx hb dX11_readForm_112 rfl (lv_at hl 2 rfl) ?_
      refine lv_iconst (v := 3) hx hb dX11_readForm_113 (by decide) ?_
      refine lv_icmp_eq (tgt := 127) hx hb dX11_readForm_114 (by decide) (fun h => absurd h (by decide)) (fun _ => ?_)
      refine lv_iload_n hx hb dX11_readForm_117 rfl (lv_at hl 2 rfl) ?_
      refine lv_bipush (v := 6) hx hb dX11_readForm_118 (by decide) ?_
      refine lv_icmp_ne (tgt := 135) hx hb dX11_readForm_120 (by decide) (fun _ => ?_) (fun h => absurd h (by decide))
      refine lv_iload_n hx hb dX11_readForm_135 rfl (lv_at hl 2 rfl) ?_
      refine lv_if_eq (tgt := 149) hx hb dX11_readForm_136 (by decide) (fun h => absurd h (by decide)) (fun _ => ?_)
      refine lv_iload_n hx hb dX11_readForm_139 rfl (lv_at hl 2 rfl) ?_
      refine lv_iconst (v := 2) hx hb dX11_readForm_140 (by decide) ?_
      refine lv_icmp_eq (tgt := 149) hx hb dX11_readForm_141 (by decide) (fun h => absurd h (by decide)) (fun _ => ?_)
      refine lv_iload_n hx hb dX11_readForm_144 rfl (lv_at hl 2 rfl) ?_
      refine lv_iconst (v := 4) hx hb dX11_readForm_145 (by decide) ?_
      refine lv_icmp_ne (tgt := 161) hx hb dX11_readForm_146 (by decide) (fun _ => ?_) (fun h => absurd h (by decide))
      refine lv_iload_n hx hb dX11_readForm_161 rfl (lv_at hl 2 rfl) ?_
      refine lv_iconst (v := 1) hx hb dX11_readForm_162 (by decide) ?_
      refine lv_icmp_eq (tgt := 176) hx hb dX11_readForm_163 (by decide) (fun _ => ?_) (fun h => absurd (by decide) h)
      refine lv_iload hx hb dX11_readForm_176 (lv_at hl 0 rfl) ?_
      refine lv_aload_n hx hb dX11_readForm_178 rfl (lv_at hl 4 rfl) ?_
      refine g_get hx hb hg hown hK hP 0 rfl rfl inX11 75 (by decide) q1690 rfl dX11_readForm_179 ?_
      refine lv_bipush (v := 7) hx hb dX11_readForm_182 (by decide) ?_
      refine va_iald hx hb hK hP 2 0 rfl rfl (by unfold vp_in; decide) dX11_readForm_184 ?_
      refine lv_topi (fun x150 e151 => ?_)
      refine lv_iadd hx hb dX11_readForm_185 ?_
      have g152 := g_i32 x148
      have g153 := g_i32 x150
      refine lv_topi (fun x154 e155 => ?_)
      refine lv_istore (lv' := [(4, .int x154), (3, .int x144), (2, .int 1), (1, .int 1), (0, .ref t0)]) hx hb dX11_readForm_186 hl (by decide) rfl (fun ls hl => ?_)
      refine lv_aload_n hx hb dX11_readForm_188 rfl (lv_at hl 4 rfl) ?_
      refine lv_iload hx hb dX11_readForm_189 (lv_at hl 0 rfl) ?_
      refine lv_iload_n hx hb dX11_readForm_191 rfl (lv_at hl 1 rfl) ?_
      refine lv_iadd hx hb dX11_readForm_192 ?_
      have g156 := g_i32 x154
      refine lv_topi (fun x157 e158 => ?_)
      refine lv_ldcw hx hb hown (hg _ q1907) dX11_readForm_193 ?_
      refine lv_iand hx hb dX11_readForm_196 ?_
      refine lv_topi (fun x159 e160 => ?_)
      have g161 : 0 ≤ x159.toInt ∧ x159.toInt ≤ 65535 := g_msk e160 16 (by decide) (by decide) (by decide)
      refine g_put (w' := [(t0, .inr (11, [.int i0, .ref c1, .int i2, .int i3, .int i4, .int i5, .int i6, .int i7, .long i8, .int i9, .int i10, .ref c11, .ref c12, .ref c13, .ref c14, .ref c15, .ref c16, .int i17, .int i18, .ref c19, .ref c20, .ref c21, .ref c22, .int i23, .ref c24, .ref c25, .ref c26, .ref c27, .ref c28, .ref c29, .ref c30, .int i31, .int i32, .int i33, .int i34, .ref c35, .ref c36, .int i37, .int i38, .int i39, .int i40, .int i41, .int i42, .ref c43, .ref c44, .ref c45, .ref c46, .ref c47, .ref c48, .ref c49, .ref c50, .ref c51, .ref c52, .ref c53, .ref c54, .ref c55, .ref c56, .ref c57, .ref c58, .ref c59, .int i60, .ref c61, .int i62, .ref c63, .int i64, .int i65, .int i66, .ref c67, .ref c68, .ref c69, .ref c70, .ref c71, .ref c72, .int i73, .ref c74, .ref c75, .int i76, .int i77, .int i78, .ref c79, .int x146, .int x2, .int x9, .int i83, .int x159])), (c74, .inl (dA 0, 4096, .inl m74)), (c75, .inl (dA 0, 16, .inl m75))]) hx hb hg hown hK hP hD hS 0 rfl rfl inX11 tyX11_ok nmX11 84 (by decide) q1699 rfl rfl rfl (Nat.le_of_ble_eq_true rfl) rfl dX11_readForm_197 (fun H locs hP hD hS => ?_)
      refine lv_aload_n hx hb dX11_readForm_200 rfl (lv_at hl 4 rfl) ?_
      refine lv_iload_n hx hb dX11_readForm_201 rfl (lv_at hl 2 rfl) ?_
      refine lv_iconst (v := 2) hx hb dX11_readForm_202 (by decide) ?_
      refine lv_icmp_eq (tgt := 221) hx hb dX11_readForm_203 (by decide) (fun h => absurd h (by decide)) (fun _ => ?_)
      refine lv_iload_n hx hb dX11_readForm_206 rfl (lv_at hl 2 rfl) ?_
      refine lv_iconst (v := 3) hx hb dX11_readForm_207 (by decide) ?_
      refine lv_icmp_eq (tgt := 221) hx hb dX11_readForm_208 (by decide) (fun h => absurd h (by decide)) (fun _ => ?_)
      refine lv_iload_n hx hb dX11_readForm_211 rfl (lv_at hl 2 rfl) ?_
      refine lv_bipush (v := 6) hx hb dX11_readForm_212 (by decide) ?_
      refine lv_icmp_ne (tgt := 226) hx hb dX11_readForm_214 (by decide) (fun _ => ?_) (fun h => absurd h (by decide))
      refine lv_bipush (v := 11) hx hb dX11_readForm_226 (by decide) ?_
      refine g_put (w' := [(t0, .inr (11, [.int i0, .ref c1, .int i2, .int i3, .int i4, .int i5, .int i6, .int i7, .long i8, .int i9, .int i10, .ref c11, .ref c12, .ref c13, .ref c14, .ref c15, .ref c16, .int i17, .int i18, .ref c19, .ref c20, .ref c21, .ref c22, .int i23, .ref c24, .ref c25, .ref c26, .ref c27, .ref c28, .ref c29, .ref c30, .int i31, .int i32, .int i33, .int i34, .ref c35, .ref c36, .int i37, .int i38, .int i39, .int i40, .int i41, .int i42, .ref c43, .ref c44, .ref c45, .ref c46, .ref c47, .ref c48, .ref c49, .ref c50, .ref c51, .ref c52, .ref c53, .ref c54, .ref c55, .ref c56, .ref c57, .ref c58, .ref c59, .int i60, .ref c61, .int i62, .ref c63, .int i64, .int i65, .int i66, .ref c67, .ref c68, .ref c69, .ref c70, .ref c71, .ref c72, .int i73, .ref c74, .ref c75, .int i76, .int i77, .int i78, .ref c79, .int x146, .int x2, .int x9, .int 11, .int x159])), (c74, .inl (dA 0, 4096, .inl m74)), (c75, .inl (dA 0, 16, .inl m75))]) hx hb hg hown hK hP hD hS 0 rfl rfl inX11 tyX11_ok nmX11 83 (by decide) q1698 rfl rfl rfl (Nat.le_of_ble_eq_true rfl) rfl dX11_readForm_228 (fun H locs hP hD hS => ?_)
      exact g_vret hx hb hr hlocks hK (x146, x2, x9, 11, x159) hP hD hS ⟨(show 0 ≤ x2.toInt ∧ x2.toInt ≤ 255 from by omega), (show 0 ≤ x9.toInt ∧ x9.toInt ≤ 7 from by omega), (show 0 ≤ ((11 : Int32)).toInt ∧ ((11 : Int32)).toInt ≤ 15 from by decide)⟩ (Nat.le_of_ble_eq_true rfl) (Nat.le_of_ble_eq_true rfl) dX11_readForm_231
    · refine lv_iload_n hx hb dX11_readForm_43 rfl (lv_at hl 1 rfl) ?_
      refine lv_if_ne (tgt := 64) hx hb dX11_readForm_44 (by decide) (fun _ => ?_) (fun h => absurd h (by decide))
      refine lv_iload_n hx hb dX11_readForm_64 rfl (lv_at hl 1 rfl) ?_
      refine lv_iconst (v := 1) hx hb dX11_readForm_65 (by decide) ?_
      refine lv_icmp_ne (tgt := 76) hx hb dX11_readForm_66 (by decide) (fun h => absurd (by decide) h) (fun _ => ?_)
      refine lv_aload_n hx hb dX11_readForm_69 rfl (lv_at hl 2 rfl) ?_
      refine g_Vi (n := 0) (As := []) (rest := []) (wr := []) hx hb hml hg hown hK hP hD hS hA (s_X11_fetchSigned l D dA t0 i0 c1 i2 i3 i4 i5 i6 i7 i8 i9 i10 c11 c12 c13 c14 c15 c16 i17 i18 c19 c20 c21 c22 i23 c24 c25 c26 c27 c28 c29 c30 i31 i32 i33 i34 c35 c36 i37 i38 i39 i40 i41 i42 c43 c44 c45 c46 c47 c48 c49 c50 c51 c52 c53 c54 c55 c56 c57 c58 c59 i60 c61 i62 c63 i64 i65 i66 c67 c68 c69 c70 c71 c72 i73 c74 c75 i76 i77 i78 c79 x4 x2 x9 i83 i84 m74 m75 (by omega) (by omega) (by omega) (by omega) (by omega) (by omega) (by omega) p7 _) [0, 1, 2] [] rfl (by decide) rfl (by decide) (by decide) 0 rfl rfl q2152 q160 q2149 q2151 q134 (by decide +kernel) ⟨(Nat.le_of_ble_eq_true rfl), (Nat.le_of_ble_eq_true rfl)⟩ rfl hl.1 rfl (Nat.le_of_ble_eq_true rfl) dX11_readForm_70 ⟨(Nat.le_of_ble_eq_true rfl), (Nat.le_of_ble_eq_true rfl)⟩ (fun x163 u162 H locs w164 hP hD hS => ?_)
      refine W.widen (k := 0) (n := 0) (Nat.le_of_ble_eq_true rfl) (Nat.le_of_ble_eq_true rfl) ?_
      obtain ⟨x165, rfl⟩ : ∃ z, z = u162 := ⟨_, rfl⟩
      have hP : va_P D vwC [(t0, .inr (11, [.int i0, .ref c1, .int i2, .int i3, .int i4, .int i5, .int i6, .int i7, .long i8, .int i9, .int i10, .ref c11, .ref c12, .ref c13, .ref c14, .ref c15, .ref c16, .int i17, .int i18, .ref c19, .ref c20, .ref c21, .ref c22, .int i23, .ref c24, .ref c25, .ref c26, .ref c27, .ref c28, .ref c29, .ref c30, .int i31, .int i32, .int i33, .int i34, .ref c35, .ref c36, .int i37, .int i38, .int i39, .int i40, .int i41, .int i42, .ref c43, .ref c44, .ref c45, .ref c46, .ref c47, .ref c48, .ref c49, .ref c50, .ref c51, .ref c52, .ref c53, .ref c54, .ref c55, .ref c56, .ref c57, .ref c58, .ref c59, .int i60, .ref c61, .int i62, .ref c63, .int i64, .int i65, .int i66, .ref c67, .ref c68, .ref c69, .ref c70, .ref c71, .ref c72, .int i73, .ref c74, .ref c75, .int i76, .int i77, .int i78, .ref c79, .int x165, .int x2, .int x9, .int i83, .int i84])), (c74, .inl (dA 0, 4096, .inl m74)), (c75, .inl (dA 0, 16, .inl m75))] H := hP
      have hD : va_D A [(t0, .inr (11, [.int i0, .ref c1, .int i2, .int i3, .int i4, .int i5, .int i6, .int i7, .long i8, .int i9, .int i10, .ref c11, .ref c12, .ref c13, .ref c14, .ref c15, .ref c16, .int i17, .int i18, .ref c19, .ref c20, .ref c21, .ref c22, .int i23, .ref c24, .ref c25, .ref c26, .ref c27, .ref c28, .ref c29, .ref c30, .int i31, .int i32, .int i33, .int i34, .ref c35, .ref c36, .int i37, .int i38, .int i39, .int i40, .int i41, .int i42, .ref c43, .ref c44, .ref c45, .ref c46, .ref c47, .ref c48, .ref c49, .ref c50, .ref c51, .ref c52, .ref c53, .ref c54, .ref c55, .ref c56, .ref c57, .ref c58, .ref c59, .int i60, .ref c61, .int i62, .ref c63, .int i64, .int i65, .int i66, .ref c67, .ref c68, .ref c69, .ref c70, .ref c71, .ref c72, .int i73, .ref c74, .ref c75, .int i76, .int i77, .int i78, .ref c79, .int x165, .int x2, .int x9, .int i83, .int i84])), (c74, .inl (dA 0, 4096, .inl m74)), (c75, .inl (dA 0, 16, .inl m75))] := hD
      have g166 := w164
      have g166 : -128 ≤ x163.toInt ∧ x163.toInt ≤ 127 := g166
      refine lv_goto (tgt := 80) hx hb dX11_readForm_73 (by decide) ?_
      refine lv_istore_n (lv' := [(3, .int x163), (2, .int 2), (1, .int 1), (0, .ref t0)]) hx hb dX11_readForm_80 rfl hl (by decide) rfl (fun ls hl => ?_)
      refine lv_iconst (v := 0) hx hb dX11_readForm_81 (by decide) ?_
      refine lv_istore (lv' := [(4, .int 0), (3, .int x163), (2, .int 2), (1, .int 1), (0, .ref t0)]) hx hb dX11_readForm_82 hl (by decide) rfl (fun ls hl => ?_)
      refine lv_iload_n hx hb dX11_readForm_84 rfl (lv_at hl 2 rfl) ?_
      refine lv_if_eq (tgt := 99) hx hb dX11_readForm_85 (by decide) (fun h => absurd h (by decide)) (fun _ => ?_)
      refine lv_iload_n hx hb dX11_readForm_88 rfl (lv_at hl 2 rfl) ?_
      refine lv_iconst (v := 1) hx hb dX11_readForm_89 (by decide) ?_
      refine lv_icmp_eq (tgt := 99) hx hb dX11_readForm_90 (by decide) (fun h => absurd h (by decide)) (fun _ => ?_)
      refine lv_iload_n hx hb dX11_readForm_93 rfl (lv_at hl 2 rfl) ?_
      refine lv_bipush (v := 7) hx hb dX11_readForm_94 (by decide) ?_
      refine lv_icmp_ne (tgt := 107) hx hb dX11_readForm_96 (by decide) (fun _ => ?_) (fun h => absurd h (by decide))
      refine lv_iload_n hx hb dX11_readForm_107 rfl (lv_at hl 2 rfl) ?_
      refine lv_iconst (v := 2) hx hb dX11_readForm_108 (by decide) ?_
      refine lv_icmp_eq (tgt := 127) hx hb dX11_readForm_109 (by decide) (fun _ => ?_) (fun h => absurd (by decide) h)
      refine lv_aload_n hx hb dX11_readForm_127 rfl (lv_at hl 4 rfl) ?_
      refine g_get hx hb hg hown hK hP 0 rfl rfl inX11 75 (by decide) q1690 rfl dX11_readForm_128 ?_
      refine lv_iconst (v := 5) hx hb dX11_readForm_131 (by decide) ?_
      refine va_iald hx hb hK hP 2 0 rfl rfl (by unfold vp_in; decide) dX11_readForm_132 ?_
      refine lv_topi (fun x167 e168 => ?_)
      refine lv_istore (lv' := [(4, .int x167), (3, .int x163), (2, .int 2), (1, .int 1), (0, .ref t0)]) hx hb dX11_readForm_133 hl (by decide) rfl (fun ls hl => ?_)
      refine lv_iload_n hx hb dX11_readForm_135 rfl (lv_at hl 2 rfl) ?_
      refine lv_if_eq (tgt := 149) hx hb dX11_readForm_136 (by decide) (fun h => absurd h (by decide)) (fun _ => ?_)
      refine lv_iload_n hx hb dX11_readForm_139 rfl (lv_at hl 2 rfl) ?_
      refine lv_iconst (v := 2) hx hb dX11_readForm_140 (by decide) ?_
      refine lv_icmp_eq (tgt := 149) hx hb dX11_readForm_141 (by decide) (fun _ => ?_) (fun h => absurd (by decide) h)
      refine lv_iload hx hb dX11_readForm_149 (lv_at hl 0 rfl) ?_
      refine lv_aload_n hx hb dX11_readForm_151 rfl (lv_at hl 4 rfl) ?_
      refine g_get hx hb hg hown hK hP 0 rfl rfl inX11 75 (by decide) q1690 rfl dX11_readForm_152 ?_
      refine lv_bipush (v := 6) hx hb dX11_readForm_155 (by decide) ?_
      refine va_iald hx hb hK hP 2 0 rfl rfl (by unfold vp_in; decide) dX11_readForm_157 ?_
      refine lv_topi (fun x169 e170 => ?_)
      refine lv_iadd hx hb dX11_readForm_158 ?_
      have g171 := g_i32 x167
      have g172 := g_i32 x169
      refine lv_topi (fun x173 e174 => ?_)
      refine lv_istore (lv' := [(4, .int x173), (3, .int x163), (2, .int 2), (1, .int 1), (0, .ref t0)]) hx hb dX11_readForm_159 hl (by decide) rfl (fun ls hl => ?_)
      refine lv_iload_n hx hb dX11_readForm_161 rfl (lv_at hl 2 rfl) ?_
      refine lv_iconst (v := 1) hx hb dX11_readForm_162 (by decide) ?_
      refine lv_icmp_eq (tgt := 176) hx hb dX11_readForm_163 (by decide) (fun h => absurd h (by decide)) (fun _ => ?_)
      refine lv_iload_n hx hb dX11_readForm_166 rfl (lv_at hl 2 rfl) ?_
      refine lv_iconst (v := 3) hx hb dX11_readForm_167 (by decide) ?_
      refine lv_icmp_eq (tgt := 176) hx hb dX11_readForm_168 (by decide) (fun h => absurd h (by decide)) (fun _ => ?_)
      refine lv_iload_n hx hb dX11_readForm_171 rfl (lv_at hl 2 rfl) ?_
      refine lv_iconst (v := 5) hx hb dX11_readForm_172 (by decide) ?_
      refine lv_icmp_ne (tgt := 188) hx hb dX11_readForm_173 (by decide) (fun _ => ?_) (fun h => absurd h (by decide))
      refine lv_aload_n hx hb dX11_readForm_188 rfl (lv_at hl 4 rfl) ?_
      refine lv_iload hx hb dX11_readForm_189 (lv_at hl 0 rfl) ?_
      refine lv_iload_n hx hb dX11_readForm_191 rfl (lv_at hl 1 rfl) ?_
      refine lv_iadd hx hb dX11_readForm_192 ?_
      have g175 := g_i32 x173
      refine lv_topi (fun x176 e177 => ?_)
      refine lv_ldcw hx hb hown (hg _ q1907) dX11_readForm_193 ?_
      refine lv_iand hx hb dX11_readForm_196 ?_
      refine lv_topi (fun x178 e179 => ?_)
      have g180 : 0 ≤ x178.toInt ∧ x178.toInt ≤ 65535 := g_msk e179 16 (by decide) (by decide) (by decide)
      refine g_put (w' := [(t0, .inr (11, [.int i0, .ref c1, .int i2, .int i3, .int i4, .int i5, .int i6, .int i7, .long i8, .int i9, .int i10, .ref c11, .ref c12, .ref c13, .ref c14, .ref c15, .ref c16, .int i17, .int i18, .ref c19, .ref c20, .ref c21, .ref c22, .int i23, .ref c24, .ref c25, .ref c26, .ref c27, .ref c28, .ref c29, .ref c30, .int i31, .int i32, .int i33, .int i34, .ref c35, .ref c36, .int i37, .int i38, .int i39, .int i40, .int i41, .int i42, .ref c43, .ref c44, .ref c45, .ref c46, .ref c47, .ref c48, .ref c49, .ref c50, .ref c51, .ref c52, .ref c53, .ref c54, .ref c55, .ref c56, .ref c57, .ref c58, .ref c59, .int i60, .ref c61, .int i62, .ref c63, .int i64, .int i65, .int i66, .ref c67, .ref c68, .ref c69, .ref c70, .ref c71, .ref c72, .int i73, .ref c74, .ref c75, .int i76, .int i77, .int i78, .ref c79, .int x165, .int x2, .int x9, .int i83, .int x178])), (c74, .inl (dA 0, 4096, .inl m74)), (c75, .inl (dA 0, 16, .inl m75))]) hx hb hg hown hK hP hD hS 0 rfl rfl inX11 tyX11_ok nmX11 84 (by decide) q1699 rfl rfl rfl (Nat.le_of_ble_eq_true rfl) rfl dX11_readForm_197 (fun H locs hP hD hS => ?_)
      refine lv_aload_n hx hb dX11_readForm_200 rfl (lv_at hl 4 rfl) ?_
      refine lv_iload_n hx hb dX11_readForm_201 rfl (lv_at hl 2 rfl) ?_
      refine lv_iconst (v := 2) hx hb dX11_readForm_202 (by decide) ?_
      refine lv_icmp_eq (tgt := 221) hx hb dX11_readForm_203 (by decide) (fun _ => ?_) (fun h => absurd (by decide) h)
      refine lv_bipush (v := 10) hx hb dX11_readForm_221 (by decide) ?_
      refine lv_goto (tgt := 228) hx hb dX11_readForm_223 (by decide) ?_
      refine g_put (w' := [(t0, .inr (11, [.int i0, .ref c1, .int i2, .int i3, .int i4, .int i5, .int i6, .int i7, .long i8, .int i9, .int i10, .ref c11, .ref c12, .ref c13, .ref c14, .ref c15, .ref c16, .int i17, .int i18, .ref c19, .ref c20, .ref c21, .ref c22, .int i23, .ref c24, .ref c25, .ref c26, .ref c27, .ref c28, .ref c29, .ref c30, .int i31, .int i32, .int i33, .int i34, .ref c35, .ref c36, .int i37, .int i38, .int i39, .int i40, .int i41, .int i42, .ref c43, .ref c44, .ref c45, .ref c46, .ref c47, .ref c48, .ref c49, .ref c50, .ref c51, .ref c52, .ref c53, .ref c54, .ref c55, .ref c56, .ref c57, .ref c58, .ref c59, .int i60, .ref c61, .int i62, .ref c63, .int i64, .int i65, .int i66, .ref c67, .ref c68, .ref c69, .ref c70, .ref c71, .ref c72, .int i73, .ref c74, .ref c75, .int i76, .int i77, .int i78, .ref c79, .int x165, .int x2, .int x9, .int 10, .int x178])), (c74, .inl (dA 0, 4096, .inl m74)), (c75, .inl (dA 0, 16, .inl m75))]) hx hb hg hown hK hP hD hS 0 rfl rfl inX11 tyX11_ok nmX11 83 (by decide) q1698 rfl rfl rfl (Nat.le_of_ble_eq_true rfl) rfl dX11_readForm_228 (fun H locs hP hD hS => ?_)
      exact g_vret hx hb hr hlocks hK (x165, x2, x9, 10, x178) hP hD hS ⟨(show 0 ≤ x2.toInt ∧ x2.toInt ≤ 255 from by omega), (show 0 ≤ x9.toInt ∧ x9.toInt ≤ 7 from by omega), (show 0 ≤ ((10 : Int32)).toInt ∧ ((10 : Int32)).toInt ≤ 15 from by decide)⟩ (Nat.le_of_ble_eq_true rfl) (Nat.le_of_ble_eq_true rfl) dX11_readForm_231
    · refine lv_iload_n hx hb dX11_readForm_43 rfl (lv_at hl 1 rfl) ?_
      refine lv_if_ne (tgt := 64) hx hb dX11_readForm_44 (by decide) (fun _ => ?_) (fun h => absurd h (by decide))
      refine lv_iload_n hx hb dX11_readForm_64 rfl (lv_at hl 1 rfl) ?_
      refine lv_iconst (v := 1) hx hb dX11_readForm_65 (by decide) ?_
      refine lv_icmp_ne (tgt := 76) hx hb dX11_readForm_66 (by decide) (fun h => absurd (by decide) h) (fun _ => ?_)
      refine lv_aload_n hx hb dX11_readForm_69 rfl (lv_at hl 2 rfl) ?_
      refine g_Vi (n := 0) (As := []) (rest := []) (wr := []) hx hb hml hg hown hK hP hD hS hA (s_X11_fetchSigned l D dA t0 i0 c1 i2 i3 i4 i5 i6 i7 i8 i9 i10 c11 c12 c13 c14 c15 c16 i17 i18 c19 c20 c21 c22 i23 c24 c25 c26 c27 c28 c29 c30 i31 i32 i33 i34 c35 c36 i37 i38 i39 i40 i41 i42 c43 c44 c45 c46 c47 c48 c49 c50 c51 c52 c53 c54 c55 c56 c57 c58 c59 i60 c61 i62 c63 i64 i65 i66 c67 c68 c69 c70 c71 c72 i73 c74 c75 i76 i77 i78 c79 x4 x2 x9 i83 i84 m74 m75 (by omega) (by omega) (by omega) (by omega) (by omega) (by omega) (by omega) p7 _) [0, 1, 2] [] rfl (by decide) rfl (by decide) (by decide) 0 rfl rfl q2152 q160 q2149 q2151 q134 (by decide +kernel) ⟨(Nat.le_of_ble_eq_true rfl), (Nat.le_of_ble_eq_true rfl)⟩ rfl hl.1 rfl (Nat.le_of_ble_eq_true rfl) dX11_readForm_70 ⟨(Nat.le_of_ble_eq_true rfl), (Nat.le_of_ble_eq_true rfl)⟩ (fun x182 u181 H locs w183 hP hD hS => ?_)
      refine W.widen (k := 0) (n := 0) (Nat.le_of_ble_eq_true rfl) (Nat.le_of_ble_eq_true rfl) ?_
      obtain ⟨x184, rfl⟩ : ∃ z, z = u181 := ⟨_, rfl⟩
      have hP : va_P D vwC [(t0, .inr (11, [.int i0, .ref c1, .int i2, .int i3, .int i4, .int i5, .int i6, .int i7, .long i8, .int i9, .int i10, .ref c11, .ref c12, .ref c13, .ref c14, .ref c15, .ref c16, .int i17, .int i18, .ref c19, .ref c20, .ref c21, .ref c22, .int i23, .ref c24, .ref c25, .ref c26, .ref c27, .ref c28, .ref c29, .ref c30, .int i31, .int i32, .int i33, .int i34, .ref c35, .ref c36, .int i37, .int i38, .int i39, .int i40, .int i41, .int i42, .ref c43, .ref c44, .ref c45, .ref c46, .ref c47, .ref c48, .ref c49, .ref c50, .ref c51, .ref c52, .ref c53, .ref c54, .ref c55, .ref c56, .ref c57, .ref c58, .ref c59, .int i60, .ref c61, .int i62, .ref c63, .int i64, .int i65, .int i66, .ref c67, .ref c68, .ref c69, .ref c70, .ref c71, .ref c72, .int i73, .ref c74, .ref c75, .int i76, .int i77, .int i78, .ref c79, .int x184, .int x2, .int x9, .int i83, .int i84])), (c74, .inl (dA 0, 4096, .inl m74)), (c75, .inl (dA 0, 16, .inl m75))] H := hP
      have hD : va_D A [(t0, .inr (11, [.int i0, .ref c1, .int i2, .int i3, .int i4, .int i5, .int i6, .int i7, .long i8, .int i9, .int i10, .ref c11, .ref c12, .ref c13, .ref c14, .ref c15, .ref c16, .int i17, .int i18, .ref c19, .ref c20, .ref c21, .ref c22, .int i23, .ref c24, .ref c25, .ref c26, .ref c27, .ref c28, .ref c29, .ref c30, .int i31, .int i32, .int i33, .int i34, .ref c35, .ref c36, .int i37, .int i38, .int i39, .int i40, .int i41, .int i42, .ref c43, .ref c44, .ref c45, .ref c46, .ref c47, .ref c48, .ref c49, .ref c50, .ref c51, .ref c52, .ref c53, .ref c54, .ref c55, .ref c56, .ref c57, .ref c58, .ref c59, .int i60, .ref c61, .int i62, .ref c63, .int i64, .int i65, .int i66, .ref c67, .ref c68, .ref c69, .ref c70, .ref c71, .ref c72, .int i73, .ref c74, .ref c75, .int i76, .int i77, .int i78, .ref c79, .int x184, .int x2, .int x9, .int i83, .int i84])), (c74, .inl (dA 0, 4096, .inl m74)), (c75, .inl (dA 0, 16, .inl m75))] := hD
      have g185 := w183
      have g185 : -128 ≤ x182.toInt ∧ x182.toInt ≤ 127 := g185
      refine lv_goto (tgt := 80) hx hb dX11_readForm_73 (by decide) ?_
      refine lv_istore_n (lv' := [(3, .int x182), (2, .int 3), (1, .int 1), (0, .ref t0)]) hx hb dX11_readForm_80 rfl hl (by decide) rfl (fun ls hl => ?_)
      refine lv_iconst (v := 0) hx hb dX11_readForm_81 (by decide) ?_
      refine lv_istore (lv' := [(4, .int 0), (3, .int x182), (2, .int 3), (1, .int 1), (0, .ref t0)]) hx hb dX11_readForm_82 hl (by decide) rfl (fun ls hl => ?_)
      refine lv_iload_n hx hb dX11_readForm_84 rfl (lv_at hl 2 rfl) ?_
      refine lv_if_eq (tgt := 99) hx hb dX11_readForm_85 (by decide) (fun h => absurd h (by decide)) (fun _ => ?_)
      refine lv_iload_n hx hb dX11_readForm_88 rfl (lv_at hl 2 rfl) ?_
      refine lv_iconst (v := 1) hx hb dX11_readForm_89 (by decide) ?_
      refine lv_icmp_eq (tgt := 99) hx hb dX11_readForm_90 (by decide) (fun h => absurd h (by decide)) (fun _ => ?_)
      refine lv_iload_n hx hb dX11_readForm_93 rfl (lv_at hl 2 rfl) ?_
      refine lv_bipush (v := 7) hx hb dX11_readForm_94 (by decide) ?_
      refine lv_icmp_ne (tgt := 107) hx hb dX11_readForm_96 (by decide) (fun _ => ?_) (fun h => absurd h (by decide))
      refine lv_iload_n hx hb dX11_readForm_107 rfl (lv_at hl 2 rfl) ?_
      refine lv_iconst (v := 2) hx hb dX11_readForm_108 (by decide) ?_
      refine lv_icmp_eq (tgt := 127) hx hb dX11_readForm_109 (by decide) (fun h => absurd h (by decide)) (fun _ => ?_)
      refine lv_iload_n hx hb dX11_readForm_112 rfl (lv_at hl 2 rfl) ?_
      refine lv_iconst (v := 3) hx hb dX11_readForm_113 (by decide) ?_
      refine lv_icmp_eq (tgt := 127) hx hb dX11_readForm_114 (by decide) (fun _ => ?_) (fun h => absurd (by decide) h)
      refine lv_aload_n hx hb dX11_readForm_127 rfl (lv_at hl 4 rfl) ?_
      refine g_get hx hb hg hown hK hP 0 rfl rfl inX11 75 (by decide) q1690 rfl dX11_readForm_128 ?_
      refine lv_iconst (v := 5) hx hb dX11_readForm_131 (by decide) ?_
      refine va_iald hx hb hK hP 2 0 rfl rfl (by unfold vp_in; decide) dX11_readForm_132 ?_
      refine lv_topi (fun x186 e187 => ?_)
      refine lv_istore (lv' := [(4, .int x186), (3, .int x182), (2, .int 3), (1, .int 1), (0, .ref t0)]) hx hb dX11_readForm_133 hl (by decide) rfl (fun ls hl => ?_)
      refine lv_iload_n hx hb dX11_readForm_135 rfl (lv_at hl 2 rfl) ?_
      refine lv_if_eq (tgt := 149) hx hb dX11_readForm_136 (by decide) (fun h => absurd h (by decide)) (fun _ => ?_)
      refine lv_iload_n hx hb dX11_readForm_139 rfl (lv_at hl 2 rfl) ?_
      refine lv_iconst (v := 2) hx hb dX11_readForm_140 (by decide) ?_
      refine lv_icmp_eq (tgt := 149) hx hb dX11_readForm_141 (by decide) (fun h => absurd h (by decide)) (fun _ => ?_)
      refine lv_iload_n hx hb dX11_readForm_144 rfl (lv_at hl 2 rfl) ?_
      refine lv_iconst (v := 4) hx hb dX11_readForm_145 (by decide) ?_
      refine lv_icmp_ne (tgt := 161) hx hb dX11_readForm_146 (by decide) (fun _ => ?_) (fun h => absurd h (by decide))
      refine lv_iload_n hx hb dX11_readForm_161 rfl (lv_at hl 2 rfl) ?_
      refine lv_iconst (v := 1) hx hb dX11_readForm_162 (by decide) ?_
      refine lv_icmp_eq (tgt := 176) hx hb dX11_readForm_163 (by decide) (fun h => absurd h (by decide)) (fun _ => ?_)
      refine lv_iload_n hx hb dX11_readForm_166 rfl (lv_at hl 2 rfl) ?_
      refine lv_iconst (v := 3) hx hb dX11_readForm_167 (by decide) ?_
      refine lv_icmp_eq (tgt := 176) hx hb dX11_readForm_168 (by decide) (fun _ => ?_) (fun h => absurd (by decide) h)
      refine lv_iload hx hb dX11_readForm_176 (lv_at hl 0 rfl) ?_
      refine lv_aload_n hx hb dX11_readForm_178 rfl (lv_at hl 4 rfl) ?_
      refine g_get hx hb hg hown hK hP 0 rfl rfl inX11 75 (by decide) q1690 rfl dX11_readForm_179 ?_
      refine lv_bipush (v := 7) hx hb dX11_readForm_182 (by decide) ?_
      refine va_iald hx hb hK hP 2 0 rfl rfl (by unfold vp_in; decide) dX11_readForm_184 ?_
      refine lv_topi (fun x188 e189 => ?_)
      refine lv_iadd hx hb dX11_readForm_185 ?_
      have g190 := g_i32 x186
      have g191 := g_i32 x188
      refine lv_topi (fun x192 e193 => ?_)
      refine lv_istore (lv' := [(4, .int x192), (3, .int x182), (2, .int 3), (1, .int 1), (0, .ref t0)]) hx hb dX11_readForm_186 hl (by decide) rfl (fun ls hl => ?_)
      refine lv_aload_n hx hb dX11_readForm_188 rfl (lv_at hl 4 rfl) ?_
      refine lv_iload hx hb dX11_readForm_189 (lv_at hl 0 rfl) ?_
      refine lv_iload_n hx hb dX11_readForm_191 rfl (lv_at hl 1 rfl) ?_
      refine lv_iadd hx hb dX11_readForm_192 ?_
      have g194 := g_i32 x192
      refine lv_topi (fun x195 e196 => ?_)
      refine lv_ldcw hx hb hown (hg _ q1907) dX11_readForm_193 ?_
      refine lv_iand hx hb dX11_readForm_196 ?_
      refine lv_topi (fun x197 e198 => ?_)
      have g199 : 0 ≤ x197.toInt ∧ x197.toInt ≤ 65535 := g_msk e198 16 (by decide) (by decide) (by decide)
      refine g_put (w' := [(t0, .inr (11, [.int i0, .ref c1, .int i2, .int i3, .int i4, .int i5, .int i6, .int i7, .long i8, .int i9, .int i10, .ref c11, .ref c12, .ref c13, .ref c14, .ref c15, .ref c16, .int i17, .int i18, .ref c19, .ref c20, .ref c21, .ref c22, .int i23, .ref c24, .ref c25, .ref c26, .ref c27, .ref c28, .ref c29, .ref c30, .int i31, .int i32, .int i33, .int i34, .ref c35, .ref c36, .int i37, .int i38, .int i39, .int i40, .int i41, .int i42, .ref c43, .ref c44, .ref c45, .ref c46, .ref c47, .ref c48, .ref c49, .ref c50, .ref c51, .ref c52, .ref c53, .ref c54, .ref c55, .ref c56, .ref c57, .ref c58, .ref c59, .int i60, .ref c61, .int i62, .ref c63, .int i64, .int i65, .int i66, .ref c67, .ref c68, .ref c69, .ref c70, .ref c71, .ref c72, .int i73, .ref c74, .ref c75, .int i76, .int i77, .int i78, .ref c79, .int x184, .int x2, .int x9, .int i83, .int x197])), (c74, .inl (dA 0, 4096, .inl m74)), (c75, .inl (dA 0, 16, .inl m75))]) hx hb hg hown hK hP hD hS 0 rfl rfl inX11 tyX11_ok nmX11 84 (by decide) q1699 rfl rfl rfl (Nat.le_of_ble_eq_true rfl) rfl dX11_readForm_197 (fun H locs hP hD hS => ?_)
      refine lv_aload_n hx hb dX11_readForm_200 rfl (lv_at hl 4 rfl) ?_
      refine lv_iload_n hx hb dX11_readForm_201 rfl (lv_at hl 2 rfl) ?_
      refine lv_iconst (v := 2) hx hb dX11_readForm_202 (by decide) ?_
      refine lv_icmp_eq (tgt := 221) hx hb dX11_readForm_203 (by decide) (fun h => absurd h (by decide)) (fun _ => ?_)
      refine lv_iload_n hx hb dX11_readForm_206 rfl (lv_at hl 2 rfl) ?_
      refine lv_iconst (v := 3) hx hb dX11_readForm_207 (by decide) ?_
      refine lv_icmp_eq (tgt := 221) hx hb dX11_readForm_208 (by decide) (fun _ => ?_) (fun h => absurd (by decide) h)
      refine lv_bipush (v := 10) hx hb dX11_readForm_221 (by decide) ?_
      refine lv_goto (tgt := 228) hx hb dX11_readForm_223 (by decide) ?_
      refine g_put (w' := [(t0, .inr (11, [.int i0, .ref c1, .int i2, .int i3, .int i4, .int i5, .int i6, .int i7, .long i8, .int i9, .int i10, .ref c11, .ref c12, .ref c13, .ref c14, .ref c15, .ref c16, .int i17, .int i18, .ref c19, .ref c20, .ref c21, .ref c22, .int i23, .ref c24, .ref c25, .ref c26, .ref c27, .ref c28, .ref c29, .ref c30, .int i31, .int i32, .int i33, .int i34, .ref c35, .ref c36, .int i37, .int i38, .int i39, .int i40, .int i41, .int i42, .ref c43, .ref c44, .ref c45, .ref c46, .ref c47, .ref c48, .ref c49, .ref c50, .ref c51, .ref c52, .ref c53, .ref c54, .ref c55, .ref c56, .ref c57, .ref c58, .ref c59, .int i60, .ref c61, .int i62, .ref c63, .int i64, .int i65, .int i66, .ref c67, .ref c68, .ref c69, .ref c70, .ref c71, .ref c72, .int i73, .ref c74, .ref c75, .int i76, .int i77, .int i78, .ref c79, .int x184, .int x2, .int x9, .int 10, .int x197])), (c74, .inl (dA 0, 4096, .inl m74)), (c75, .inl (dA 0, 16, .inl m75))]) hx hb hg hown hK hP hD hS 0 rfl rfl inX11 tyX11_ok nmX11 83 (by decide) q1698 rfl rfl rfl (Nat.le_of_ble_eq_true rfl) rfl dX11_readForm_228 (fun H locs hP hD hS => ?_)
      exact g_vret hx hb hr hlocks hK (x184, x2, x9, 10, x197) hP hD hS ⟨(show 0 ≤ x2.toInt ∧ x2.toInt ≤ 255 from by omega), (show 0 ≤ x9.toInt ∧ x9.toInt ≤ 7 from by omega), (show 0 ≤ ((10 : Int32)).toInt ∧ ((10 : Int32)).toInt ≤ 15 from by decide)⟩ (Nat.le_of_ble_eq_true rfl) (Nat.le_of_ble_eq_true rfl) dX11_readForm_231
    · refine lv_iload_n hx hb dX11_readForm_43 rfl (lv_at hl 1 rfl) ?_
      refine lv_if_ne (tgt := 64) hx hb dX11_readForm_44 (by decide) (fun _ => ?_) (fun h => absurd h (by decide))
      refine lv_iload_n hx hb dX11_readForm_64 rfl (lv_at hl 1 rfl) ?_
      refine lv_iconst (v := 1) hx hb dX11_readForm_65 (by decide) ?_
      refine lv_icmp_ne (tgt := 76) hx hb dX11_readForm_66 (by decide) (fun h => absurd (by decide) h) (fun _ => ?_)
      refine lv_aload_n hx hb dX11_readForm_69 rfl (lv_at hl 2 rfl) ?_
      refine g_Vi (n := 0) (As := []) (rest := []) (wr := []) hx hb hml hg hown hK hP hD hS hA (s_X11_fetchSigned l D dA t0 i0 c1 i2 i3 i4 i5 i6 i7 i8 i9 i10 c11 c12 c13 c14 c15 c16 i17 i18 c19 c20 c21 c22 i23 c24 c25 c26 c27 c28 c29 c30 i31 i32 i33 i34 c35 c36 i37 i38 i39 i40 i41 i42 c43 c44 c45 c46 c47 c48 c49 c50 c51 c52 c53 c54 c55 c56 c57 c58 c59 i60 c61 i62 c63 i64 i65 i66 c67 c68 c69 c70 c71 c72 i73 c74 c75 i76 i77 i78 c79 x4 x2 x9 i83 i84 m74 m75 (by omega) (by omega) (by omega) (by omega) (by omega) (by omega) (by omega) p7 _) [0, 1, 2] [] rfl (by decide) rfl (by decide) (by decide) 0 rfl rfl q2152 q160 q2149 q2151 q134 (by decide +kernel) ⟨(Nat.le_of_ble_eq_true rfl), (Nat.le_of_ble_eq_true rfl)⟩ rfl hl.1 rfl (Nat.le_of_ble_eq_true rfl) dX11_readForm_70 ⟨(Nat.le_of_ble_eq_true rfl), (Nat.le_of_ble_eq_true rfl)⟩ (fun x201 u200 H locs w202 hP hD hS => ?_)
      refine W.widen (k := 0) (n := 0) (Nat.le_of_ble_eq_true rfl) (Nat.le_of_ble_eq_true rfl) ?_
      obtain ⟨x203, rfl⟩ : ∃ z, z = u200 := ⟨_, rfl⟩
      have hP : va_P D vwC [(t0, .inr (11, [.int i0, .ref c1, .int i2, .int i3, .int i4, .int i5, .int i6, .int i7, .long i8, .int i9, .int i10, .ref c11, .ref c12, .ref c13, .ref c14, .ref c15, .ref c16, .int i17, .int i18, .ref c19, .ref c20, .ref c21, .ref c22, .int i23, .ref c24, .ref c25, .ref c26, .ref c27, .ref c28, .ref c29, .ref c30, .int i31, .int i32, .int i33, .int i34, .ref c35, .ref c36, .int i37, .int i38, .int i39, .int i40, .int i41, .int i42, .ref c43, .ref c44, .ref c45, .ref c46, .ref c47, .ref c48, .ref c49, .ref c50, .ref c51, .ref c52, .ref c53, .ref c54, .ref c55, .ref c56, .ref c57, .ref c58, .ref c59, .int i60, .ref c61, .int i62, .ref c63, .int i64, .int i65, .int i66, .ref c67, .ref c68, .ref c69, .ref c70, .ref c71, .ref c72, .int i73, .ref c74, .ref c75, .int i76, .int i77, .int i78, .ref c79, .int x203, .int x2, .int x9, .int i83, .int i84])), (c74, .inl (dA 0, 4096, .inl m74)), (c75, .inl (dA 0, 16, .inl m75))] H := hP
      have hD : va_D A [(t0, .inr (11, [.int i0, .ref c1, .int i2, .int i3, .int i4, .int i5, .int i6, .int i7, .long i8, .int i9, .int i10, .ref c11, .ref c12, .ref c13, .ref c14, .ref c15, .ref c16, .int i17, .int i18, .ref c19, .ref c20, .ref c21, .ref c22, .int i23, .ref c24, .ref c25, .ref c26, .ref c27, .ref c28, .ref c29, .ref c30, .int i31, .int i32, .int i33, .int i34, .ref c35, .ref c36, .int i37, .int i38, .int i39, .int i40, .int i41, .int i42, .ref c43, .ref c44, .ref c45, .ref c46, .ref c47, .ref c48, .ref c49, .ref c50, .ref c51, .ref c52, .ref c53, .ref c54, .ref c55, .ref c56, .ref c57, .ref c58, .ref c59, .int i60, .ref c61, .int i62, .ref c63, .int i64, .int i65, .int i66, .ref c67, .ref c68, .ref c69, .ref c70, .ref c71, .ref c72, .int i73, .ref c74, .ref c75, .int i76, .int i77, .int i78, .ref c79, .int x203, .int x2, .int x9, .int i83, .int i84])), (c74, .inl (dA 0, 4096, .inl m74)), (c75, .inl (dA 0, 16, .inl m75))] := hD
      have g204 := w202
      have g204 : -128 ≤ x201.toInt ∧ x201.toInt ≤ 127 := g204
      refine lv_goto (tgt := 80) hx hb dX11_readForm_73 (by decide) ?_
      refine lv_istore_n (lv' := [(3, .int x201), (2, .int 4), (1, .int 1), (0, .ref t0)]) hx hb dX11_readForm_80 rfl hl (by decide) rfl (fun ls hl => ?_)
      refine lv_iconst (v := 0) hx hb dX11_readForm_81 (by decide) ?_
      refine lv_istore (lv' := [(4, .int 0), (3, .int x201), (2, .int 4), (1, .int 1), (0, .ref t0)]) hx hb dX11_readForm_82 hl (by decide) rfl (fun ls hl => ?_)
      refine lv_iload_n hx hb dX11_readForm_84 rfl (lv_at hl 2 rfl) ?_
      refine lv_if_eq (tgt := 99) hx hb dX11_readForm_85 (by decide) (fun h => absurd h (by decide)) (fun _ => ?_)
      refine lv_iload_n hx hb dX11_readForm_88 rfl (lv_at hl 2 rfl) ?_
      refine lv_iconst (v := 1) hx hb dX11_readForm_89 (by decide) ?_
      refine lv_icmp_eq (tgt := 99) hx hb dX11_readForm_90 (by decide) (fun h => absurd h (by decide)) (fun _ => ?_)
      refine lv_iload_n hx hb dX11_readForm_93 rfl (lv_at hl 2 rfl) ?_
      refine lv_bipush (v := 7) hx hb dX11_readForm_94 (by decide) ?_
      refine lv_icmp_ne (tgt := 107) hx hb dX11_readForm_96 (by decide) (fun _ => ?_) (fun h => absurd h (by decide))
      refine lv_iload_n hx hb dX11_readForm_107 rfl (lv_at hl 2 rfl) ?_
      refine lv_iconst (v := 2) hx hb dX11_readForm_108 (by decide) ?_
      refine lv_icmp_eq (tgt := 127) hx hb dX11_readForm_109 (by decide) (fun h => absurd h (by decide)) (fun _ => ?_)
      refine lv_iload_n hx hb dX11_readForm_112 rfl (lv_at hl 2 rfl) ?_
      refine lv_iconst (v := 3) hx hb dX11_readForm_113 (by decide) ?_
      refine lv_icmp_eq (tgt := 127) hx hb dX11_readForm_114 (by decide) (fun h => absurd h (by decide)) (fun _ => ?_)
      refine lv_iload_n hx hb dX11_readForm_117 rfl (lv_at hl 2 rfl) ?_
      refine lv_bipush (v := 6) hx hb dX11_readForm_118 (by decide) ?_
      refine lv_icmp_ne (tgt := 135) hx hb dX11_readForm_120 (by decide) (fun _ => ?_) (fun h => absurd h (by decide))
      refine lv_iload_n hx hb dX11_readForm_135 rfl (lv_at hl 2 rfl) ?_
      refine lv_if_eq (tgt := 149) hx hb dX11_readForm_136 (by decide) (fun h => absurd h (by decide)) (fun _ => ?_)
      refine lv_iload_n hx hb dX11_readForm_139 rfl (lv_at hl 2 rfl) ?_
      refine lv_iconst (v := 2) hx hb dX11_readForm_140 (by decide) ?_
      refine lv_icmp_eq (tgt := 149) hx hb dX11_readForm_141 (by decide) (fun h => absurd h (by decide)) (fun _ => ?_)
      refine lv_iload_n hx hb dX11_readForm_144 rfl (lv_at hl 2 rfl) ?_
      refine lv_iconst (v := 4) hx hb dX11_readForm_145 (by decide) ?_
      refine lv_icmp_ne (tgt := 161) hx hb dX11_readForm_146 (by decide) (fun h => absurd (by decide) h) (fun _ => ?_)
      refine lv_iload hx hb dX11_readForm_149 (lv_at hl 0 rfl) ?_
      refine lv_aload_n hx hb dX11_readForm_151 rfl (lv_at hl 4 rfl) ?_
      refine g_get hx hb hg hown hK hP 0 rfl rfl inX11 75 (by decide) q1690 rfl dX11_readForm_152 ?_
      refine lv_bipush (v := 6) hx hb dX11_readForm_155 (by decide) ?_
      refine va_iald hx hb hK hP 2 0 rfl rfl (by unfold vp_in; decide) dX11_readForm_157 ?_
      refine lv_topi (fun x205 e206 => ?_)
      refine lv_iadd hx hb dX11_readForm_158 ?_
      have g207 := g_i32 x205
      refine lv_topi (fun x208 e209 => ?_)
      have g210 : x208.toInt = 0 + x205.toInt := g_add e209 (by decide) rfl (by omega) (by omega)
      refine lv_istore (lv' := [(4, .int x208), (3, .int x201), (2, .int 4), (1, .int 1), (0, .ref t0)]) hx hb dX11_readForm_159 hl (by decide) rfl (fun ls hl => ?_)
      refine lv_iload_n hx hb dX11_readForm_161 rfl (lv_at hl 2 rfl) ?_
      refine lv_iconst (v := 1) hx hb dX11_readForm_162 (by decide) ?_
      refine lv_icmp_eq (tgt := 176) hx hb dX11_readForm_163 (by decide) (fun h => absurd h (by decide)) (fun _ => ?_)
      refine lv_iload_n hx hb dX11_readForm_166 rfl (lv_at hl 2 rfl) ?_
      refine lv_iconst (v := 3) hx hb dX11_readForm_167 (by decide) ?_
      refine lv_icmp_eq (tgt := 176) hx hb dX11_readForm_168 (by decide) (fun h => absurd h (by decide)) (fun _ => ?_)
      refine lv_iload_n hx hb dX11_readForm_171 rfl (lv_at hl 2 rfl) ?_
      refine lv_iconst (v := 5) hx hb dX11_readForm_172 (by decide) ?_
      refine lv_icmp_ne (tgt := 188) hx hb dX11_readForm_173 (by decide) (fun _ => ?_) (fun h => absurd h (by decide))
      refine lv_aload_n hx hb dX11_readForm_188 rfl (lv_at hl 4 rfl) ?_
      refine lv_iload hx hb dX11_readForm_189 (lv_at hl 0 rfl) ?_
      refine lv_iload_n hx hb dX11_readForm_191 rfl (lv_at hl 1 rfl) ?_
      refine lv_iadd hx hb dX11_readForm_192 ?_
      have g211 := g_i32 x208
      refine lv_topi (fun x212 e213 => ?_)
      refine lv_ldcw hx hb hown (hg _ q1907) dX11_readForm_193 ?_
      refine lv_iand hx hb dX11_readForm_196 ?_
      refine lv_topi (fun x214 e215 => ?_)
      have g216 : 0 ≤ x214.toInt ∧ x214.toInt ≤ 65535 := g_msk e215 16 (by decide) (by decide) (by decide)
      refine g_put (w' := [(t0, .inr (11, [.int i0, .ref c1, .int i2, .int i3, .int i4, .int i5, .int i6, .int i7, .long i8, .int i9, .int i10, .ref c11, .ref c12, .ref c13, .ref c14, .ref c15, .ref c16, .int i17, .int i18, .ref c19, .ref c20, .ref c21, .ref c22, .int i23, .ref c24, .ref c25, .ref c26, .ref c27, .ref c28, .ref c29, .ref c30, .int i31, .int i32, .int i33, .int i34, .ref c35, .ref c36, .int i37, .int i38, .int i39, .int i40, .int i41, .int i42, .ref c43, .ref c44, .ref c45, .ref c46, .ref c47, .ref c48, .ref c49, .ref c50, .ref c51, .ref c52, .ref c53, .ref c54, .ref c55, .ref c56, .ref c57, .ref c58, .ref c59, .int i60, .ref c61, .int i62, .ref c63, .int i64, .int i65, .int i66, .ref c67, .ref c68, .ref c69, .ref c70, .ref c71, .ref c72, .int i73, .ref c74, .ref c75, .int i76, .int i77, .int i78, .ref c79, .int x203, .int x2, .int x9, .int i83, .int x214])), (c74, .inl (dA 0, 4096, .inl m74)), (c75, .inl (dA 0, 16, .inl m75))]) hx hb hg hown hK hP hD hS 0 rfl rfl inX11 tyX11_ok nmX11 84 (by decide) q1699 rfl rfl rfl (Nat.le_of_ble_eq_true rfl) rfl dX11_readForm_197 (fun H locs hP hD hS => ?_)
      refine lv_aload_n hx hb dX11_readForm_200 rfl (lv_at hl 4 rfl) ?_
      refine lv_iload_n hx hb dX11_readForm_201 rfl (lv_at hl 2 rfl) ?_
      refine lv_iconst (v := 2) hx hb dX11_readForm_202 (by decide) ?_
      refine lv_icmp_eq (tgt := 221) hx hb dX11_readForm_203 (by decide) (fun h => absurd h (by decide)) (fun _ => ?_)
      refine lv_iload_n hx hb dX11_readForm_206 rfl (lv_at hl 2 rfl) ?_
      refine lv_iconst (v := 3) hx hb dX11_readForm_207 (by decide) ?_
      refine lv_icmp_eq (tgt := 221) hx hb dX11_readForm_208 (by decide) (fun h => absurd h (by decide)) (fun _ => ?_)
      refine lv_iload_n hx hb dX11_readForm_211 rfl (lv_at hl 2 rfl) ?_
      refine lv_bipush (v := 6) hx hb dX11_readForm_212 (by decide) ?_
      refine lv_icmp_ne (tgt := 226) hx hb dX11_readForm_214 (by decide) (fun _ => ?_) (fun h => absurd h (by decide))
      refine lv_bipush (v := 11) hx hb dX11_readForm_226 (by decide) ?_
      refine g_put (w' := [(t0, .inr (11, [.int i0, .ref c1, .int i2, .int i3, .int i4, .int i5, .int i6, .int i7, .long i8, .int i9, .int i10, .ref c11, .ref c12, .ref c13, .ref c14, .ref c15, .ref c16, .int i17, .int i18, .ref c19, .ref c20, .ref c21, .ref c22, .int i23, .ref c24, .ref c25, .ref c26, .ref c27, .ref c28, .ref c29, .ref c30, .int i31, .int i32, .int i33, .int i34, .ref c35, .ref c36, .int i37, .int i38, .int i39, .int i40, .int i41, .int i42, .ref c43, .ref c44, .ref c45, .ref c46, .ref c47, .ref c48, .ref c49, .ref c50, .ref c51, .ref c52, .ref c53, .ref c54, .ref c55, .ref c56, .ref c57, .ref c58, .ref c59, .int i60, .ref c61, .int i62, .ref c63, .int i64, .int i65, .int i66, .ref c67, .ref c68, .ref c69, .ref c70, .ref c71, .ref c72, .int i73, .ref c74, .ref c75, .int i76, .int i77, .int i78, .ref c79, .int x203, .int x2, .int x9, .int 11, .int x214])), (c74, .inl (dA 0, 4096, .inl m74)), (c75, .inl (dA 0, 16, .inl m75))]) hx hb hg hown hK hP hD hS 0 rfl rfl inX11 tyX11_ok nmX11 83 (by decide) q1698 rfl rfl rfl (Nat.le_of_ble_eq_true rfl) rfl dX11_readForm_228 (fun H locs hP hD hS => ?_)
      exact g_vret hx hb hr hlocks hK (x203, x2, x9, 11, x214) hP hD hS ⟨(show 0 ≤ x2.toInt ∧ x2.toInt ≤ 255 from by omega), (show 0 ≤ x9.toInt ∧ x9.toInt ≤ 7 from by omega), (show 0 ≤ ((11 : Int32)).toInt ∧ ((11 : Int32)).toInt ≤ 15 from by decide)⟩ (Nat.le_of_ble_eq_true rfl) (Nat.le_of_ble_eq_true rfl) dX11_readForm_231
    · refine lv_iload_n hx hb dX11_readForm_43 rfl (lv_at hl 1 rfl) ?_
      refine lv_if_ne (tgt := 64) hx hb dX11_readForm_44 (by decide) (fun _ => ?_) (fun h => absurd h (by decide))
      refine lv_iload_n hx hb dX11_readForm_64 rfl (lv_at hl 1 rfl) ?_
      refine lv_iconst (v := 1) hx hb dX11_readForm_65 (by decide) ?_
      refine lv_icmp_ne (tgt := 76) hx hb dX11_readForm_66 (by decide) (fun h => absurd (by decide) h) (fun _ => ?_)
      refine lv_aload_n hx hb dX11_readForm_69 rfl (lv_at hl 2 rfl) ?_
      refine g_Vi (n := 0) (As := []) (rest := []) (wr := []) hx hb hml hg hown hK hP hD hS hA (s_X11_fetchSigned l D dA t0 i0 c1 i2 i3 i4 i5 i6 i7 i8 i9 i10 c11 c12 c13 c14 c15 c16 i17 i18 c19 c20 c21 c22 i23 c24 c25 c26 c27 c28 c29 c30 i31 i32 i33 i34 c35 c36 i37 i38 i39 i40 i41 i42 c43 c44 c45 c46 c47 c48 c49 c50 c51 c52 c53 c54 c55 c56 c57 c58 c59 i60 c61 i62 c63 i64 i65 i66 c67 c68 c69 c70 c71 c72 i73 c74 c75 i76 i77 i78 c79 x4 x2 x9 i83 i84 m74 m75 (by omega) (by omega) (by omega) (by omega) (by omega) (by omega) (by omega) p7 _) [0, 1, 2] [] rfl (by decide) rfl (by decide) (by decide) 0 rfl rfl q2152 q160 q2149 q2151 q134 (by decide +kernel) ⟨(Nat.le_of_ble_eq_true rfl), (Nat.le_of_ble_eq_true rfl)⟩ rfl hl.1 rfl (Nat.le_of_ble_eq_true rfl) dX11_readForm_70 ⟨(Nat.le_of_ble_eq_true rfl), (Nat.le_of_ble_eq_true rfl)⟩ (fun x218 u217 H locs w219 hP hD hS => ?_)
      refine W.widen (k := 0) (n := 0) (Nat.le_of_ble_eq_true rfl) (Nat.le_of_ble_eq_true rfl) ?_
      obtain ⟨x220, rfl⟩ : ∃ z, z = u217 := ⟨_, rfl⟩
      have hP : va_P D vwC [(t0, .inr (11, [.int i0, .ref c1, .int i2, .int i3, .int i4, .int i5, .int i6, .int i7, .long i8, .int i9, .int i10, .ref c11, .ref c12, .ref c13, .ref c14, .ref c15, .ref c16, .int i17, .int i18, .ref c19, .ref c20, .ref c21, .ref c22, .int i23, .ref c24, .ref c25, .ref c26, .ref c27, .ref c28, .ref c29, .ref c30, .int i31, .int i32, .int i33, .int i34, .ref c35, .ref c36, .int i37, .int i38, .int i39, .int i40, .int i41, .int i42, .ref c43, .ref c44, .ref c45, .ref c46, .ref c47, .ref c48, .ref c49, .ref c50, .ref c51, .ref c52, .ref c53, .ref c54, .ref c55, .ref c56, .ref c57, .ref c58, .ref c59, .int i60, .ref c61, .int i62, .ref c63, .int i64, .int i65, .int i66, .ref c67, .ref c68, .ref c69, .ref c70, .ref c71, .ref c72, .int i73, .ref c74, .ref c75, .int i76, .int i77, .int i78, .ref c79, .int x220, .int x2, .int x9, .int i83, .int i84])), (c74, .inl (dA 0, 4096, .inl m74)), (c75, .inl (dA 0, 16, .inl m75))] H := hP
      have hD : va_D A [(t0, .inr (11, [.int i0, .ref c1, .int i2, .int i3, .int i4, .int i5, .int i6, .int i7, .long i8, .int i9, .int i10, .ref c11, .ref c12, .ref c13, .ref c14, .ref c15, .ref c16, .int i17, .int i18, .ref c19, .ref c20, .ref c21, .ref c22, .int i23, .ref c24, .ref c25, .ref c26, .ref c27, .ref c28, .ref c29, .ref c30, .int i31, .int i32, .int i33, .int i34, .ref c35, .ref c36, .int i37, .int i38, .int i39, .int i40, .int i41, .int i42, .ref c43, .ref c44, .ref c45, .ref c46, .ref c47, .ref c48, .ref c49, .ref c50, .ref c51, .ref c52, .ref c53, .ref c54, .ref c55, .ref c56, .ref c57, .ref c58, .ref c59, .int i60, .ref c61, .int i62, .ref c63, .int i64, .int i65, .int i66, .ref c67, .ref c68, .ref c69, .ref c70, .ref c71, .ref c72, .int i73, .ref c74, .ref c75, .int i76, .int i77, .int i78, .ref c79, .int x220, .int x2, .int x9, .int i83, .int i84])), (c74, .inl (dA 0, 4096, .inl m74)), (c75, .inl (dA 0, 16, .inl m75))] := hD
      have g221 := w219
      have g221 : -128 ≤ x218.toInt ∧ x218.toInt ≤ 127 := g221
      refine lv_goto (tgt := 80) hx hb dX11_readForm_73 (by decide) ?_
      refine lv_istore_n (lv' := [(3, .int x218), (2, .int 5), (1, .int 1), (0, .ref t0)]) hx hb dX11_readForm_80 rfl hl (by decide) rfl (fun ls hl => ?_)
      refine lv_iconst (v := 0) hx hb dX11_readForm_81 (by decide) ?_
      refine lv_istore (lv' := [(4, .int 0), (3, .int x218), (2, .int 5), (1, .int 1), (0, .ref t0)]) hx hb dX11_readForm_82 hl (by decide) rfl (fun ls hl => ?_)
      refine lv_iload_n hx hb dX11_readForm_84 rfl (lv_at hl 2 rfl) ?_
      refine lv_if_eq (tgt := 99) hx hb dX11_readForm_85 (by decide) (fun h => absurd h (by decide)) (fun _ => ?_)
      refine lv_iload_n hx hb dX11_readForm_88 rfl (lv_at hl 2 rfl) ?_
      refine lv_iconst (v := 1) hx hb dX11_readForm_89 (by decide) ?_
      refine lv_icmp_eq (tgt := 99) hx hb dX11_readForm_90 (by decide) (fun h => absurd h (by decide)) (fun _ => ?_)
      refine lv_iload_n hx hb dX11_readForm_93 rfl (lv_at hl 2 rfl) ?_
      refine lv_bipush (v := 7) hx hb dX11_readForm_94 (by decide) ?_
      refine lv_icmp_ne (tgt := 107) hx hb dX11_readForm_96 (by decide) (fun _ => ?_) (fun h => absurd h (by decide))
      refine lv_iload_n hx hb dX11_readForm_107 rfl (lv_at hl 2 rfl) ?_
      refine lv_iconst (v := 2) hx hb dX11_readForm_108 (by decide) ?_
      refine lv_icmp_eq (tgt := 127) hx hb dX11_readForm_109 (by decide) (fun h => absurd h (by decide)) (fun _ => ?_)
      refine lv_iload_n hx hb dX11_readForm_112 rfl (lv_at hl 2 rfl) ?_
      refine lv_iconst (v := 3) hx hb dX11_readForm_113 (by decide) ?_
      refine lv_icmp_eq (tgt := 127) hx hb dX11_readForm_114 (by decide) (fun h => absurd h (by decide)) (fun _ => ?_)
      refine lv_iload_n hx hb dX11_readForm_117 rfl (lv_at hl 2 rfl) ?_
      refine lv_bipush (v := 6) hx hb dX11_readForm_118 (by decide) ?_
      refine lv_icmp_ne (tgt := 135) hx hb dX11_readForm_120 (by decide) (fun _ => ?_) (fun h => absurd h (by decide))
      refine lv_iload_n hx hb dX11_readForm_135 rfl (lv_at hl 2 rfl) ?_
      refine lv_if_eq (tgt := 149) hx hb dX11_readForm_136 (by decide) (fun h => absurd h (by decide)) (fun _ => ?_)
      refine lv_iload_n hx hb dX11_readForm_139 rfl (lv_at hl 2 rfl) ?_
      refine lv_iconst (v := 2) hx hb dX11_readForm_140 (by decide) ?_
      refine lv_icmp_eq (tgt := 149) hx hb dX11_readForm_141 (by decide) (fun h => absurd h (by decide)) (fun _ => ?_)
      refine lv_iload_n hx hb dX11_readForm_144 rfl (lv_at hl 2 rfl) ?_
      refine lv_iconst (v := 4) hx hb dX11_readForm_145 (by decide) ?_
      refine lv_icmp_ne (tgt := 161) hx hb dX11_readForm_146 (by decide) (fun _ => ?_) (fun h => absurd h (by decide))
      refine lv_iload_n hx hb dX11_readForm_161 rfl (lv_at hl 2 rfl) ?_
      refine lv_iconst (v := 1) hx hb dX11_readForm_162 (by decide) ?_
      refine lv_icmp_eq (tgt := 176) hx hb dX11_readForm_163 (by decide) (fun h => absurd h (by decide)) (fun _ => ?_)
      refine lv_iload_n hx hb dX11_readForm_166 rfl (lv_at hl 2 rfl) ?_
      refine lv_iconst (v := 3) hx hb dX11_readForm_167 (by decide) ?_
      refine lv_icmp_eq (tgt := 176) hx hb dX11_readForm_168 (by decide) (fun h => absurd h (by decide)) (fun _ => ?_)
      refine lv_iload_n hx hb dX11_readForm_171 rfl (lv_at hl 2 rfl) ?_
      refine lv_iconst (v := 5) hx hb dX11_readForm_172 (by decide) ?_
      refine lv_icmp_ne (tgt := 188) hx hb dX11_readForm_173 (by decide) (fun h => absurd (by decide) h) (fun _ => ?_)
      refine lv_iload hx hb dX11_readForm_176 (lv_at hl 0 rfl) ?_
      refine lv_aload_n hx hb dX11_readForm_178 rfl (lv_at hl 4 rfl) ?_
      refine g_get hx hb hg hown hK hP 0 rfl rfl inX11 75 (by decide) q1690 rfl dX11_readForm_179 ?_
      refine lv_bipush (v := 7) hx hb dX11_readForm_182 (by decide) ?_
      refine va_iald hx hb hK hP 2 0 rfl rfl (by unfold vp_in; decide) dX11_readForm_184 ?_
      refine lv_topi (fun x222 e223 => ?_)
      refine lv_iadd hx hb dX11_readForm_185 ?_
      have g224 := g_i32 x222
      refine lv_topi (fun x225 e226 => ?_)
      have g227 : x225.toInt = 0 + x222.toInt := g_add e226 (by decide) rfl (by omega) (by omega)
      refine lv_istore (lv' := [(4, .int x225), (3, .int x218), (2, .int 5), (1, .int 1), (0, .ref t0)]) hx hb dX11_readForm_186 hl (by decide) rfl (fun ls hl => ?_)
      refine lv_aload_n hx hb dX11_readForm_188 rfl (lv_at hl 4 rfl) ?_
      refine lv_iload hx hb dX11_readForm_189 (lv_at hl 0 rfl) ?_
      refine lv_iload_n hx hb dX11_readForm_191 rfl (lv_at hl 1 rfl) ?_
      refine lv_iadd hx hb dX11_readForm_192 ?_
      have g228 := g_i32 x225
      refine lv_topi (fun x229 e230 => ?_)
      refine lv_ldcw hx hb hown (hg _ q1907) dX11_readForm_193 ?_
      refine lv_iand hx hb dX11_readForm_196 ?_
      refine lv_topi (fun x231 e232 => ?_)
      have g233 : 0 ≤ x231.toInt ∧ x231.toInt ≤ 65535 := g_msk e232 16 (by decide) (by decide) (by decide)
      refine g_put (w' := [(t0, .inr (11, [.int i0, .ref c1, .int i2, .int i3, .int i4, .int i5, .int i6, .int i7, .long i8, .int i9, .int i10, .ref c11, .ref c12, .ref c13, .ref c14, .ref c15, .ref c16, .int i17, .int i18, .ref c19, .ref c20, .ref c21, .ref c22, .int i23, .ref c24, .ref c25, .ref c26, .ref c27, .ref c28, .ref c29, .ref c30, .int i31, .int i32, .int i33, .int i34, .ref c35, .ref c36, .int i37, .int i38, .int i39, .int i40, .int i41, .int i42, .ref c43, .ref c44, .ref c45, .ref c46, .ref c47, .ref c48, .ref c49, .ref c50, .ref c51, .ref c52, .ref c53, .ref c54, .ref c55, .ref c56, .ref c57, .ref c58, .ref c59, .int i60, .ref c61, .int i62, .ref c63, .int i64, .int i65, .int i66, .ref c67, .ref c68, .ref c69, .ref c70, .ref c71, .ref c72, .int i73, .ref c74, .ref c75, .int i76, .int i77, .int i78, .ref c79, .int x220, .int x2, .int x9, .int i83, .int x231])), (c74, .inl (dA 0, 4096, .inl m74)), (c75, .inl (dA 0, 16, .inl m75))]) hx hb hg hown hK hP hD hS 0 rfl rfl inX11 tyX11_ok nmX11 84 (by decide) q1699 rfl rfl rfl (Nat.le_of_ble_eq_true rfl) rfl dX11_readForm_197 (fun H locs hP hD hS => ?_)
      refine lv_aload_n hx hb dX11_readForm_200 rfl (lv_at hl 4 rfl) ?_
      refine lv_iload_n hx hb dX11_readForm_201 rfl (lv_at hl 2 rfl) ?_
      refine lv_iconst (v := 2) hx hb dX11_readForm_202 (by decide) ?_
      refine lv_icmp_eq (tgt := 221) hx hb dX11_readForm_203 (by decide) (fun h => absurd h (by decide)) (fun _ => ?_)
      refine lv_iload_n hx hb dX11_readForm_206 rfl (lv_at hl 2 rfl) ?_
      refine lv_iconst (v := 3) hx hb dX11_readForm_207 (by decide) ?_
      refine lv_icmp_eq (tgt := 221) hx hb dX11_readForm_208 (by decide) (fun h => absurd h (by decide)) (fun _ => ?_)
      refine lv_iload_n hx hb dX11_readForm_211 rfl (lv_at hl 2 rfl) ?_
      refine lv_bipush (v := 6) hx hb dX11_readForm_212 (by decide) ?_
      refine lv_icmp_ne (tgt := 226) hx hb dX11_readForm_214 (by decide) (fun _ => ?_) (fun h => absurd h (by decide))
      refine lv_bipush (v := 11) hx hb dX11_readForm_226 (by decide) ?_
      refine g_put (w' := [(t0, .inr (11, [.int i0, .ref c1, .int i2, .int i3, .int i4, .int i5, .int i6, .int i7, .long i8, .int i9, .int i10, .ref c11, .ref c12, .ref c13, .ref c14, .ref c15, .ref c16, .int i17, .int i18, .ref c19, .ref c20, .ref c21, .ref c22, .int i23, .ref c24, .ref c25, .ref c26, .ref c27, .ref c28, .ref c29, .ref c30, .int i31, .int i32, .int i33, .int i34, .ref c35, .ref c36, .int i37, .int i38, .int i39, .int i40, .int i41, .int i42, .ref c43, .ref c44, .ref c45, .ref c46, .ref c47, .ref c48, .ref c49, .ref c50, .ref c51, .ref c52, .ref c53, .ref c54, .ref c55, .ref c56, .ref c57, .ref c58, .ref c59, .int i60, .ref c61, .int i62, .ref c63, .int i64, .int i65, .int i66, .ref c67, .ref c68, .ref c69, .ref c70, .ref c71, .ref c72, .int i73, .ref c74, .ref c75, .int i76, .int i77, .int i78, .ref c79, .int x220, .int x2, .int x9, .int 11, .int x231])), (c74, .inl (dA 0, 4096, .inl m74)), (c75, .inl (dA 0, 16, .inl m75))]) hx hb hg hown hK hP hD hS 0 rfl rfl inX11 tyX11_ok nmX11 83 (by decide) q1698 rfl rfl rfl (Nat.le_of_ble_eq_true rfl) rfl dX11_readForm_228 (fun H locs hP hD hS => ?_)
      exact g_vret hx hb hr hlocks hK (x220, x2, x9, 11, x231) hP hD hS ⟨(show 0 ≤ x2.toInt ∧ x2.toInt ≤ 255 from by omega), (show 0 ≤ x9.toInt ∧ x9.toInt ≤ 7 from by omega), (show 0 ≤ ((11 : Int32)).toInt ∧ ((11 : Int32)).toInt ≤ 15 from by decide)⟩ (Nat.le_of_ble_eq_true rfl) (Nat.le_of_ble_eq_true rfl) dX11_readForm_231
    · refine lv_iload_n hx hb dX11_readForm_43 rfl (lv_at hl 1 rfl) ?_
      refine lv_if_ne (tgt := 64) hx hb dX11_readForm_44 (by decide) (fun _ => ?_) (fun h => absurd h (by decide))
      refine lv_iload_n hx hb dX11_readForm_64 rfl (lv_at hl 1 rfl) ?_
      refine lv_iconst (v := 1) hx hb dX11_readForm_65 (by decide) ?_
      refine lv_icmp_ne (tgt := 76) hx hb dX11_readForm_66 (by decide) (fun h => absurd (by decide) h) (fun _ => ?_)
      refine lv_aload_n hx hb dX11_readForm_69 rfl (lv_at hl 2 rfl) ?_
      refine g_Vi (n := 0) (As := []) (rest := []) (wr := []) hx hb hml hg hown hK hP hD hS hA (s_X11_fetchSigned l D dA t0 i0 c1 i2 i3 i4 i5 i6 i7 i8 i9 i10 c11 c12 c13 c14 c15 c16 i17 i18 c19 c20 c21 c22 i23 c24 c25 c26 c27 c28 c29 c30 i31 i32 i33 i34 c35 c36 i37 i38 i39 i40 i41 i42 c43 c44 c45 c46 c47 c48 c49 c50 c51 c52 c53 c54 c55 c56 c57 c58 c59 i60 c61 i62 c63 i64 i65 i66 c67 c68 c69 c70 c71 c72 i73 c74 c75 i76 i77 i78 c79 x4 x2 x9 i83 i84 m74 m75 (by omega) (by omega) (by omega) (by omega) (by omega) (by omega) (by omega) p7 _) [0, 1, 2] [] rfl (by decide) rfl (by decide) (by decide) 0 rfl rfl q2152 q160 q2149 q2151 q134 (by decide +kernel) ⟨(Nat.le_of_ble_eq_true rfl), (Nat.le_of_ble_eq_true rfl)⟩ rfl hl.1 rfl (Nat.le_of_ble_eq_true rfl) dX11_readForm_70 ⟨(Nat.le_of_ble_eq_true rfl), (Nat.le_of_ble_eq_true rfl)⟩ (fun x235 u234 H locs w236 hP hD hS => ?_)
      refine W.widen (k := 0) (n := 0) (Nat.le_of_ble_eq_true rfl) (Nat.le_of_ble_eq_true rfl) ?_
      obtain ⟨x237, rfl⟩ : ∃ z, z = u234 := ⟨_, rfl⟩
      have hP : va_P D vwC [(t0, .inr (11, [.int i0, .ref c1, .int i2, .int i3, .int i4, .int i5, .int i6, .int i7, .long i8, .int i9, .int i10, .ref c11, .ref c12, .ref c13, .ref c14, .ref c15, .ref c16, .int i17, .int i18, .ref c19, .ref c20, .ref c21, .ref c22, .int i23, .ref c24, .ref c25, .ref c26, .ref c27, .ref c28, .ref c29, .ref c30, .int i31, .int i32, .int i33, .int i34, .ref c35, .ref c36, .int i37, .int i38, .int i39, .int i40, .int i41, .int i42, .ref c43, .ref c44, .ref c45, .ref c46, .ref c47, .ref c48, .ref c49, .ref c50, .ref c51, .ref c52, .ref c53, .ref c54, .ref c55, .ref c56, .ref c57, .ref c58, .ref c59, .int i60, .ref c61, .int i62, .ref c63, .int i64, .int i65, .int i66, .ref c67, .ref c68, .ref c69, .ref c70, .ref c71, .ref c72, .int i73, .ref c74, .ref c75, .int i76, .int i77, .int i78, .ref c79, .int x237, .int x2, .int x9, .int i83, .int i84])), (c74, .inl (dA 0, 4096, .inl m74)), (c75, .inl (dA 0, 16, .inl m75))] H := hP
      have hD : va_D A [(t0, .inr (11, [.int i0, .ref c1, .int i2, .int i3, .int i4, .int i5, .int i6, .int i7, .long i8, .int i9, .int i10, .ref c11, .ref c12, .ref c13, .ref c14, .ref c15, .ref c16, .int i17, .int i18, .ref c19, .ref c20, .ref c21, .ref c22, .int i23, .ref c24, .ref c25, .ref c26, .ref c27, .ref c28, .ref c29, .ref c30, .int i31, .int i32, .int i33, .int i34, .ref c35, .ref c36, .int i37, .int i38, .int i39, .int i40, .int i41, .int i42, .ref c43, .ref c44, .ref c45, .ref c46, .ref c47, .ref c48, .ref c49, .ref c50, .ref c51, .ref c52, .ref c53, .ref c54, .ref c55, .ref c56, .ref c57, .ref c58, .ref c59, .int i60, .ref c61, .int i62, .ref c63, .int i64, .int i65, .int i66, .ref c67, .ref c68, .ref c69, .ref c70, .ref c71, .ref c72, .int i73, .ref c74, .ref c75, .int i76, .int i77, .int i78, .ref c79, .int x237, .int x2, .int x9, .int i83, .int i84])), (c74, .inl (dA 0, 4096, .inl m74)), (c75, .inl (dA 0, 16, .inl m75))] := hD
      have g238 := w236
      have g238 : -128 ≤ x235.toInt ∧ x235.toInt ≤ 127 := g238
      refine lv_goto (tgt := 80) hx hb dX11_readForm_73 (by decide) ?_
      refine lv_istore_n (lv' := [(3, .int x235), (2, .int 6), (1, .int 1), (0, .ref t0)]) hx hb dX11_readForm_80 rfl hl (by decide) rfl (fun ls hl => ?_)
      refine lv_iconst (v := 0) hx hb dX11_readForm_81 (by decide) ?_
      refine lv_istore (lv' := [(4, .int 0), (3, .int x235), (2, .int 6), (1, .int 1), (0, .ref t0)]) hx hb dX11_readForm_82 hl (by decide) rfl (fun ls hl => ?_)
      refine lv_iload_n hx hb dX11_readForm_84 rfl (lv_at hl 2 rfl) ?_
      refine lv_if_eq (tgt := 99) hx hb dX11_readForm_85 (by decide) (fun h => absurd h (by decide)) (fun _ => ?_)
      refine lv_iload_n hx hb dX11_readForm_88 rfl (lv_at hl 2 rfl) ?_
      refine lv_iconst (v := 1) hx hb dX11_readForm_89 (by decide) ?_
      refine lv_icmp_eq (tgt := 99) hx hb dX11_readForm_90 (by decide) (fun h => absurd h (by decide)) (fun _ => ?_)
      refine lv_iload_n hx hb dX11_readForm_93 rfl (lv_at hl 2 rfl) ?_
      refine lv_bipush (v := 7) hx hb dX11_readForm_94 (by decide) ?_
      refine lv_icmp_ne (tgt := 107) hx hb dX11_readForm_96 (by decide) (fun _ => ?_) (fun h => absurd h (by decide))
      refine lv_iload_n hx hb dX11_readForm_107 rfl (lv_at hl 2 rfl) ?_
      refine lv_iconst (v := 2) hx hb dX11_readForm_108 (by decide) ?_
      refine lv_icmp_eq (tgt := 127) hx hb dX11_readForm_109 (by decide) (fun h => absurd h (by decide)) (fun _ => ?_)
      refine lv_iload_n hx hb dX11_readForm_112 rfl (lv_at hl 2 rfl) ?_
      refine lv_iconst (v := 3) hx hb dX11_readForm_113 (by decide) ?_
      refine lv_icmp_eq (tgt := 127) hx hb dX11_readForm_114 (by decide) (fun h => absurd h (by decide)) (fun _ => ?_)
      refine lv_iload_n hx hb dX11_readForm_117 rfl (lv_at hl 2 rfl) ?_
      refine lv_bipush (v := 6) hx hb dX11_readForm_118 (by decide) ?_
      refine lv_icmp_ne (tgt := 135) hx hb dX11_readForm_120 (by decide) (fun h => absurd (by decide) h) (fun _ => ?_)
      refine lv_iload_n hx hb dX11_readForm_123 rfl (lv_at hl 3 rfl) ?_
      refine lv_if_eq (tgt := 135) hx hb dX11_readForm_124 (by decide) (fun h => absurd h (by decide)) (fun _ => ?_)
      refine lv_aload_n hx hb dX11_readForm_127 rfl (lv_at hl 4 rfl) ?_
      refine g_get hx hb hg hown hK hP 0 rfl rfl inX11 75 (by decide) q1690 rfl dX11_readForm_128 ?_
      refine lv_iconst (v := 5) hx hb dX11_readForm_131 (by decide) ?_
      refine va_iald hx hb hK hP 2 0 rfl rfl (by unfold vp_in; decide) dX11_readForm_132 ?_
      refine lv_topi (fun x239 e240 => ?_)
      refine lv_istore (lv' := [(4, .int x239), (3, .int x235), (2, .int 6), (1, .int 1), (0, .ref t0)]) hx hb dX11_readForm_133 hl (by decide) rfl (fun ls hl => ?_)
      refine lv_iload_n hx hb dX11_readForm_135 rfl (lv_at hl 2 rfl) ?_
      refine lv_if_eq (tgt := 149) hx hb dX11_readForm_136 (by decide) (fun h => absurd h (by decide)) (fun _ => ?_)
      refine lv_iload_n hx hb dX11_readForm_139 rfl (lv_at hl 2 rfl) ?_
      refine lv_iconst (v := 2) hx hb dX11_readForm_140 (by decide) ?_
      refine lv_icmp_eq (tgt := 149) hx hb dX11_readForm_141 (by decide) (fun h => absurd h (by decide)) (fun _ => ?_)
      refine lv_iload_n hx hb dX11_readForm_144 rfl (lv_at hl 2 rfl) ?_
      refine lv_iconst (v := 4) hx hb dX11_readForm_145 (by decide) ?_
      refine lv_icmp_ne (tgt := 161) hx hb dX11_readForm_146 (by decide) (fun _ => ?_) (fun h => absurd h (by decide))
      refine lv_iload_n hx hb dX11_readForm_161 rfl (lv_at hl 2 rfl) ?_
      refine lv_iconst (v := 1) hx hb dX11_readForm_162 (by decide) ?_
      refine lv_icmp_eq (tgt := 176) hx hb dX11_readForm_163 (by decide) (fun h => absurd h (by decide)) (fun _ => ?_)
      refine lv_iload_n hx hb dX11_readForm_166 rfl (lv_at hl 2 rfl) ?_
      refine lv_iconst (v := 3) hx hb dX11_readForm_167 (by decide) ?_
      refine lv_icmp_eq (tgt := 176) hx hb dX11_readForm_168 (by decide) (fun h => absurd h (by decide)) (fun _ => ?_)
      refine lv_iload_n hx hb dX11_readForm_171 rfl (lv_at hl 2 rfl) ?_
      refine lv_iconst (v := 5) hx hb dX11_readForm_172 (by decide) ?_
      refine lv_icmp_ne (tgt := 188) hx hb dX11_readForm_173 (by decide) (fun _ => ?_) (fun h => absurd h (by decide))
      refine lv_aload_n hx hb dX11_readForm_188 rfl (lv_at hl 4 rfl) ?_
      refine lv_iload hx hb dX11_readForm_189 (lv_at hl 0 rfl) ?_
      refine lv_iload_n hx hb dX11_readForm_191 rfl (lv_at hl 1 rfl) ?_
      refine lv_iadd hx hb dX11_readForm_192 ?_
      have g241 := g_i32 x239
      refine lv_topi (fun x242 e243 => ?_)
      refine lv_ldcw hx hb hown (hg _ q1907) dX11_readForm_193 ?_
      refine lv_iand hx hb dX11_readForm_196 ?_
      refine lv_topi (fun x244 e245 => ?_)
      have g246 : 0 ≤ x244.toInt ∧ x244.toInt ≤ 65535 := g_msk e245 16 (by decide) (by decide) (by decide)
      refine g_put (w' := [(t0, .inr (11, [.int i0, .ref c1, .int i2, .int i3, .int i4, .int i5, .int i6, .int i7, .long i8, .int i9, .int i10, .ref c11, .ref c12, .ref c13, .ref c14, .ref c15, .ref c16, .int i17, .int i18, .ref c19, .ref c20, .ref c21, .ref c22, .int i23, .ref c24, .ref c25, .ref c26, .ref c27, .ref c28, .ref c29, .ref c30, .int i31, .int i32, .int i33, .int i34, .ref c35, .ref c36, .int i37, .int i38, .int i39, .int i40, .int i41, .int i42, .ref c43, .ref c44, .ref c45, .ref c46, .ref c47, .ref c48, .ref c49, .ref c50, .ref c51, .ref c52, .ref c53, .ref c54, .ref c55, .ref c56, .ref c57, .ref c58, .ref c59, .int i60, .ref c61, .int i62, .ref c63, .int i64, .int i65, .int i66, .ref c67, .ref c68, .ref c69, .ref c70, .ref c71, .ref c72, .int i73, .ref c74, .ref c75, .int i76, .int i77, .int i78, .ref c79, .int x237, .int x2, .int x9, .int i83, .int x244])), (c74, .inl (dA 0, 4096, .inl m74)), (c75, .inl (dA 0, 16, .inl m75))]) hx hb hg hown hK hP hD hS 0 rfl rfl inX11 tyX11_ok nmX11 84 (by decide) q1699 rfl rfl rfl (Nat.le_of_ble_eq_true rfl) rfl dX11_readForm_197 (fun H locs hP hD hS => ?_)
      refine lv_aload_n hx hb dX11_readForm_200 rfl (lv_at hl 4 rfl) ?_
      refine lv_iload_n hx hb dX11_readForm_201 rfl (lv_at hl 2 rfl) ?_
      refine lv_iconst (v := 2) hx hb dX11_readForm_202 (by decide) ?_
      refine lv_icmp_eq (tgt := 221) hx hb dX11_readForm_203 (by decide) (fun h => absurd h (by decide)) (fun _ => ?_)
      refine lv_iload_n hx hb dX11_readForm_206 rfl (lv_at hl 2 rfl) ?_
      refine lv_iconst (v := 3) hx hb dX11_readForm_207 (by decide) ?_
      refine lv_icmp_eq (tgt := 221) hx hb dX11_readForm_208 (by decide) (fun h => absurd h (by decide)) (fun _ => ?_)
      refine lv_iload_n hx hb dX11_readForm_211 rfl (lv_at hl 2 rfl) ?_
      refine lv_bipush (v := 6) hx hb dX11_readForm_212 (by decide) ?_
      refine lv_icmp_ne (tgt := 226) hx hb dX11_readForm_214 (by decide) (fun h => absurd (by decide) h) (fun _ => ?_)
      refine lv_iload_n hx hb dX11_readForm_217 rfl (lv_at hl 3 rfl) ?_
      refine lv_if_eq (tgt := 226) hx hb dX11_readForm_218 (by decide) (fun h => absurd h (by decide)) (fun _ => ?_)
      refine lv_bipush (v := 10) hx hb dX11_readForm_221 (by decide) ?_
      refine lv_goto (tgt := 228) hx hb dX11_readForm_223 (by decide) ?_
      refine g_put (w' := [(t0, .inr (11, [.int i0, .ref c1, .int i2, .int i3, .int i4, .int i5, .int i6, .int i7, .long i8, .int i9, .int i10, .ref c11, .ref c12, .ref c13, .ref c14, .ref c15, .ref c16, .int i17, .int i18, .ref c19, .ref c20, .ref c21, .ref c22, .int i23, .ref c24, .ref c25, .ref c26, .ref c27, .ref c28, .ref c29, .ref c30, .int i31, .int i32, .int i33, .int i34, .ref c35, .ref c36, .int i37, .int i38, .int i39, .int i40, .int i41, .int i42, .ref c43, .ref c44, .ref c45, .ref c46, .ref c47, .ref c48, .ref c49, .ref c50, .ref c51, .ref c52, .ref c53, .ref c54, .ref c55, .ref c56, .ref c57, .ref c58, .ref c59, .int i60, .ref c61, .int i62, .ref c63, .int i64, .int i65, .int i66, .ref c67, .ref c68, .ref c69, .ref c70, .ref c71, .ref c72, .int i73, .ref c74, .ref c75, .int i76, .int i77, .int i78, .ref c79, .int x237, .int x2, .int x9, .int 10, .int x244])), (c74, .inl (dA 0, 4096, .inl m74)), (c75, .inl (dA 0, 16, .inl m75))]) hx hb hg hown hK hP hD hS 0 rfl rfl inX11 tyX11_ok nmX11 83 (by decide) q1698 rfl rfl rfl (Nat.le_of_ble_eq_true rfl) rfl dX11_readForm_228 (fun H locs hP hD hS => ?_)
      exact g_vret hx hb hr hlocks hK (x237, x2, x9, 10, x244) hP hD hS ⟨(show 0 ≤ x2.toInt ∧ x2.toInt ≤ 255 from by omega), (show 0 ≤ x9.toInt ∧ x9.toInt ≤ 7 from by omega), (show 0 ≤ ((10 : Int32)).toInt ∧ ((10 : Int32)).toInt ≤ 15 from by decide)⟩ (Nat.le_of_ble_eq_true rfl) (Nat.le_of_ble_eq_true rfl) dX11_readForm_231
    · refine lv_iload_n hx hb dX11_readForm_43 rfl (lv_at hl 1 rfl) ?_
      refine lv_if_ne (tgt := 64) hx hb dX11_readForm_44 (by decide) (fun _ => ?_) (fun h => absurd h (by decide))
      refine lv_iload_n hx hb dX11_readForm_64 rfl (lv_at hl 1 rfl) ?_
      refine lv_iconst (v := 1) hx hb dX11_readForm_65 (by decide) ?_
      refine lv_icmp_ne (tgt := 76) hx hb dX11_readForm_66 (by decide) (fun h => absurd (by decide) h) (fun _ => ?_)
      refine lv_aload_n hx hb dX11_readForm_69 rfl (lv_at hl 2 rfl) ?_
      refine g_Vi (n := 0) (As := []) (rest := []) (wr := []) hx hb hml hg hown hK hP hD hS hA (s_X11_fetchSigned l D dA t0 i0 c1 i2 i3 i4 i5 i6 i7 i8 i9 i10 c11 c12 c13 c14 c15 c16 i17 i18 c19 c20 c21 c22 i23 c24 c25 c26 c27 c28 c29 c30 i31 i32 i33 i34 c35 c36 i37 i38 i39 i40 i41 i42 c43 c44 c45 c46 c47 c48 c49 c50 c51 c52 c53 c54 c55 c56 c57 c58 c59 i60 c61 i62 c63 i64 i65 i66 c67 c68 c69 c70 c71 c72 i73 c74 c75 i76 i77 i78 c79 x4 x2 x9 i83 i84 m74 m75 (by omega) (by omega) (by omega) (by omega) (by omega) (by omega) (by omega) p7 _) [0, 1, 2] [] rfl (by decide) rfl (by decide) (by decide) 0 rfl rfl q2152 q160 q2149 q2151 q134 (by decide +kernel) ⟨(Nat.le_of_ble_eq_true rfl), (Nat.le_of_ble_eq_true rfl)⟩ rfl hl.1 rfl (Nat.le_of_ble_eq_true rfl) dX11_readForm_70 ⟨(Nat.le_of_ble_eq_true rfl), (Nat.le_of_ble_eq_true rfl)⟩ (fun x248 u247 H locs w249 hP hD hS => ?_)
      refine W.widen (k := 0) (n := 0) (Nat.le_of_ble_eq_true rfl) (Nat.le_of_ble_eq_true rfl) ?_
      obtain ⟨x250, rfl⟩ : ∃ z, z = u247 := ⟨_, rfl⟩
      have hP : va_P D vwC [(t0, .inr (11, [.int i0, .ref c1, .int i2, .int i3, .int i4, .int i5, .int i6, .int i7, .long i8, .int i9, .int i10, .ref c11, .ref c12, .ref c13, .ref c14, .ref c15, .ref c16, .int i17, .int i18, .ref c19, .ref c20, .ref c21, .ref c22, .int i23, .ref c24, .ref c25, .ref c26, .ref c27, .ref c28, .ref c29, .ref c30, .int i31, .int i32, .int i33, .int i34, .ref c35, .ref c36, .int i37, .int i38, .int i39, .int i40, .int i41, .int i42, .ref c43, .ref c44, .ref c45, .ref c46, .ref c47, .ref c48, .ref c49, .ref c50, .ref c51, .ref c52, .ref c53, .ref c54, .ref c55, .ref c56, .ref c57, .ref c58, .ref c59, .int i60, .ref c61, .int i62, .ref c63, .int i64, .int i65, .int i66, .ref c67, .ref c68, .ref c69, .ref c70, .ref c71, .ref c72, .int i73, .ref c74, .ref c75, .int i76, .int i77, .int i78, .ref c79, .int x250, .int x2, .int x9, .int i83, .int i84])), (c74, .inl (dA 0, 4096, .inl m74)), (c75, .inl (dA 0, 16, .inl m75))] H := hP
      have hD : va_D A [(t0, .inr (11, [.int i0, .ref c1, .int i2, .int i3, .int i4, .int i5, .int i6, .int i7, .long i8, .int i9, .int i10, .ref c11, .ref c12, .ref c13, .ref c14, .ref c15, .ref c16, .int i17, .int i18, .ref c19, .ref c20, .ref c21, .ref c22, .int i23, .ref c24, .ref c25, .ref c26, .ref c27, .ref c28, .ref c29, .ref c30, .int i31, .int i32, .int i33, .int i34, .ref c35, .ref c36, .int i37, .int i38, .int i39, .int i40, .int i41, .int i42, .ref c43, .ref c44, .ref c45, .ref c46, .ref c47, .ref c48, .ref c49, .ref c50, .ref c51, .ref c52, .ref c53, .ref c54, .ref c55, .ref c56, .ref c57, .ref c58, .ref c59, .int i60, .ref c61, .int i62, .ref c63, .int i64, .int i65, .int i66, .ref c67, .ref c68, .ref c69, .ref c70, .ref c71, .ref c72, .int i73, .ref c74, .ref c75, .int i76, .int i77, .int i78, .ref c79, .int x250, .int x2, .int x9, .int i83, .int i84])), (c74, .inl (dA 0, 4096, .inl m74)), (c75, .inl (dA 0, 16, .inl m75))] := hD
      have g251 := w249
      have g251 : -128 ≤ x248.toInt ∧ x248.toInt ≤ 127 := g251
      refine lv_goto (tgt := 80) hx hb dX11_readForm_73 (by decide) ?_
      refine lv_istore_n (lv' := [(3, .int x248), (2, .int 7), (1, .int 1), (0, .ref t0)]) hx hb dX11_readForm_80 rfl hl (by decide) rfl (fun ls hl => ?_)
      refine lv_iconst (v := 0) hx hb dX11_readForm_81 (by decide) ?_
      refine lv_istore (lv' := [(4, .int 0), (3, .int x248), (2, .int 7), (1, .int 1), (0, .ref t0)]) hx hb dX11_readForm_82 hl (by decide) rfl (fun ls hl => ?_)
      refine lv_iload_n hx hb dX11_readForm_84 rfl (lv_at hl 2 rfl) ?_
      refine lv_if_eq (tgt := 99) hx hb dX11_readForm_85 (by decide) (fun h => absurd h (by decide)) (fun _ => ?_)
      refine lv_iload_n hx hb dX11_readForm_88 rfl (lv_at hl 2 rfl) ?_
      refine lv_iconst (v := 1) hx hb dX11_readForm_89 (by decide) ?_
      refine lv_icmp_eq (tgt := 99) hx hb dX11_readForm_90 (by decide) (fun h => absurd h (by decide)) (fun _ => ?_)
      refine lv_iload_n hx hb dX11_readForm_93 rfl (lv_at hl 2 rfl) ?_
      refine lv_bipush (v := 7) hx hb dX11_readForm_94 (by decide) ?_
      refine lv_icmp_ne (tgt := 107) hx hb dX11_readForm_96 (by decide) (fun h => absurd (by decide) h) (fun _ => ?_)
      refine lv_aload_n hx hb dX11_readForm_99 rfl (lv_at hl 4 rfl) ?_
      refine g_get hx hb hg hown hK hP 0 rfl rfl inX11 75 (by decide) q1690 rfl dX11_readForm_100 ?_
      refine lv_iconst (v := 3) hx hb dX11_readForm_103 (by decide) ?_
      refine va_iald hx hb hK hP 2 0 rfl rfl (by unfold vp_in; decide) dX11_readForm_104 ?_
      refine lv_topi (fun x252 e253 => ?_)
      refine lv_istore (lv' := [(4, .int x252), (3, .int x248), (2, .int 7), (1, .int 1), (0, .ref t0)]) hx hb dX11_readForm_105 hl (by decide) rfl (fun ls hl => ?_)
      refine lv_iload_n hx hb dX11_readForm_107 rfl (lv_at hl 2 rfl) ?_
      refine lv_iconst (v := 2) hx hb dX11_readForm_108 (by decide) ?_
      refine lv_icmp_eq (tgt := 127) hx hb dX11_readForm_109 (by decide) (fun h => absurd h (by decide)) (fun _ => ?_)
      refine lv_iload_n hx hb dX11_readForm_112 rfl (lv_at hl 2 rfl) ?_
      refine lv_iconst (v := 3) hx hb dX11_readForm_113 (by decide) ?_
      refine lv_icmp_eq (tgt := 127) hx hb dX11_readForm_114 (by decide) (fun h => absurd h (by decide)) (fun _ => ?_)
      refine lv_iload_n hx hb dX11_readForm_117 rfl (lv_at hl 2 rfl) ?_
      refine lv_bipush (v := 6) hx hb dX11_readForm_118 (by decide) ?_
      refine lv_icmp_ne (tgt := 135) hx hb dX11_readForm_120 (by decide) (fun _ => ?_) (fun h => absurd h (by decide))
      refine lv_iload_n hx hb dX11_readForm_135 rfl (lv_at hl 2 rfl) ?_
      refine lv_if_eq (tgt := 149) hx hb dX11_readForm_136 (by decide) (fun h => absurd h (by decide)) (fun _ => ?_)
      refine lv_iload_n hx hb dX11_readForm_139 rfl (lv_at hl 2 rfl) ?_
      refine lv_iconst (v := 2) hx hb dX11_readForm_140 (by decide) ?_
      refine lv_icmp_eq (tgt := 149) hx hb dX11_readForm_141 (by decide) (fun h => absurd h (by decide)) (fun _ => ?_)
      refine lv_iload_n hx hb dX11_readForm_144 rfl (lv_at hl 2 rfl) ?_
      refine lv_iconst (v := 4) hx hb dX11_readForm_145 (by decide) ?_
      refine lv_icmp_ne (tgt := 161) hx hb dX11_readForm_146 (by decide) (fun _ => ?_) (fun h => absurd h (by decide))
      refine lv_iload_n hx hb dX11_readForm_161 rfl (lv_at hl 2 rfl) ?_
      refine lv_iconst (v := 1) hx hb dX11_readForm_162 (by decide) ?_
      refine lv_icmp_eq (tgt := 176) hx hb dX11_readForm_163 (by decide) (fun h => absurd h (by decide)) (fun _ => ?_)
      refine lv_iload_n hx hb dX11_readForm_166 rfl (lv_at hl 2 rfl) ?_
      refine lv_iconst (v := 3) hx hb dX11_readForm_167 (by decide) ?_
      refine lv_icmp_eq (tgt := 176) hx hb dX11_readForm_168 (by decide) (fun h => absurd h (by decide)) (fun _ => ?_)
      refine lv_iload_n hx hb dX11_readForm_171 rfl (lv_at hl 2 rfl) ?_
      refine lv_iconst (v := 5) hx hb dX11_readForm_172 (by decide) ?_
      refine lv_icmp_ne (tgt := 188) hx hb dX11_readForm_173 (by decide) (fun _ => ?_) (fun h => absurd h (by decide))
      refine lv_aload_n hx hb dX11_readForm_188 rfl (lv_at hl 4 rfl) ?_
      refine lv_iload hx hb dX11_readForm_189 (lv_at hl 0 rfl) ?_
      refine lv_iload_n hx hb dX11_readForm_191 rfl (lv_at hl 1 rfl) ?_
      refine lv_iadd hx hb dX11_readForm_192 ?_
      have g254 := g_i32 x252
      refine lv_topi (fun x255 e256 => ?_)
      refine lv_ldcw hx hb hown (hg _ q1907) dX11_readForm_193 ?_
      refine lv_iand hx hb dX11_readForm_196 ?_
      refine lv_topi (fun x257 e258 => ?_)
      have g259 : 0 ≤ x257.toInt ∧ x257.toInt ≤ 65535 := g_msk e258 16 (by decide) (by decide) (by decide)
      refine g_put (w' := [(t0, .inr (11, [.int i0, .ref c1, .int i2, .int i3, .int i4, .int i5, .int i6, .int i7, .long i8, .int i9, .int i10, .ref c11, .ref c12, .ref c13, .ref c14, .ref c15, .ref c16, .int i17, .int i18, .ref c19, .ref c20, .ref c21, .ref c22, .int i23, .ref c24, .ref c25, .ref c26, .ref c27, .ref c28, .ref c29, .ref c30, .int i31, .int i32, .int i33, .int i34, .ref c35, .ref c36, .int i37, .int i38, .int i39, .int i40, .int i41, .int i42, .ref c43, .ref c44, .ref c45, .ref c46, .ref c47, .ref c48, .ref c49, .ref c50, .ref c51, .ref c52, .ref c53, .ref c54, .ref c55, .ref c56, .ref c57, .ref c58, .ref c59, .int i60, .ref c61, .int i62, .ref c63, .int i64, .int i65, .int i66, .ref c67, .ref c68, .ref c69, .ref c70, .ref c71, .ref c72, .int i73, .ref c74, .ref c75, .int i76, .int i77, .int i78, .ref c79, .int x250, .int x2, .int x9, .int i83, .int x257])), (c74, .inl (dA 0, 4096, .inl m74)), (c75, .inl (dA 0, 16, .inl m75))]) hx hb hg hown hK hP hD hS 0 rfl rfl inX11 tyX11_ok nmX11 84 (by decide) q1699 rfl rfl rfl (Nat.le_of_ble_eq_true rfl) rfl dX11_readForm_197 (fun H locs hP hD hS => ?_)
      refine lv_aload_n hx hb dX11_readForm_200 rfl (lv_at hl 4 rfl) ?_
      refine lv_iload_n hx hb dX11_readForm_201 rfl (lv_at hl 2 rfl) ?_
      refine lv_iconst (v := 2) hx hb dX11_readForm_202 (by decide) ?_
      refine lv_icmp_eq (tgt := 221) hx hb dX11_readForm_203 (by decide) (fun h => absurd h (by decide)) (fun _ => ?_)
      refine lv_iload_n hx hb dX11_readForm_206 rfl (lv_at hl 2 rfl) ?_
      refine lv_iconst (v := 3) hx hb dX11_readForm_207 (by decide) ?_
      refine lv_icmp_eq (tgt := 221) hx hb dX11_readForm_208 (by decide) (fun h => absurd h (by decide)) (fun _ => ?_)
      refine lv_iload_n hx hb dX11_readForm_211 rfl (lv_at hl 2 rfl) ?_
      refine lv_bipush (v := 6) hx hb dX11_readForm_212 (by decide) ?_
      refine lv_icmp_ne (tgt := 226) hx hb dX11_readForm_214 (by decide) (fun _ => ?_) (fun h => absurd h (by decide))
      refine lv_bipush (v := 11) hx hb dX11_readForm_226 (by decide) ?_
      refine g_put (w' := [(t0, .inr (11, [.int i0, .ref c1, .int i2, .int i3, .int i4, .int i5, .int i6, .int i7, .long i8, .int i9, .int i10, .ref c11, .ref c12, .ref c13, .ref c14, .ref c15, .ref c16, .int i17, .int i18, .ref c19, .ref c20, .ref c21, .ref c22, .int i23, .ref c24, .ref c25, .ref c26, .ref c27, .ref c28, .ref c29, .ref c30, .int i31, .int i32, .int i33, .int i34, .ref c35, .ref c36, .int i37, .int i38, .int i39, .int i40, .int i41, .int i42, .ref c43, .ref c44, .ref c45, .ref c46, .ref c47, .ref c48, .ref c49, .ref c50, .ref c51, .ref c52, .ref c53, .ref c54, .ref c55, .ref c56, .ref c57, .ref c58, .ref c59, .int i60, .ref c61, .int i62, .ref c63, .int i64, .int i65, .int i66, .ref c67, .ref c68, .ref c69, .ref c70, .ref c71, .ref c72, .int i73, .ref c74, .ref c75, .int i76, .int i77, .int i78, .ref c79, .int x250, .int x2, .int x9, .int 11, .int x257])), (c74, .inl (dA 0, 4096, .inl m74)), (c75, .inl (dA 0, 16, .inl m75))]) hx hb hg hown hK hP hD hS 0 rfl rfl inX11 tyX11_ok nmX11 83 (by decide) q1698 rfl rfl rfl (Nat.le_of_ble_eq_true rfl) rfl dX11_readForm_228 (fun H locs hP hD hS => ?_)
      exact g_vret hx hb hr hlocks hK (x250, x2, x9, 11, x257) hP hD hS ⟨(show 0 ≤ x2.toInt ∧ x2.toInt ≤ 255 from by omega), (show 0 ≤ x9.toInt ∧ x9.toInt ≤ 7 from by omega), (show 0 ≤ ((11 : Int32)).toInt ∧ ((11 : Int32)).toInt ≤ 15 from by decide)⟩ (Nat.le_of_ble_eq_true rfl) (Nat.le_of_ble_eq_true rfl) dX11_readForm_231
  · refine lv_iload_n hx hb dX11_readForm_37 rfl (lv_at hl 1 rfl) ?_
    refine lv_iconst (v := 3) hx hb dX11_readForm_38 (by decide) ?_
    refine lv_icmp_ne (tgt := 43) hx hb dX11_readForm_39 (by decide) (fun _ => ?_) (fun h => absurd h (by decide))
    rcases g_c0_7 (x := x15) (by omega) (by omega) with rfl | rfl | rfl | rfl | rfl | rfl | rfl | rfl
    · refine lv_iload_n hx hb dX11_readForm_43 rfl (lv_at hl 1 rfl) ?_
      refine lv_if_ne (tgt := 64) hx hb dX11_readForm_44 (by decide) (fun _ => ?_) (fun h => absurd h (by decide))
      refine lv_iload_n hx hb dX11_readForm_64 rfl (lv_at hl 1 rfl) ?_
      refine lv_iconst (v := 1) hx hb dX11_readForm_65 (by decide) ?_
      refine lv_icmp_ne (tgt := 76) hx hb dX11_readForm_66 (by decide) (fun _ => ?_) (fun h => absurd h (by decide))
      refine lv_aload_n hx hb dX11_readForm_76 rfl (lv_at hl 2 rfl) ?_
      refine g_Vi (n := 0) (As := []) (rest := []) (wr := []) hx hb hml hg hown hK hP hD hS hA (s_X11_fetchTwo l D dA t0 i0 c1 i2 i3 i4 i5 i6 i7 i8 i9 i10 c11 c12 c13 c14 c15 c16 i17 i18 c19 c20 c21 c22 i23 c24 c25 c26 c27 c28 c29 c30 i31 i32 i33 i34 c35 c36 i37 i38 i39 i40 i41 i42 c43 c44 c45 c46 c47 c48 c49 c50 c51 c52 c53 c54 c55 c56 c57 c58 c59 i60 c61 i62 c63 i64 i65 i66 c67 c68 c69 c70 c71 c72 i73 c74 c75 i76 i77 i78 c79 x4 x2 x9 i83 i84 m74 m75 (by omega) (by omega) (by omega) (by omega) (by omega) (by omega) (by omega) p7 _) [0, 1, 2] [] rfl (by decide) rfl (by decide) (by decide) 0 rfl rfl q2148 q160 q2145 q2147 q133 (by decide +kernel) ⟨(Nat.le_of_ble_eq_true rfl), (Nat.le_of_ble_eq_true rfl)⟩ rfl hl.1 rfl (Nat.le_of_ble_eq_true rfl) dX11_readForm_77 ⟨(Nat.le_of_ble_eq_true rfl), (Nat.le_of_ble_eq_true rfl)⟩ (fun x261 u260 H locs w262 hP hD hS => ?_)
      refine W.widen (k := 0) (n := 0) (Nat.le_of_ble_eq_true rfl) (Nat.le_of_ble_eq_true rfl) ?_
      obtain ⟨x263, rfl⟩ : ∃ z, z = u260 := ⟨_, rfl⟩
      have hP : va_P D vwC [(t0, .inr (11, [.int i0, .ref c1, .int i2, .int i3, .int i4, .int i5, .int i6, .int i7, .long i8, .int i9, .int i10, .ref c11, .ref c12, .ref c13, .ref c14, .ref c15, .ref c16, .int i17, .int i18, .ref c19, .ref c20, .ref c21, .ref c22, .int i23, .ref c24, .ref c25, .ref c26, .ref c27, .ref c28, .ref c29, .ref c30, .int i31, .int i32, .int i33, .int i34, .ref c35, .ref c36, .int i37, .int i38, .int i39, .int i40, .int i41, .int i42, .ref c43, .ref c44, .ref c45, .ref c46, .ref c47, .ref c48, .ref c49, .ref c50, .ref c51, .ref c52, .ref c53, .ref c54, .ref c55, .ref c56, .ref c57, .ref c58, .ref c59, .int i60, .ref c61, .int i62, .ref c63, .int i64, .int i65, .int i66, .ref c67, .ref c68, .ref c69, .ref c70, .ref c71, .ref c72, .int i73, .ref c74, .ref c75, .int i76, .int i77, .int i78, .ref c79, .int x263, .int x2, .int x9, .int i83, .int i84])), (c74, .inl (dA 0, 4096, .inl m74)), (c75, .inl (dA 0, 16, .inl m75))] H := hP
      have hD : va_D A [(t0, .inr (11, [.int i0, .ref c1, .int i2, .int i3, .int i4, .int i5, .int i6, .int i7, .long i8, .int i9, .int i10, .ref c11, .ref c12, .ref c13, .ref c14, .ref c15, .ref c16, .int i17, .int i18, .ref c19, .ref c20, .ref c21, .ref c22, .int i23, .ref c24, .ref c25, .ref c26, .ref c27, .ref c28, .ref c29, .ref c30, .int i31, .int i32, .int i33, .int i34, .ref c35, .ref c36, .int i37, .int i38, .int i39, .int i40, .int i41, .int i42, .ref c43, .ref c44, .ref c45, .ref c46, .ref c47, .ref c48, .ref c49, .ref c50, .ref c51, .ref c52, .ref c53, .ref c54, .ref c55, .ref c56, .ref c57, .ref c58, .ref c59, .int i60, .ref c61, .int i62, .ref c63, .int i64, .int i65, .int i66, .ref c67, .ref c68, .ref c69, .ref c70, .ref c71, .ref c72, .int i73, .ref c74, .ref c75, .int i76, .int i77, .int i78, .ref c79, .int x263, .int x2, .int x9, .int i83, .int i84])), (c74, .inl (dA 0, 4096, .inl m74)), (c75, .inl (dA 0, 16, .inl m75))] := hD
      refine lv_istore_n (lv' := [(3, .int x261), (2, .int 0), (1, .int 2), (0, .ref t0)]) hx hb dX11_readForm_80 rfl hl (by decide) rfl (fun ls hl => ?_)
      refine lv_iconst (v := 0) hx hb dX11_readForm_81 (by decide) ?_
      refine lv_istore (lv' := [(4, .int 0), (3, .int x261), (2, .int 0), (1, .int 2), (0, .ref t0)]) hx hb dX11_readForm_82 hl (by decide) rfl (fun ls hl => ?_)
      refine lv_iload_n hx hb dX11_readForm_84 rfl (lv_at hl 2 rfl) ?_
      refine lv_if_eq (tgt := 99) hx hb dX11_readForm_85 (by decide) (fun _ => ?_) (fun h => absurd (by decide) h)
      refine lv_aload_n hx hb dX11_readForm_99 rfl (lv_at hl 4 rfl) ?_
      refine g_get hx hb hg hown hK hP 0 rfl rfl inX11 75 (by decide) q1690 rfl dX11_readForm_100 ?_
      refine lv_iconst (v := 3) hx hb dX11_readForm_103 (by decide) ?_
      refine va_iald hx hb hK hP 2 0 rfl rfl (by unfold vp_in; decide) dX11_readForm_104 ?_
      refine lv_topi (fun x264 e265 => ?_)
      refine lv_istore (lv' := [(4, .int x264), (3, .int x261), (2, .int 0), (1, .int 2), (0, .ref t0)]) hx hb dX11_readForm_105 hl (by decide) rfl (fun ls hl => ?_)
      refine lv_iload_n hx hb dX11_readForm_107 rfl (lv_at hl 2 rfl) ?_
      refine lv_iconst (v := 2) hx hb dX11_readForm_108 (by decide) ?_
      refine lv_icmp_eq (tgt := 127) hx hb dX11_readForm_109 (by decide) (fun h => absurd h (by decide)) (fun _ => ?_)
      refine lv_iload_n hx hb dX11_readForm_112 rfl (lv_at hl 2 rfl) ?_
      refine lv_iconst (v := 3) hx hb dX11_readForm_113 (by decide) ?_
      refine lv_icmp_eq (tgt := 127) hx hb dX11_readForm_114 (by decide) (fun h => absurd h (by decide)) (fun _ => ?_)
      refine lv_iload_n hx hb dX11_readForm_117 rfl (lv_at hl 2 rfl) ?_
      refine lv_bipush (v := 6) hx hb dX11_readForm_118 (by decide) ?_
      refine lv_icmp_ne (tgt := 135) hx hb dX11_readForm_120 (by decide) (fun _ => ?_) (fun h => absurd h (by decide))
      refine lv_iload_n hx hb dX11_readForm_135 rfl (lv_at hl 2 rfl) ?_
      refine lv_if_eq (tgt := 149) hx hb dX11_readForm_136 (by decide) (fun _ => ?_) (fun h => absurd (by decide) h)
      refine lv_iload hx hb dX11_readForm_149 (lv_at hl 0 rfl) ?_
      refine lv_aload_n hx hb dX11_readForm_151 rfl (lv_at hl 4 rfl) ?_
      refine g_get hx hb hg hown hK hP 0 rfl rfl inX11 75 (by decide) q1690 rfl dX11_readForm_152 ?_
      refine lv_bipush (v := 6) hx hb dX11_readForm_155 (by decide) ?_
      refine va_iald hx hb hK hP 2 0 rfl rfl (by unfold vp_in; decide) dX11_readForm_157 ?_
      refine lv_topi (fun x266 e267 => ?_)
      refine lv_iadd hx hb dX11_readForm_158 ?_
      have g268 := g_i32 x264
      have g269 := g_i32 x266
      refine lv_topi (fun x270 e271 => ?_)
      refine lv_istore (lv' := [(4, .int x270), (3, .int x261), (2, .int 0), (1, .int 2), (0, .ref t0)]) hx hb dX11_readForm_159 hl (by decide) rfl (fun ls hl => ?_)
      refine lv_iload_n hx hb dX11_readForm_161 rfl (lv_at hl 2 rfl) ?_
      refine lv_iconst (v := 1) hx hb dX11_readForm_162 (by decide) ?_
      refine lv_icmp_eq (tgt := 176) hx hb dX11_readForm_163 (by decide) (fun h => absurd h (by decide)) (fun _ => ?_)
      refine lv_iload_n hx hb dX11_readForm_166 rfl (lv_at hl 2 rfl) ?_
      refine lv_iconst (v := 3) hx hb dX11_readForm_167 (by decide) ?_
      refine lv_icmp_eq (tgt := 176) hx hb dX11_readForm_168 (by decide) (fun h => absurd h (by decide)) (fun _ => ?_)
      refine lv_iload_n hx hb dX11_readForm_171 rfl (lv_at hl 2 rfl) ?_
      refine lv_iconst (v := 5) hx hb dX11_readForm_172 (by decide) ?_
      refine lv_icmp_ne (tgt := 188) hx hb dX11_readForm_173 (by decide) (fun _ => ?_) (fun h => absurd h (by decide))
      refine lv_aload_n hx hb dX11_readForm_188 rfl (lv_at hl 4 rfl) ?_
      refine lv_iload hx hb dX11_readForm_189 (lv_at hl 0 rfl) ?_
      refine lv_iload_n hx hb dX11_readForm_191 rfl (lv_at hl 1 rfl) ?_
      refine lv_iadd hx hb dX11_readForm_192 ?_
      have g272 := g_i32 x270
      have g273 := g_i32 x261
      refine lv_topi (fun x274 e275 => ?_)
      refine lv_ldcw hx hb hown (hg _ q1907) dX11_readForm_193 ?_
      refine lv_iand hx hb dX11_readForm_196 ?_
      refine lv_topi (fun x276 e277 => ?_)
      have g278 : 0 ≤ x276.toInt ∧ x276.toInt ≤ 65535 := g_msk e277 16 (by decide) (by decide) (by decide)
      refine g_put (w' := [(t0, .inr (11, [.int i0, .ref c1, .int i2, .int i3, .int i4, .int i5, .int i6, .int i7, .long i8, .int i9, .int i10, .ref c11, .ref c12, .ref c13, .ref c14, .ref c15, .ref c16, .int i17, .int i18, .ref c19, .ref c20, .ref c21, .ref c22, .int i23, .ref c24, .ref c25, .ref c26, .ref c27, .ref c28, .ref c29, .ref c30, .int i31, .int i32, .int i33, .int i34, .ref c35, .ref c36, .int i37, .int i38, .int i39, .int i40, .int i41, .int i42, .ref c43, .ref c44, .ref c45, .ref c46, .ref c47, .ref c48, .ref c49, .ref c50, .ref c51, .ref c52, .ref c53, .ref c54, .ref c55, .ref c56, .ref c57, .ref c58, .ref c59, .int i60, .ref c61, .int i62, .ref c63, .int i64, .int i65, .int i66, .ref c67, .ref c68, .ref c69, .ref c70, .ref c71, .ref c72, .int i73, .ref c74, .ref c75, .int i76, .int i77, .int i78, .ref c79, .int x263, .int x2, .int x9, .int i83, .int x276])), (c74, .inl (dA 0, 4096, .inl m74)), (c75, .inl (dA 0, 16, .inl m75))]) hx hb hg hown hK hP hD hS 0 rfl rfl inX11 tyX11_ok nmX11 84 (by decide) q1699 rfl rfl rfl (Nat.le_of_ble_eq_true rfl) rfl dX11_readForm_197 (fun H locs hP hD hS => ?_)
      refine lv_aload_n hx hb dX11_readForm_200 rfl (lv_at hl 4 rfl) ?_
      refine lv_iload_n hx hb dX11_readForm_201 rfl (lv_at hl 2 rfl) ?_
      refine lv_iconst (v := 2) hx hb dX11_readForm_202 (by decide) ?_
      refine lv_icmp_eq (tgt := 221) hx hb dX11_readForm_203 (by decide) (fun h => absurd h (by decide)) (fun _ => ?_)
      refine lv_iload_n hx hb dX11_readForm_206 rfl (lv_at hl 2 rfl) ?_
      refine lv_iconst (v := 3) hx hb dX11_readForm_207 (by decide) ?_
      refine lv_icmp_eq (tgt := 221) hx hb dX11_readForm_208 (by decide) (fun h => absurd h (by decide)) (fun _ => ?_)
      refine lv_iload_n hx hb dX11_readForm_211 rfl (lv_at hl 2 rfl) ?_
      refine lv_bipush (v := 6) hx hb dX11_readForm_212 (by decide) ?_
      refine lv_icmp_ne (tgt := 226) hx hb dX11_readForm_214 (by decide) (fun _ => ?_) (fun h => absurd h (by decide))
      refine lv_bipush (v := 11) hx hb dX11_readForm_226 (by decide) ?_
      refine g_put (w' := [(t0, .inr (11, [.int i0, .ref c1, .int i2, .int i3, .int i4, .int i5, .int i6, .int i7, .long i8, .int i9, .int i10, .ref c11, .ref c12, .ref c13, .ref c14, .ref c15, .ref c16, .int i17, .int i18, .ref c19, .ref c20, .ref c21, .ref c22, .int i23, .ref c24, .ref c25, .ref c26, .ref c27, .ref c28, .ref c29, .ref c30, .int i31, .int i32, .int i33, .int i34, .ref c35, .ref c36, .int i37, .int i38, .int i39, .int i40, .int i41, .int i42, .ref c43, .ref c44, .ref c45, .ref c46, .ref c47, .ref c48, .ref c49, .ref c50, .ref c51, .ref c52, .ref c53, .ref c54, .ref c55, .ref c56, .ref c57, .ref c58, .ref c59, .int i60, .ref c61, .int i62, .ref c63, .int i64, .int i65, .int i66, .ref c67, .ref c68, .ref c69, .ref c70, .ref c71, .ref c72, .int i73, .ref c74, .ref c75, .int i76, .int i77, .int i78, .ref c79, .int x263, .int x2, .int x9, .int 11, .int x276])), (c74, .inl (dA 0, 4096, .inl m74)), (c75, .inl (dA 0, 16, .inl m75))]) hx hb hg hown hK hP hD hS 0 rfl rfl inX11 tyX11_ok nmX11 83 (by decide) q1698 rfl rfl rfl (Nat.le_of_ble_eq_true rfl) rfl dX11_readForm_228 (fun H locs hP hD hS => ?_)
      exact g_vret hx hb hr hlocks hK (x263, x2, x9, 11, x276) hP hD hS ⟨(show 0 ≤ x2.toInt ∧ x2.toInt ≤ 255 from by omega), (show 0 ≤ x9.toInt ∧ x9.toInt ≤ 7 from by omega), (show 0 ≤ ((11 : Int32)).toInt ∧ ((11 : Int32)).toInt ≤ 15 from by decide)⟩ (Nat.le_of_ble_eq_true rfl) (Nat.le_of_ble_eq_true rfl) dX11_readForm_231
    · refine lv_iload_n hx hb dX11_readForm_43 rfl (lv_at hl 1 rfl) ?_
      refine lv_if_ne (tgt := 64) hx hb dX11_readForm_44 (by decide) (fun _ => ?_) (fun h => absurd h (by decide))
      refine lv_iload_n hx hb dX11_readForm_64 rfl (lv_at hl 1 rfl) ?_
      refine lv_iconst (v := 1) hx hb dX11_readForm_65 (by decide) ?_
      refine lv_icmp_ne (tgt := 76) hx hb dX11_readForm_66 (by decide) (fun _ => ?_) (fun h => absurd h (by decide))
      refine lv_aload_n hx hb dX11_readForm_76 rfl (lv_at hl 2 rfl) ?_
      refine g_Vi (n := 0) (As := []) (rest := []) (wr := []) hx hb hml hg hown hK hP hD hS hA (s_X11_fetchTwo l D dA t0 i0 c1 i2 i3 i4 i5 i6 i7 i8 i9 i10 c11 c12 c13 c14 c15 c16 i17 i18 c19 c20 c21 c22 i23 c24 c25 c26 c27 c28 c29 c30 i31 i32 i33 i34 c35 c36 i37 i38 i39 i40 i41 i42 c43 c44 c45 c46 c47 c48 c49 c50 c51 c52 c53 c54 c55 c56 c57 c58 c59 i60 c61 i62 c63 i64 i65 i66 c67 c68 c69 c70 c71 c72 i73 c74 c75 i76 i77 i78 c79 x4 x2 x9 i83 i84 m74 m75 (by omega) (by omega) (by omega) (by omega) (by omega) (by omega) (by omega) p7 _) [0, 1, 2] [] rfl (by decide) rfl (by decide) (by decide) 0 rfl rfl q2148 q160 q2145 q2147 q133 (by decide +kernel) ⟨(Nat.le_of_ble_eq_true rfl), (Nat.le_of_ble_eq_true rfl)⟩ rfl hl.1 rfl (Nat.le_of_ble_eq_true rfl) dX11_readForm_77 ⟨(Nat.le_of_ble_eq_true rfl), (Nat.le_of_ble_eq_true rfl)⟩ (fun x280 u279 H locs w281 hP hD hS => ?_)
      refine W.widen (k := 0) (n := 0) (Nat.le_of_ble_eq_true rfl) (Nat.le_of_ble_eq_true rfl) ?_
      obtain ⟨x282, rfl⟩ : ∃ z, z = u279 := ⟨_, rfl⟩
      have hP : va_P D vwC [(t0, .inr (11, [.int i0, .ref c1, .int i2, .int i3, .int i4, .int i5, .int i6, .int i7, .long i8, .int i9, .int i10, .ref c11, .ref c12, .ref c13, .ref c14, .ref c15, .ref c16, .int i17, .int i18, .ref c19, .ref c20, .ref c21, .ref c22, .int i23, .ref c24, .ref c25, .ref c26, .ref c27, .ref c28, .ref c29, .ref c30, .int i31, .int i32, .int i33, .int i34, .ref c35, .ref c36, .int i37, .int i38, .int i39, .int i40, .int i41, .int i42, .ref c43, .ref c44, .ref c45, .ref c46, .ref c47, .ref c48, .ref c49, .ref c50, .ref c51, .ref c52, .ref c53, .ref c54, .ref c55, .ref c56, .ref c57, .ref c58, .ref c59, .int i60, .ref c61, .int i62, .ref c63, .int i64, .int i65, .int i66, .ref c67, .ref c68, .ref c69, .ref c70, .ref c71, .ref c72, .int i73, .ref c74, .ref c75, .int i76, .int i77, .int i78, .ref c79, .int x282, .int x2, .int x9, .int i83, .int i84])), (c74, .inl (dA 0, 4096, .inl m74)), (c75, .inl (dA 0, 16, .inl m75))] H := hP
      have hD : va_D A [(t0, .inr (11, [.int i0, .ref c1, .int i2, .int i3, .int i4, .int i5, .int i6, .int i7, .long i8, .int i9, .int i10, .ref c11, .ref c12, .ref c13, .ref c14, .ref c15, .ref c16, .int i17, .int i18, .ref c19, .ref c20, .ref c21, .ref c22, .int i23, .ref c24, .ref c25, .ref c26, .ref c27, .ref c28, .ref c29, .ref c30, .int i31, .int i32, .int i33, .int i34, .ref c35, .ref c36, .int i37, .int i38, .int i39, .int i40, .int i41, .int i42, .ref c43, .ref c44, .ref c45, .ref c46, .ref c47, .ref c48, .ref c49, .ref c50, .ref c51, .ref c52, .ref c53, .ref c54, .ref c55, .ref c56, .ref c57, .ref c58, .ref c59, .int i60, .ref c61, .int i62, .ref c63, .int i64, .int i65, .int i66, .ref c67, .ref c68, .ref c69, .ref c70, .ref c71, .ref c72, .int i73, .ref c74, .ref c75, .int i76, .int i77, .int i78, .ref c79, .int x282, .int x2, .int x9, .int i83, .int i84])), (c74, .inl (dA 0, 4096, .inl m74)), (c75, .inl (dA 0, 16, .inl m75))] := hD
      refine lv_istore_n (lv' := [(3, .int x280), (2, .int 1), (1, .int 2), (0, .ref t0)]) hx hb dX11_readForm_80 rfl hl (by decide) rfl (fun ls hl => ?_)
      refine lv_iconst (v := 0) hx hb dX11_readForm_81 (by decide) ?_
      refine lv_istore (lv' := [(4, .int 0), (3, .int x280), (2, .int 1), (1, .int 2), (0, .ref t0)]) hx hb dX11_readForm_82 hl (by decide) rfl (fun ls hl => ?_)
      refine lv_iload_n hx hb dX11_readForm_84 rfl (lv_at hl 2 rfl) ?_
      refine lv_if_eq (tgt := 99) hx hb dX11_readForm_85 (by decide) (fun h => absurd h (by decide)) (fun _ => ?_)
      refine lv_iload_n hx hb dX11_readForm_88 rfl (lv_at hl 2 rfl) ?_
      refine lv_iconst (v := 1) hx hb dX11_readForm_89 (by decide) ?_
      refine lv_icmp_eq (tgt := 99) hx hb dX11_readForm_90 (by decide) (fun _ => ?_) (fun h => absurd (by decide) h)
      refine lv_aload_n hx hb dX11_readForm_99 rfl (lv_at hl 4 rfl) ?_
      refine g_get hx hb hg hown hK hP 0 rfl rfl inX11 75 (by decide) q1690 rfl dX11_readForm_100 ?_
      refine lv_iconst (v := 3) hx hb dX11_readForm_103 (by decide) ?_
      refine va_iald hx hb hK hP 2 0 rfl rfl (by unfold vp_in; decide) dX11_readForm_104 ?_
      refine lv_topi (fun x283 e284 => ?_)
      refine lv_istore (lv' := [(4, .int x283), (3, .int x280), (2, .int 1), (1, .int 2), (0, .ref t0)]) hx hb dX11_readForm_105 hl (by decide) rfl (fun ls hl => ?_)
      refine lv_iload_n hx hb dX11_readForm_107 rfl (lv_at hl 2 rfl) ?_
      refine lv_iconst (v := 2) hx hb dX11_readForm_108 (by decide) ?_
      refine lv_icmp_eq (tgt := 127) hx hb dX11_readForm_109 (by decide) (fun h => absurd h (by decide)) (fun _ => ?_)
      refine lv_iload_n hx hb dX11_readForm_112 rfl (lv_at hl 2 rfl) ?_
      refine lv_iconst (v := 3) hx hb dX11_readForm_113 (by decide) ?_
      refine lv_icmp_eq (tgt := 127) hx hb dX11_readForm_114 (by decide) (fun h => absurd h (by decide)) (fun _ => ?_)
      refine lv_iload_n hx hb dX11_readForm_117 rfl (lv_at hl 2 rfl) ?_
      refine lv_bipush (v := 6) hx hb dX11_readForm_118 (by decide) ?_
      refine lv_icmp_ne (tgt := 135) hx hb dX11_readForm_120 (by decide) (fun _ => ?_) (fun h => absurd h (by decide))
      refine lv_iload_n hx hb dX11_readForm_135 rfl (lv_at hl 2 rfl) ?_
      refine lv_if_eq (tgt := 149) hx hb dX11_readForm_136 (by decide) (fun h => absurd h (by decide)) (fun _ => ?_)
      refine lv_iload_n hx hb dX11_readForm_139 rfl (lv_at hl 2 rfl) ?_
      refine lv_iconst (v := 2) hx hb dX11_readForm_140 (by decide) ?_
      refine lv_icmp_eq (tgt := 149) hx hb dX11_readForm_141 (by decide) (fun h => absurd h (by decide)) (fun _ => ?_)
      refine lv_iload_n hx hb dX11_readForm_144 rfl (lv_at hl 2 rfl) ?_
      refine lv_iconst (v := 4) hx hb dX11_readForm_145 (by decide) ?_
      refine lv_icmp_ne (tgt := 161) hx hb dX11_readForm_146 (by decide) (fun _ => ?_) (fun h => absurd h (by decide))
      refine lv_iload_n hx hb dX11_readForm_161 rfl (lv_at hl 2 rfl) ?_
      refine lv_iconst (v := 1) hx hb dX11_readForm_162 (by decide) ?_
      refine lv_icmp_eq (tgt := 176) hx hb dX11_readForm_163 (by decide) (fun _ => ?_) (fun h => absurd (by decide) h)
      refine lv_iload hx hb dX11_readForm_176 (lv_at hl 0 rfl) ?_
      refine lv_aload_n hx hb dX11_readForm_178 rfl (lv_at hl 4 rfl) ?_
      refine g_get hx hb hg hown hK hP 0 rfl rfl inX11 75 (by decide) q1690 rfl dX11_readForm_179 ?_
      refine lv_bipush (v := 7) hx hb dX11_readForm_182 (by decide) ?_
      refine va_iald hx hb hK hP 2 0 rfl rfl (by unfold vp_in; decide) dX11_readForm_184 ?_
      refine lv_topi (fun x285 e286 => ?_)
      refine lv_iadd hx hb dX11_readForm_185 ?_
      have g287 := g_i32 x283
      have g288 := g_i32 x285
      refine lv_topi (fun x289 e290 => ?_)
      refine lv_istore (lv' := [(4, .int x289), (3, .int x280), (2, .int 1), (1, .int 2), (0, .ref t0)]) hx hb dX11_readForm_186 hl (by decide) rfl (fun ls hl => ?_)
      refine lv_aload_n hx hb dX11_readForm_188 rfl (lv_at hl 4 rfl) ?_
      refine lv_iload hx hb dX11_readForm_189 (lv_at hl 0 rfl) ?_
      refine lv_iload_n hx hb dX11_readForm_191 rfl (lv_at hl 1 rfl) ?_
      refine lv_iadd hx hb dX11_readForm_192 ?_
      have g291 := g_i32 x289
      have g292 := g_i32 x280
      refine lv_topi (fun x293 e294 => ?_)
      refine lv_ldcw hx hb hown (hg _ q1907) dX11_readForm_193 ?_
      refine lv_iand hx hb dX11_readForm_196 ?_
      refine lv_topi (fun x295 e296 => ?_)
      have g297 : 0 ≤ x295.toInt ∧ x295.toInt ≤ 65535 := g_msk e296 16 (by decide) (by decide) (by decide)
      refine g_put (w' := [(t0, .inr (11, [.int i0, .ref c1, .int i2, .int i3, .int i4, .int i5, .int i6, .int i7, .long i8, .int i9, .int i10, .ref c11, .ref c12, .ref c13, .ref c14, .ref c15, .ref c16, .int i17, .int i18, .ref c19, .ref c20, .ref c21, .ref c22, .int i23, .ref c24, .ref c25, .ref c26, .ref c27, .ref c28, .ref c29, .ref c30, .int i31, .int i32, .int i33, .int i34, .ref c35, .ref c36, .int i37, .int i38, .int i39, .int i40, .int i41, .int i42, .ref c43, .ref c44, .ref c45, .ref c46, .ref c47, .ref c48, .ref c49, .ref c50, .ref c51, .ref c52, .ref c53, .ref c54, .ref c55, .ref c56, .ref c57, .ref c58, .ref c59, .int i60, .ref c61, .int i62, .ref c63, .int i64, .int i65, .int i66, .ref c67, .ref c68, .ref c69, .ref c70, .ref c71, .ref c72, .int i73, .ref c74, .ref c75, .int i76, .int i77, .int i78, .ref c79, .int x282, .int x2, .int x9, .int i83, .int x295])), (c74, .inl (dA 0, 4096, .inl m74)), (c75, .inl (dA 0, 16, .inl m75))]) hx hb hg hown hK hP hD hS 0 rfl rfl inX11 tyX11_ok nmX11 84 (by decide) q1699 rfl rfl rfl (Nat.le_of_ble_eq_true rfl) rfl dX11_readForm_197 (fun H locs hP hD hS => ?_)
      refine lv_aload_n hx hb dX11_readForm_200 rfl (lv_at hl 4 rfl) ?_
      refine lv_iload_n hx hb dX11_readForm_201 rfl (lv_at hl 2 rfl) ?_
      refine lv_iconst (v := 2) hx hb dX11_readForm_202 (by decide) ?_
      refine lv_icmp_eq (tgt := 221) hx hb dX11_readForm_203 (by decide) (fun h => absurd h (by decide)) (fun _ => ?_)
      refine lv_iload_n hx hb dX11_readForm_206 rfl (lv_at hl 2 rfl) ?_
      refine lv_iconst (v := 3) hx hb dX11_readForm_207 (by decide) ?_
      refine lv_icmp_eq (tgt := 221) hx hb dX11_readForm_208 (by decide) (fun h => absurd h (by decide)) (fun _ => ?_)
      refine lv_iload_n hx hb dX11_readForm_211 rfl (lv_at hl 2 rfl) ?_
      refine lv_bipush (v := 6) hx hb dX11_readForm_212 (by decide) ?_
      refine lv_icmp_ne (tgt := 226) hx hb dX11_readForm_214 (by decide) (fun _ => ?_) (fun h => absurd h (by decide))
      refine lv_bipush (v := 11) hx hb dX11_readForm_226 (by decide) ?_
      refine g_put (w' := [(t0, .inr (11, [.int i0, .ref c1, .int i2, .int i3, .int i4, .int i5, .int i6, .int i7, .long i8, .int i9, .int i10, .ref c11, .ref c12, .ref c13, .ref c14, .ref c15, .ref c16, .int i17, .int i18, .ref c19, .ref c20, .ref c21, .ref c22, .int i23, .ref c24, .ref c25, .ref c26, .ref c27, .ref c28, .ref c29, .ref c30, .int i31, .int i32, .int i33, .int i34, .ref c35, .ref c36, .int i37, .int i38, .int i39, .int i40, .int i41, .int i42, .ref c43, .ref c44, .ref c45, .ref c46, .ref c47, .ref c48, .ref c49, .ref c50, .ref c51, .ref c52, .ref c53, .ref c54, .ref c55, .ref c56, .ref c57, .ref c58, .ref c59, .int i60, .ref c61, .int i62, .ref c63, .int i64, .int i65, .int i66, .ref c67, .ref c68, .ref c69, .ref c70, .ref c71, .ref c72, .int i73, .ref c74, .ref c75, .int i76, .int i77, .int i78, .ref c79, .int x282, .int x2, .int x9, .int 11, .int x295])), (c74, .inl (dA 0, 4096, .inl m74)), (c75, .inl (dA 0, 16, .inl m75))]) hx hb hg hown hK hP hD hS 0 rfl rfl inX11 tyX11_ok nmX11 83 (by decide) q1698 rfl rfl rfl (Nat.le_of_ble_eq_true rfl) rfl dX11_readForm_228 (fun H locs hP hD hS => ?_)
      exact g_vret hx hb hr hlocks hK (x282, x2, x9, 11, x295) hP hD hS ⟨(show 0 ≤ x2.toInt ∧ x2.toInt ≤ 255 from by omega), (show 0 ≤ x9.toInt ∧ x9.toInt ≤ 7 from by omega), (show 0 ≤ ((11 : Int32)).toInt ∧ ((11 : Int32)).toInt ≤ 15 from by decide)⟩ (Nat.le_of_ble_eq_true rfl) (Nat.le_of_ble_eq_true rfl) dX11_readForm_231
    · refine lv_iload_n hx hb dX11_readForm_43 rfl (lv_at hl 1 rfl) ?_
      refine lv_if_ne (tgt := 64) hx hb dX11_readForm_44 (by decide) (fun _ => ?_) (fun h => absurd h (by decide))
      refine lv_iload_n hx hb dX11_readForm_64 rfl (lv_at hl 1 rfl) ?_
      refine lv_iconst (v := 1) hx hb dX11_readForm_65 (by decide) ?_
      refine lv_icmp_ne (tgt := 76) hx hb dX11_readForm_66 (by decide) (fun _ => ?_) (fun h => absurd h (by decide))
      refine lv_aload_n hx hb dX11_readForm_76 rfl (lv_at hl 2 rfl) ?_
      refine g_Vi (n := 0) (As := []) (rest := []) (wr := []) hx hb hml hg hown hK hP hD hS hA (s_X11_fetchTwo l D dA t0 i0 c1 i2 i3 i4 i5 i6 i7 i8 i9 i10 c11 c12 c13 c14 c15 c16 i17 i18 c19 c20 c21 c22 i23 c24 c25 c26 c27 c28 c29 c30 i31 i32 i33 i34 c35 c36 i37 i38 i39 i40 i41 i42 c43 c44 c45 c46 c47 c48 c49 c50 c51 c52 c53 c54 c55 c56 c57 c58 c59 i60 c61 i62 c63 i64 i65 i66 c67 c68 c69 c70 c71 c72 i73 c74 c75 i76 i77 i78 c79 x4 x2 x9 i83 i84 m74 m75 (by omega) (by omega) (by omega) (by omega) (by omega) (by omega) (by omega) p7 _) [0, 1, 2] [] rfl (by decide) rfl (by decide) (by decide) 0 rfl rfl q2148 q160 q2145 q2147 q133 (by decide +kernel) ⟨(Nat.le_of_ble_eq_true rfl), (Nat.le_of_ble_eq_true rfl)⟩ rfl hl.1 rfl (Nat.le_of_ble_eq_true rfl) dX11_readForm_77 ⟨(Nat.le_of_ble_eq_true rfl), (Nat.le_of_ble_eq_true rfl)⟩ (fun x299 u298 H locs w300 hP hD hS => ?_)
      refine W.widen (k := 0) (n := 0) (Nat.le_of_ble_eq_true rfl) (Nat.le_of_ble_eq_true rfl) ?_
      obtain ⟨x301, rfl⟩ : ∃ z, z = u298 := ⟨_, rfl⟩
      have hP : va_P D vwC [(t0, .inr (11, [.int i0, .ref c1, .int i2, .int i3, .int i4, .int i5, .int i6, .int i7, .long i8, .int i9, .int i10, .ref c11, .ref c12, .ref c13, .ref c14, .ref c15, .ref c16, .int i17, .int i18, .ref c19, .ref c20, .ref c21, .ref c22, .int i23, .ref c24, .ref c25, .ref c26, .ref c27, .ref c28, .ref c29, .ref c30, .int i31, .int i32, .int i33, .int i34, .ref c35, .ref c36, .int i37, .int i38, .int i39, .int i40, .int i41, .int i42, .ref c43, .ref c44, .ref c45, .ref c46, .ref c47, .ref c48, .ref c49, .ref c50, .ref c51, .ref c52, .ref c53, .ref c54, .ref c55, .ref c56, .ref c57, .ref c58, .ref c59, .int i60, .ref c61, .int i62, .ref c63, .int i64, .int i65, .int i66, .ref c67, .ref c68, .ref c69, .ref c70, .ref c71, .ref c72, .int i73, .ref c74, .ref c75, .int i76, .int i77, .int i78, .ref c79, .int x301, .int x2, .int x9, .int i83, .int i84])), (c74, .inl (dA 0, 4096, .inl m74)), (c75, .inl (dA 0, 16, .inl m75))] H := hP
      have hD : va_D A [(t0, .inr (11, [.int i0, .ref c1, .int i2, .int i3, .int i4, .int i5, .int i6, .int i7, .long i8, .int i9, .int i10, .ref c11, .ref c12, .ref c13, .ref c14, .ref c15, .ref c16, .int i17, .int i18, .ref c19, .ref c20, .ref c21, .ref c22, .int i23, .ref c24, .ref c25, .ref c26, .ref c27, .ref c28, .ref c29, .ref c30, .int i31, .int i32, .int i33, .int i34, .ref c35, .ref c36, .int i37, .int i38, .int i39, .int i40, .int i41, .int i42, .ref c43, .ref c44, .ref c45, .ref c46, .ref c47, .ref c48, .ref c49, .ref c50, .ref c51, .ref c52, .ref c53, .ref c54, .ref c55, .ref c56, .ref c57, .ref c58, .ref c59, .int i60, .ref c61, .int i62, .ref c63, .int i64, .int i65, .int i66, .ref c67, .ref c68, .ref c69, .ref c70, .ref c71, .ref c72, .int i73, .ref c74, .ref c75, .int i76, .int i77, .int i78, .ref c79, .int x301, .int x2, .int x9, .int i83, .int i84])), (c74, .inl (dA 0, 4096, .inl m74)), (c75, .inl (dA 0, 16, .inl m75))] := hD
      refine lv_istore_n (lv' := [(3, .int x299), (2, .int 2), (1, .int 2), (0, .ref t0)]) hx hb dX11_readForm_80 rfl hl (by decide) rfl (fun ls hl => ?_)
      refine lv_iconst (v := 0) hx hb dX11_readForm_81 (by decide) ?_
      refine lv_istore (lv' := [(4, .int 0), (3, .int x299), (2, .int 2), (1, .int 2), (0, .ref t0)]) hx hb dX11_readForm_82 hl (by decide) rfl (fun ls hl => ?_)
      refine lv_iload_n hx hb dX11_readForm_84 rfl (lv_at hl 2 rfl) ?_
      refine lv_if_eq (tgt := 99) hx hb dX11_readForm_85 (by decide) (fun h => absurd h (by decide)) (fun _ => ?_)
      refine lv_iload_n hx hb dX11_readForm_88 rfl (lv_at hl 2 rfl) ?_
      refine lv_iconst (v := 1) hx hb dX11_readForm_89 (by decide) ?_
      refine lv_icmp_eq (tgt := 99) hx hb dX11_readForm_90 (by decide) (fun h => absurd h (by decide)) (fun _ => ?_)
      refine lv_iload_n hx hb dX11_readForm_93 rfl (lv_at hl 2 rfl) ?_
      refine lv_bipush (v := 7) hx hb dX11_readForm_94 (by decide) ?_
      refine lv_icmp_ne (tgt := 107) hx hb dX11_readForm_96 (by decide) (fun _ => ?_) (fun h => absurd h (by decide))
      refine lv_iload_n hx hb dX11_readForm_107 rfl (lv_at hl 2 rfl) ?_
      refine lv_iconst (v := 2) hx hb dX11_readForm_108 (by decide) ?_
      refine lv_icmp_eq (tgt := 127) hx hb dX11_readForm_109 (by decide) (fun _ => ?_) (fun h => absurd (by decide) h)
      refine lv_aload_n hx hb dX11_readForm_127 rfl (lv_at hl 4 rfl) ?_
      refine g_get hx hb hg hown hK hP 0 rfl rfl inX11 75 (by decide) q1690 rfl dX11_readForm_128 ?_
      refine lv_iconst (v := 5) hx hb dX11_readForm_131 (by decide) ?_
      refine va_iald hx hb hK hP 2 0 rfl rfl (by unfold vp_in; decide) dX11_readForm_132 ?_
      refine lv_topi (fun x302 e303 => ?_)
      refine lv_istore (lv' := [(4, .int x302), (3, .int x299), (2, .int 2), (1, .int 2), (0, .ref t0)]) hx hb dX11_readForm_133 hl (by decide) rfl (fun ls hl => ?_)
      refine lv_iload_n hx hb dX11_readForm_135 rfl (lv_at hl 2 rfl) ?_
      refine lv_if_eq (tgt := 149) hx hb dX11_readForm_136 (by decide) (fun h => absurd h (by decide)) (fun _ => ?_)
      refine lv_iload_n hx hb dX11_readForm_139 rfl (lv_at hl 2 rfl) ?_
      refine lv_iconst (v := 2) hx hb dX11_readForm_140 (by decide) ?_
      refine lv_icmp_eq (tgt := 149) hx hb dX11_readForm_141 (by decide) (fun _ => ?_) (fun h => absurd (by decide) h)
      refine lv_iload hx hb dX11_readForm_149 (lv_at hl 0 rfl) ?_
      refine lv_aload_n hx hb dX11_readForm_151 rfl (lv_at hl 4 rfl) ?_
      refine g_get hx hb hg hown hK hP 0 rfl rfl inX11 75 (by decide) q1690 rfl dX11_readForm_152 ?_
      refine lv_bipush (v := 6) hx hb dX11_readForm_155 (by decide) ?_
      refine va_iald hx hb hK hP 2 0 rfl rfl (by unfold vp_in; decide) dX11_readForm_157 ?_
      refine lv_topi (fun x304 e305 => ?_)
      refine lv_iadd hx hb dX11_readForm_158 ?_
      have g306 := g_i32 x302
      have g307 := g_i32 x304
      refine lv_topi (fun x308 e309 => ?_)
      refine lv_istore (lv' := [(4, .int x308), (3, .int x299), (2, .int 2), (1, .int 2), (0, .ref t0)]) hx hb dX11_readForm_159 hl (by decide) rfl (fun ls hl => ?_)
      refine lv_iload_n hx hb dX11_readForm_161 rfl (lv_at hl 2 rfl) ?_
      refine lv_iconst (v := 1) hx hb dX11_readForm_162 (by decide) ?_
      refine lv_icmp_eq (tgt := 176) hx hb dX11_readForm_163 (by decide) (fun h => absurd h (by decide)) (fun _ => ?_)
      refine lv_iload_n hx hb dX11_readForm_166 rfl (lv_at hl 2 rfl) ?_
      refine lv_iconst (v := 3) hx hb dX11_readForm_167 (by decide) ?_
      refine lv_icmp_eq (tgt := 176) hx hb dX11_readForm_168 (by decide) (fun h => absurd h (by decide)) (fun _ => ?_)
      refine lv_iload_n hx hb dX11_readForm_171 rfl (lv_at hl 2 rfl) ?_
      refine lv_iconst (v := 5) hx hb dX11_readForm_172 (by decide) ?_
      refine lv_icmp_ne (tgt := 188) hx hb dX11_readForm_173 (by decide) (fun _ => ?_) (fun h => absurd h (by decide))
      refine lv_aload_n hx hb dX11_readForm_188 rfl (lv_at hl 4 rfl) ?_
      refine lv_iload hx hb dX11_readForm_189 (lv_at hl 0 rfl) ?_
      refine lv_iload_n hx hb dX11_readForm_191 rfl (lv_at hl 1 rfl) ?_
      refine lv_iadd hx hb dX11_readForm_192 ?_
      have g310 := g_i32 x308
      have g311 := g_i32 x299
      refine lv_topi (fun x312 e313 => ?_)
      refine lv_ldcw hx hb hown (hg _ q1907) dX11_readForm_193 ?_
      refine lv_iand hx hb dX11_readForm_196 ?_
      refine lv_topi (fun x314 e315 => ?_)
      have g316 : 0 ≤ x314.toInt ∧ x314.toInt ≤ 65535 := g_msk e315 16 (by decide) (by decide) (by decide)
      refine g_put (w' := [(t0, .inr (11, [.int i0, .ref c1, .int i2, .int i3, .int i4, .int i5, .int i6, .int i7, .long i8, .int i9, .int i10, .ref c11, .ref c12, .ref c13, .ref c14, .ref c15, .ref c16, .int i17, .int i18, .ref c19, .ref c20, .ref c21, .ref c22, .int i23, .ref c24, .ref c25, .ref c26, .ref c27, .ref c28, .ref c29, .ref c30, .int i31, .int i32, .int i33, .int i34, .ref c35, .ref c36, .int i37, .int i38, .int i39, .int i40, .int i41, .int i42, .ref c43, .ref c44, .ref c45, .ref c46, .ref c47, .ref c48, .ref c49, .ref c50, .ref c51, .ref c52, .ref c53, .ref c54, .ref c55, .ref c56, .ref c57, .ref c58, .ref c59, .int i60, .ref c61, .int i62, .ref c63, .int i64, .int i65, .int i66, .ref c67, .ref c68, .ref c69, .ref c70, .ref c71, .ref c72, .int i73, .ref c74, .ref c75, .int i76, .int i77, .int i78, .ref c79, .int x301, .int x2, .int x9, .int i83, .int x314])), (c74, .inl (dA 0, 4096, .inl m74)), (c75, .inl (dA 0, 16, .inl m75))]) hx hb hg hown hK hP hD hS 0 rfl rfl inX11 tyX11_ok nmX11 84 (by decide) q1699 rfl rfl rfl (Nat.le_of_ble_eq_true rfl) rfl dX11_readForm_197 (fun H locs hP hD hS => ?_)
      refine lv_aload_n hx hb dX11_readForm_200 rfl (lv_at hl 4 rfl) ?_
      refine lv_iload_n hx hb dX11_readForm_201 rfl (lv_at hl 2 rfl) ?_
      refine lv_iconst (v := 2) hx hb dX11_readForm_202 (by decide) ?_
      refine lv_icmp_eq (tgt := 221) hx hb dX11_readForm_203 (by decide) (fun _ => ?_) (fun h => absurd (by decide) h)
      refine lv_bipush (v := 10) hx hb dX11_readForm_221 (by decide) ?_
      refine lv_goto (tgt := 228) hx hb dX11_readForm_223 (by decide) ?_
      refine g_put (w' := [(t0, .inr (11, [.int i0, .ref c1, .int i2, .int i3, .int i4, .int i5, .int i6, .int i7, .long i8, .int i9, .int i10, .ref c11, .ref c12, .ref c13, .ref c14, .ref c15, .ref c16, .int i17, .int i18, .ref c19, .ref c20, .ref c21, .ref c22, .int i23, .ref c24, .ref c25, .ref c26, .ref c27, .ref c28, .ref c29, .ref c30, .int i31, .int i32, .int i33, .int i34, .ref c35, .ref c36, .int i37, .int i38, .int i39, .int i40, .int i41, .int i42, .ref c43, .ref c44, .ref c45, .ref c46, .ref c47, .ref c48, .ref c49, .ref c50, .ref c51, .ref c52, .ref c53, .ref c54, .ref c55, .ref c56, .ref c57, .ref c58, .ref c59, .int i60, .ref c61, .int i62, .ref c63, .int i64, .int i65, .int i66, .ref c67, .ref c68, .ref c69, .ref c70, .ref c71, .ref c72, .int i73, .ref c74, .ref c75, .int i76, .int i77, .int i78, .ref c79, .int x301, .int x2, .int x9, .int 10, .int x314])), (c74, .inl (dA 0, 4096, .inl m74)), (c75, .inl (dA 0, 16, .inl m75))]) hx hb hg hown hK hP hD hS 0 rfl rfl inX11 tyX11_ok nmX11 83 (by decide) q1698 rfl rfl rfl (Nat.le_of_ble_eq_true rfl) rfl dX11_readForm_228 (fun H locs hP hD hS => ?_)
      exact g_vret hx hb hr hlocks hK (x301, x2, x9, 10, x314) hP hD hS ⟨(show 0 ≤ x2.toInt ∧ x2.toInt ≤ 255 from by omega), (show 0 ≤ x9.toInt ∧ x9.toInt ≤ 7 from by omega), (show 0 ≤ ((10 : Int32)).toInt ∧ ((10 : Int32)).toInt ≤ 15 from by decide)⟩ (Nat.le_of_ble_eq_true rfl) (Nat.le_of_ble_eq_true rfl) dX11_readForm_231
    · refine lv_iload_n hx hb dX11_readForm_43 rfl (lv_at hl 1 rfl) ?_
      refine lv_if_ne (tgt := 64) hx hb dX11_readForm_44 (by decide) (fun _ => ?_) (fun h => absurd h (by decide))
      refine lv_iload_n hx hb dX11_readForm_64 rfl (lv_at hl 1 rfl) ?_
      refine lv_iconst (v := 1) hx hb dX11_readForm_65 (by decide) ?_
      refine lv_icmp_ne (tgt := 76) hx hb dX11_readForm_66 (by decide) (fun _ => ?_) (fun h => absurd h (by decide))
      refine lv_aload_n hx hb dX11_readForm_76 rfl (lv_at hl 2 rfl) ?_
      refine g_Vi (n := 0) (As := []) (rest := []) (wr := []) hx hb hml hg hown hK hP hD hS hA (s_X11_fetchTwo l D dA t0 i0 c1 i2 i3 i4 i5 i6 i7 i8 i9 i10 c11 c12 c13 c14 c15 c16 i17 i18 c19 c20 c21 c22 i23 c24 c25 c26 c27 c28 c29 c30 i31 i32 i33 i34 c35 c36 i37 i38 i39 i40 i41 i42 c43 c44 c45 c46 c47 c48 c49 c50 c51 c52 c53 c54 c55 c56 c57 c58 c59 i60 c61 i62 c63 i64 i65 i66 c67 c68 c69 c70 c71 c72 i73 c74 c75 i76 i77 i78 c79 x4 x2 x9 i83 i84 m74 m75 (by omega) (by omega) (by omega) (by omega) (by omega) (by omega) (by omega) p7 _) [0, 1, 2] [] rfl (by decide) rfl (by decide) (by decide) 0 rfl rfl q2148 q160 q2145 q2147 q133 (by decide +kernel) ⟨(Nat.le_of_ble_eq_true rfl), (Nat.le_of_ble_eq_true rfl)⟩ rfl hl.1 rfl (Nat.le_of_ble_eq_true rfl) dX11_readForm_77 ⟨(Nat.le_of_ble_eq_true rfl), (Nat.le_of_ble_eq_true rfl)⟩ (fun x318 u317 H locs w319 hP hD hS => ?_)
      refine W.widen (k := 0) (n := 0) (Nat.le_of_ble_eq_true rfl) (Nat.le_of_ble_eq_true rfl) ?_
      obtain ⟨x320, rfl⟩ : ∃ z, z = u317 := ⟨_, rfl⟩
      have hP : va_P D vwC [(t0, .inr (11, [.int i0, .ref c1, .int i2, .int i3, .int i4, .int i5, .int i6, .int i7, .long i8, .int i9, .int i10, .ref c11, .ref c12, .ref c13, .ref c14, .ref c15, .ref c16, .int i17, .int i18, .ref c19, .ref c20, .ref c21, .ref c22, .int i23, .ref c24, .ref c25, .ref c26, .ref c27, .ref c28, .ref c29, .ref c30, .int i31, .int i32, .int i33, .int i34, .ref c35, .ref c36, .int i37, .int i38, .int i39, .int i40, .int i41, .int i42, .ref c43, .ref c44, .ref c45, .ref c46, .ref c47, .ref c48, .ref c49, .ref c50, .ref c51, .ref c52, .ref c53, .ref c54, .ref c55, .ref c56, .ref c57, .ref c58, .ref c59, .int i60, .ref c61, .int i62, .ref c63, .int i64, .int i65, .int i66, .ref c67, .ref c68, .ref c69, .ref c70, .ref c71, .ref c72, .int i73, .ref c74, .ref c75, .int i76, .int i77, .int i78, .ref c79, .int x320, .int x2, .int x9, .int i83, .int i84])), (c74, .inl (dA 0, 4096, .inl m74)), (c75, .inl (dA 0, 16, .inl m75))] H := hP
      have hD : va_D A [(t0, .inr (11, [.int i0, .ref c1, .int i2, .int i3, .int i4, .int i5, .int i6, .int i7, .long i8, .int i9, .int i10, .ref c11, .ref c12, .ref c13, .ref c14, .ref c15, .ref c16, .int i17, .int i18, .ref c19, .ref c20, .ref c21, .ref c22, .int i23, .ref c24, .ref c25, .ref c26, .ref c27, .ref c28, .ref c29, .ref c30, .int i31, .int i32, .int i33, .int i34, .ref c35, .ref c36, .int i37, .int i38, .int i39, .int i40, .int i41, .int i42, .ref c43, .ref c44, .ref c45, .ref c46, .ref c47, .ref c48, .ref c49, .ref c50, .ref c51, .ref c52, .ref c53, .ref c54, .ref c55, .ref c56, .ref c57, .ref c58, .ref c59, .int i60, .ref c61, .int i62, .ref c63, .int i64, .int i65, .int i66, .ref c67, .ref c68, .ref c69, .ref c70, .ref c71, .ref c72, .int i73, .ref c74, .ref c75, .int i76, .int i77, .int i78, .ref c79, .int x320, .int x2, .int x9, .int i83, .int i84])), (c74, .inl (dA 0, 4096, .inl m74)), (c75, .inl (dA 0, 16, .inl m75))] := hD
      refine lv_istore_n (lv' := [(3, .int x318), (2, .int 3), (1, .int 2), (0, .ref t0)]) hx hb dX11_readForm_80 rfl hl (by decide) rfl (fun ls hl => ?_)
      refine lv_iconst (v := 0) hx hb dX11_readForm_81 (by decide) ?_
      refine lv_istore (lv' := [(4, .int 0), (3, .int x318), (2, .int 3), (1, .int 2), (0, .ref t0)]) hx hb dX11_readForm_82 hl (by decide) rfl (fun ls hl => ?_)
      refine lv_iload_n hx hb dX11_readForm_84 rfl (lv_at hl 2 rfl) ?_
      refine lv_if_eq (tgt := 99) hx hb dX11_readForm_85 (by decide) (fun h => absurd h (by decide)) (fun _ => ?_)
      refine lv_iload_n hx hb dX11_readForm_88 rfl (lv_at hl 2 rfl) ?_
      refine lv_iconst (v := 1) hx hb dX11_readForm_89 (by decide) ?_
      refine lv_icmp_eq (tgt := 99) hx hb dX11_readForm_90 (by decide) (fun h => absurd h (by decide)) (fun _ => ?_)
      refine lv_iload_n hx hb dX11_readForm_93 rfl (lv_at hl 2 rfl) ?_
      refine lv_bipush (v := 7) hx hb dX11_readForm_94 (by decide) ?_
      refine lv_icmp_ne (tgt := 107) hx hb dX11_readForm_96 (by decide) (fun _ => ?_) (fun h => absurd h (by decide))
      refine lv_iload_n hx hb dX11_readForm_107 rfl (lv_at hl 2 rfl) ?_
      refine lv_iconst (v := 2) hx hb dX11_readForm_108 (by decide) ?_
      refine lv_icmp_eq (tgt := 127) hx hb dX11_readForm_109 (by decide) (fun h => absurd h (by decide)) (fun _ => ?_)
      refine lv_iload_n hx hb dX11_readForm_112 rfl (lv_at hl 2 rfl) ?_
      refine lv_iconst (v := 3) hx hb dX11_readForm_113 (by decide) ?_
      refine lv_icmp_eq (tgt := 127) hx hb dX11_readForm_114 (by decide) (fun _ => ?_) (fun h => absurd (by decide) h)
      refine lv_aload_n hx hb dX11_readForm_127 rfl (lv_at hl 4 rfl) ?_
      refine g_get hx hb hg hown hK hP 0 rfl rfl inX11 75 (by decide) q1690 rfl dX11_readForm_128 ?_
      refine lv_iconst (v := 5) hx hb dX11_readForm_131 (by decide) ?_
      refine va_iald hx hb hK hP 2 0 rfl rfl (by unfold vp_in; decide) dX11_readForm_132 ?_
      refine lv_topi (fun x321 e322 => ?_)
      refine lv_istore (lv' := [(4, .int x321), (3, .int x318), (2, .int 3), (1, .int 2), (0, .ref t0)]) hx hb dX11_readForm_133 hl (by decide) rfl (fun ls hl => ?_)
      refine lv_iload_n hx hb dX11_readForm_135 rfl (lv_at hl 2 rfl) ?_
      refine lv_if_eq (tgt := 149) hx hb dX11_readForm_136 (by decide) (fun h => absurd h (by decide)) (fun _ => ?_)
      refine lv_iload_n hx hb dX11_readForm_139 rfl (lv_at hl 2 rfl) ?_
      refine lv_iconst (v := 2) hx hb dX11_readForm_140 (by decide) ?_
      refine lv_icmp_eq (tgt := 149) hx hb dX11_readForm_141 (by decide) (fun h => absurd h (by decide)) (fun _ => ?_)
      refine lv_iload_n hx hb dX11_readForm_144 rfl (lv_at hl 2 rfl) ?_
      refine lv_iconst (v := 4) hx hb dX11_readForm_145 (by decide) ?_
      refine lv_icmp_ne (tgt := 161) hx hb dX11_readForm_146 (by decide) (fun _ => ?_) (fun h => absurd h (by decide))
      refine lv_iload_n hx hb dX11_readForm_161 rfl (lv_at hl 2 rfl) ?_
      refine lv_iconst (v := 1) hx hb dX11_readForm_162 (by decide) ?_
      refine lv_icmp_eq (tgt := 176) hx hb dX11_readForm_163 (by decide) (fun h => absurd h (by decide)) (fun _ => ?_)
      refine lv_iload_n hx hb dX11_readForm_166 rfl (lv_at hl 2 rfl) ?_
      refine lv_iconst (v := 3) hx hb dX11_readForm_167 (by decide) ?_
      refine lv_icmp_eq (tgt := 176) hx hb dX11_readForm_168 (by decide) (fun _ => ?_) (fun h => absurd (by decide) h)
      refine lv_iload hx hb dX11_readForm_176 (lv_at hl 0 rfl) ?_
      refine lv_aload_n hx hb dX11_readForm_178 rfl (lv_at hl 4 rfl) ?_
      refine g_get hx hb hg hown hK hP 0 rfl rfl inX11 75 (by decide) q1690 rfl dX11_readForm_179 ?_
      refine lv_bipush (v := 7) hx hb dX11_readForm_182 (by decide) ?_
      refine va_iald hx hb hK hP 2 0 rfl rfl (by unfold vp_in; decide) dX11_readForm_184 ?_
      refine lv_topi (fun x323 e324 => ?_)
      refine lv_iadd hx hb dX11_readForm_185 ?_
      have g325 := g_i32 x321
      have g326 := g_i32 x323
      refine lv_topi (fun x327 e328 => ?_)
      refine lv_istore (lv' := [(4, .int x327), (3, .int x318), (2, .int 3), (1, .int 2), (0, .ref t0)]) hx hb dX11_readForm_186 hl (by decide) rfl (fun ls hl => ?_)
      refine lv_aload_n hx hb dX11_readForm_188 rfl (lv_at hl 4 rfl) ?_
      refine lv_iload hx hb dX11_readForm_189 (lv_at hl 0 rfl) ?_
      refine lv_iload_n hx hb dX11_readForm_191 rfl (lv_at hl 1 rfl) ?_
      refine lv_iadd hx hb dX11_readForm_192 ?_
      have g329 := g_i32 x327
      have g330 := g_i32 x318
      refine lv_topi (fun x331 e332 => ?_)
      refine lv_ldcw hx hb hown (hg _ q1907) dX11_readForm_193 ?_
      refine lv_iand hx hb dX11_readForm_196 ?_
      refine lv_topi (fun x333 e334 => ?_)
      have g335 : 0 ≤ x333.toInt ∧ x333.toInt ≤ 65535 := g_msk e334 16 (by decide) (by decide) (by decide)
      refine g_put (w' := [(t0, .inr (11, [.int i0, .ref c1, .int i2, .int i3, .int i4, .int i5, .int i6, .int i7, .long i8, .int i9, .int i10, .ref c11, .ref c12, .ref c13, .ref c14, .ref c15, .ref c16, .int i17, .int i18, .ref c19, .ref c20, .ref c21, .ref c22, .int i23, .ref c24, .ref c25, .ref c26, .ref c27, .ref c28, .ref c29, .ref c30, .int i31, .int i32, .int i33, .int i34, .ref c35, .ref c36, .int i37, .int i38, .int i39, .int i40, .int i41, .int i42, .ref c43, .ref c44, .ref c45, .ref c46, .ref c47, .ref c48, .ref c49, .ref c50, .ref c51, .ref c52, .ref c53, .ref c54, .ref c55, .ref c56, .ref c57, .ref c58, .ref c59, .int i60, .ref c61, .int i62, .ref c63, .int i64, .int i65, .int i66, .ref c67, .ref c68, .ref c69, .ref c70, .ref c71, .ref c72, .int i73, .ref c74, .ref c75, .int i76, .int i77, .int i78, .ref c79, .int x320, .int x2, .int x9, .int i83, .int x333])), (c74, .inl (dA 0, 4096, .inl m74)), (c75, .inl (dA 0, 16, .inl m75))]) hx hb hg hown hK hP hD hS 0 rfl rfl inX11 tyX11_ok nmX11 84 (by decide) q1699 rfl rfl rfl (Nat.le_of_ble_eq_true rfl) rfl dX11_readForm_197 (fun H locs hP hD hS => ?_)
      refine lv_aload_n hx hb dX11_readForm_200 rfl (lv_at hl 4 rfl) ?_
      refine lv_iload_n hx hb dX11_readForm_201 rfl (lv_at hl 2 rfl) ?_
      refine lv_iconst (v := 2) hx hb dX11_readForm_202 (by decide) ?_
      refine lv_icmp_eq (tgt := 221) hx hb dX11_readForm_203 (by decide) (fun h => absurd h (by decide)) (fun _ => ?_)
      refine lv_iload_n hx hb dX11_readForm_206 rfl (lv_at hl 2 rfl) ?_
      refine lv_iconst (v := 3) hx hb dX11_readForm_207 (by decide) ?_
      refine lv_icmp_eq (tgt := 221) hx hb dX11_readForm_208 (by decide) (fun _ => ?_) (fun h => absurd (by decide) h)
      refine lv_bipush (v := 10) hx hb dX11_readForm_221 (by decide) ?_
      refine lv_goto (tgt := 228) hx hb dX11_readForm_223 (by decide) ?_
      refine g_put (w' := [(t0, .inr (11, [.int i0, .ref c1, .int i2, .int i3, .int i4, .int i5, .int i6, .int i7, .long i8, .int i9, .int i10, .ref c11, .ref c12, .ref c13, .ref c14, .ref c15, .ref c16, .int i17, .int i18, .ref c19, .ref c20, .ref c21, .ref c22, .int i23, .ref c24, .ref c25, .ref c26, .ref c27, .ref c28, .ref c29, .ref c30, .int i31, .int i32, .int i33, .int i34, .ref c35, .ref c36, .int i37, .int i38, .int i39, .int i40, .int i41, .int i42, .ref c43, .ref c44, .ref c45, .ref c46, .ref c47, .ref c48, .ref c49, .ref c50, .ref c51, .ref c52, .ref c53, .ref c54, .ref c55, .ref c56, .ref c57, .ref c58, .ref c59, .int i60, .ref c61, .int i62, .ref c63, .int i64, .int i65, .int i66, .ref c67, .ref c68, .ref c69, .ref c70, .ref c71, .ref c72, .int i73, .ref c74, .ref c75, .int i76, .int i77, .int i78, .ref c79, .int x320, .int x2, .int x9, .int 10, .int x333])), (c74, .inl (dA 0, 4096, .inl m74)), (c75, .inl (dA 0, 16, .inl m75))]) hx hb hg hown hK hP hD hS 0 rfl rfl inX11 tyX11_ok nmX11 83 (by decide) q1698 rfl rfl rfl (Nat.le_of_ble_eq_true rfl) rfl dX11_readForm_228 (fun H locs hP hD hS => ?_)
      exact g_vret hx hb hr hlocks hK (x320, x2, x9, 10, x333) hP hD hS ⟨(show 0 ≤ x2.toInt ∧ x2.toInt ≤ 255 from by omega), (show 0 ≤ x9.toInt ∧ x9.toInt ≤ 7 from by omega), (show 0 ≤ ((10 : Int32)).toInt ∧ ((10 : Int32)).toInt ≤ 15 from by decide)⟩ (Nat.le_of_ble_eq_true rfl) (Nat.le_of_ble_eq_true rfl) dX11_readForm_231
    · refine lv_iload_n hx hb dX11_readForm_43 rfl (lv_at hl 1 rfl) ?_
      refine lv_if_ne (tgt := 64) hx hb dX11_readForm_44 (by decide) (fun _ => ?_) (fun h => absurd h (by decide))
      refine lv_iload_n hx hb dX11_readForm_64 rfl (lv_at hl 1 rfl) ?_
      refine lv_iconst (v := 1) hx hb dX11_readForm_65 (by decide) ?_
      refine lv_icmp_ne (tgt := 76) hx hb dX11_readForm_66 (by decide) (fun _ => ?_) (fun h => absurd h (by decide))
      refine lv_aload_n hx hb dX11_readForm_76 rfl (lv_at hl 2 rfl) ?_
      refine g_Vi (n := 0) (As := []) (rest := []) (wr := []) hx hb hml hg hown hK hP hD hS hA (s_X11_fetchTwo l D dA t0 i0 c1 i2 i3 i4 i5 i6 i7 i8 i9 i10 c11 c12 c13 c14 c15 c16 i17 i18 c19 c20 c21 c22 i23 c24 c25 c26 c27 c28 c29 c30 i31 i32 i33 i34 c35 c36 i37 i38 i39 i40 i41 i42 c43 c44 c45 c46 c47 c48 c49 c50 c51 c52 c53 c54 c55 c56 c57 c58 c59 i60 c61 i62 c63 i64 i65 i66 c67 c68 c69 c70 c71 c72 i73 c74 c75 i76 i77 i78 c79 x4 x2 x9 i83 i84 m74 m75 (by omega) (by omega) (by omega) (by omega) (by omega) (by omega) (by omega) p7 _) [0, 1, 2] [] rfl (by decide) rfl (by decide) (by decide) 0 rfl rfl q2148 q160 q2145 q2147 q133 (by decide +kernel) ⟨(Nat.le_of_ble_eq_true rfl), (Nat.le_of_ble_eq_true rfl)⟩ rfl hl.1 rfl (Nat.le_of_ble_eq_true rfl) dX11_readForm_77 ⟨(Nat.le_of_ble_eq_true rfl), (Nat.le_of_ble_eq_true rfl)⟩ (fun x337 u336 H locs w338 hP hD hS => ?_)
      refine W.widen (k := 0) (n := 0) (Nat.le_of_ble_eq_true rfl) (Nat.le_of_ble_eq_true rfl) ?_
      obtain ⟨x339, rfl⟩ : ∃ z, z = u336 := ⟨_, rfl⟩
      have hP : va_P D vwC [(t0, .inr (11, [.int i0, .ref c1, .int i2, .int i3, .int i4, .int i5, .int i6, .int i7, .long i8, .int i9, .int i10, .ref c11, .ref c12, .ref c13, .ref c14, .ref c15, .ref c16, .int i17, .int i18, .ref c19, .ref c20, .ref c21, .ref c22, .int i23, .ref c24, .ref c25, .ref c26, .ref c27, .ref c28, .ref c29, .ref c30, .int i31, .int i32, .int i33, .int i34, .ref c35, .ref c36, .int i37, .int i38, .int i39, .int i40, .int i41, .int i42, .ref c43, .ref c44, .ref c45, .ref c46, .ref c47, .ref c48, .ref c49, .ref c50, .ref c51, .ref c52, .ref c53, .ref c54, .ref c55, .ref c56, .ref c57, .ref c58, .ref c59, .int i60, .ref c61, .int i62, .ref c63, .int i64, .int i65, .int i66, .ref c67, .ref c68, .ref c69, .ref c70, .ref c71, .ref c72, .int i73, .ref c74, .ref c75, .int i76, .int i77, .int i78, .ref c79, .int x339, .int x2, .int x9, .int i83, .int i84])), (c74, .inl (dA 0, 4096, .inl m74)), (c75, .inl (dA 0, 16, .inl m75))] H := hP
      have hD : va_D A [(t0, .inr (11, [.int i0, .ref c1, .int i2, .int i3, .int i4, .int i5, .int i6, .int i7, .long i8, .int i9, .int i10, .ref c11, .ref c12, .ref c13, .ref c14, .ref c15, .ref c16, .int i17, .int i18, .ref c19, .ref c20, .ref c21, .ref c22, .int i23, .ref c24, .ref c25, .ref c26, .ref c27, .ref c28, .ref c29, .ref c30, .int i31, .int i32, .int i33, .int i34, .ref c35, .ref c36, .int i37, .int i38, .int i39, .int i40, .int i41, .int i42, .ref c43, .ref c44, .ref c45, .ref c46, .ref c47, .ref c48, .ref c49, .ref c50, .ref c51, .ref c52, .ref c53, .ref c54, .ref c55, .ref c56, .ref c57, .ref c58, .ref c59, .int i60, .ref c61, .int i62, .ref c63, .int i64, .int i65, .int i66, .ref c67, .ref c68, .ref c69, .ref c70, .ref c71, .ref c72, .int i73, .ref c74, .ref c75, .int i76, .int i77, .int i78, .ref c79, .int x339, .int x2, .int x9, .int i83, .int i84])), (c74, .inl (dA 0, 4096, .inl m74)), (c75, .inl (dA 0, 16, .inl m75))] := hD
      refine lv_istore_n (lv' := [(3, .int x337), (2, .int 4), (1, .int 2), (0, .ref t0)]) hx hb dX11_readForm_80 rfl hl (by decide) rfl (fun ls hl => ?_)
      refine lv_iconst (v := 0) hx hb dX11_readForm_81 (by decide) ?_
      refine lv_istore (lv' := [(4, .int 0), (3, .int x337), (2, .int 4), (1, .int 2), (0, .ref t0)]) hx hb dX11_readForm_82 hl (by decide) rfl (fun ls hl => ?_)
      refine lv_iload_n hx hb dX11_readForm_84 rfl (lv_at hl 2 rfl) ?_
      refine lv_if_eq (tgt := 99) hx hb dX11_readForm_85 (by decide) (fun h => absurd h (by decide)) (fun _ => ?_)
      refine lv_iload_n hx hb dX11_readForm_88 rfl (lv_at hl 2 rfl) ?_
      refine lv_iconst (v := 1) hx hb dX11_readForm_89 (by decide) ?_
      refine lv_icmp_eq (tgt := 99) hx hb dX11_readForm_90 (by decide) (fun h => absurd h (by decide)) (fun _ => ?_)
      refine lv_iload_n hx hb dX11_readForm_93 rfl (lv_at hl 2 rfl) ?_
      refine lv_bipush (v := 7) hx hb dX11_readForm_94 (by decide) ?_
      refine lv_icmp_ne (tgt := 107) hx hb dX11_readForm_96 (by decide) (fun _ => ?_) (fun h => absurd h (by decide))
      refine lv_iload_n hx hb dX11_readForm_107 rfl (lv_at hl 2 rfl) ?_
      refine lv_iconst (v := 2) hx hb dX11_readForm_108 (by decide) ?_
      refine lv_icmp_eq (tgt := 127) hx hb dX11_readForm_109 (by decide) (fun h => absurd h (by decide)) (fun _ => ?_)
      refine lv_iload_n hx hb dX11_readForm_112 rfl (lv_at hl 2 rfl) ?_
      refine lv_iconst (v := 3) hx hb dX11_readForm_113 (by decide) ?_
      refine lv_icmp_eq (tgt := 127) hx hb dX11_readForm_114 (by decide) (fun h => absurd h (by decide)) (fun _ => ?_)
      refine lv_iload_n hx hb dX11_readForm_117 rfl (lv_at hl 2 rfl) ?_
      refine lv_bipush (v := 6) hx hb dX11_readForm_118 (by decide) ?_
      refine lv_icmp_ne (tgt := 135) hx hb dX11_readForm_120 (by decide) (fun _ => ?_) (fun h => absurd h (by decide))
      refine lv_iload_n hx hb dX11_readForm_135 rfl (lv_at hl 2 rfl) ?_
      refine lv_if_eq (tgt := 149) hx hb dX11_readForm_136 (by decide) (fun h => absurd h (by decide)) (fun _ => ?_)
      refine lv_iload_n hx hb dX11_readForm_139 rfl (lv_at hl 2 rfl) ?_
      refine lv_iconst (v := 2) hx hb dX11_readForm_140 (by decide) ?_
      refine lv_icmp_eq (tgt := 149) hx hb dX11_readForm_141 (by decide) (fun h => absurd h (by decide)) (fun _ => ?_)
      refine lv_iload_n hx hb dX11_readForm_144 rfl (lv_at hl 2 rfl) ?_
      refine lv_iconst (v := 4) hx hb dX11_readForm_145 (by decide) ?_
      refine lv_icmp_ne (tgt := 161) hx hb dX11_readForm_146 (by decide) (fun h => absurd (by decide) h) (fun _ => ?_)
      refine lv_iload hx hb dX11_readForm_149 (lv_at hl 0 rfl) ?_
      refine lv_aload_n hx hb dX11_readForm_151 rfl (lv_at hl 4 rfl) ?_
      refine g_get hx hb hg hown hK hP 0 rfl rfl inX11 75 (by decide) q1690 rfl dX11_readForm_152 ?_
      refine lv_bipush (v := 6) hx hb dX11_readForm_155 (by decide) ?_
      refine va_iald hx hb hK hP 2 0 rfl rfl (by unfold vp_in; decide) dX11_readForm_157 ?_
      refine lv_topi (fun x340 e341 => ?_)
      refine lv_iadd hx hb dX11_readForm_158 ?_
      have g342 := g_i32 x340
      refine lv_topi (fun x343 e344 => ?_)
      have g345 : x343.toInt = 0 + x340.toInt := g_add e344 (by decide) rfl (by omega) (by omega)
      refine lv_istore (lv' := [(4, .int x343), (3, .int x337), (2, .int 4), (1, .int 2), (0, .ref t0)]) hx hb dX11_readForm_159 hl (by decide) rfl (fun ls hl => ?_)
      refine lv_iload_n hx hb dX11_readForm_161 rfl (lv_at hl 2 rfl) ?_
      refine lv_iconst (v := 1) hx hb dX11_readForm_162 (by decide) ?_
      refine lv_icmp_eq (tgt := 176) hx hb dX11_readForm_163 (by decide) (fun h => absurd h (by decide)) (fun _ => ?_)
      refine lv_iload_n hx hb dX11_readForm_166 rfl (lv_at hl 2 rfl) ?_
      refine lv_iconst (v := 3) hx hb dX11_readForm_167 (by decide) ?_
      refine lv_icmp_eq (tgt := 176) hx hb dX11_readForm_168 (by decide) (fun h => absurd h (by decide)) (fun _ => ?_)
      refine lv_iload_n hx hb dX11_readForm_171 rfl (lv_at hl 2 rfl) ?_
      refine lv_iconst (v := 5) hx hb dX11_readForm_172 (by decide) ?_
      refine lv_icmp_ne (tgt := 188) hx hb dX11_readForm_173 (by decide) (fun _ => ?_) (fun h => absurd h (by decide))
      refine lv_aload_n hx hb dX11_readForm_188 rfl (lv_at hl 4 rfl) ?_
      refine lv_iload hx hb dX11_readForm_189 (lv_at hl 0 rfl) ?_
      refine lv_iload_n hx hb dX11_readForm_191 rfl (lv_at hl 1 rfl) ?_
      refine lv_iadd hx hb dX11_readForm_192 ?_
      have g346 := g_i32 x343
      have g347 := g_i32 x337
      refine lv_topi (fun x348 e349 => ?_)
      refine lv_ldcw hx hb hown (hg _ q1907) dX11_readForm_193 ?_
      refine lv_iand hx hb dX11_readForm_196 ?_
      refine lv_topi (fun x350 e351 => ?_)
      have g352 : 0 ≤ x350.toInt ∧ x350.toInt ≤ 65535 := g_msk e351 16 (by decide) (by decide) (by decide)
      refine g_put (w' := [(t0, .inr (11, [.int i0, .ref c1, .int i2, .int i3, .int i4, .int i5, .int i6, .int i7, .long i8, .int i9, .int i10, .ref c11, .ref c12, .ref c13, .ref c14, .ref c15, .ref c16, .int i17, .int i18, .ref c19, .ref c20, .ref c21, .ref c22, .int i23, .ref c24, .ref c25, .ref c26, .ref c27, .ref c28, .ref c29, .ref c30, .int i31, .int i32, .int i33, .int i34, .ref c35, .ref c36, .int i37, .int i38, .int i39, .int i40, .int i41, .int i42, .ref c43, .ref c44, .ref c45, .ref c46, .ref c47, .ref c48, .ref c49, .ref c50, .ref c51, .ref c52, .ref c53, .ref c54, .ref c55, .ref c56, .ref c57, .ref c58, .ref c59, .int i60, .ref c61, .int i62, .ref c63, .int i64, .int i65, .int i66, .ref c67, .ref c68, .ref c69, .ref c70, .ref c71, .ref c72, .int i73, .ref c74, .ref c75, .int i76, .int i77, .int i78, .ref c79, .int x339, .int x2, .int x9, .int i83, .int x350])), (c74, .inl (dA 0, 4096, .inl m74)), (c75, .inl (dA 0, 16, .inl m75))]) hx hb hg hown hK hP hD hS 0 rfl rfl inX11 tyX11_ok nmX11 84 (by decide) q1699 rfl rfl rfl (Nat.le_of_ble_eq_true rfl) rfl dX11_readForm_197 (fun H locs hP hD hS => ?_)
      refine lv_aload_n hx hb dX11_readForm_200 rfl (lv_at hl 4 rfl) ?_
      refine lv_iload_n hx hb dX11_readForm_201 rfl (lv_at hl 2 rfl) ?_
      refine lv_iconst (v := 2) hx hb dX11_readForm_202 (by decide) ?_
      refine lv_icmp_eq (tgt := 221) hx hb dX11_readForm_203 (by decide) (fun h => absurd h (by decide)) (fun _ => ?_)
      refine lv_iload_n hx hb dX11_readForm_206 rfl (lv_at hl 2 rfl) ?_
      refine lv_iconst (v := 3) hx hb dX11_readForm_207 (by decide) ?_
      refine lv_icmp_eq (tgt := 221) hx hb dX11_readForm_208 (by decide) (fun h => absurd h (by decide)) (fun _ => ?_)
      refine lv_iload_n hx hb dX11_readForm_211 rfl (lv_at hl 2 rfl) ?_
      refine lv_bipush (v := 6) hx hb dX11_readForm_212 (by decide) ?_
      refine lv_icmp_ne (tgt := 226) hx hb dX11_readForm_214 (by decide) (fun _ => ?_) (fun h => absurd h (by decide))
      refine lv_bipush (v := 11) hx hb dX11_readForm_226 (by decide) ?_
      refine g_put (w' := [(t0, .inr (11, [.int i0, .ref c1, .int i2, .int i3, .int i4, .int i5, .int i6, .int i7, .long i8, .int i9, .int i10, .ref c11, .ref c12, .ref c13, .ref c14, .ref c15, .ref c16, .int i17, .int i18, .ref c19, .ref c20, .ref c21, .ref c22, .int i23, .ref c24, .ref c25, .ref c26, .ref c27, .ref c28, .ref c29, .ref c30, .int i31, .int i32, .int i33, .int i34, .ref c35, .ref c36, .int i37, .int i38, .int i39, .int i40, .int i41, .int i42, .ref c43, .ref c44, .ref c45, .ref c46, .ref c47, .ref c48, .ref c49, .ref c50, .ref c51, .ref c52, .ref c53, .ref c54, .ref c55, .ref c56, .ref c57, .ref c58, .ref c59, .int i60, .ref c61, .int i62, .ref c63, .int i64, .int i65, .int i66, .ref c67, .ref c68, .ref c69, .ref c70, .ref c71, .ref c72, .int i73, .ref c74, .ref c75, .int i76, .int i77, .int i78, .ref c79, .int x339, .int x2, .int x9, .int 11, .int x350])), (c74, .inl (dA 0, 4096, .inl m74)), (c75, .inl (dA 0, 16, .inl m75))]) hx hb hg hown hK hP hD hS 0 rfl rfl inX11 tyX11_ok nmX11 83 (by decide) q1698 rfl rfl rfl (Nat.le_of_ble_eq_true rfl) rfl dX11_readForm_228 (fun H locs hP hD hS => ?_)
      exact g_vret hx hb hr hlocks hK (x339, x2, x9, 11, x350) hP hD hS ⟨(show 0 ≤ x2.toInt ∧ x2.toInt ≤ 255 from by omega), (show 0 ≤ x9.toInt ∧ x9.toInt ≤ 7 from by omega), (show 0 ≤ ((11 : Int32)).toInt ∧ ((11 : Int32)).toInt ≤ 15 from by decide)⟩ (Nat.le_of_ble_eq_true rfl) (Nat.le_of_ble_eq_true rfl) dX11_readForm_231
    · refine lv_iload_n hx hb dX11_readForm_43 rfl (lv_at hl 1 rfl) ?_
      refine lv_if_ne (tgt := 64) hx hb dX11_readForm_44 (by decide) (fun _ => ?_) (fun h => absurd h (by decide))
      refine lv_iload_n hx hb dX11_readForm_64 rfl (lv_at hl 1 rfl) ?_
      refine lv_iconst (v := 1) hx hb dX11_readForm_65 (by decide) ?_
      refine lv_icmp_ne (tgt := 76) hx hb dX11_readForm_66 (by decide) (fun _ => ?_) (fun h => absurd h (by decide))
      refine lv_aload_n hx hb dX11_readForm_76 rfl (lv_at hl 2 rfl) ?_
      refine g_Vi (n := 0) (As := []) (rest := []) (wr := []) hx hb hml hg hown hK hP hD hS hA (s_X11_fetchTwo l D dA t0 i0 c1 i2 i3 i4 i5 i6 i7 i8 i9 i10 c11 c12 c13 c14 c15 c16 i17 i18 c19 c20 c21 c22 i23 c24 c25 c26 c27 c28 c29 c30 i31 i32 i33 i34 c35 c36 i37 i38 i39 i40 i41 i42 c43 c44 c45 c46 c47 c48 c49 c50 c51 c52 c53 c54 c55 c56 c57 c58 c59 i60 c61 i62 c63 i64 i65 i66 c67 c68 c69 c70 c71 c72 i73 c74 c75 i76 i77 i78 c79 x4 x2 x9 i83 i84 m74 m75 (by omega) (by omega) (by omega) (by omega) (by omega) (by omega) (by omega) p7 _) [0, 1, 2] [] rfl (by decide) rfl (by decide) (by decide) 0 rfl rfl q2148 q160 q2145 q2147 q133 (by decide +kernel) ⟨(Nat.le_of_ble_eq_true rfl), (Nat.le_of_ble_eq_true rfl)⟩ rfl hl.1 rfl (Nat.le_of_ble_eq_true rfl) dX11_readForm_77 ⟨(Nat.le_of_ble_eq_true rfl), (Nat.le_of_ble_eq_true rfl)⟩ (fun x354 u353 H locs w355 hP hD hS => ?_)
      refine W.widen (k := 0) (n := 0) (Nat.le_of_ble_eq_true rfl) (Nat.le_of_ble_eq_true rfl) ?_
      obtain ⟨x356, rfl⟩ : ∃ z, z = u353 := ⟨_, rfl⟩
      have hP : va_P D vwC [(t0, .inr (11, [.int i0, .ref c1, .int i2, .int i3, .int i4, .int i5, .int i6, .int i7, .long i8, .int i9, .int i10, .ref c11, .ref c12, .ref c13, .ref c14, .ref c15, .ref c16, .int i17, .int i18, .ref c19, .ref c20, .ref c21, .ref c22, .int i23, .ref c24, .ref c25, .ref c26, .ref c27, .ref c28, .ref c29, .ref c30, .int i31, .int i32, .int i33, .int i34, .ref c35, .ref c36, .int i37, .int i38, .int i39, .int i40, .int i41, .int i42, .ref c43, .ref c44, .ref c45, .ref c46, .ref c47, .ref c48, .ref c49, .ref c50, .ref c51, .ref c52, .ref c53, .ref c54, .ref c55, .ref c56, .ref c57, .ref c58, .ref c59, .int i60, .ref c61, .int i62, .ref c63, .int i64, .int i65, .int i66, .ref c67, .ref c68, .ref c69, .ref c70, .ref c71, .ref c72, .int i73, .ref c74, .ref c75, .int i76, .int i77, .int i78, .ref c79, .int x356, .int x2, .int x9, .int i83, .int i84])), (c74, .inl (dA 0, 4096, .inl m74)), (c75, .inl (dA 0, 16, .inl m75))] H := hP
      have hD : va_D A [(t0, .inr (11, [.int i0, .ref c1, .int i2, .int i3, .int i4, .int i5, .int i6, .int i7, .long i8, .int i9, .int i10, .ref c11, .ref c12, .ref c13, .ref c14, .ref c15, .ref c16, .int i17, .int i18, .ref c19, .ref c20, .ref c21, .ref c22, .int i23, .ref c24, .ref c25, .ref c26, .ref c27, .ref c28, .ref c29, .ref c30, .int i31, .int i32, .int i33, .int i34, .ref c35, .ref c36, .int i37, .int i38, .int i39, .int i40, .int i41, .int i42, .ref c43, .ref c44, .ref c45, .ref c46, .ref c47, .ref c48, .ref c49, .ref c50, .ref c51, .ref c52, .ref c53, .ref c54, .ref c55, .ref c56, .ref c57, .ref c58, .ref c59, .int i60, .ref c61, .int i62, .ref c63, .int i64, .int i65, .int i66, .ref c67, .ref c68, .ref c69, .ref c70, .ref c71, .ref c72, .int i73, .ref c74, .ref c75, .int i76, .int i77, .int i78, .ref c79, .int x356, .int x2, .int x9, .int i83, .int i84])), (c74, .inl (dA 0, 4096, .inl m74)), (c75, .inl (dA 0, 16, .inl m75))] := hD
      refine lv_istore_n (lv' := [(3, .int x354), (2, .int 5), (1, .int 2), (0, .ref t0)]) hx hb dX11_readForm_80 rfl hl (by decide) rfl (fun ls hl => ?_)
      refine lv_iconst (v := 0) hx hb dX11_readForm_81 (by decide) ?_
      refine lv_istore (lv' := [(4, .int 0), (3, .int x354), (2, .int 5), (1, .int 2), (0, .ref t0)]) hx hb dX11_readForm_82 hl (by decide) rfl (fun ls hl => ?_)
      refine lv_iload_n hx hb dX11_readForm_84 rfl (lv_at hl 2 rfl) ?_
      refine lv_if_eq (tgt := 99) hx hb dX11_readForm_85 (by decide) (fun h => absurd h (by decide)) (fun _ => ?_)
      refine lv_iload_n hx hb dX11_readForm_88 rfl (lv_at hl 2 rfl) ?_
      refine lv_iconst (v := 1) hx hb dX11_readForm_89 (by decide) ?_
      refine lv_icmp_eq (tgt := 99) hx hb dX11_readForm_90 (by decide) (fun h => absurd h (by decide)) (fun _ => ?_)
      refine lv_iload_n hx hb dX11_readForm_93 rfl (lv_at hl 2 rfl) ?_
      refine lv_bipush (v := 7) hx hb dX11_readForm_94 (by decide) ?_
      refine lv_icmp_ne (tgt := 107) hx hb dX11_readForm_96 (by decide) (fun _ => ?_) (fun h => absurd h (by decide))
      refine lv_iload_n hx hb dX11_readForm_107 rfl (lv_at hl 2 rfl) ?_
      refine lv_iconst (v := 2) hx hb dX11_readForm_108 (by decide) ?_
      refine lv_icmp_eq (tgt := 127) hx hb dX11_readForm_109 (by decide) (fun h => absurd h (by decide)) (fun _ => ?_)
      refine lv_iload_n hx hb dX11_readForm_112 rfl (lv_at hl 2 rfl) ?_
      refine lv_iconst (v := 3) hx hb dX11_readForm_113 (by decide) ?_
      refine lv_icmp_eq (tgt := 127) hx hb dX11_readForm_114 (by decide) (fun h => absurd h (by decide)) (fun _ => ?_)
      refine lv_iload_n hx hb dX11_readForm_117 rfl (lv_at hl 2 rfl) ?_
      refine lv_bipush (v := 6) hx hb dX11_readForm_118 (by decide) ?_
      refine lv_icmp_ne (tgt := 135) hx hb dX11_readForm_120 (by decide) (fun _ => ?_) (fun h => absurd h (by decide))
      refine lv_iload_n hx hb dX11_readForm_135 rfl (lv_at hl 2 rfl) ?_
      refine lv_if_eq (tgt := 149) hx hb dX11_readForm_136 (by decide) (fun h => absurd h (by decide)) (fun _ => ?_)
      refine lv_iload_n hx hb dX11_readForm_139 rfl (lv_at hl 2 rfl) ?_
      refine lv_iconst (v := 2) hx hb dX11_readForm_140 (by decide) ?_
      refine lv_icmp_eq (tgt := 149) hx hb dX11_readForm_141 (by decide) (fun h => absurd h (by decide)) (fun _ => ?_)
      refine lv_iload_n hx hb dX11_readForm_144 rfl (lv_at hl 2 rfl) ?_
      refine lv_iconst (v := 4) hx hb dX11_readForm_145 (by decide) ?_
      refine lv_icmp_ne (tgt := 161) hx hb dX11_readForm_146 (by decide) (fun _ => ?_) (fun h => absurd h (by decide))
      refine lv_iload_n hx hb dX11_readForm_161 rfl (lv_at hl 2 rfl) ?_
      refine lv_iconst (v := 1) hx hb dX11_readForm_162 (by decide) ?_
      refine lv_icmp_eq (tgt := 176) hx hb dX11_readForm_163 (by decide) (fun h => absurd h (by decide)) (fun _ => ?_)
      refine lv_iload_n hx hb dX11_readForm_166 rfl (lv_at hl 2 rfl) ?_
      refine lv_iconst (v := 3) hx hb dX11_readForm_167 (by decide) ?_
      refine lv_icmp_eq (tgt := 176) hx hb dX11_readForm_168 (by decide) (fun h => absurd h (by decide)) (fun _ => ?_)
      refine lv_iload_n hx hb dX11_readForm_171 rfl (lv_at hl 2 rfl) ?_
      refine lv_iconst (v := 5) hx hb dX11_readForm_172 (by decide) ?_
      refine lv_icmp_ne (tgt := 188) hx hb dX11_readForm_173 (by decide) (fun h => absurd (by decide) h) (fun _ => ?_)
      refine lv_iload hx hb dX11_readForm_176 (lv_at hl 0 rfl) ?_
      refine lv_aload_n hx hb dX11_readForm_178 rfl (lv_at hl 4 rfl) ?_
      refine g_get hx hb hg hown hK hP 0 rfl rfl inX11 75 (by decide) q1690 rfl dX11_readForm_179 ?_
      refine lv_bipush (v := 7) hx hb dX11_readForm_182 (by decide) ?_
      refine va_iald hx hb hK hP 2 0 rfl rfl (by unfold vp_in; decide) dX11_readForm_184 ?_
      refine lv_topi (fun x357 e358 => ?_)
      refine lv_iadd hx hb dX11_readForm_185 ?_
      have g359 := g_i32 x357
      refine lv_topi (fun x360 e361 => ?_)
      have g362 : x360.toInt = 0 + x357.toInt := g_add e361 (by decide) rfl (by omega) (by omega)
      refine lv_istore (lv' := [(4, .int x360), (3, .int x354), (2, .int 5), (1, .int 2), (0, .ref t0)]) hx hb dX11_readForm_186 hl (by decide) rfl (fun ls hl => ?_)
      refine lv_aload_n hx hb dX11_readForm_188 rfl (lv_at hl 4 rfl) ?_
      refine lv_iload hx hb dX11_readForm_189 (lv_at hl 0 rfl) ?_
      refine lv_iload_n hx hb dX11_readForm_191 rfl (lv_at hl 1 rfl) ?_
      refine lv_iadd hx hb dX11_readForm_192 ?_
      have g363 := g_i32 x360
      have g364 := g_i32 x354
      refine lv_topi (fun x365 e366 => ?_)
      refine lv_ldcw hx hb hown (hg _ q1907) dX11_readForm_193 ?_
      refine lv_iand hx hb dX11_readForm_196 ?_
      refine lv_topi (fun x367 e368 => ?_)
      have g369 : 0 ≤ x367.toInt ∧ x367.toInt ≤ 65535 := g_msk e368 16 (by decide) (by decide) (by decide)
      refine g_put (w' := [(t0, .inr (11, [.int i0, .ref c1, .int i2, .int i3, .int i4, .int i5, .int i6, .int i7, .long i8, .int i9, .int i10, .ref c11, .ref c12, .ref c13, .ref c14, .ref c15, .ref c16, .int i17, .int i18, .ref c19, .ref c20, .ref c21, .ref c22, .int i23, .ref c24, .ref c25, .ref c26, .ref c27, .ref c28, .ref c29, .ref c30, .int i31, .int i32, .int i33, .int i34, .ref c35, .ref c36, .int i37, .int i38, .int i39, .int i40, .int i41, .int i42, .ref c43, .ref c44, .ref c45, .ref c46, .ref c47, .ref c48, .ref c49, .ref c50, .ref c51, .ref c52, .ref c53, .ref c54, .ref c55, .ref c56, .ref c57, .ref c58, .ref c59, .int i60, .ref c61, .int i62, .ref c63, .int i64, .int i65, .int i66, .ref c67, .ref c68, .ref c69, .ref c70, .ref c71, .ref c72, .int i73, .ref c74, .ref c75, .int i76, .int i77, .int i78, .ref c79, .int x356, .int x2, .int x9, .int i83, .int x367])), (c74, .inl (dA 0, 4096, .inl m74)), (c75, .inl (dA 0, 16, .inl m75))]) hx hb hg hown hK hP hD hS 0 rfl rfl inX11 tyX11_ok nmX11 84 (by decide) q1699 rfl rfl rfl (Nat.le_of_ble_eq_true rfl) rfl dX11_readForm_197 (fun H locs hP hD hS => ?_)
      refine lv_aload_n hx hb dX11_readForm_200 rfl (lv_at hl 4 rfl) ?_
      refine lv_iload_n hx hb dX11_readForm_201 rfl (lv_at hl 2 rfl) ?_
      refine lv_iconst (v := 2) hx hb dX11_readForm_202 (by decide) ?_
      refine lv_icmp_eq (tgt := 221) hx hb dX11_readForm_203 (by decide) (fun h => absurd h (by decide)) (fun _ => ?_)
      refine lv_iload_n hx hb dX11_readForm_206 rfl (lv_at hl 2 rfl) ?_
      refine lv_iconst (v := 3) hx hb dX11_readForm_207 (by decide) ?_
      refine lv_icmp_eq (tgt := 221) hx hb dX11_readForm_208 (by decide) (fun h => absurd h (by decide)) (fun _ => ?_)
      refine lv_iload_n hx hb dX11_readForm_211 rfl (lv_at hl 2 rfl) ?_
      refine lv_bipush (v := 6) hx hb dX11_readForm_212 (by decide) ?_
      refine lv_icmp_ne (tgt := 226) hx hb dX11_readForm_214 (by decide) (fun _ => ?_) (fun h => absurd h (by decide))
      refine lv_bipush (v := 11) hx hb dX11_readForm_226 (by decide) ?_
      refine g_put (w' := [(t0, .inr (11, [.int i0, .ref c1, .int i2, .int i3, .int i4, .int i5, .int i6, .int i7, .long i8, .int i9, .int i10, .ref c11, .ref c12, .ref c13, .ref c14, .ref c15, .ref c16, .int i17, .int i18, .ref c19, .ref c20, .ref c21, .ref c22, .int i23, .ref c24, .ref c25, .ref c26, .ref c27, .ref c28, .ref c29, .ref c30, .int i31, .int i32, .int i33, .int i34, .ref c35, .ref c36, .int i37, .int i38, .int i39, .int i40, .int i41, .int i42, .ref c43, .ref c44, .ref c45, .ref c46, .ref c47, .ref c48, .ref c49, .ref c50, .ref c51, .ref c52, .ref c53, .ref c54, .ref c55, .ref c56, .ref c57, .ref c58, .ref c59, .int i60, .ref c61, .int i62, .ref c63, .int i64, .int i65, .int i66, .ref c67, .ref c68, .ref c69, .ref c70, .ref c71, .ref c72, .int i73, .ref c74, .ref c75, .int i76, .int i77, .int i78, .ref c79, .int x356, .int x2, .int x9, .int 11, .int x367])), (c74, .inl (dA 0, 4096, .inl m74)), (c75, .inl (dA 0, 16, .inl m75))]) hx hb hg hown hK hP hD hS 0 rfl rfl inX11 tyX11_ok nmX11 83 (by decide) q1698 rfl rfl rfl (Nat.le_of_ble_eq_true rfl) rfl dX11_readForm_228 (fun H locs hP hD hS => ?_)
      exact g_vret hx hb hr hlocks hK (x356, x2, x9, 11, x367) hP hD hS ⟨(show 0 ≤ x2.toInt ∧ x2.toInt ≤ 255 from by omega), (show 0 ≤ x9.toInt ∧ x9.toInt ≤ 7 from by omega), (show 0 ≤ ((11 : Int32)).toInt ∧ ((11 : Int32)).toInt ≤ 15 from by decide)⟩ (Nat.le_of_ble_eq_true rfl) (Nat.le_of_ble_eq_true rfl) dX11_readForm_231
    · refine lv_iload_n hx hb dX11_readForm_43 rfl (lv_at hl 1 rfl) ?_
      refine lv_if_ne (tgt := 64) hx hb dX11_readForm_44 (by decide) (fun _ => ?_) (fun h => absurd h (by decide))
      refine lv_iload_n hx hb dX11_readForm_64 rfl (lv_at hl 1 rfl) ?_
      refine lv_iconst (v := 1) hx hb dX11_readForm_65 (by decide) ?_
      refine lv_icmp_ne (tgt := 76) hx hb dX11_readForm_66 (by decide) (fun _ => ?_) (fun h => absurd h (by decide))
      refine lv_aload_n hx hb dX11_readForm_76 rfl (lv_at hl 2 rfl) ?_
      refine g_Vi (n := 0) (As := []) (rest := []) (wr := []) hx hb hml hg hown hK hP hD hS hA (s_X11_fetchTwo l D dA t0 i0 c1 i2 i3 i4 i5 i6 i7 i8 i9 i10 c11 c12 c13 c14 c15 c16 i17 i18 c19 c20 c21 c22 i23 c24 c25 c26 c27 c28 c29 c30 i31 i32 i33 i34 c35 c36 i37 i38 i39 i40 i41 i42 c43 c44 c45 c46 c47 c48 c49 c50 c51 c52 c53 c54 c55 c56 c57 c58 c59 i60 c61 i62 c63 i64 i65 i66 c67 c68 c69 c70 c71 c72 i73 c74 c75 i76 i77 i78 c79 x4 x2 x9 i83 i84 m74 m75 (by omega) (by omega) (by omega) (by omega) (by omega) (by omega) (by omega) p7 _) [0, 1, 2] [] rfl (by decide) rfl (by decide) (by decide) 0 rfl rfl q2148 q160 q2145 q2147 q133 (by decide +kernel) ⟨(Nat.le_of_ble_eq_true rfl), (Nat.le_of_ble_eq_true rfl)⟩ rfl hl.1 rfl (Nat.le_of_ble_eq_true rfl) dX11_readForm_77 ⟨(Nat.le_of_ble_eq_true rfl), (Nat.le_of_ble_eq_true rfl)⟩ (fun x371 u370 H locs w372 hP hD hS => ?_)
      refine W.widen (k := 0) (n := 0) (Nat.le_of_ble_eq_true rfl) (Nat.le_of_ble_eq_true rfl) ?_
      obtain ⟨x373, rfl⟩ : ∃ z, z = u370 := ⟨_, rfl⟩
      have hP : va_P D vwC [(t0, .inr (11, [.int i0, .ref c1, .int i2, .int i3, .int i4, .int i5, .int i6, .int i7, .long i8, .int i9, .int i10, .ref c11, .ref c12, .ref c13, .ref c14, .ref c15, .ref c16, .int i17, .int i18, .ref c19, .ref c20, .ref c21, .ref c22, .int i23, .ref c24, .ref c25, .ref c26, .ref c27, .ref c28, .ref c29, .ref c30, .int i31, .int i32, .int i33, .int i34, .ref c35, .ref c36, .int i37, .int i38, .int i39, .int i40, .int i41, .int i42, .ref c43, .ref c44, .ref c45, .ref c46, .ref c47, .ref c48, .ref c49, .ref c50, .ref c51, .ref c52, .ref c53, .ref c54, .ref c55, .ref c56, .ref c57, .ref c58, .ref c59, .int i60, .ref c61, .int i62, .ref c63, .int i64, .int i65, .int i66, .ref c67, .ref c68, .ref c69, .ref c70, .ref c71, .ref c72, .int i73, .ref c74, .ref c75, .int i76, .int i77, .int i78, .ref c79, .int x373, .int x2, .int x9, .int i83, .int i84])), (c74, .inl (dA 0, 4096, .inl m74)), (c75, .inl (dA 0, 16, .inl m75))] H := hP
      have hD : va_D A [(t0, .inr (11, [.int i0, .ref c1, .int i2, .int i3, .int i4, .int i5, .int i6, .int i7, .long i8, .int i9, .int i10, .ref c11, .ref c12, .ref c13, .ref c14, .ref c15, .ref c16, .int i17, .int i18, .ref c19, .ref c20, .ref c21, .ref c22, .int i23, .ref c24, .ref c25, .ref c26, .ref c27, .ref c28, .ref c29, .ref c30, .int i31, .int i32, .int i33, .int i34, .ref c35, .ref c36, .int i37, .int i38, .int i39, .int i40, .int i41, .int i42, .ref c43, .ref c44, .ref c45, .ref c46, .ref c47, .ref c48, .ref c49, .ref c50, .ref c51, .ref c52, .ref c53, .ref c54, .ref c55, .ref c56, .ref c57, .ref c58, .ref c59, .int i60, .ref c61, .int i62, .ref c63, .int i64, .int i65, .int i66, .ref c67, .ref c68, .ref c69, .ref c70, .ref c71, .ref c72, .int i73, .ref c74, .ref c75, .int i76, .int i77, .int i78, .ref c79, .int x373, .int x2, .int x9, .int i83, .int i84])), (c74, .inl (dA 0, 4096, .inl m74)), (c75, .inl (dA 0, 16, .inl m75))] := hD
      refine lv_istore_n (lv' := [(3, .int x371), (2, .int 6), (1, .int 2), (0, .ref t0)]) hx hb dX11_readForm_80 rfl hl (by decide) rfl (fun ls hl => ?_)
      refine lv_iconst (v := 0) hx hb dX11_readForm_81 (by decide) ?_
      refine lv_istore (lv' := [(4, .int 0), (3, .int x371), (2, .int 6), (1, .int 2), (0, .ref t0)]) hx hb dX11_readForm_82 hl (by decide) rfl (fun ls hl => ?_)
      refine lv_iload_n hx hb dX11_readForm_84 rfl (lv_at hl 2 rfl) ?_
      refine lv_if_eq (tgt := 99) hx hb dX11_readForm_85 (by decide) (fun h => absurd h (by decide)) (fun _ => ?_)
      refine lv_iload_n hx hb dX11_readForm_88 rfl (lv_at hl 2 rfl) ?_
      refine lv_iconst (v := 1) hx hb dX11_readForm_89 (by decide) ?_
      refine lv_icmp_eq (tgt := 99) hx hb dX11_readForm_90 (by decide) (fun h => absurd h (by decide)) (fun _ => ?_)
      refine lv_iload_n hx hb dX11_readForm_93 rfl (lv_at hl 2 rfl) ?_
      refine lv_bipush (v := 7) hx hb dX11_readForm_94 (by decide) ?_
      refine lv_icmp_ne (tgt := 107) hx hb dX11_readForm_96 (by decide) (fun _ => ?_) (fun h => absurd h (by decide))
      refine lv_iload_n hx hb dX11_readForm_107 rfl (lv_at hl 2 rfl) ?_
      refine lv_iconst (v := 2) hx hb dX11_readForm_108 (by decide) ?_
      refine lv_icmp_eq (tgt := 127) hx hb dX11_readForm_109 (by decide) (fun h => absurd h (by decide)) (fun _ => ?_)
      refine lv_iload_n hx hb dX11_readForm_112 rfl (lv_at hl 2 rfl) ?_
      refine lv_iconst (v := 3) hx hb dX11_readForm_113 (by decide) ?_
      refine lv_icmp_eq (tgt := 127) hx hb dX11_readForm_114 (by decide) (fun h => absurd h (by decide)) (fun _ => ?_)
      refine lv_iload_n hx hb dX11_readForm_117 rfl (lv_at hl 2 rfl) ?_
      refine lv_bipush (v := 6) hx hb dX11_readForm_118 (by decide) ?_
      refine lv_icmp_ne (tgt := 135) hx hb dX11_readForm_120 (by decide) (fun h => absurd (by decide) h) (fun _ => ?_)
      refine lv_iload_n hx hb dX11_readForm_123 rfl (lv_at hl 3 rfl) ?_
      refine lv_if_eq (tgt := 135) hx hb dX11_readForm_124 (by decide) (fun h => absurd h (by decide)) (fun _ => ?_)
      refine lv_aload_n hx hb dX11_readForm_127 rfl (lv_at hl 4 rfl) ?_
      refine g_get hx hb hg hown hK hP 0 rfl rfl inX11 75 (by decide) q1690 rfl dX11_readForm_128 ?_
      refine lv_iconst (v := 5) hx hb dX11_readForm_131 (by decide) ?_
      refine va_iald hx hb hK hP 2 0 rfl rfl (by unfold vp_in; decide) dX11_readForm_132 ?_
      refine lv_topi (fun x374 e375 => ?_)
      refine lv_istore (lv' := [(4, .int x374), (3, .int x371), (2, .int 6), (1, .int 2), (0, .ref t0)]) hx hb dX11_readForm_133 hl (by decide) rfl (fun ls hl => ?_)
      refine lv_iload_n hx hb dX11_readForm_135 rfl (lv_at hl 2 rfl) ?_
      refine lv_if_eq (tgt := 149) hx hb dX11_readForm_136 (by decide) (fun h => absurd h (by decide)) (fun _ => ?_)
      refine lv_iload_n hx hb dX11_readForm_139 rfl (lv_at hl 2 rfl) ?_
      refine lv_iconst (v := 2) hx hb dX11_readForm_140 (by decide) ?_
      refine lv_icmp_eq (tgt := 149) hx hb dX11_readForm_141 (by decide) (fun h => absurd h (by decide)) (fun _ => ?_)
      refine lv_iload_n hx hb dX11_readForm_144 rfl (lv_at hl 2 rfl) ?_
      refine lv_iconst (v := 4) hx hb dX11_readForm_145 (by decide) ?_
      refine lv_icmp_ne (tgt := 161) hx hb dX11_readForm_146 (by decide) (fun _ => ?_) (fun h => absurd h (by decide))
      refine lv_iload_n hx hb dX11_readForm_161 rfl (lv_at hl 2 rfl) ?_
      refine lv_iconst (v := 1) hx hb dX11_readForm_162 (by decide) ?_
      refine lv_icmp_eq (tgt := 176) hx hb dX11_readForm_163 (by decide) (fun h => absurd h (by decide)) (fun _ => ?_)
      refine lv_iload_n hx hb dX11_readForm_166 rfl (lv_at hl 2 rfl) ?_
      refine lv_iconst (v := 3) hx hb dX11_readForm_167 (by decide) ?_
      refine lv_icmp_eq (tgt := 176) hx hb dX11_readForm_168 (by decide) (fun h => absurd h (by decide)) (fun _ => ?_)
      refine lv_iload_n hx hb dX11_readForm_171 rfl (lv_at hl 2 rfl) ?_
      refine lv_iconst (v := 5) hx hb dX11_readForm_172 (by decide) ?_
      refine lv_icmp_ne (tgt := 188) hx hb dX11_readForm_173 (by decide) (fun _ => ?_) (fun h => absurd h (by decide))
      refine lv_aload_n hx hb dX11_readForm_188 rfl (lv_at hl 4 rfl) ?_
      refine lv_iload hx hb dX11_readForm_189 (lv_at hl 0 rfl) ?_
      refine lv_iload_n hx hb dX11_readForm_191 rfl (lv_at hl 1 rfl) ?_
      refine lv_iadd hx hb dX11_readForm_192 ?_
      have g376 := g_i32 x374
      have g377 := g_i32 x371
      refine lv_topi (fun x378 e379 => ?_)
      refine lv_ldcw hx hb hown (hg _ q1907) dX11_readForm_193 ?_
      refine lv_iand hx hb dX11_readForm_196 ?_
      refine lv_topi (fun x380 e381 => ?_)
      have g382 : 0 ≤ x380.toInt ∧ x380.toInt ≤ 65535 := g_msk e381 16 (by decide) (by decide) (by decide)
      refine g_put (w' := [(t0, .inr (11, [.int i0, .ref c1, .int i2, .int i3, .int i4, .int i5, .int i6, .int i7, .long i8, .int i9, .int i10, .ref c11, .ref c12, .ref c13, .ref c14, .ref c15, .ref c16, .int i17, .int i18, .ref c19, .ref c20, .ref c21, .ref c22, .int i23, .ref c24, .ref c25, .ref c26, .ref c27, .ref c28, .ref c29, .ref c30, .int i31, .int i32, .int i33, .int i34, .ref c35, .ref c36, .int i37, .int i38, .int i39, .int i40, .int i41, .int i42, .ref c43, .ref c44, .ref c45, .ref c46, .ref c47, .ref c48, .ref c49, .ref c50, .ref c51, .ref c52, .ref c53, .ref c54, .ref c55, .ref c56, .ref c57, .ref c58, .ref c59, .int i60, .ref c61, .int i62, .ref c63, .int i64, .int i65, .int i66, .ref c67, .ref c68, .ref c69, .ref c70, .ref c71, .ref c72, .int i73, .ref c74, .ref c75, .int i76, .int i77, .int i78, .ref c79, .int x373, .int x2, .int x9, .int i83, .int x380])), (c74, .inl (dA 0, 4096, .inl m74)), (c75, .inl (dA 0, 16, .inl m75))]) hx hb hg hown hK hP hD hS 0 rfl rfl inX11 tyX11_ok nmX11 84 (by decide) q1699 rfl rfl rfl (Nat.le_of_ble_eq_true rfl) rfl dX11_readForm_197 (fun H locs hP hD hS => ?_)
      refine lv_aload_n hx hb dX11_readForm_200 rfl (lv_at hl 4 rfl) ?_
      refine lv_iload_n hx hb dX11_readForm_201 rfl (lv_at hl 2 rfl) ?_
      refine lv_iconst (v := 2) hx hb dX11_readForm_202 (by decide) ?_
      refine lv_icmp_eq (tgt := 221) hx hb dX11_readForm_203 (by decide) (fun h => absurd h (by decide)) (fun _ => ?_)
      refine lv_iload_n hx hb dX11_readForm_206 rfl (lv_at hl 2 rfl) ?_
      refine lv_iconst (v := 3) hx hb dX11_readForm_207 (by decide) ?_
      refine lv_icmp_eq (tgt := 221) hx hb dX11_readForm_208 (by decide) (fun h => absurd h (by decide)) (fun _ => ?_)
      refine lv_iload_n hx hb dX11_readForm_211 rfl (lv_at hl 2 rfl) ?_
      refine lv_bipush (v := 6) hx hb dX11_readForm_212 (by decide) ?_
      refine lv_icmp_ne (tgt := 226) hx hb dX11_readForm_214 (by decide) (fun h => absurd (by decide) h) (fun _ => ?_)
      refine lv_iload_n hx hb dX11_readForm_217 rfl (lv_at hl 3 rfl) ?_
      refine lv_if_eq (tgt := 226) hx hb dX11_readForm_218 (by decide) (fun h => absurd h (by decide)) (fun _ => ?_)
      refine lv_bipush (v := 10) hx hb dX11_readForm_221 (by decide) ?_
      refine lv_goto (tgt := 228) hx hb dX11_readForm_223 (by decide) ?_
      refine g_put (w' := [(t0, .inr (11, [.int i0, .ref c1, .int i2, .int i3, .int i4, .int i5, .int i6, .int i7, .long i8, .int i9, .int i10, .ref c11, .ref c12, .ref c13, .ref c14, .ref c15, .ref c16, .int i17, .int i18, .ref c19, .ref c20, .ref c21, .ref c22, .int i23, .ref c24, .ref c25, .ref c26, .ref c27, .ref c28, .ref c29, .ref c30, .int i31, .int i32, .int i33, .int i34, .ref c35, .ref c36, .int i37, .int i38, .int i39, .int i40, .int i41, .int i42, .ref c43, .ref c44, .ref c45, .ref c46, .ref c47, .ref c48, .ref c49, .ref c50, .ref c51, .ref c52, .ref c53, .ref c54, .ref c55, .ref c56, .ref c57, .ref c58, .ref c59, .int i60, .ref c61, .int i62, .ref c63, .int i64, .int i65, .int i66, .ref c67, .ref c68, .ref c69, .ref c70, .ref c71, .ref c72, .int i73, .ref c74, .ref c75, .int i76, .int i77, .int i78, .ref c79, .int x373, .int x2, .int x9, .int 10, .int x380])), (c74, .inl (dA 0, 4096, .inl m74)), (c75, .inl (dA 0, 16, .inl m75))]) hx hb hg hown hK hP hD hS 0 rfl rfl inX11 tyX11_ok nmX11 83 (by decide) q1698 rfl rfl rfl (Nat.le_of_ble_eq_true rfl) rfl dX11_readForm_228 (fun H locs hP hD hS => ?_)
      exact g_vret hx hb hr hlocks hK (x373, x2, x9, 10, x380) hP hD hS ⟨(show 0 ≤ x2.toInt ∧ x2.toInt ≤ 255 from by omega), (show 0 ≤ x9.toInt ∧ x9.toInt ≤ 7 from by omega), (show 0 ≤ ((10 : Int32)).toInt ∧ ((10 : Int32)).toInt ≤ 15 from by decide)⟩ (Nat.le_of_ble_eq_true rfl) (Nat.le_of_ble_eq_true rfl) dX11_readForm_231
    · refine lv_iload_n hx hb dX11_readForm_43 rfl (lv_at hl 1 rfl) ?_
      refine lv_if_ne (tgt := 64) hx hb dX11_readForm_44 (by decide) (fun _ => ?_) (fun h => absurd h (by decide))
      refine lv_iload_n hx hb dX11_readForm_64 rfl (lv_at hl 1 rfl) ?_
      refine lv_iconst (v := 1) hx hb dX11_readForm_65 (by decide) ?_
      refine lv_icmp_ne (tgt := 76) hx hb dX11_readForm_66 (by decide) (fun _ => ?_) (fun h => absurd h (by decide))
      refine lv_aload_n hx hb dX11_readForm_76 rfl (lv_at hl 2 rfl) ?_
      refine g_Vi (n := 0) (As := []) (rest := []) (wr := []) hx hb hml hg hown hK hP hD hS hA (s_X11_fetchTwo l D dA t0 i0 c1 i2 i3 i4 i5 i6 i7 i8 i9 i10 c11 c12 c13 c14 c15 c16 i17 i18 c19 c20 c21 c22 i23 c24 c25 c26 c27 c28 c29 c30 i31 i32 i33 i34 c35 c36 i37 i38 i39 i40 i41 i42 c43 c44 c45 c46 c47 c48 c49 c50 c51 c52 c53 c54 c55 c56 c57 c58 c59 i60 c61 i62 c63 i64 i65 i66 c67 c68 c69 c70 c71 c72 i73 c74 c75 i76 i77 i78 c79 x4 x2 x9 i83 i84 m74 m75 (by omega) (by omega) (by omega) (by omega) (by omega) (by omega) (by omega) p7 _) [0, 1, 2] [] rfl (by decide) rfl (by decide) (by decide) 0 rfl rfl q2148 q160 q2145 q2147 q133 (by decide +kernel) ⟨(Nat.le_of_ble_eq_true rfl), (Nat.le_of_ble_eq_true rfl)⟩ rfl hl.1 rfl (Nat.le_of_ble_eq_true rfl) dX11_readForm_77 ⟨(Nat.le_of_ble_eq_true rfl), (Nat.le_of_ble_eq_true rfl)⟩ (fun x384 u383 H locs w385 hP hD hS => ?_)
      refine W.widen (k := 0) (n := 0) (Nat.le_of_ble_eq_true rfl) (Nat.le_of_ble_eq_true rfl) ?_
      obtain ⟨x386, rfl⟩ : ∃ z, z = u383 := ⟨_, rfl⟩
      have hP : va_P D vwC [(t0, .inr (11, [.int i0, .ref c1, .int i2, .int i3, .int i4, .int i5, .int i6, .int i7, .long i8, .int i9, .int i10, .ref c11, .ref c12, .ref c13, .ref c14, .ref c15, .ref c16, .int i17, .int i18, .ref c19, .ref c20, .ref c21, .ref c22, .int i23, .ref c24, .ref c25, .ref c26, .ref c27, .ref c28, .ref c29, .ref c30, .int i31, .int i32, .int i33, .int i34, .ref c35, .ref c36, .int i37, .int i38, .int i39, .int i40, .int i41, .int i42, .ref c43, .ref c44, .ref c45, .ref c46, .ref c47, .ref c48, .ref c49, .ref c50, .ref c51, .ref c52, .ref c53, .ref c54, .ref c55, .ref c56, .ref c57, .ref c58, .ref c59, .int i60, .ref c61, .int i62, .ref c63, .int i64, .int i65, .int i66, .ref c67, .ref c68, .ref c69, .ref c70, .ref c71, .ref c72, .int i73, .ref c74, .ref c75, .int i76, .int i77, .int i78, .ref c79, .int x386, .int x2, .int x9, .int i83, .int i84])), (c74, .inl (dA 0, 4096, .inl m74)), (c75, .inl (dA 0, 16, .inl m75))] H := hP
      have hD : va_D A [(t0, .inr (11, [.int i0, .ref c1, .int i2, .int i3, .int i4, .int i5, .int i6, .int i7, .long i8, .int i9, .int i10, .ref c11, .ref c12, .ref c13, .ref c14, .ref c15, .ref c16, .int i17, .int i18, .ref c19, .ref c20, .ref c21, .ref c22, .int i23, .ref c24, .ref c25, .ref c26, .ref c27, .ref c28, .ref c29, .ref c30, .int i31, .int i32, .int i33, .int i34, .ref c35, .ref c36, .int i37, .int i38, .int i39, .int i40, .int i41, .int i42, .ref c43, .ref c44, .ref c45, .ref c46, .ref c47, .ref c48, .ref c49, .ref c50, .ref c51, .ref c52, .ref c53, .ref c54, .ref c55, .ref c56, .ref c57, .ref c58, .ref c59, .int i60, .ref c61, .int i62, .ref c63, .int i64, .int i65, .int i66, .ref c67, .ref c68, .ref c69, .ref c70, .ref c71, .ref c72, .int i73, .ref c74, .ref c75, .int i76, .int i77, .int i78, .ref c79, .int x386, .int x2, .int x9, .int i83, .int i84])), (c74, .inl (dA 0, 4096, .inl m74)), (c75, .inl (dA 0, 16, .inl m75))] := hD
      refine lv_istore_n (lv' := [(3, .int x384), (2, .int 7), (1, .int 2), (0, .ref t0)]) hx hb dX11_readForm_80 rfl hl (by decide) rfl (fun ls hl => ?_)
      refine lv_iconst (v := 0) hx hb dX11_readForm_81 (by decide) ?_
      refine lv_istore (lv' := [(4, .int 0), (3, .int x384), (2, .int 7), (1, .int 2), (0, .ref t0)]) hx hb dX11_readForm_82 hl (by decide) rfl (fun ls hl => ?_)
      refine lv_iload_n hx hb dX11_readForm_84 rfl (lv_at hl 2 rfl) ?_
      refine lv_if_eq (tgt := 99) hx hb dX11_readForm_85 (by decide) (fun h => absurd h (by decide)) (fun _ => ?_)
      refine lv_iload_n hx hb dX11_readForm_88 rfl (lv_at hl 2 rfl) ?_
      refine lv_iconst (v := 1) hx hb dX11_readForm_89 (by decide) ?_
      refine lv_icmp_eq (tgt := 99) hx hb dX11_readForm_90 (by decide) (fun h => absurd h (by decide)) (fun _ => ?_)
      refine lv_iload_n hx hb dX11_readForm_93 rfl (lv_at hl 2 rfl) ?_
      refine lv_bipush (v := 7) hx hb dX11_readForm_94 (by decide) ?_
      refine lv_icmp_ne (tgt := 107) hx hb dX11_readForm_96 (by decide) (fun h => absurd (by decide) h) (fun _ => ?_)
      refine lv_aload_n hx hb dX11_readForm_99 rfl (lv_at hl 4 rfl) ?_
      refine g_get hx hb hg hown hK hP 0 rfl rfl inX11 75 (by decide) q1690 rfl dX11_readForm_100 ?_
      refine lv_iconst (v := 3) hx hb dX11_readForm_103 (by decide) ?_
      refine va_iald hx hb hK hP 2 0 rfl rfl (by unfold vp_in; decide) dX11_readForm_104 ?_
      refine lv_topi (fun x387 e388 => ?_)
      refine lv_istore (lv' := [(4, .int x387), (3, .int x384), (2, .int 7), (1, .int 2), (0, .ref t0)]) hx hb dX11_readForm_105 hl (by decide) rfl (fun ls hl => ?_)
      refine lv_iload_n hx hb dX11_readForm_107 rfl (lv_at hl 2 rfl) ?_
      refine lv_iconst (v := 2) hx hb dX11_readForm_108 (by decide) ?_
      refine lv_icmp_eq (tgt := 127) hx hb dX11_readForm_109 (by decide) (fun h => absurd h (by decide)) (fun _ => ?_)
      refine lv_iload_n hx hb dX11_readForm_112 rfl (lv_at hl 2 rfl) ?_
      refine lv_iconst (v := 3) hx hb dX11_readForm_113 (by decide) ?_
      refine lv_icmp_eq (tgt := 127) hx hb dX11_readForm_114 (by decide) (fun h => absurd h (by decide)) (fun _ => ?_)
      refine lv_iload_n hx hb dX11_readForm_117 rfl (lv_at hl 2 rfl) ?_
      refine lv_bipush (v := 6) hx hb dX11_readForm_118 (by decide) ?_
      refine lv_icmp_ne (tgt := 135) hx hb dX11_readForm_120 (by decide) (fun _ => ?_) (fun h => absurd h (by decide))
      refine lv_iload_n hx hb dX11_readForm_135 rfl (lv_at hl 2 rfl) ?_
      refine lv_if_eq (tgt := 149) hx hb dX11_readForm_136 (by decide) (fun h => absurd h (by decide)) (fun _ => ?_)
      refine lv_iload_n hx hb dX11_readForm_139 rfl (lv_at hl 2 rfl) ?_
      refine lv_iconst (v := 2) hx hb dX11_readForm_140 (by decide) ?_
      refine lv_icmp_eq (tgt := 149) hx hb dX11_readForm_141 (by decide) (fun h => absurd h (by decide)) (fun _ => ?_)
      refine lv_iload_n hx hb dX11_readForm_144 rfl (lv_at hl 2 rfl) ?_
      refine lv_iconst (v := 4) hx hb dX11_readForm_145 (by decide) ?_
      refine lv_icmp_ne (tgt := 161) hx hb dX11_readForm_146 (by decide) (fun _ => ?_) (fun h => absurd h (by decide))
      refine lv_iload_n hx hb dX11_readForm_161 rfl (lv_at hl 2 rfl) ?_
      refine lv_iconst (v := 1) hx hb dX11_readForm_162 (by decide) ?_
      refine lv_icmp_eq (tgt := 176) hx hb dX11_readForm_163 (by decide) (fun h => absurd h (by decide)) (fun _ => ?_)
      refine lv_iload_n hx hb dX11_readForm_166 rfl (lv_at hl 2 rfl) ?_
      refine lv_iconst (v := 3) hx hb dX11_readForm_167 (by decide) ?_
      refine lv_icmp_eq (tgt := 176) hx hb dX11_readForm_168 (by decide) (fun h => absurd h (by decide)) (fun _ => ?_)
      refine lv_iload_n hx hb dX11_readForm_171 rfl (lv_at hl 2 rfl) ?_
      refine lv_iconst (v := 5) hx hb dX11_readForm_172 (by decide) ?_
      refine lv_icmp_ne (tgt := 188) hx hb dX11_readForm_173 (by decide) (fun _ => ?_) (fun h => absurd h (by decide))
      refine lv_aload_n hx hb dX11_readForm_188 rfl (lv_at hl 4 rfl) ?_
      refine lv_iload hx hb dX11_readForm_189 (lv_at hl 0 rfl) ?_
      refine lv_iload_n hx hb dX11_readForm_191 rfl (lv_at hl 1 rfl) ?_
      refine lv_iadd hx hb dX11_readForm_192 ?_
      have g389 := g_i32 x387
      have g390 := g_i32 x384
      refine lv_topi (fun x391 e392 => ?_)
      refine lv_ldcw hx hb hown (hg _ q1907) dX11_readForm_193 ?_
      refine lv_iand hx hb dX11_readForm_196 ?_
      refine lv_topi (fun x393 e394 => ?_)
      have g395 : 0 ≤ x393.toInt ∧ x393.toInt ≤ 65535 := g_msk e394 16 (by decide) (by decide) (by decide)
      refine g_put (w' := [(t0, .inr (11, [.int i0, .ref c1, .int i2, .int i3, .int i4, .int i5, .int i6, .int i7, .long i8, .int i9, .int i10, .ref c11, .ref c12, .ref c13, .ref c14, .ref c15, .ref c16, .int i17, .int i18, .ref c19, .ref c20, .ref c21, .ref c22, .int i23, .ref c24, .ref c25, .ref c26, .ref c27, .ref c28, .ref c29, .ref c30, .int i31, .int i32, .int i33, .int i34, .ref c35, .ref c36, .int i37, .int i38, .int i39, .int i40, .int i41, .int i42, .ref c43, .ref c44, .ref c45, .ref c46, .ref c47, .ref c48, .ref c49, .ref c50, .ref c51, .ref c52, .ref c53, .ref c54, .ref c55, .ref c56, .ref c57, .ref c58, .ref c59, .int i60, .ref c61, .int i62, .ref c63, .int i64, .int i65, .int i66, .ref c67, .ref c68, .ref c69, .ref c70, .ref c71, .ref c72, .int i73, .ref c74, .ref c75, .int i76, .int i77, .int i78, .ref c79, .int x386, .int x2, .int x9, .int i83, .int x393])), (c74, .inl (dA 0, 4096, .inl m74)), (c75, .inl (dA 0, 16, .inl m75))]) hx hb hg hown hK hP hD hS 0 rfl rfl inX11 tyX11_ok nmX11 84 (by decide) q1699 rfl rfl rfl (Nat.le_of_ble_eq_true rfl) rfl dX11_readForm_197 (fun H locs hP hD hS => ?_)
      refine lv_aload_n hx hb dX11_readForm_200 rfl (lv_at hl 4 rfl) ?_
      refine lv_iload_n hx hb dX11_readForm_201 rfl (lv_at hl 2 rfl) ?_
      refine lv_iconst (v := 2) hx hb dX11_readForm_202 (by decide) ?_
      refine lv_icmp_eq (tgt := 221) hx hb dX11_readForm_203 (by decide) (fun h => absurd h (by decide)) (fun _ => ?_)
      refine lv_iload_n hx hb dX11_readForm_206 rfl (lv_at hl 2 rfl) ?_
      refine lv_iconst (v := 3) hx hb dX11_readForm_207 (by decide) ?_
      refine lv_icmp_eq (tgt := 221) hx hb dX11_readForm_208 (by decide) (fun h => absurd h (by decide)) (fun _ => ?_)
      refine lv_iload_n hx hb dX11_readForm_211 rfl (lv_at hl 2 rfl) ?_
      refine lv_bipush (v := 6) hx hb dX11_readForm_212 (by decide) ?_
      refine lv_icmp_ne (tgt := 226) hx hb dX11_readForm_214 (by decide) (fun _ => ?_) (fun h => absurd h (by decide))
      refine lv_bipush (v := 11) hx hb dX11_readForm_226 (by decide) ?_
      refine g_put (w' := [(t0, .inr (11, [.int i0, .ref c1, .int i2, .int i3, .int i4, .int i5, .int i6, .int i7, .long i8, .int i9, .int i10, .ref c11, .ref c12, .ref c13, .ref c14, .ref c15, .ref c16, .int i17, .int i18, .ref c19, .ref c20, .ref c21, .ref c22, .int i23, .ref c24, .ref c25, .ref c26, .ref c27, .ref c28, .ref c29, .ref c30, .int i31, .int i32, .int i33, .int i34, .ref c35, .ref c36, .int i37, .int i38, .int i39, .int i40, .int i41, .int i42, .ref c43, .ref c44, .ref c45, .ref c46, .ref c47, .ref c48, .ref c49, .ref c50, .ref c51, .ref c52, .ref c53, .ref c54, .ref c55, .ref c56, .ref c57, .ref c58, .ref c59, .int i60, .ref c61, .int i62, .ref c63, .int i64, .int i65, .int i66, .ref c67, .ref c68, .ref c69, .ref c70, .ref c71, .ref c72, .int i73, .ref c74, .ref c75, .int i76, .int i77, .int i78, .ref c79, .int x386, .int x2, .int x9, .int 11, .int x393])), (c74, .inl (dA 0, 4096, .inl m74)), (c75, .inl (dA 0, 16, .inl m75))]) hx hb hg hown hK hP hD hS 0 rfl rfl inX11 tyX11_ok nmX11 83 (by decide) q1698 rfl rfl rfl (Nat.le_of_ble_eq_true rfl) rfl dX11_readForm_228 (fun H locs hP hD hS => ?_)
      exact g_vret hx hb hr hlocks hK (x386, x2, x9, 11, x393) hP hD hS ⟨(show 0 ≤ x2.toInt ∧ x2.toInt ≤ 255 from by omega), (show 0 ≤ x9.toInt ∧ x9.toInt ≤ 7 from by omega), (show 0 ≤ ((11 : Int32)).toInt ∧ ((11 : Int32)).toInt ≤ 15 from by decide)⟩ (Nat.le_of_ble_eq_true rfl) (Nat.le_of_ble_eq_true rfl) dX11_readForm_231
  · refine lv_iload_n hx hb dX11_readForm_37 rfl (lv_at hl 1 rfl) ?_
    refine lv_iconst (v := 3) hx hb dX11_readForm_38 (by decide) ?_
    refine lv_icmp_ne (tgt := 43) hx hb dX11_readForm_39 (by decide) (fun h => absurd (by decide) h) (fun _ => ?_)
    exact g_vret hx hb hr hlocks hK (x4, x2, x9, i83, i84) hP hD hS ⟨(show 0 ≤ x2.toInt ∧ x2.toInt ≤ 255 from by omega), (show 0 ≤ x9.toInt ∧ x9.toInt ≤ 7 from by omega), (show 0 ≤ i83.toInt ∧ i83.toInt ≤ 15 from by omega)⟩ (Nat.le_of_ble_eq_true rfl) (Nat.le_of_ble_eq_true rfl) dX11_readForm_42
