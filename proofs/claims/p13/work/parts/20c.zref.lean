theorem q98 : Cond.selects RX11 yX11_operand yX11_operand ∈ gw := gw_in (i := 98) (by decide +kernel) rfl
theorem q102 : Cond.selects RX11 yX11_movTo yX11_movTo ∈ gw := gw_in (i := 102) (by decide +kernel) rfl
theorem q103 : Cond.selects RX11 yX11_emitForm yX11_emitForm ∈ gw := gw_in (i := 103) (by decide +kernel) rfl
theorem q104 : Cond.selects RX11 yX11_bits yX11_bits ∈ gw := gw_in (i := 104) (by decide +kernel) rfl
theorem q1976 : Cond.methodLink RX11 397 yX11_operand ∈ gw := gw_in (i := 1976) (by decide +kernel) rfl
theorem q1978 : Cond.instanceMethod yX11_operand ∈ gw := gw_in (i := 1978) (by decide +kernel) rfl
theorem q1979 : Cond.code yX11_operand cX11_operand 2 (some .boolean) ∈ gw := gw_in (i := 1979) (by decide +kernel) rfl
theorem q1992 : Cond.methodLink RX11 399 yX11_movTo ∈ gw := gw_in (i := 1992) (by decide +kernel) rfl
theorem q1994 : Cond.instanceMethod yX11_movTo ∈ gw := gw_in (i := 1994) (by decide +kernel) rfl
theorem q1995 : Cond.code yX11_movTo cX11_movTo 3 (some .boolean) ∈ gw := gw_in (i := 1995) (by decide +kernel) rfl
theorem q1996 : Cond.methodLink RX11 402 yX11_emitForm ∈ gw := gw_in (i := 1996) (by decide +kernel) rfl
theorem q1998 : Cond.instanceMethod yX11_emitForm ∈ gw := gw_in (i := 1998) (by decide +kernel) rfl
theorem q1999 : Cond.code yX11_emitForm cX11_emitForm 5 none ∈ gw := gw_in (i := 1999) (by decide +kernel) rfl
theorem q2000 : Cond.methodLink RX11 394 yX11_bits ∈ gw := gw_in (i := 2000) (by decide +kernel) rfl
theorem q2002 : Cond.instanceMethod yX11_bits ∈ gw := gw_in (i := 2002) (by decide +kernel) rfl
theorem q2003 : Cond.code yX11_bits cX11_bits 1 (some .int) ∈ gw := gw_in (i := 2003) (by decide +kernel) rfl
theorem dX11_bits_0 : decode cX11_bits 0 = .ok (.aload_n 0, 1) := by decide +kernel
theorem dX11_bits_1 : decode cX11_bits 1 = .ok (.getfield 375, 3) := by decide +kernel
theorem dX11_bits_4 : decode cX11_bits 4 = .ok (.iconst 3, 1) := by decide +kernel
theorem dX11_bits_5 : decode cX11_bits 5 = .ok (.if_icmp .ne 32, 3) := by decide +kernel
theorem dX11_bits_37 : decode cX11_bits 37 = .ok (.aload_n 0, 1) := by decide +kernel
theorem dX11_bits_38 : decode cX11_bits 38 = .ok (.getfield 375, 3) := by decide +kernel
theorem dX11_bits_41 : decode cX11_bits 41 = .ok (.iconst 5, 1) := by decide +kernel
theorem dX11_bits_42 : decode cX11_bits 42 = .ok (.if_icmp .ne 32, 3) := by decide +kernel
theorem dX11_bits_74 : decode cX11_bits 74 = .ok (.aload_n 0, 1) := by decide +kernel
theorem dX11_bits_75 : decode cX11_bits 75 = .ok (.getfield 378, 3) := by decide +kernel
theorem dX11_bits_78 : decode cX11_bits 78 = .ok (.bipush 6, 2) := by decide +kernel
theorem dX11_bits_80 : decode cX11_bits 80 = .ok (.if_icmp .ne 7, 3) := by decide +kernel
theorem dX11_bits_87 : decode cX11_bits 87 = .ok (.aload_n 0, 1) := by decide +kernel
theorem dX11_bits_88 : decode cX11_bits 88 = .ok (.getfield 378, 3) := by decide +kernel
theorem dX11_bits_91 : decode cX11_bits 91 = .ok (.bipush 7, 2) := by decide +kernel
theorem dX11_bits_93 : decode cX11_bits 93 = .ok (.if_icmp .ne 7, 3) := by decide +kernel
theorem dX11_bits_100 : decode cX11_bits 100 = .ok (.bipush 6, 2) := by decide +kernel
theorem dX11_bits_96 : decode cX11_bits 96 = .ok (.iconst 5, 1) := by decide +kernel
theorem dX11_bits_97 : decode cX11_bits 97 = .ok (.goto 5, 3) := by decide +kernel
theorem dX11_bits_83 : decode cX11_bits 83 = .ok (.iconst 4, 1) := by decide +kernel
theorem dX11_bits_84 : decode cX11_bits 84 = .ok (.goto 18, 3) := by decide +kernel
theorem dX11_bits_45 : decode cX11_bits 45 = .ok (.aload_n 0, 1) := by decide +kernel
theorem dX11_bits_46 : decode cX11_bits 46 = .ok (.getfield 378, 3) := by decide +kernel
theorem dX11_bits_49 : decode cX11_bits 49 = .ok (.bipush 6, 2) := by decide +kernel
theorem dX11_bits_51 : decode cX11_bits 51 = .ok (.if_icmp .ne 7, 3) := by decide +kernel
theorem dX11_bits_58 : decode cX11_bits 58 = .ok (.aload_n 0, 1) := by decide +kernel
theorem dX11_bits_59 : decode cX11_bits 59 = .ok (.getfield 378, 3) := by decide +kernel
theorem dX11_bits_62 : decode cX11_bits 62 = .ok (.bipush 7, 2) := by decide +kernel
theorem dX11_bits_64 : decode cX11_bits 64 = .ok (.if_icmp .ne 7, 3) := by decide +kernel
theorem dX11_bits_71 : decode cX11_bits 71 = .ok (.bipush 6, 2) := by decide +kernel
theorem dX11_bits_67 : decode cX11_bits 67 = .ok (.iconst 3, 1) := by decide +kernel
theorem dX11_bits_68 : decode cX11_bits 68 = .ok (.goto 5, 3) := by decide +kernel
theorem dX11_bits_54 : decode cX11_bits 54 = .ok (.iconst 2, 1) := by decide +kernel
theorem dX11_bits_55 : decode cX11_bits 55 = .ok (.goto 18, 3) := by decide +kernel
theorem dX11_bits_8 : decode cX11_bits 8 = .ok (.aload_n 0, 1) := by decide +kernel
theorem dX11_bits_9 : decode cX11_bits 9 = .ok (.getfield 378, 3) := by decide +kernel
theorem dX11_bits_12 : decode cX11_bits 12 = .ok (.bipush 6, 2) := by decide +kernel
theorem dX11_bits_14 : decode cX11_bits 14 = .ok (.if_icmp .ne 7, 3) := by decide +kernel
theorem dX11_bits_21 : decode cX11_bits 21 = .ok (.aload_n 0, 1) := by decide +kernel
theorem dX11_bits_22 : decode cX11_bits 22 = .ok (.getfield 378, 3) := by decide +kernel
theorem dX11_bits_25 : decode cX11_bits 25 = .ok (.bipush 7, 2) := by decide +kernel
theorem dX11_bits_27 : decode cX11_bits 27 = .ok (.if_icmp .ne 7, 3) := by decide +kernel
theorem dX11_bits_34 : decode cX11_bits 34 = .ok (.bipush 7, 2) := by decide +kernel
theorem dX11_bits_30 : decode cX11_bits 30 = .ok (.iconst 1, 1) := by decide +kernel
theorem dX11_bits_31 : decode cX11_bits 31 = .ok (.goto 5, 3) := by decide +kernel
theorem dX11_bits_17 : decode cX11_bits 17 = .ok (.iconst 0, 1) := by decide +kernel
theorem dX11_bits_18 : decode cX11_bits 18 = .ok (.goto 18, 3) := by decide +kernel
theorem dX11_bits_102 : decode cX11_bits 102 = .ok (.ireturn, 1) := by decide +kernel
theorem dX11_bits_73 : decode cX11_bits 73 = .ok (.ireturn, 1) := by decide +kernel
theorem dX11_bits_36 : decode cX11_bits 36 = .ok (.ireturn, 1) := by decide +kernel
theorem dX11_emitForm_0 : decode cX11_emitForm 0 = .ok (.aload_n 0, 1) := by decide +kernel
theorem dX11_emitForm_1 : decode cX11_emitForm 1 = .ok (.getfield 363, 3) := by decide +kernel
theorem dX11_emitForm_4 : decode cX11_emitForm 4 = .ok (.ifCond .ne 21, 3) := by decide +kernel
theorem dX11_emitForm_25 : decode cX11_emitForm 25 = .ok (.aload_n 0, 1) := by decide +kernel
theorem dX11_emitForm_26 : decode cX11_emitForm 26 = .ok (.invokevirtual 394, 3) := by decide +kernel
theorem dX11_emitForm_29 : decode cX11_emitForm 29 = .ok (.istore_n 2, 1) := by decide +kernel
theorem dX11_emitForm_30 : decode cX11_emitForm 30 = .ok (.aload_n 0, 1) := by decide +kernel
theorem dX11_emitForm_31 : decode cX11_emitForm 31 = .ok (.getfield 375, 3) := by decide +kernel
theorem dX11_emitForm_34 : decode cX11_emitForm 34 = .ok (.ifCond .ge 14, 3) := by decide +kernel
theorem dX11_emitForm_37 : decode cX11_emitForm 37 = .ok (.aload_n 0, 1) := by decide +kernel
theorem dX11_emitForm_38 : decode cX11_emitForm 38 = .ok (.getfield 378, 3) := by decide +kernel
theorem dX11_emitForm_41 : decode cX11_emitForm 41 = .ok (.ifCond .ge 7, 3) := by decide +kernel
theorem dX11_emitForm_44 : decode cX11_emitForm 44 = .ok (.iconst 1, 1) := by decide +kernel
theorem dX11_emitForm_45 : decode cX11_emitForm 45 = .ok (.goto 4, 3) := by decide +kernel
theorem dX11_emitForm_7 : decode cX11_emitForm 7 = .ok (.aload_n 0, 1) := by decide +kernel
theorem dX11_emitForm_8 : decode cX11_emitForm 8 = .ok (.sipush 192, 3) := by decide +kernel
theorem dX11_emitForm_11 : decode cX11_emitForm 11 = .ok (.bipush 8, 2) := by decide +kernel
theorem dX11_emitForm_13 : decode cX11_emitForm 13 = .ok (.iload_n 1, 1) := by decide +kernel
theorem dX11_emitForm_14 : decode cX11_emitForm 14 = .ok (.imul, 1) := by decide +kernel
theorem dX11_emitForm_15 : decode cX11_emitForm 15 = .ok (.iadd, 1) := by decide +kernel
theorem dX11_emitForm_16 : decode cX11_emitForm 16 = .ok (.aload_n 0, 1) := by decide +kernel
theorem dX11_emitForm_17 : decode cX11_emitForm 17 = .ok (.getfield 366, 3) := by decide +kernel
theorem dX11_emitForm_20 : decode cX11_emitForm 20 = .ok (.iadd, 1) := by decide +kernel
theorem dX11_emitForm_21 : decode cX11_emitForm 21 = .ok (.invokevirtual 354, 3) := by decide +kernel
theorem dX11_emitForm_24 : decode cX11_emitForm 24 = .ok (.return_, 1) := by decide +kernel
theorem dX11_emitForm_48 : decode cX11_emitForm 48 = .ok (.iconst 0, 1) := by decide +kernel
theorem dX11_emitForm_49 : decode cX11_emitForm 49 = .ok (.istore_n 3, 1) := by decide +kernel
theorem dX11_emitForm_50 : decode cX11_emitForm 50 = .ok (.aload_n 0, 1) := by decide +kernel
theorem dX11_emitForm_51 : decode cX11_emitForm 51 = .ok (.getfield 366, 3) := by decide +kernel
theorem dX11_emitForm_54 : decode cX11_emitForm 54 = .ok (.i2s, 1) := by decide +kernel
theorem dX11_emitForm_55 : decode cX11_emitForm 55 = .ok (.istore 4, 2) := by decide +kernel
theorem dX11_emitForm_57 : decode cX11_emitForm 57 = .ok (.iload_n 3, 1) := by decide +kernel
theorem dX11_emitForm_58 : decode cX11_emitForm 58 = .ok (.ifCond .ne 10, 3) := by decide +kernel
theorem dX11_emitForm_61 : decode cX11_emitForm 61 = .ok (.aload_n 0, 1) := by decide +kernel
theorem dX11_emitForm_62 : decode cX11_emitForm 62 = .ok (.getfield 369, 3) := by decide +kernel
theorem dX11_emitForm_65 : decode cX11_emitForm 65 = .ok (.ifCond .lt 63, 3) := by decide +kernel
theorem dX11_emitForm_128 : decode cX11_emitForm 128 = .ok (.iload 4, 2) := by decide +kernel
theorem dX11_emitForm_130 : decode cX11_emitForm 130 = .ok (.ifCond .ne 22, 3) := by decide +kernel
theorem dX11_emitForm_133 : decode cX11_emitForm 133 = .ok (.iload_n 2, 1) := by decide +kernel
theorem dX11_emitForm_134 : decode cX11_emitForm 134 = .ok (.bipush 6, 2) := by decide +kernel
theorem dX11_emitForm_136 : decode cX11_emitForm 136 = .ok (.if_icmp .eq 16, 3) := by decide +kernel
theorem dX11_emitForm_139 : decode cX11_emitForm 139 = .ok (.aload_n 0, 1) := by decide +kernel
theorem dX11_emitForm_140 : decode cX11_emitForm 140 = .ok (.bipush 8, 2) := by decide +kernel
theorem dX11_emitForm_142 : decode cX11_emitForm 142 = .ok (.iload_n 1, 1) := by decide +kernel
theorem dX11_emitForm_143 : decode cX11_emitForm 143 = .ok (.imul, 1) := by decide +kernel
theorem dX11_emitForm_144 : decode cX11_emitForm 144 = .ok (.iload_n 2, 1) := by decide +kernel
theorem dX11_emitForm_145 : decode cX11_emitForm 145 = .ok (.iadd, 1) := by decide +kernel
theorem dX11_emitForm_146 : decode cX11_emitForm 146 = .ok (.invokevirtual 354, 3) := by decide +kernel
theorem dX11_emitForm_149 : decode cX11_emitForm 149 = .ok (.goto 68, 3) := by decide +kernel
theorem dX11_emitForm_68 : decode cX11_emitForm 68 = .ok (.aload_n 0, 1) := by decide +kernel
theorem dX11_emitForm_69 : decode cX11_emitForm 69 = .ok (.iload_n 3, 1) := by decide +kernel
theorem dX11_emitForm_70 : decode cX11_emitForm 70 = .ok (.ifCond .eq 7, 3) := by decide +kernel
theorem dX11_emitForm_77 : decode cX11_emitForm 77 = .ok (.sipush 128, 3) := by decide +kernel
theorem dX11_emitForm_73 : decode cX11_emitForm 73 = .ok (.iconst 0, 1) := by decide +kernel
theorem dX11_emitForm_74 : decode cX11_emitForm 74 = .ok (.goto 6, 3) := by decide +kernel
theorem dX11_emitForm_152 : decode cX11_emitForm 152 = .ok (.iload 4, 2) := by decide +kernel
theorem dX11_emitForm_154 : decode cX11_emitForm 154 = .ok (.bipush (-128), 2) := by decide +kernel
theorem dX11_emitForm_156 : decode cX11_emitForm 156 = .ok (.if_icmp .lt 36, 3) := by decide +kernel
theorem dX11_emitForm_159 : decode cX11_emitForm 159 = .ok (.iload 4, 2) := by decide +kernel
theorem dX11_emitForm_161 : decode cX11_emitForm 161 = .ok (.bipush 127, 2) := by decide +kernel
theorem dX11_emitForm_163 : decode cX11_emitForm 163 = .ok (.if_icmp .gt 29, 3) := by decide +kernel
theorem dX11_emitForm_166 : decode cX11_emitForm 166 = .ok (.aload_n 0, 1) := by decide +kernel
theorem dX11_emitForm_167 : decode cX11_emitForm 167 = .ok (.bipush 64, 2) := by decide +kernel
theorem dX11_emitForm_169 : decode cX11_emitForm 169 = .ok (.bipush 8, 2) := by decide +kernel
theorem dX11_emitForm_171 : decode cX11_emitForm 171 = .ok (.iload_n 1, 1) := by decide +kernel
theorem dX11_emitForm_172 : decode cX11_emitForm 172 = .ok (.imul, 1) := by decide +kernel
theorem dX11_emitForm_173 : decode cX11_emitForm 173 = .ok (.iadd, 1) := by decide +kernel
theorem dX11_emitForm_174 : decode cX11_emitForm 174 = .ok (.iload_n 2, 1) := by decide +kernel
theorem dX11_emitForm_175 : decode cX11_emitForm 175 = .ok (.iadd, 1) := by decide +kernel
theorem dX11_emitForm_176 : decode cX11_emitForm 176 = .ok (.invokevirtual 354, 3) := by decide +kernel
theorem dX11_emitForm_179 : decode cX11_emitForm 179 = .ok (.aload_n 0, 1) := by decide +kernel
theorem dX11_emitForm_180 : decode cX11_emitForm 180 = .ok (.iload 4, 2) := by decide +kernel
theorem dX11_emitForm_182 : decode cX11_emitForm 182 = .ok (.sipush 255, 3) := by decide +kernel
theorem dX11_emitForm_185 : decode cX11_emitForm 185 = .ok (.iand, 1) := by decide +kernel
theorem dX11_emitForm_186 : decode cX11_emitForm 186 = .ok (.invokevirtual 354, 3) := by decide +kernel
theorem dX11_emitForm_189 : decode cX11_emitForm 189 = .ok (.goto 28, 3) := by decide +kernel
theorem dX11_emitForm_217 : decode cX11_emitForm 217 = .ok (.return_, 1) := by decide +kernel
theorem dX11_emitForm_80 : decode cX11_emitForm 80 = .ok (.bipush 8, 2) := by decide +kernel
theorem dX11_emitForm_82 : decode cX11_emitForm 82 = .ok (.iload_n 1, 1) := by decide +kernel
theorem dX11_emitForm_83 : decode cX11_emitForm 83 = .ok (.imul, 1) := by decide +kernel
theorem dX11_emitForm_84 : decode cX11_emitForm 84 = .ok (.iadd, 1) := by decide +kernel
theorem dX11_emitForm_85 : decode cX11_emitForm 85 = .ok (.iload_n 2, 1) := by decide +kernel
theorem dX11_emitForm_86 : decode cX11_emitForm 86 = .ok (.iadd, 1) := by decide +kernel
theorem dX11_emitForm_87 : decode cX11_emitForm 87 = .ok (.invokevirtual 354, 3) := by decide +kernel
theorem dX11_emitForm_90 : decode cX11_emitForm 90 = .ok (.aload_n 0, 1) := by decide +kernel
theorem dX11_emitForm_91 : decode cX11_emitForm 91 = .ok (.getfield 369, 3) := by decide +kernel
theorem dX11_emitForm_94 : decode cX11_emitForm 94 = .ok (.ifCond .lt 20, 3) := by decide +kernel
theorem dX11_emitForm_114 : decode cX11_emitForm 114 = .ok (.aload_n 0, 1) := by decide +kernel
theorem dX11_emitForm_115 : decode cX11_emitForm 115 = .ok (.iconst 1, 1) := by decide +kernel
theorem dX11_emitForm_116 : decode cX11_emitForm 116 = .ok (.aload_n 0, 1) := by decide +kernel
theorem dX11_emitForm_117 : decode cX11_emitForm 117 = .ok (.getfield 366, 3) := by decide +kernel
theorem dX11_emitForm_120 : decode cX11_emitForm 120 = .ok (.iconst 0, 1) := by decide +kernel
theorem dX11_emitForm_121 : decode cX11_emitForm 121 = .ok (.iconst 0, 1) := by decide +kernel
theorem dX11_emitForm_122 : decode cX11_emitForm 122 = .ok (.invokevirtual 327, 3) := by decide +kernel
theorem dX11_emitForm_125 : decode cX11_emitForm 125 = .ok (.goto 92, 3) := by decide +kernel
theorem dX11_emitForm_97 : decode cX11_emitForm 97 = .ok (.aload_n 0, 1) := by decide +kernel
theorem dX11_emitForm_98 : decode cX11_emitForm 98 = .ok (.iconst 2, 1) := by decide +kernel
theorem dX11_emitForm_99 : decode cX11_emitForm 99 = .ok (.aload_n 0, 1) := by decide +kernel
theorem dX11_emitForm_100 : decode cX11_emitForm 100 = .ok (.getfield 369, 3) := by decide +kernel
theorem dX11_emitForm_103 : decode cX11_emitForm 103 = .ok (.aload_n 0, 1) := by decide +kernel
theorem dX11_emitForm_104 : decode cX11_emitForm 104 = .ok (.getfield 366, 3) := by decide +kernel
theorem dX11_emitForm_107 : decode cX11_emitForm 107 = .ok (.iconst 0, 1) := by decide +kernel
theorem dX11_emitForm_108 : decode cX11_emitForm 108 = .ok (.invokevirtual 327, 3) := by decide +kernel
theorem dX11_emitForm_111 : decode cX11_emitForm 111 = .ok (.goto 106, 3) := by decide +kernel
theorem dX11_emitForm_192 : decode cX11_emitForm 192 = .ok (.aload_n 0, 1) := by decide +kernel
theorem dX11_emitForm_193 : decode cX11_emitForm 193 = .ok (.sipush 128, 3) := by decide +kernel
theorem dX11_emitForm_196 : decode cX11_emitForm 196 = .ok (.bipush 8, 2) := by decide +kernel
theorem dX11_emitForm_198 : decode cX11_emitForm 198 = .ok (.iload_n 1, 1) := by decide +kernel
theorem dX11_emitForm_199 : decode cX11_emitForm 199 = .ok (.imul, 1) := by decide +kernel
theorem dX11_emitForm_200 : decode cX11_emitForm 200 = .ok (.iadd, 1) := by decide +kernel
theorem dX11_emitForm_201 : decode cX11_emitForm 201 = .ok (.iload_n 2, 1) := by decide +kernel
theorem dX11_emitForm_202 : decode cX11_emitForm 202 = .ok (.iadd, 1) := by decide +kernel
theorem dX11_emitForm_203 : decode cX11_emitForm 203 = .ok (.invokevirtual 354, 3) := by decide +kernel
theorem dX11_emitForm_206 : decode cX11_emitForm 206 = .ok (.aload_n 0, 1) := by decide +kernel
theorem dX11_emitForm_207 : decode cX11_emitForm 207 = .ok (.iconst 1, 1) := by decide +kernel
theorem dX11_emitForm_208 : decode cX11_emitForm 208 = .ok (.aload_n 0, 1) := by decide +kernel
theorem dX11_emitForm_209 : decode cX11_emitForm 209 = .ok (.getfield 366, 3) := by decide +kernel
theorem dX11_emitForm_212 : decode cX11_emitForm 212 = .ok (.iconst 0, 1) := by decide +kernel
theorem dX11_emitForm_213 : decode cX11_emitForm 213 = .ok (.iconst 0, 1) := by decide +kernel
theorem dX11_emitForm_214 : decode cX11_emitForm 214 = .ok (.invokevirtual 327, 3) := by decide +kernel
theorem dX11_movTo_0 : decode cX11_movTo 0 = .ok (.aload_n 0, 1) := by decide +kernel
theorem dX11_movTo_1 : decode cX11_movTo 1 = .ok (.bipush 44, 2) := by decide +kernel
theorem dX11_movTo_3 : decode cX11_movTo 3 = .ok (.invokevirtual 384, 3) := by decide +kernel
theorem dX11_movTo_6 : decode cX11_movTo 6 = .ok (.ifCond .eq 22, 3) := by decide +kernel
theorem dX11_movTo_9 : decode cX11_movTo 9 = .ok (.aload_n 0, 1) := by decide +kernel
theorem dX11_movTo_10 : decode cX11_movTo 10 = .ok (.iload_n 1, 1) := by decide +kernel
theorem dX11_movTo_11 : decode cX11_movTo 11 = .ok (.iconst 1, 1) := by decide +kernel
theorem dX11_movTo_12 : decode cX11_movTo 12 = .ok (.if_icmp .ne 8, 3) := by decide +kernel
theorem dX11_movTo_20 : decode cX11_movTo 20 = .ok (.bipush 27, 2) := by decide +kernel
theorem dX11_movTo_15 : decode cX11_movTo 15 = .ok (.bipush 9, 2) := by decide +kernel
theorem dX11_movTo_17 : decode cX11_movTo 17 = .ok (.goto 5, 3) := by decide +kernel
theorem dX11_movTo_28 : decode cX11_movTo 28 = .ok (.iconst 0, 1) := by decide +kernel
theorem dX11_movTo_29 : decode cX11_movTo 29 = .ok (.ireturn, 1) := by decide +kernel
theorem dX11_movTo_22 : decode cX11_movTo 22 = .ok (.invokevirtual 397, 3) := by decide +kernel
theorem dX11_movTo_25 : decode cX11_movTo 25 = .ok (.ifCond .ne 5, 3) := by decide +kernel
theorem dX11_movTo_30 : decode cX11_movTo 30 = .ok (.iload_n 1, 1) := by decide +kernel
theorem dX11_movTo_31 : decode cX11_movTo 31 = .ok (.iconst 1, 1) := by decide +kernel
theorem dX11_movTo_32 : decode cX11_movTo 32 = .ok (.if_icmp .ne 18, 3) := by decide +kernel
theorem dX11_movTo_50 : decode cX11_movTo 50 = .ok (.aload_n 0, 1) := by decide +kernel
theorem dX11_movTo_51 : decode cX11_movTo 51 = .ok (.getfield 363, 3) := by decide +kernel
theorem dX11_movTo_54 : decode cX11_movTo 54 = .ok (.iconst 1, 1) := by decide +kernel
theorem dX11_movTo_55 : decode cX11_movTo 55 = .ok (.if_icmp .ne 30, 3) := by decide +kernel
theorem dX11_movTo_85 : decode cX11_movTo 85 = .ok (.aload_n 0, 1) := by decide +kernel
theorem dX11_movTo_86 : decode cX11_movTo 86 = .ok (.getfield 363, 3) := by decide +kernel
theorem dX11_movTo_89 : decode cX11_movTo 89 = .ok (.iconst 2, 1) := by decide +kernel
theorem dX11_movTo_90 : decode cX11_movTo 90 = .ok (.if_icmp .le 19, 3) := by decide +kernel
theorem dX11_movTo_109 : decode cX11_movTo 109 = .ok (.aload_n 0, 1) := by decide +kernel
theorem dX11_movTo_110 : decode cX11_movTo 110 = .ok (.sipush 139, 3) := by decide +kernel
theorem dX11_movTo_113 : decode cX11_movTo 113 = .ok (.invokevirtual 354, 3) := by decide +kernel
theorem dX11_movTo_116 : decode cX11_movTo 116 = .ok (.aload_n 0, 1) := by decide +kernel
theorem dX11_movTo_117 : decode cX11_movTo 117 = .ok (.iload_n 2, 1) := by decide +kernel
theorem dX11_movTo_118 : decode cX11_movTo 118 = .ok (.invokevirtual 402, 3) := by decide +kernel
theorem dX11_movTo_93 : decode cX11_movTo 93 = .ok (.aload_n 0, 1) := by decide +kernel
theorem dX11_movTo_94 : decode cX11_movTo 94 = .ok (.sipush 184, 3) := by decide +kernel
theorem dX11_movTo_97 : decode cX11_movTo 97 = .ok (.iload_n 2, 1) := by decide +kernel
theorem dX11_movTo_98 : decode cX11_movTo 98 = .ok (.iadd, 1) := by decide +kernel
theorem dX11_movTo_99 : decode cX11_movTo 99 = .ok (.invokevirtual 354, 3) := by decide +kernel
theorem dX11_movTo_102 : decode cX11_movTo 102 = .ok (.aload_n 0, 1) := by decide +kernel
theorem dX11_movTo_103 : decode cX11_movTo 103 = .ok (.invokevirtual 360, 3) := by decide +kernel
theorem dX11_movTo_106 : decode cX11_movTo 106 = .ok (.goto 15, 3) := by decide +kernel
theorem dX11_movTo_58 : decode cX11_movTo 58 = .ok (.aload_n 0, 1) := by decide +kernel
theorem dX11_movTo_59 : decode cX11_movTo 59 = .ok (.sipush 140, 3) := by decide +kernel
theorem dX11_movTo_62 : decode cX11_movTo 62 = .ok (.invokevirtual 354, 3) := by decide +kernel
theorem dX11_movTo_65 : decode cX11_movTo 65 = .ok (.aload_n 0, 1) := by decide +kernel
theorem dX11_movTo_66 : decode cX11_movTo 66 = .ok (.sipush 192, 3) := by decide +kernel
theorem dX11_movTo_69 : decode cX11_movTo 69 = .ok (.bipush 8, 2) := by decide +kernel
theorem dX11_movTo_71 : decode cX11_movTo 71 = .ok (.aload_n 0, 1) := by decide +kernel
theorem dX11_movTo_72 : decode cX11_movTo 72 = .ok (.getfield 366, 3) := by decide +kernel
theorem dX11_movTo_75 : decode cX11_movTo 75 = .ok (.imul, 1) := by decide +kernel
theorem dX11_movTo_76 : decode cX11_movTo 76 = .ok (.iadd, 1) := by decide +kernel
theorem dX11_movTo_77 : decode cX11_movTo 77 = .ok (.iload_n 2, 1) := by decide +kernel
theorem dX11_movTo_78 : decode cX11_movTo 78 = .ok (.iadd, 1) := by decide +kernel
theorem dX11_movTo_79 : decode cX11_movTo 79 = .ok (.invokevirtual 354, 3) := by decide +kernel
theorem dX11_movTo_82 : decode cX11_movTo 82 = .ok (.goto 39, 3) := by decide +kernel
theorem dX11_movTo_35 : decode cX11_movTo 35 = .ok (.aload_n 0, 1) := by decide +kernel
theorem dX11_movTo_36 : decode cX11_movTo 36 = .ok (.sipush 142, 3) := by decide +kernel
theorem dX11_movTo_39 : decode cX11_movTo 39 = .ok (.invokevirtual 354, 3) := by decide +kernel
theorem dX11_movTo_42 : decode cX11_movTo 42 = .ok (.aload_n 0, 1) := by decide +kernel
theorem dX11_movTo_43 : decode cX11_movTo 43 = .ok (.iload_n 2, 1) := by decide +kernel
theorem dX11_movTo_44 : decode cX11_movTo 44 = .ok (.invokevirtual 402, 3) := by decide +kernel
theorem dX11_movTo_47 : decode cX11_movTo 47 = .ok (.goto 74, 3) := by decide +kernel
theorem dX11_movTo_121 : decode cX11_movTo 121 = .ok (.iconst 1, 1) := by decide +kernel
theorem dX11_movTo_122 : decode cX11_movTo 122 = .ok (.ireturn, 1) := by decide +kernel
theorem dX11_mov_0 : decode cX11_mov 0 = .ok (.aload_n 0, 1) := by decide +kernel
theorem dX11_mov_1 : decode cX11_mov 1 = .ok (.bipush 13, 2) := by decide +kernel
theorem dX11_mov_3 : decode cX11_mov 3 = .ok (.invokevirtual 397, 3) := by decide +kernel
theorem dX11_mov_6 : decode cX11_mov 6 = .ok (.ifCond .ne 5, 3) := by decide +kernel
theorem dX11_mov_11 : decode cX11_mov 11 = .ok (.aload_n 0, 1) := by decide +kernel
theorem dX11_mov_12 : decode cX11_mov 12 = .ok (.getfield 363, 3) := by decide +kernel
theorem dX11_mov_15 : decode cX11_mov 15 = .ok (.istore_n 1, 1) := by decide +kernel
theorem dX11_mov_16 : decode cX11_mov 16 = .ok (.aload_n 0, 1) := by decide +kernel
theorem dX11_mov_17 : decode cX11_mov 17 = .ok (.getfield 366, 3) := by decide +kernel
theorem dX11_mov_20 : decode cX11_mov 20 = .ok (.istore_n 2, 1) := by decide +kernel
theorem dX11_mov_21 : decode cX11_mov 21 = .ok (.iload_n 1, 1) := by decide +kernel
theorem dX11_mov_22 : decode cX11_mov 22 = .ok (.iconst 2, 1) := by decide +kernel
theorem dX11_mov_23 : decode cX11_mov 23 = .ok (.if_icmp .eq 10, 3) := by decide +kernel
theorem dX11_mov_33 : decode cX11_mov 33 = .ok (.aload_n 0, 1) := by decide +kernel
theorem dX11_mov_34 : decode cX11_mov 34 = .ok (.getfield 324, 3) := by decide +kernel
theorem dX11_mov_37 : decode cX11_mov 37 = .ok (.istore_n 3, 1) := by decide +kernel
theorem dX11_mov_38 : decode cX11_mov 38 = .ok (.aload_n 0, 1) := by decide +kernel
theorem dX11_mov_39 : decode cX11_mov 39 = .ok (.getfield 369, 3) := by decide +kernel
theorem dX11_mov_42 : decode cX11_mov 42 = .ok (.istore 4, 2) := by decide +kernel
theorem dX11_mov_44 : decode cX11_mov 44 = .ok (.aload_n 0, 1) := by decide +kernel
theorem dX11_mov_45 : decode cX11_mov 45 = .ok (.getfield 375, 3) := by decide +kernel
theorem dX11_mov_48 : decode cX11_mov 48 = .ok (.istore 5, 2) := by decide +kernel
theorem dX11_mov_50 : decode cX11_mov 50 = .ok (.aload_n 0, 1) := by decide +kernel
theorem dX11_mov_51 : decode cX11_mov 51 = .ok (.getfield 378, 3) := by decide +kernel
theorem dX11_mov_54 : decode cX11_mov 54 = .ok (.istore 6, 2) := by decide +kernel
theorem dX11_mov_56 : decode cX11_mov 56 = .ok (.aload_n 0, 1) := by decide +kernel
theorem dX11_mov_57 : decode cX11_mov 57 = .ok (.bipush 44, 2) := by decide +kernel
theorem dX11_mov_59 : decode cX11_mov 59 = .ok (.invokevirtual 384, 3) := by decide +kernel
theorem dX11_mov_62 : decode cX11_mov 62 = .ok (.ifCond .eq 12, 3) := by decide +kernel
theorem dX11_mov_65 : decode cX11_mov 65 = .ok (.aload_n 0, 1) := by decide +kernel
theorem dX11_mov_66 : decode cX11_mov 66 = .ok (.bipush 19, 2) := by decide +kernel
theorem dX11_mov_68 : decode cX11_mov 68 = .ok (.invokevirtual 397, 3) := by decide +kernel
theorem dX11_mov_71 : decode cX11_mov 71 = .ok (.ifCond .ne 5, 3) := by decide +kernel
theorem dX11_mov_76 : decode cX11_mov 76 = .ok (.aload_n 0, 1) := by decide +kernel
theorem dX11_mov_77 : decode cX11_mov 77 = .ok (.getfield 363, 3) := by decide +kernel
theorem dX11_mov_80 : decode cX11_mov 80 = .ok (.istore 7, 2) := by decide +kernel
theorem dX11_mov_82 : decode cX11_mov 82 = .ok (.aload_n 0, 1) := by decide +kernel
theorem dX11_mov_83 : decode cX11_mov 83 = .ok (.getfield 366, 3) := by decide +kernel
theorem dX11_mov_86 : decode cX11_mov 86 = .ok (.istore 8, 2) := by decide +kernel
theorem dX11_mov_88 : decode cX11_mov 88 = .ok (.aload_n 0, 1) := by decide +kernel
theorem dX11_mov_89 : decode cX11_mov 89 = .ok (.getfield 369, 3) := by decide +kernel
theorem dX11_mov_92 : decode cX11_mov 92 = .ok (.istore 9, 2) := by decide +kernel
theorem dX11_mov_94 : decode cX11_mov 94 = .ok (.aload_n 0, 1) := by decide +kernel
theorem dX11_mov_95 : decode cX11_mov 95 = .ok (.iconst 2, 1) := by decide +kernel
theorem dX11_mov_96 : decode cX11_mov 96 = .ok (.putfield 363, 3) := by decide +kernel
theorem dX11_mov_99 : decode cX11_mov 99 = .ok (.aload_n 0, 1) := by decide +kernel
theorem dX11_mov_100 : decode cX11_mov 100 = .ok (.iload_n 2, 1) := by decide +kernel
theorem dX11_mov_101 : decode cX11_mov 101 = .ok (.putfield 366, 3) := by decide +kernel
theorem dX11_mov_104 : decode cX11_mov 104 = .ok (.aload_n 0, 1) := by decide +kernel
theorem dX11_mov_105 : decode cX11_mov 105 = .ok (.iload 4, 2) := by decide +kernel
theorem dX11_mov_107 : decode cX11_mov 107 = .ok (.putfield 369, 3) := by decide +kernel
theorem dX11_mov_110 : decode cX11_mov 110 = .ok (.aload_n 0, 1) := by decide +kernel
theorem dX11_mov_111 : decode cX11_mov 111 = .ok (.iload 5, 2) := by decide +kernel
theorem dX11_mov_113 : decode cX11_mov 113 = .ok (.putfield 375, 3) := by decide +kernel
theorem dX11_mov_116 : decode cX11_mov 116 = .ok (.aload_n 0, 1) := by decide +kernel
theorem dX11_mov_117 : decode cX11_mov 117 = .ok (.iload 6, 2) := by decide +kernel
theorem dX11_mov_119 : decode cX11_mov 119 = .ok (.putfield 378, 3) := by decide +kernel
theorem dX11_mov_122 : decode cX11_mov 122 = .ok (.aload_n 0, 1) := by decide +kernel
theorem dX11_mov_123 : decode cX11_mov 123 = .ok (.iload 7, 2) := by decide +kernel
theorem dX11_mov_125 : decode cX11_mov 125 = .ok (.ifCond .ne 9, 3) := by decide +kernel
theorem dX11_mov_134 : decode cX11_mov 134 = .ok (.iload 7, 2) := by decide +kernel
theorem dX11_mov_136 : decode cX11_mov 136 = .ok (.iconst 1, 1) := by decide +kernel
theorem dX11_mov_137 : decode cX11_mov 137 = .ok (.if_icmp .ne 9, 3) := by decide +kernel
theorem dX11_mov_146 : decode cX11_mov 146 = .ok (.sipush 199, 3) := by decide +kernel
theorem dX11_mov_140 : decode cX11_mov 140 = .ok (.sipush 140, 3) := by decide +kernel
theorem dX11_mov_143 : decode cX11_mov 143 = .ok (.goto 6, 3) := by decide +kernel
theorem dX11_mov_128 : decode cX11_mov 128 = .ok (.sipush 137, 3) := by decide +kernel
theorem dX11_mov_131 : decode cX11_mov 131 = .ok (.goto 18, 3) := by decide +kernel
theorem dX11_mov_26 : decode cX11_mov 26 = .ok (.aload_n 0, 1) := by decide +kernel
theorem dX11_mov_27 : decode cX11_mov 27 = .ok (.iload_n 1, 1) := by decide +kernel
theorem dX11_mov_28 : decode cX11_mov 28 = .ok (.iload_n 2, 1) := by decide +kernel
theorem dX11_mov_29 : decode cX11_mov 29 = .ok (.invokevirtual 399, 3) := by decide +kernel
theorem dX11_mov_32 : decode cX11_mov 32 = .ok (.ireturn, 1) := by decide +kernel
theorem dX11_mov_9 : decode cX11_mov 9 = .ok (.iconst 0, 1) := by decide +kernel
theorem dX11_mov_10 : decode cX11_mov 10 = .ok (.ireturn, 1) := by decide +kernel
theorem dX11_mov_74 : decode cX11_mov 74 = .ok (.iconst 0, 1) := by decide +kernel
theorem dX11_mov_75 : decode cX11_mov 75 = .ok (.ireturn, 1) := by decide +kernel
theorem dX11_mov_149 : decode cX11_mov 149 = .ok (.invokevirtual 354, 3) := by decide +kernel
theorem dX11_mov_152 : decode cX11_mov 152 = .ok (.aload_n 0, 1) := by decide +kernel
theorem dX11_mov_153 : decode cX11_mov 153 = .ok (.iload 7, 2) := by decide +kernel
theorem dX11_mov_155 : decode cX11_mov 155 = .ok (.iconst 2, 1) := by decide +kernel
theorem dX11_mov_156 : decode cX11_mov 156 = .ok (.if_icmp .ge 8, 3) := by decide +kernel
theorem dX11_mov_164 : decode cX11_mov 164 = .ok (.iconst 0, 1) := by decide +kernel
theorem dX11_mov_159 : decode cX11_mov 159 = .ok (.iload 8, 2) := by decide +kernel
theorem dX11_mov_161 : decode cX11_mov 161 = .ok (.goto 4, 3) := by decide +kernel
theorem dX11_mov_165 : decode cX11_mov 165 = .ok (.invokevirtual 402, 3) := by decide +kernel
theorem dX11_mov_168 : decode cX11_mov 168 = .ok (.aload_n 0, 1) := by decide +kernel
theorem dX11_mov_169 : decode cX11_mov 169 = .ok (.iload 7, 2) := by decide +kernel
theorem dX11_mov_171 : decode cX11_mov 171 = .ok (.putfield 363, 3) := by decide +kernel
theorem dX11_mov_174 : decode cX11_mov 174 = .ok (.aload_n 0, 1) := by decide +kernel
theorem dX11_mov_175 : decode cX11_mov 175 = .ok (.iload 8, 2) := by decide +kernel
theorem dX11_mov_177 : decode cX11_mov 177 = .ok (.putfield 366, 3) := by decide +kernel
theorem dX11_mov_180 : decode cX11_mov 180 = .ok (.aload_n 0, 1) := by decide +kernel
theorem dX11_mov_181 : decode cX11_mov 181 = .ok (.iload 9, 2) := by decide +kernel
theorem dX11_mov_183 : decode cX11_mov 183 = .ok (.putfield 369, 3) := by decide +kernel
theorem dX11_mov_186 : decode cX11_mov 186 = .ok (.iload 7, 2) := by decide +kernel
theorem dX11_mov_188 : decode cX11_mov 188 = .ok (.iconst 2, 1) := by decide +kernel
theorem dX11_mov_189 : decode cX11_mov 189 = .ok (.if_icmp .le 7, 3) := by decide +kernel
theorem dX11_mov_192 : decode cX11_mov 192 = .ok (.aload_n 0, 1) := by decide +kernel
theorem dX11_mov_193 : decode cX11_mov 193 = .ok (.invokevirtual 360, 3) := by decide +kernel
theorem dX11_mov_196 : decode cX11_mov 196 = .ok (.iload_n 3, 1) := by decide +kernel
theorem dX11_mov_197 : decode cX11_mov 197 = .ok (.aload_n 0, 1) := by decide +kernel
theorem dX11_mov_198 : decode cX11_mov 198 = .ok (.getfield 324, 3) := by decide +kernel
theorem dX11_mov_201 : decode cX11_mov 201 = .ok (.if_icmp .ge 7, 3) := by decide +kernel
theorem dX11_mov_208 : decode cX11_mov 208 = .ok (.iconst 0, 1) := by decide +kernel
theorem dX11_mov_204 : decode cX11_mov 204 = .ok (.iconst 1, 1) := by decide +kernel
theorem dX11_mov_205 : decode cX11_mov 205 = .ok (.goto 4, 3) := by decide +kernel
theorem dX11_mov_209 : decode cX11_mov 209 = .ok (.ireturn, 1) := by decide +kernel
theorem dX11_reckon_0 : decode cX11_reckon 0 = .ok (.aload_n 0, 1) := by decide +kernel
theorem dX11_reckon_1 : decode cX11_reckon 1 = .ok (.bipush 9, 2) := by decide +kernel
theorem dX11_reckon_3 : decode cX11_reckon 3 = .ok (.invokevirtual 397, 3) := by decide +kernel
theorem dX11_reckon_6 : decode cX11_reckon 6 = .ok (.ifCond .ne 5, 3) := by decide +kernel
theorem dX11_reckon_11 : decode cX11_reckon 11 = .ok (.aload_n 0, 1) := by decide +kernel
theorem dX11_reckon_12 : decode cX11_reckon 12 = .ok (.getfield 363, 3) := by decide +kernel
theorem dX11_reckon_15 : decode cX11_reckon 15 = .ok (.istore_n 2, 1) := by decide +kernel
theorem dX11_reckon_16 : decode cX11_reckon 16 = .ok (.aload_n 0, 1) := by decide +kernel
theorem dX11_reckon_17 : decode cX11_reckon 17 = .ok (.getfield 366, 3) := by decide +kernel
theorem dX11_reckon_20 : decode cX11_reckon 20 = .ok (.istore_n 3, 1) := by decide +kernel
theorem dX11_reckon_21 : decode cX11_reckon 21 = .ok (.aload_n 0, 1) := by decide +kernel
theorem dX11_reckon_22 : decode cX11_reckon 22 = .ok (.getfield 369, 3) := by decide +kernel
theorem dX11_reckon_25 : decode cX11_reckon 25 = .ok (.istore 4, 2) := by decide +kernel
theorem dX11_reckon_27 : decode cX11_reckon 27 = .ok (.aload_n 0, 1) := by decide +kernel
theorem dX11_reckon_28 : decode cX11_reckon 28 = .ok (.getfield 375, 3) := by decide +kernel
theorem dX11_reckon_31 : decode cX11_reckon 31 = .ok (.istore 5, 2) := by decide +kernel
theorem dX11_reckon_33 : decode cX11_reckon 33 = .ok (.aload_n 0, 1) := by decide +kernel
theorem dX11_reckon_34 : decode cX11_reckon 34 = .ok (.getfield 378, 3) := by decide +kernel
theorem dX11_reckon_37 : decode cX11_reckon 37 = .ok (.istore 6, 2) := by decide +kernel
theorem dX11_reckon_39 : decode cX11_reckon 39 = .ok (.aload_n 0, 1) := by decide +kernel
theorem dX11_reckon_40 : decode cX11_reckon 40 = .ok (.bipush 44, 2) := by decide +kernel
theorem dX11_reckon_42 : decode cX11_reckon 42 = .ok (.invokevirtual 384, 3) := by decide +kernel
theorem dX11_reckon_45 : decode cX11_reckon 45 = .ok (.ifCond .eq 21, 3) := by decide +kernel
theorem dX11_reckon_48 : decode cX11_reckon 48 = .ok (.aload_n 0, 1) := by decide +kernel
theorem dX11_reckon_49 : decode cX11_reckon 49 = .ok (.iload_n 2, 1) := by decide +kernel
theorem dX11_reckon_50 : decode cX11_reckon 50 = .ok (.ifCond .ne 8, 3) := by decide +kernel
theorem dX11_reckon_58 : decode cX11_reckon 58 = .ok (.bipush 17, 2) := by decide +kernel
theorem dX11_reckon_53 : decode cX11_reckon 53 = .ok (.bipush 25, 2) := by decide +kernel
theorem dX11_reckon_55 : decode cX11_reckon 55 = .ok (.goto 5, 3) := by decide +kernel
theorem dX11_reckon_9 : decode cX11_reckon 9 = .ok (.iconst 0, 1) := by decide +kernel
theorem dX11_reckon_10 : decode cX11_reckon 10 = .ok (.ireturn, 1) := by decide +kernel
theorem dX11_reckon_66 : decode cX11_reckon 66 = .ok (.iconst 0, 1) := by decide +kernel
theorem dX11_reckon_67 : decode cX11_reckon 67 = .ok (.ireturn, 1) := by decide +kernel
theorem dX11_reckon_60 : decode cX11_reckon 60 = .ok (.invokevirtual 397, 3) := by decide +kernel
theorem dX11_reckon_63 : decode cX11_reckon 63 = .ok (.ifCond .ne 5, 3) := by decide +kernel
theorem dX11_reckon_68 : decode cX11_reckon 68 = .ok (.aload_n 0, 1) := by decide +kernel
theorem dX11_reckon_69 : decode cX11_reckon 69 = .ok (.getfield 363, 3) := by decide +kernel
theorem dX11_reckon_72 : decode cX11_reckon 72 = .ok (.istore 7, 2) := by decide +kernel
theorem dX11_reckon_74 : decode cX11_reckon 74 = .ok (.aload_n 0, 1) := by decide +kernel
theorem dX11_reckon_75 : decode cX11_reckon 75 = .ok (.getfield 366, 3) := by decide +kernel
theorem dX11_reckon_78 : decode cX11_reckon 78 = .ok (.istore 8, 2) := by decide +kernel
theorem dX11_reckon_80 : decode cX11_reckon 80 = .ok (.aload_n 0, 1) := by decide +kernel
theorem dX11_reckon_81 : decode cX11_reckon 81 = .ok (.getfield 369, 3) := by decide +kernel
theorem dX11_reckon_84 : decode cX11_reckon 84 = .ok (.istore 9, 2) := by decide +kernel
theorem dX11_reckon_86 : decode cX11_reckon 86 = .ok (.iload_n 2, 1) := by decide +kernel
theorem dX11_reckon_87 : decode cX11_reckon 87 = .ok (.ifCond .ne 31, 3) := by decide +kernel
theorem dX11_reckon_90 : decode cX11_reckon 90 = .ok (.iload 7, 2) := by decide +kernel
theorem dX11_reckon_92 : decode cX11_reckon 92 = .ok (.ifCond .eq 9, 3) := by decide +kernel
theorem dX11_reckon_95 : decode cX11_reckon 95 = .ok (.iload 7, 2) := by decide +kernel
theorem dX11_reckon_97 : decode cX11_reckon 97 = .ok (.iconst 2, 1) := by decide +kernel
theorem dX11_reckon_98 : decode cX11_reckon 98 = .ok (.if_icmp .ne 20, 3) := by decide +kernel
theorem dX11_reckon_118 : decode cX11_reckon 118 = .ok (.aload_n 0, 1) := by decide +kernel
theorem dX11_reckon_119 : decode cX11_reckon 119 = .ok (.iload_n 2, 1) := by decide +kernel
theorem dX11_reckon_120 : decode cX11_reckon 120 = .ok (.putfield 363, 3) := by decide +kernel
theorem dX11_reckon_123 : decode cX11_reckon 123 = .ok (.aload_n 0, 1) := by decide +kernel
theorem dX11_reckon_124 : decode cX11_reckon 124 = .ok (.iload_n 3, 1) := by decide +kernel
theorem dX11_reckon_125 : decode cX11_reckon 125 = .ok (.putfield 366, 3) := by decide +kernel
theorem dX11_reckon_128 : decode cX11_reckon 128 = .ok (.aload_n 0, 1) := by decide +kernel
theorem dX11_reckon_129 : decode cX11_reckon 129 = .ok (.iload 4, 2) := by decide +kernel
theorem dX11_reckon_131 : decode cX11_reckon 131 = .ok (.putfield 369, 3) := by decide +kernel
theorem dX11_reckon_134 : decode cX11_reckon 134 = .ok (.aload_n 0, 1) := by decide +kernel
theorem dX11_reckon_135 : decode cX11_reckon 135 = .ok (.iload 5, 2) := by decide +kernel
theorem dX11_reckon_137 : decode cX11_reckon 137 = .ok (.putfield 375, 3) := by decide +kernel
theorem dX11_reckon_140 : decode cX11_reckon 140 = .ok (.aload_n 0, 1) := by decide +kernel
theorem dX11_reckon_141 : decode cX11_reckon 141 = .ok (.iload 6, 2) := by decide +kernel
theorem dX11_reckon_143 : decode cX11_reckon 143 = .ok (.putfield 378, 3) := by decide +kernel
theorem dX11_reckon_146 : decode cX11_reckon 146 = .ok (.aload_n 0, 1) := by decide +kernel
theorem dX11_reckon_147 : decode cX11_reckon 147 = .ok (.iload 7, 2) := by decide +kernel
theorem dX11_reckon_149 : decode cX11_reckon 149 = .ok (.ifCond .ne 12, 3) := by decide +kernel
theorem dX11_reckon_161 : decode cX11_reckon 161 = .ok (.sipush 129, 3) := by decide +kernel
theorem dX11_reckon_152 : decode cX11_reckon 152 = .ok (.bipush 8, 2) := by decide +kernel
theorem dX11_reckon_154 : decode cX11_reckon 154 = .ok (.iload_n 1, 1) := by decide +kernel
theorem dX11_reckon_155 : decode cX11_reckon 155 = .ok (.imul, 1) := by decide +kernel
theorem dX11_reckon_156 : decode cX11_reckon 156 = .ok (.iconst 1, 1) := by decide +kernel
theorem dX11_reckon_157 : decode cX11_reckon 157 = .ok (.iadd, 1) := by decide +kernel
theorem dX11_reckon_158 : decode cX11_reckon 158 = .ok (.goto 6, 3) := by decide +kernel
theorem dX11_reckon_101 : decode cX11_reckon 101 = .ok (.aload_n 0, 1) := by decide +kernel
theorem dX11_reckon_102 : decode cX11_reckon 102 = .ok (.bipush 8, 2) := by decide +kernel
theorem dX11_reckon_104 : decode cX11_reckon 104 = .ok (.iload_n 1, 1) := by decide +kernel
theorem dX11_reckon_105 : decode cX11_reckon 105 = .ok (.imul, 1) := by decide +kernel
theorem dX11_reckon_106 : decode cX11_reckon 106 = .ok (.iconst 3, 1) := by decide +kernel
theorem dX11_reckon_107 : decode cX11_reckon 107 = .ok (.iadd, 1) := by decide +kernel
theorem dX11_reckon_108 : decode cX11_reckon 108 = .ok (.invokevirtual 354, 3) := by decide +kernel
theorem dX11_reckon_111 : decode cX11_reckon 111 = .ok (.aload_n 0, 1) := by decide +kernel
theorem dX11_reckon_112 : decode cX11_reckon 112 = .ok (.iload_n 3, 1) := by decide +kernel
theorem dX11_reckon_113 : decode cX11_reckon 113 = .ok (.invokevirtual 402, 3) := by decide +kernel
theorem dX11_reckon_116 : decode cX11_reckon 116 = .ok (.iconst 1, 1) := by decide +kernel
theorem dX11_reckon_117 : decode cX11_reckon 117 = .ok (.ireturn, 1) := by decide +kernel
theorem dX11_reckon_164 : decode cX11_reckon 164 = .ok (.invokevirtual 354, 3) := by decide +kernel
theorem dX11_reckon_167 : decode cX11_reckon 167 = .ok (.aload_n 0, 1) := by decide +kernel
theorem dX11_reckon_168 : decode cX11_reckon 168 = .ok (.iload 7, 2) := by decide +kernel
theorem dX11_reckon_170 : decode cX11_reckon 170 = .ok (.ifCond .ne 8, 3) := by decide +kernel
theorem dX11_reckon_178 : decode cX11_reckon 178 = .ok (.iload_n 1, 1) := by decide +kernel
theorem dX11_reckon_173 : decode cX11_reckon 173 = .ok (.iload 8, 2) := by decide +kernel
theorem dX11_reckon_175 : decode cX11_reckon 175 = .ok (.goto 4, 3) := by decide +kernel
theorem dX11_reckon_179 : decode cX11_reckon 179 = .ok (.invokevirtual 402, 3) := by decide +kernel
theorem dX11_reckon_182 : decode cX11_reckon 182 = .ok (.aload_n 0, 1) := by decide +kernel
theorem dX11_reckon_183 : decode cX11_reckon 183 = .ok (.iload 7, 2) := by decide +kernel
theorem dX11_reckon_185 : decode cX11_reckon 185 = .ok (.putfield 363, 3) := by decide +kernel
theorem dX11_reckon_188 : decode cX11_reckon 188 = .ok (.aload_n 0, 1) := by decide +kernel
theorem dX11_reckon_189 : decode cX11_reckon 189 = .ok (.iload 8, 2) := by decide +kernel
theorem dX11_reckon_191 : decode cX11_reckon 191 = .ok (.putfield 366, 3) := by decide +kernel
theorem dX11_reckon_194 : decode cX11_reckon 194 = .ok (.aload_n 0, 1) := by decide +kernel
theorem dX11_reckon_195 : decode cX11_reckon 195 = .ok (.iload 9, 2) := by decide +kernel
theorem dX11_reckon_197 : decode cX11_reckon 197 = .ok (.putfield 369, 3) := by decide +kernel
theorem dX11_reckon_200 : decode cX11_reckon 200 = .ok (.iload 7, 2) := by decide +kernel
theorem dX11_reckon_202 : decode cX11_reckon 202 = .ok (.iconst 2, 1) := by decide +kernel
theorem dX11_reckon_203 : decode cX11_reckon 203 = .ok (.if_icmp .le 7, 3) := by decide +kernel
theorem dX11_reckon_206 : decode cX11_reckon 206 = .ok (.aload_n 0, 1) := by decide +kernel
theorem dX11_reckon_207 : decode cX11_reckon 207 = .ok (.invokevirtual 360, 3) := by decide +kernel
theorem dX11_reckon_210 : decode cX11_reckon 210 = .ok (.iconst 1, 1) := by decide +kernel
theorem dX11_reckon_211 : decode cX11_reckon 211 = .ok (.ireturn, 1) := by decide +kernel
theorem dX11_stack_0 : decode cX11_stack 0 = .ok (.iload_n 1, 1) := by decide +kernel
theorem dX11_stack_1 : decode cX11_stack 1 = .ok (.bipush 27, 2) := by decide +kernel
theorem dX11_stack_3 : decode cX11_stack 3 = .ok (.if_icmp .ne 7, 3) := by decide +kernel
theorem dX11_stack_10 : decode cX11_stack 10 = .ok (.iconst 0, 1) := by decide +kernel
theorem dX11_stack_6 : decode cX11_stack 6 = .ok (.iconst 1, 1) := by decide +kernel
theorem dX11_stack_7 : decode cX11_stack 7 = .ok (.goto 4, 3) := by decide +kernel
theorem dX11_stack_11 : decode cX11_stack 11 = .ok (.istore_n 2, 1) := by decide +kernel
theorem dX11_stack_12 : decode cX11_stack 12 = .ok (.iload_n 1, 1) := by decide +kernel
theorem dX11_stack_13 : decode cX11_stack 13 = .ok (.bipush 26, 2) := by decide +kernel
theorem dX11_stack_15 : decode cX11_stack 15 = .ok (.if_icmp .gt 14, 3) := by decide +kernel
theorem dX11_stack_29 : decode cX11_stack 29 = .ok (.aload_n 0, 1) := by decide +kernel
theorem dX11_stack_30 : decode cX11_stack 30 = .ok (.iload_n 2, 1) := by decide +kernel
theorem dX11_stack_31 : decode cX11_stack 31 = .ok (.ifCond .eq 7, 3) := by decide +kernel
theorem dX11_stack_38 : decode cX11_stack 38 = .ok (.iconst 5, 1) := by decide +kernel
theorem dX11_stack_34 : decode cX11_stack 34 = .ok (.iconst 3, 1) := by decide +kernel
theorem dX11_stack_35 : decode cX11_stack 35 = .ok (.goto 4, 3) := by decide +kernel
theorem dX11_stack_18 : decode cX11_stack 18 = .ok (.aload_n 0, 1) := by decide +kernel
theorem dX11_stack_19 : decode cX11_stack 19 = .ok (.iconst 1, 1) := by decide +kernel
theorem dX11_stack_20 : decode cX11_stack 20 = .ok (.invokevirtual 397, 3) := by decide +kernel
theorem dX11_stack_23 : decode cX11_stack 23 = .ok (.ifCond .ne 24, 3) := by decide +kernel
theorem dX11_stack_26 : decode cX11_stack 26 = .ok (.goto 19, 3) := by decide +kernel
theorem dX11_stack_39 : decode cX11_stack 39 = .ok (.invokevirtual 397, 3) := by decide +kernel
theorem dX11_stack_42 : decode cX11_stack 42 = .ok (.ifCond .ne 5, 3) := by decide +kernel
theorem dX11_stack_47 : decode cX11_stack 47 = .ok (.aload_n 0, 1) := by decide +kernel
theorem dX11_stack_48 : decode cX11_stack 48 = .ok (.getfield 363, 3) := by decide +kernel
theorem dX11_stack_51 : decode cX11_stack 51 = .ok (.iconst 1, 1) := by decide +kernel
theorem dX11_stack_52 : decode cX11_stack 52 = .ok (.if_icmp .ne 29, 3) := by decide +kernel
theorem dX11_stack_81 : decode cX11_stack 81 = .ok (.aload_n 0, 1) := by decide +kernel
theorem dX11_stack_82 : decode cX11_stack 82 = .ok (.iload_n 1, 1) := by decide +kernel
theorem dX11_stack_83 : decode cX11_stack 83 = .ok (.bipush 25, 2) := by decide +kernel
theorem dX11_stack_85 : decode cX11_stack 85 = .ok (.if_icmp .ne 8, 3) := by decide +kernel
theorem dX11_stack_93 : decode cX11_stack 93 = .ok (.iload_n 1, 1) := by decide +kernel
theorem dX11_stack_94 : decode cX11_stack 94 = .ok (.bipush 26, 2) := by decide +kernel
theorem dX11_stack_96 : decode cX11_stack 96 = .ok (.if_icmp .ne 8, 3) := by decide +kernel
theorem dX11_stack_104 : decode cX11_stack 104 = .ok (.iload_n 2, 1) := by decide +kernel
theorem dX11_stack_105 : decode cX11_stack 105 = .ok (.ifCond .eq 8, 3) := by decide +kernel
theorem dX11_stack_113 : decode cX11_stack 113 = .ok (.bipush 88, 2) := by decide +kernel
theorem dX11_stack_108 : decode cX11_stack 108 = .ok (.bipush 80, 2) := by decide +kernel
theorem dX11_stack_110 : decode cX11_stack 110 = .ok (.goto 5, 3) := by decide +kernel
theorem dX11_stack_99 : decode cX11_stack 99 = .ok (.bipush 72, 2) := by decide +kernel
theorem dX11_stack_101 : decode cX11_stack 101 = .ok (.goto 14, 3) := by decide +kernel
theorem dX11_stack_88 : decode cX11_stack 88 = .ok (.bipush 64, 2) := by decide +kernel
theorem dX11_stack_90 : decode cX11_stack 90 = .ok (.goto 25, 3) := by decide +kernel
theorem dX11_stack_55 : decode cX11_stack 55 = .ok (.aload_n 0, 1) := by decide +kernel
theorem dX11_stack_56 : decode cX11_stack 56 = .ok (.iload_n 2, 1) := by decide +kernel
theorem dX11_stack_57 : decode cX11_stack 57 = .ok (.ifCond .eq 8, 3) := by decide +kernel
theorem dX11_stack_65 : decode cX11_stack 65 = .ok (.bipush 7, 2) := by decide +kernel
theorem dX11_stack_60 : decode cX11_stack 60 = .ok (.bipush 6, 2) := by decide +kernel
theorem dX11_stack_62 : decode cX11_stack 62 = .ok (.goto 5, 3) := by decide +kernel
theorem dX11_stack_45 : decode cX11_stack 45 = .ok (.iconst 0, 1) := by decide +kernel
theorem dX11_stack_46 : decode cX11_stack 46 = .ok (.ireturn, 1) := by decide +kernel
theorem dX11_stack_115 : decode cX11_stack 115 = .ok (.aload_n 0, 1) := by decide +kernel
theorem dX11_stack_116 : decode cX11_stack 116 = .ok (.getfield 366, 3) := by decide +kernel
theorem dX11_stack_119 : decode cX11_stack 119 = .ok (.iadd, 1) := by decide +kernel
theorem dX11_stack_120 : decode cX11_stack 120 = .ok (.invokevirtual 354, 3) := by decide +kernel
theorem dX11_stack_67 : decode cX11_stack 67 = .ok (.bipush 8, 2) := by decide +kernel
theorem dX11_stack_69 : decode cX11_stack 69 = .ok (.aload_n 0, 1) := by decide +kernel
theorem dX11_stack_70 : decode cX11_stack 70 = .ok (.getfield 366, 3) := by decide +kernel
theorem dX11_stack_73 : decode cX11_stack 73 = .ok (.imul, 1) := by decide +kernel
theorem dX11_stack_74 : decode cX11_stack 74 = .ok (.iadd, 1) := by decide +kernel
theorem dX11_stack_75 : decode cX11_stack 75 = .ok (.invokevirtual 354, 3) := by decide +kernel
theorem dX11_stack_78 : decode cX11_stack 78 = .ok (.goto 45, 3) := by decide +kernel
theorem dX11_stack_123 : decode cX11_stack 123 = .ok (.iconst 1, 1) := by decide +kernel
theorem dX11_stack_124 : decode cX11_stack 124 = .ok (.ireturn, 1) := by decide +kernel
theorem dX11_single_0 : decode cX11_single 0 = .ok (.aload_n 0, 1) := by decide +kernel
theorem dX11_single_1 : decode cX11_single 1 = .ok (.bipush 9, 2) := by decide +kernel
theorem dX11_single_3 : decode cX11_single 3 = .ok (.invokevirtual 397, 3) := by decide +kernel
theorem dX11_single_6 : decode cX11_single 6 = .ok (.ifCond .ne 5, 3) := by decide +kernel
theorem dX11_single_11 : decode cX11_single 11 = .ok (.aload_n 0, 1) := by decide +kernel
theorem dX11_single_12 : decode cX11_single 12 = .ok (.iload_n 1, 1) := by decide +kernel
theorem dX11_single_13 : decode cX11_single 13 = .ok (.bipush 30, 2) := by decide +kernel
theorem dX11_single_15 : decode cX11_single 15 = .ok (.if_icmp .gt 9, 3) := by decide +kernel
theorem dX11_single_24 : decode cX11_single 24 = .ok (.sipush 247, 3) := by decide +kernel
theorem dX11_single_18 : decode cX11_single 18 = .ok (.sipush 209, 3) := by decide +kernel
theorem dX11_single_21 : decode cX11_single 21 = .ok (.goto 6, 3) := by decide +kernel
theorem dX11_single_9 : decode cX11_single 9 = .ok (.iconst 0, 1) := by decide +kernel
theorem dX11_single_10 : decode cX11_single 10 = .ok (.ireturn, 1) := by decide +kernel
theorem dX11_single_27 : decode cX11_single 27 = .ok (.invokevirtual 354, 3) := by decide +kernel
theorem dX11_single_30 : decode cX11_single 30 = .ok (.aload_n 0, 1) := by decide +kernel
theorem dX11_single_31 : decode cX11_single 31 = .ok (.iload_n 1, 1) := by decide +kernel
theorem dX11_single_32 : decode cX11_single 32 = .ok (.bipush 29, 2) := by decide +kernel
theorem dX11_single_34 : decode cX11_single 34 = .ok (.if_icmp .ne 7, 3) := by decide +kernel
theorem dX11_single_41 : decode cX11_single 41 = .ok (.iload_n 1, 1) := by decide +kernel
theorem dX11_single_42 : decode cX11_single 42 = .ok (.bipush 30, 2) := by decide +kernel
theorem dX11_single_44 : decode cX11_single 44 = .ok (.if_icmp .ne 7, 3) := by decide +kernel
theorem dX11_single_51 : decode cX11_single 51 = .ok (.iload_n 1, 1) := by decide +kernel
theorem dX11_single_52 : decode cX11_single 52 = .ok (.bipush 31, 2) := by decide +kernel
theorem dX11_single_54 : decode cX11_single 54 = .ok (.if_icmp .ne 7, 3) := by decide +kernel
theorem dX11_single_61 : decode cX11_single 61 = .ok (.iload_n 1, 1) := by decide +kernel
theorem dX11_single_62 : decode cX11_single 62 = .ok (.bipush 32, 2) := by decide +kernel
theorem dX11_single_64 : decode cX11_single 64 = .ok (.if_icmp .ne 7, 3) := by decide +kernel
theorem dX11_single_71 : decode cX11_single 71 = .ok (.bipush 6, 2) := by decide +kernel
theorem dX11_single_67 : decode cX11_single 67 = .ok (.iconst 4, 1) := by decide +kernel
theorem dX11_single_68 : decode cX11_single 68 = .ok (.goto 5, 3) := by decide +kernel
theorem dX11_single_57 : decode cX11_single 57 = .ok (.iconst 3, 1) := by decide +kernel
theorem dX11_single_58 : decode cX11_single 58 = .ok (.goto 15, 3) := by decide +kernel
theorem dX11_single_47 : decode cX11_single 47 = .ok (.iconst 5, 1) := by decide +kernel
theorem dX11_single_48 : decode cX11_single 48 = .ok (.goto 25, 3) := by decide +kernel
theorem dX11_single_37 : decode cX11_single 37 = .ok (.iconst 4, 1) := by decide +kernel
theorem dX11_single_38 : decode cX11_single 38 = .ok (.goto 35, 3) := by decide +kernel
theorem dX11_single_73 : decode cX11_single 73 = .ok (.invokevirtual 402, 3) := by decide +kernel
theorem dX11_single_76 : decode cX11_single 76 = .ok (.iconst 1, 1) := by decide +kernel
theorem dX11_single_77 : decode cX11_single 77 = .ok (.ireturn, 1) := by decide +kernel
def wpX11_bits_102 (s0 : Int) (σ : ZS) (Q : Int → ZS → Prop) : Prop := Q s0 σ
def wpX11_bits_73 (s0 : Int) (σ : ZS) (Q : Int → ZS → Prop) : Prop := Q s0 σ
def wpX11_bits_36 (s0 : Int) (σ : ZS) (Q : Int → ZS → Prop) : Prop := Q s0 σ
def wpX11_bits (σ : ZS) (Q : Int → ZS → Prop) : Prop := (-2147483648 ≤ (zI σ 0 41) ∧ (zI σ 0 41) ≤ 2147483647) ∧ (¬ (zI σ 0 41) = 3 → (¬ (zI σ 0 41) = 5 → (-2147483648 ≤ (zI σ 0 42) ∧ (zI σ 0 42) ≤ 2147483647) ∧ (¬ (zI σ 0 42) = 6 → (¬ (zI σ 0 42) = 7 → wpX11_bits_102 6 σ Q) ∧ ((zI σ 0 42) = 7 → wpX11_bits_102 5 σ Q)) ∧ ((zI σ 0 42) = 6 → wpX11_bits_102 4 σ Q)) ∧ ((zI σ 0 41) = 5 → (-2147483648 ≤ (zI σ 0 42) ∧ (zI σ 0 42) ≤ 2147483647) ∧ (¬ (zI σ 0 42) = 6 → (¬ (zI σ 0 42) = 7 → wpX11_bits_73 6 σ Q) ∧ ((zI σ 0 42) = 7 → wpX11_bits_73 3 σ Q)) ∧ ((zI σ 0 42) = 6 → wpX11_bits_73 2 σ Q))) ∧ ((zI σ 0 41) = 3 → (-2147483648 ≤ (zI σ 0 42) ∧ (zI σ 0 42) ≤ 2147483647) ∧ (¬ (zI σ 0 42) = 6 → (¬ (zI σ 0 42) = 7 → wpX11_bits_36 7 σ Q) ∧ ((zI σ 0 42) = 7 → wpX11_bits_36 1 σ Q)) ∧ ((zI σ 0 42) = 6 → wpX11_bits_36 0 σ Q))
set_option maxHeartbeats 4000000 in
set_option maxRecDepth 100000 in
theorem kX11_bits (l : Launch) (D : va_G) (dA : Nat → ClassId) (ad : Int → Nat → Nat) (σ : ZS) (Q : Int → ZS → Prop) (sz : Nat) (hw : wpX11_bits σ Q) : Met l yX11_bits (gws yX11_bits cX11_bits 1 (some .int)) (gR 1 0 0) (gPre D dA [.ref (ad 0 1000)] (zR dA ad σ) sz) (va_Qi (zQi Q) (gAt D dA (va_A (zR dA ad σ) sz) (zR dA ad)) (va_A (zR dA ad σ) sz)) 0 0 (va_A (zR dA ad σ) sz) := by
  refine Met.ofW (cc := cX11_bits) (maxL := 1) (ret := (some .int)) (by decide) rfl ?_
  intro p e s m args below meth c s₁ B hml hv
  obtain ⟨rfl, hsz, hP, hK, hD0⟩ := hv
  have hx := B.exec
  have hb := B.bytes
  have hr := B.returns
  have hts := atoms_spec (ws := gws yX11_bits cX11_bits 1 (some .int)) B.pre
  have hg : ∀ w ∈ gw, w.before _ s = true := fun w h => hts w (List.mem_cons_of_mem _ h)
  have hown : s.vm.findClass RX11 = some m.cls := findClass_of_methodNamed B.named
  have hlocks := B.notSynchronized
  subst hsz
  have hD := hD0.self (sz := s.heap.size)
  generalize hAe : va_A (zR dA ad σ) s.heap.size = A at hD ⊢
  have hA : ∀ q : Nat, s.heap.size ≤ q → A q := fun q h => by rw [← hAe]; exact Or.inr h
  have hS : va_S A s.heap s.heap [] := va_S.rf
  have hl := lv_entry ([.ref (ad 0 1000)]) (n := 1) (Nat.le_of_ble_eq_true rfl)
  rw [lg_entry_eq]
  generalize (lg_sl ([.ref (ad 0 1000)]) ++ List.replicate (1 - (lg_sl ([.ref (ad 0 1000)])).length) Slot.unset).toArray = ls at hl ⊢
  have hl : lv_has ls 1 [(0, .ref (ad 0 1000))] := hl
  have hret : ∀ (v : Int) (σ : ZS) (H : Heap) (locs : List Loc) (ls : Array Slot) (pc : Nat), Q v σ → va_P D vwC (zR dA ad σ) H → va_D A (zR dA ad σ) → va_S A s.heap H locs → decode cX11_bits pc = .ok (.ireturn, 1) → W p l e (gR 1 0 0) s m #[.ref (ad 0 1000)] below meth c H locs 0 0 (MQ below (va_Qi (zQi Q) (gAt D dA A (zR dA ad)) A) #[.ref (ad 0 1000)] s 0 0 A) (F0 m pc ls [.int (Int32.ofInt v)]) := fun v σ H locs ls pc hw hP hD hS hd => g_iret hx hb hr rfl hlocks hK σ hP hD hS ⟨v, rfl, hw⟩ (Nat.le_of_ble_eq_true rfl) (Nat.le_of_ble_eq_true rfl) hd
  generalize MQ below (va_Qi (zQi Q) (gAt D dA A (zR dA ad)) A) #[.ref (ad 0 1000)] s 0 0 A = QQ at hret ⊢
  have j102 : ∀ (s0 : Int) (σ : ZS), ∀ (H : Heap) (locs : List Loc) (ls : Array Slot), va_P D vwC (zR dA ad σ) H → va_D A (zR dA ad σ) → va_S A s.heap H locs → lv_has ls 1 [] → wpX11_bits_102 s0 σ Q → W p l e (gR 1 0 0) s m #[.ref (ad 0 1000)] below meth c H locs 0 0 QQ (F0 m 102 ls [.int (Int32.ofInt s0)]) := by
    intro s0 σ H locs ls hP hD hS hl hw
    unfold wpX11_bits_102 at hw
    exact hret s0 σ _ _ _ _ hw hP hD hS dX11_bits_102
  have j73 : ∀ (s0 : Int) (σ : ZS), ∀ (H : Heap) (locs : List Loc) (ls : Array Slot), va_P D vwC (zR dA ad σ) H → va_D A (zR dA ad σ) → va_S A s.heap H locs → lv_has ls 1 [] → wpX11_bits_73 s0 σ Q → W p l e (gR 1 0 0) s m #[.ref (ad 0 1000)] below meth c H locs 0 0 QQ (F0 m 73 ls [.int (Int32.ofInt s0)]) := by
    intro s0 σ H locs ls hP hD hS hl hw
    unfold wpX11_bits_73 at hw
    exact hret s0 σ _ _ _ _ hw hP hD hS dX11_bits_73
  have j36 : ∀ (s0 : Int) (σ : ZS), ∀ (H : Heap) (locs : List Loc) (ls : Array Slot), va_P D vwC (zR dA ad σ) H → va_D A (zR dA ad σ) → va_S A s.heap H locs → lv_has ls 1 [] → wpX11_bits_36 s0 σ Q → W p l e (gR 1 0 0) s m #[.ref (ad 0 1000)] below meth c H locs 0 0 QQ (F0 m 36 ls [.int (Int32.ofInt s0)]) := by
    intro s0 σ H locs ls hP hD hS hl hw
    unfold wpX11_bits_36 at hw
    exact hret s0 σ _ _ _ _ hw hP hD hS dX11_bits_36
  unfold wpX11_bits at hw
  refine lv_aload_n hx hb dX11_bits_0 rfl (lv_at hl 0 rfl) ?_
  refine zgR0_41 hx hb hg hown hK hP q1656 dX11_bits_1 ?_
  refine lv_iconst (v := Int32.ofInt 3) hx hb dX11_bits_4 (by decide) ?_
  obtain ⟨o1, hw⟩ := hw
  refine z_icmp_ne (tgt := 37) hx hb o1 (by decide) dX11_bits_5 (by decide) (fun k2 => ?_) (fun k2 => ?_)
  · replace hw := hw.1 k2
    refine lv_aload_n hx hb dX11_bits_37 rfl (lv_at hl 0 rfl) ?_
    refine zgR0_41 hx hb hg hown hK hP q1656 dX11_bits_38 ?_
    refine lv_iconst (v := Int32.ofInt 5) hx hb dX11_bits_41 (by decide) ?_
    refine z_icmp_ne (tgt := 74) hx hb o1 (by decide) dX11_bits_42 (by decide) (fun k3 => ?_) (fun k3 => ?_)
    · replace hw := hw.1 k3
      refine lv_aload_n hx hb dX11_bits_74 rfl (lv_at hl 0 rfl) ?_
      refine zgR0_42 hx hb hg hown hK hP q1657 dX11_bits_75 ?_
      refine lv_bipush (v := Int32.ofInt 6) hx hb dX11_bits_78 (by decide) ?_
      obtain ⟨o4, hw⟩ := hw
      refine z_icmp_ne (tgt := 87) hx hb o4 (by decide) dX11_bits_80 (by decide) (fun k5 => ?_) (fun k5 => ?_)
      · replace hw := hw.1 k5
        refine lv_aload_n hx hb dX11_bits_87 rfl (lv_at hl 0 rfl) ?_
        refine zgR0_42 hx hb hg hown hK hP q1657 dX11_bits_88 ?_
        refine lv_bipush (v := Int32.ofInt 7) hx hb dX11_bits_91 (by decide) ?_
        refine z_icmp_ne (tgt := 100) hx hb o4 (by decide) dX11_bits_93 (by decide) (fun k6 => ?_) (fun k6 => ?_)
        · replace hw := hw.1 k6
          refine lv_bipush (v := Int32.ofInt 6) hx hb dX11_bits_100 (by decide) ?_
          exact j102 6 σ _ _ _ hP hD hS (lv_sub hl [] rfl) hw
        · replace hw := hw.2 k6
          refine lv_iconst (v := Int32.ofInt 5) hx hb dX11_bits_96 (by decide) ?_
          refine lv_goto (tgt := 102) hx hb dX11_bits_97 (by decide) ?_
          exact j102 5 σ _ _ _ hP hD hS (lv_sub hl [] rfl) hw
      · replace hw := hw.2 k5
        refine lv_iconst (v := Int32.ofInt 4) hx hb dX11_bits_83 (by decide) ?_
        refine lv_goto (tgt := 102) hx hb dX11_bits_84 (by decide) ?_
        exact j102 4 σ _ _ _ hP hD hS (lv_sub hl [] rfl) hw
    · replace hw := hw.2 k3
      refine lv_aload_n hx hb dX11_bits_45 rfl (lv_at hl 0 rfl) ?_
      refine zgR0_42 hx hb hg hown hK hP q1657 dX11_bits_46 ?_
      refine lv_bipush (v := Int32.ofInt 6) hx hb dX11_bits_49 (by decide) ?_
      obtain ⟨o7, hw⟩ := hw
      refine z_icmp_ne (tgt := 58) hx hb o7 (by decide) dX11_bits_51 (by decide) (fun k8 => ?_) (fun k8 => ?_)
      · replace hw := hw.1 k8
        refine lv_aload_n hx hb dX11_bits_58 rfl (lv_at hl 0 rfl) ?_
        refine zgR0_42 hx hb hg hown hK hP q1657 dX11_bits_59 ?_
        refine lv_bipush (v := Int32.ofInt 7) hx hb dX11_bits_62 (by decide) ?_
        refine z_icmp_ne (tgt := 71) hx hb o7 (by decide) dX11_bits_64 (by decide) (fun k9 => ?_) (fun k9 => ?_)
        · replace hw := hw.1 k9
          refine lv_bipush (v := Int32.ofInt 6) hx hb dX11_bits_71 (by decide) ?_
          exact j73 6 σ _ _ _ hP hD hS (lv_sub hl [] rfl) hw
        · replace hw := hw.2 k9
          refine lv_iconst (v := Int32.ofInt 3) hx hb dX11_bits_67 (by decide) ?_
          refine lv_goto (tgt := 73) hx hb dX11_bits_68 (by decide) ?_
          exact j73 3 σ _ _ _ hP hD hS (lv_sub hl [] rfl) hw
      · replace hw := hw.2 k8
        refine lv_iconst (v := Int32.ofInt 2) hx hb dX11_bits_54 (by decide) ?_
        refine lv_goto (tgt := 73) hx hb dX11_bits_55 (by decide) ?_
        exact j73 2 σ _ _ _ hP hD hS (lv_sub hl [] rfl) hw
  · replace hw := hw.2 k2
    refine lv_aload_n hx hb dX11_bits_8 rfl (lv_at hl 0 rfl) ?_
    refine zgR0_42 hx hb hg hown hK hP q1657 dX11_bits_9 ?_
    refine lv_bipush (v := Int32.ofInt 6) hx hb dX11_bits_12 (by decide) ?_
    obtain ⟨o10, hw⟩ := hw
    refine z_icmp_ne (tgt := 21) hx hb o10 (by decide) dX11_bits_14 (by decide) (fun k11 => ?_) (fun k11 => ?_)
    · replace hw := hw.1 k11
      refine lv_aload_n hx hb dX11_bits_21 rfl (lv_at hl 0 rfl) ?_
      refine zgR0_42 hx hb hg hown hK hP q1657 dX11_bits_22 ?_
      refine lv_bipush (v := Int32.ofInt 7) hx hb dX11_bits_25 (by decide) ?_
      refine z_icmp_ne (tgt := 34) hx hb o10 (by decide) dX11_bits_27 (by decide) (fun k12 => ?_) (fun k12 => ?_)
      · replace hw := hw.1 k12
        refine lv_bipush (v := Int32.ofInt 7) hx hb dX11_bits_34 (by decide) ?_
        exact j36 7 σ _ _ _ hP hD hS (lv_sub hl [] rfl) hw
      · replace hw := hw.2 k12
        refine lv_iconst (v := Int32.ofInt 1) hx hb dX11_bits_30 (by decide) ?_
        refine lv_goto (tgt := 36) hx hb dX11_bits_31 (by decide) ?_
        exact j36 1 σ _ _ _ hP hD hS (lv_sub hl [] rfl) hw
    · replace hw := hw.2 k11
      refine lv_iconst (v := Int32.ofInt 0) hx hb dX11_bits_17 (by decide) ?_
      refine lv_goto (tgt := 36) hx hb dX11_bits_18 (by decide) ?_
      exact j36 0 σ _ _ _ hP hD hS (lv_sub hl [] rfl) hw
def wpX11_emitForm_217 (σ : ZS) (Q : ZS → Prop) : Prop := Q σ
def wpX11_emitForm_192 (v1 v2 : Int) (σ : ZS) (Q : ZS → Prop) : Prop := wpX11_octet ((128 + (8 * v1)) + v2) σ (fun (σ2 : ZS) => wpX11_piece 1 (zI σ2 0 38) 0 0 σ2 (fun (σ4 : ZS) => wpX11_emitForm_217 σ4 Q))
def wpX11_emitForm_152 (v1 v2 v4 : Int) (σ : ZS) (Q : ZS → Prop) : Prop := (-2147483648 ≤ v4 ∧ v4 ≤ 2147483647) ∧ (v4 < (-128) → wpX11_emitForm_192 v1 v2 σ Q) ∧ (¬ v4 < (-128) → (127 < v4 → wpX11_emitForm_192 v1 v2 σ Q) ∧ (¬ 127 < v4 → wpX11_octet ((64 + (8 * v1)) + v2) σ (fun (σ9 : ZS) => wpX11_octet (v4 % 256) σ9 (fun (σ11 : ZS) => wpX11_emitForm_217 σ11 Q))))
def wpX11_emitForm_80 (v1 v2 s1 : Int) (σ : ZS) (Q : ZS → Prop) : Prop := wpX11_octet ((s1 + (8 * v1)) + v2) σ (fun (σ13 : ZS) => (-2147483648 ≤ (zI σ13 0 39) ∧ (zI σ13 0 39) ≤ 2147483647) ∧ ((zI σ13 0 39) < 0 → wpX11_piece 1 (zI σ13 0 38) 0 0 σ13 (fun (σ17 : ZS) => wpX11_emitForm_217 σ17 Q)) ∧ (¬ (zI σ13 0 39) < 0 → wpX11_piece 2 (zI σ13 0 39) (zI σ13 0 38) 0 σ13 (fun (σ19 : ZS) => wpX11_emitForm_217 σ19 Q)))
def wpX11_emitForm_68 (v1 v2 v3 : Int) (σ : ZS) (Q : ZS → Prop) : Prop := (-2147483648 ≤ v3 ∧ v3 ≤ 2147483647) ∧ (v3 = 0 → wpX11_emitForm_80 v1 v2 128 σ Q) ∧ (¬ v3 = 0 → wpX11_emitForm_80 v1 v2 0 σ Q)
def wpX11_emitForm_49 (v1 v2 s0 : Int) (σ : ZS) (Q : ZS → Prop) : Prop := (-2147483648 ≤ s0 ∧ s0 ≤ 2147483647) ∧ (¬ s0 = 0 → wpX11_emitForm_68 v1 v2 s0 σ Q) ∧ (s0 = 0 → (-2147483648 ≤ (zI σ 0 39) ∧ (zI σ 0 39) ≤ 2147483647) ∧ ((zI σ 0 39) < 0 → (¬ (((zI σ 0 38) + 32768) % 65536 - 32768) = 0 → wpX11_emitForm_152 v1 v2 (((zI σ 0 38) + 32768) % 65536 - 32768) σ Q) ∧ ((((zI σ 0 38) + 32768) % 65536 - 32768) = 0 → (-2147483648 ≤ v2 ∧ v2 ≤ 2147483647) ∧ (v2 = 6 → wpX11_emitForm_152 v1 v2 (((zI σ 0 38) + 32768) % 65536 - 32768) σ Q) ∧ (¬ v2 = 6 → wpX11_octet ((8 * v1) + v2) σ (fun (σ30 : ZS) => wpX11_emitForm_217 σ30 Q)))) ∧ (¬ (zI σ 0 39) < 0 → wpX11_emitForm_68 v1 v2 s0 σ Q))
def wpX11_emitForm_48 (v1 v2 : Int) (σ : ZS) (Q : ZS → Prop) : Prop := wpX11_emitForm_49 v1 v2 0 σ Q
def wpX11_emitForm (a1 : Int) (σ : ZS) (Q : ZS → Prop) : Prop := (-2147483648 ≤ (zI σ 0 37) ∧ (zI σ 0 37) ≤ 2147483647) ∧ (¬ (zI σ 0 37) = 0 → wpX11_bits σ (fun (x33 : Int) (σ34 : ZS) => (-2147483648 ≤ (zI σ34 0 41) ∧ (zI σ34 0 41) ≤ 2147483647) ∧ (0 ≤ (zI σ34 0 41) → wpX11_emitForm_48 a1 x33 σ34 Q) ∧ (¬ 0 ≤ (zI σ34 0 41) → (-2147483648 ≤ (zI σ34 0 42) ∧ (zI σ34 0 42) ≤ 2147483647) ∧ (0 ≤ (zI σ34 0 42) → wpX11_emitForm_48 a1 x33 σ34 Q) ∧ (¬ 0 ≤ (zI σ34 0 42) → wpX11_emitForm_49 a1 x33 1 σ34 Q)))) ∧ ((zI σ 0 37) = 0 → wpX11_octet ((192 + (8 * a1)) + (zI σ 0 38)) σ (fun (σ40 : ZS) => Q σ40))
set_option maxHeartbeats 4000000 in
set_option maxRecDepth 100000 in
theorem kX11_emitForm (l : Launch) (D : va_G) (dA : Nat → ClassId) (ad : Int → Nat → Nat) (a1 : Int) (σ : ZS) (Q : ZS → Prop) (sz : Nat) (hw : wpX11_emitForm a1 σ Q) : Met l yX11_emitForm (gws yX11_emitForm cX11_emitForm 5 none) (gR 3 0 0) (gPre D dA [.ref (ad 0 1000), .int (Int32.ofInt a1)] (zR dA ad σ) sz) (va_Qv Q (gAt D dA (va_A (zR dA ad σ) sz) (zR dA ad)) (va_A (zR dA ad σ) sz)) 0 0 (va_A (zR dA ad σ) sz) := by
  refine Met.ofW (cc := cX11_emitForm) (maxL := 5) (ret := none) (by decide) rfl ?_
  intro p e s m args below meth c s₁ B hml hv
  obtain ⟨rfl, hsz, hP, hK, hD0⟩ := hv
  have hx := B.exec
  have hb := B.bytes
  have hr := B.returns
  have hts := atoms_spec (ws := gws yX11_emitForm cX11_emitForm 5 none) B.pre
  have hg : ∀ w ∈ gw, w.before _ s = true := fun w h => hts w (List.mem_cons_of_mem _ h)
  have hown : s.vm.findClass RX11 = some m.cls := findClass_of_methodNamed B.named
  have hlocks := B.notSynchronized
  subst hsz
  have hD := hD0.self (sz := s.heap.size)
  generalize hAe : va_A (zR dA ad σ) s.heap.size = A at hD ⊢
  have hA : ∀ q : Nat, s.heap.size ≤ q → A q := fun q h => by rw [← hAe]; exact Or.inr h
  have hS : va_S A s.heap s.heap [] := va_S.rf
  have hl := lv_entry ([.ref (ad 0 1000), .int (Int32.ofInt a1)]) (n := 5) (Nat.le_of_ble_eq_true rfl)
  rw [lg_entry_eq]
  generalize (lg_sl ([.ref (ad 0 1000), .int (Int32.ofInt a1)]) ++ List.replicate (5 - (lg_sl ([.ref (ad 0 1000), .int (Int32.ofInt a1)])).length) Slot.unset).toArray = ls at hl ⊢
  have hl : lv_has ls 5 [(0, .ref (ad 0 1000)), (1, .int (Int32.ofInt a1))] := hl
  have hret : ∀ (σ : ZS) (H : Heap) (locs : List Loc) (ls : Array Slot) (pc : Nat), Q σ → va_P D vwC (zR dA ad σ) H → va_D A (zR dA ad σ) → va_S A s.heap H locs → decode cX11_emitForm pc = .ok (.return_, 1) → W p l e (gR 3 0 0) s m #[.ref (ad 0 1000), .int (Int32.ofInt a1)] below meth c H locs 0 0 (MQ below (va_Qv Q (gAt D dA A (zR dA ad)) A) #[.ref (ad 0 1000), .int (Int32.ofInt a1)] s 0 0 A) (F0 m pc ls []) := fun σ H locs ls pc hw hP hD hS hd => g_vret hx hb hr hlocks hK σ hP hD hS hw (Nat.le_of_ble_eq_true rfl) (Nat.le_of_ble_eq_true rfl) hd
  generalize MQ below (va_Qv Q (gAt D dA A (zR dA ad)) A) #[.ref (ad 0 1000), .int (Int32.ofInt a1)] s 0 0 A = QQ at hret ⊢
  have j217 : ∀ (σ : ZS), ∀ (H : Heap) (locs : List Loc) (ls : Array Slot), va_P D vwC (zR dA ad σ) H → va_D A (zR dA ad σ) → va_S A s.heap H locs → lv_has ls 5 [] → wpX11_emitForm_217 σ Q → W p l e (gR 3 0 0) s m #[.ref (ad 0 1000), .int (Int32.ofInt a1)] below meth c H locs 0 0 QQ (F0 m 217 ls []) := by
    intro σ H locs ls hP hD hS hl hw
    unfold wpX11_emitForm_217 at hw
    exact hret σ _ _ _ _ hw hP hD hS dX11_emitForm_217
  have j192 : ∀ (v1 v2 : Int) (σ : ZS), ∀ (H : Heap) (locs : List Loc) (ls : Array Slot), va_P D vwC (zR dA ad σ) H → va_D A (zR dA ad σ) → va_S A s.heap H locs → lv_has ls 5 [(0, .ref (ad 0 1000)), (1, .int (Int32.ofInt v1)), (2, .int (Int32.ofInt v2))] → wpX11_emitForm_192 v1 v2 σ Q → W p l e (gR 3 0 0) s m #[.ref (ad 0 1000), .int (Int32.ofInt a1)] below meth c H locs 0 0 QQ (F0 m 192 ls []) := by
    intro v1 v2 σ H locs ls hP hD hS hl hw
    unfold wpX11_emitForm_192 at hw
    refine lv_aload_n hx hb dX11_emitForm_192 rfl (lv_at hl 0 rfl) ?_
    refine lv_sipush (v := Int32.ofInt 128) hx hb dX11_emitForm_193 (by decide) ?_
    refine lv_bipush (v := Int32.ofInt 8) hx hb dX11_emitForm_196 (by decide) ?_
    refine lv_iload_n hx hb dX11_emitForm_198 rfl (lv_at hl 1 rfl) ?_
    refine z_imul hx hb dX11_emitForm_199 ?_
    refine z_iadd hx hb dX11_emitForm_200 ?_
    refine lv_iload_n hx hb dX11_emitForm_201 rfl (lv_at hl 2 rfl) ?_
    refine z_iadd hx hb dX11_emitForm_202 ?_
    refine z_Vv (n := 1) (As := [.int (Int32.ofInt ((128 + (8 * v1)) + v2))]) (rest := []) hx hb hml hg hown hK hP hD hS hA (kX11_octet l D dA ad ((128 + (8 * v1)) + v2) σ _ _ hw) (zoR0) rfl q1951 q160 q1948 q1950 q91 (by decide +kernel) ⟨(Nat.le_of_ble_eq_true rfl), (Nat.le_of_ble_eq_true rfl)⟩ rfl hl.1 rfl (Nat.le_of_ble_eq_true rfl) dX11_emitForm_203 ⟨(Nat.le_of_ble_eq_true rfl), (Nat.le_of_ble_eq_true rfl)⟩ (fun σ2 H locs hw hP hD hS => ?_)
    refine lv_aload_n hx hb dX11_emitForm_206 rfl (lv_at hl 0 rfl) ?_
    refine lv_iconst (v := Int32.ofInt 1) hx hb dX11_emitForm_207 (by decide) ?_
    refine lv_aload_n hx hb dX11_emitForm_208 rfl (lv_at hl 0 rfl) ?_
    refine zgR0_38 hx hb hg hown hK hP q1653 dX11_emitForm_209 ?_
    refine lv_iconst (v := Int32.ofInt 0) hx hb dX11_emitForm_212 (by decide) ?_
    refine lv_iconst (v := Int32.ofInt 0) hx hb dX11_emitForm_213 (by decide) ?_
    refine z_Vv (n := 4) (As := [.int (Int32.ofInt 1), .int (Int32.ofInt (zI σ2 0 38)), .int (Int32.ofInt 0), .int (Int32.ofInt 0)]) (rest := []) hx hb hml hg hown hK hP hD hS hA (kX11_piece l D dA ad 1 (zI σ2 0 38) 0 0 σ2 _ _ hw) (zoR0) rfl q1939 q160 q1936 q1938 q88 (by decide +kernel) ⟨(Nat.le_of_ble_eq_true rfl), (Nat.le_of_ble_eq_true rfl)⟩ rfl hl.1 rfl (Nat.le_of_ble_eq_true rfl) dX11_emitForm_214 ⟨(Nat.le_of_ble_eq_true rfl), (Nat.le_of_ble_eq_true rfl)⟩ (fun σ4 H locs hw hP hD hS => ?_)
    exact j217 σ4 _ _ _ hP hD hS (lv_sub hl [] rfl) hw
  have j152 : ∀ (v1 v2 v4 : Int) (σ : ZS), ∀ (H : Heap) (locs : List Loc) (ls : Array Slot), va_P D vwC (zR dA ad σ) H → va_D A (zR dA ad σ) → va_S A s.heap H locs → lv_has ls 5 [(0, .ref (ad 0 1000)), (1, .int (Int32.ofInt v1)), (2, .int (Int32.ofInt v2)), (4, .int (Int32.ofInt v4))] → wpX11_emitForm_152 v1 v2 v4 σ Q → W p l e (gR 3 0 0) s m #[.ref (ad 0 1000), .int (Int32.ofInt a1)] below meth c H locs 0 0 QQ (F0 m 152 ls []) := by
    intro v1 v2 v4 σ H locs ls hP hD hS hl hw
    unfold wpX11_emitForm_152 at hw
    refine lv_iload hx hb dX11_emitForm_152 (lv_at hl 3 rfl) ?_
    refine lv_bipush (v := Int32.ofInt (-128)) hx hb dX11_emitForm_154 (by decide) ?_
    obtain ⟨o5, hw⟩ := hw
    refine z_icmp_lt (tgt := 192) hx hb o5 (by decide) dX11_emitForm_156 (by decide) (fun k6 => ?_) (fun k6 => ?_)
    · replace hw := hw.1 k6
      exact j192 v1 v2 σ _ _ _ hP hD hS (lv_sub hl [0, 1, 2] rfl) hw
    · replace hw := hw.2 k6
      refine lv_iload hx hb dX11_emitForm_159 (lv_at hl 3 rfl) ?_
      refine lv_bipush (v := Int32.ofInt 127) hx hb dX11_emitForm_161 (by decide) ?_
      refine z_icmp_gt (tgt := 192) hx hb o5 (by decide) dX11_emitForm_163 (by decide) (fun k7 => ?_) (fun k7 => ?_)
      · replace hw := hw.1 k7
        exact j192 v1 v2 σ _ _ _ hP hD hS (lv_sub hl [0, 1, 2] rfl) hw
      · replace hw := hw.2 k7
        refine lv_aload_n hx hb dX11_emitForm_166 rfl (lv_at hl 0 rfl) ?_
        refine lv_bipush (v := Int32.ofInt 64) hx hb dX11_emitForm_167 (by decide) ?_
        refine lv_bipush (v := Int32.ofInt 8) hx hb dX11_emitForm_169 (by decide) ?_
        refine lv_iload_n hx hb dX11_emitForm_171 rfl (lv_at hl 1 rfl) ?_
        refine z_imul hx hb dX11_emitForm_172 ?_
        refine z_iadd hx hb dX11_emitForm_173 ?_
        refine lv_iload_n hx hb dX11_emitForm_174 rfl (lv_at hl 2 rfl) ?_
        refine z_iadd hx hb dX11_emitForm_175 ?_
        refine z_Vv (n := 1) (As := [.int (Int32.ofInt ((64 + (8 * v1)) + v2))]) (rest := []) hx hb hml hg hown hK hP hD hS hA (kX11_octet l D dA ad ((64 + (8 * v1)) + v2) σ _ _ hw) (zoR0) rfl q1951 q160 q1948 q1950 q91 (by decide +kernel) ⟨(Nat.le_of_ble_eq_true rfl), (Nat.le_of_ble_eq_true rfl)⟩ rfl hl.1 rfl (Nat.le_of_ble_eq_true rfl) dX11_emitForm_176 ⟨(Nat.le_of_ble_eq_true rfl), (Nat.le_of_ble_eq_true rfl)⟩ (fun σ9 H locs hw hP hD hS => ?_)
        refine lv_aload_n hx hb dX11_emitForm_179 rfl (lv_at hl 0 rfl) ?_
        refine lv_iload hx hb dX11_emitForm_180 (lv_at hl 3 rfl) ?_
        refine lv_sipush (v := Int32.ofInt 255) hx hb dX11_emitForm_182 (by decide) ?_
        refine z_iandK (M := 256) hx hb 8 (by decide) (by decide) (by decide) dX11_emitForm_185 ?_
        refine z_Vv (n := 1) (As := [.int (Int32.ofInt (v4 % 256))]) (rest := []) hx hb hml hg hown hK hP hD hS hA (kX11_octet l D dA ad (v4 % 256) σ9 _ _ hw) (zoR0) rfl q1951 q160 q1948 q1950 q91 (by decide +kernel) ⟨(Nat.le_of_ble_eq_true rfl), (Nat.le_of_ble_eq_true rfl)⟩ rfl hl.1 rfl (Nat.le_of_ble_eq_true rfl) dX11_emitForm_186 ⟨(Nat.le_of_ble_eq_true rfl), (Nat.le_of_ble_eq_true rfl)⟩ (fun σ11 H locs hw hP hD hS => ?_)
        refine lv_goto (tgt := 217) hx hb dX11_emitForm_189 (by decide) ?_
        exact j217 σ11 _ _ _ hP hD hS (lv_sub hl [] rfl) hw
  have j80 : ∀ (v1 v2 s1 : Int) (σ : ZS), ∀ (H : Heap) (locs : List Loc) (ls : Array Slot), va_P D vwC (zR dA ad σ) H → va_D A (zR dA ad σ) → va_S A s.heap H locs → lv_has ls 5 [(0, .ref (ad 0 1000)), (1, .int (Int32.ofInt v1)), (2, .int (Int32.ofInt v2))] → wpX11_emitForm_80 v1 v2 s1 σ Q → W p l e (gR 3 0 0) s m #[.ref (ad 0 1000), .int (Int32.ofInt a1)] below meth c H locs 0 0 QQ (F0 m 80 ls [.int (Int32.ofInt s1), .ref (ad 0 1000)]) := by
    intro v1 v2 s1 σ H locs ls hP hD hS hl hw
    unfold wpX11_emitForm_80 at hw
    refine lv_bipush (v := Int32.ofInt 8) hx hb dX11_emitForm_80 (by decide) ?_
    refine lv_iload_n hx hb dX11_emitForm_82 rfl (lv_at hl 1 rfl) ?_
    refine z_imul hx hb dX11_emitForm_83 ?_
    refine z_iadd hx hb dX11_emitForm_84 ?_
    refine lv_iload_n hx hb dX11_emitForm_85 rfl (lv_at hl 2 rfl) ?_
    refine z_iadd hx hb dX11_emitForm_86 ?_
    refine z_Vv (n := 1) (As := [.int (Int32.ofInt ((s1 + (8 * v1)) + v2))]) (rest := []) hx hb hml hg hown hK hP hD hS hA (kX11_octet l D dA ad ((s1 + (8 * v1)) + v2) σ _ _ hw) (zoR0) rfl q1951 q160 q1948 q1950 q91 (by decide +kernel) ⟨(Nat.le_of_ble_eq_true rfl), (Nat.le_of_ble_eq_true rfl)⟩ rfl hl.1 rfl (Nat.le_of_ble_eq_true rfl) dX11_emitForm_87 ⟨(Nat.le_of_ble_eq_true rfl), (Nat.le_of_ble_eq_true rfl)⟩ (fun σ13 H locs hw hP hD hS => ?_)
    refine lv_aload_n hx hb dX11_emitForm_90 rfl (lv_at hl 0 rfl) ?_
    refine zgR0_39 hx hb hg hown hK hP q1654 dX11_emitForm_91 ?_
    obtain ⟨o14, hw⟩ := hw
    refine z_if_lt (tgt := 114) hx hb o14 dX11_emitForm_94 (by decide) (fun k15 => ?_) (fun k15 => ?_)
    · replace hw := hw.1 k15
      refine lv_aload_n hx hb dX11_emitForm_114 rfl (lv_at hl 0 rfl) ?_
      refine lv_iconst (v := Int32.ofInt 1) hx hb dX11_emitForm_115 (by decide) ?_
      refine lv_aload_n hx hb dX11_emitForm_116 rfl (lv_at hl 0 rfl) ?_
      refine zgR0_38 hx hb hg hown hK hP q1653 dX11_emitForm_117 ?_
      refine lv_iconst (v := Int32.ofInt 0) hx hb dX11_emitForm_120 (by decide) ?_
      refine lv_iconst (v := Int32.ofInt 0) hx hb dX11_emitForm_121 (by decide) ?_
      refine z_Vv (n := 4) (As := [.int (Int32.ofInt 1), .int (Int32.ofInt (zI σ13 0 38)), .int (Int32.ofInt 0), .int (Int32.ofInt 0)]) (rest := []) hx hb hml hg hown hK hP hD hS hA (kX11_piece l D dA ad 1 (zI σ13 0 38) 0 0 σ13 _ _ hw) (zoR0) rfl q1939 q160 q1936 q1938 q88 (by decide +kernel) ⟨(Nat.le_of_ble_eq_true rfl), (Nat.le_of_ble_eq_true rfl)⟩ rfl hl.1 rfl (Nat.le_of_ble_eq_true rfl) dX11_emitForm_122 ⟨(Nat.le_of_ble_eq_true rfl), (Nat.le_of_ble_eq_true rfl)⟩ (fun σ17 H locs hw hP hD hS => ?_)
      refine lv_goto (tgt := 217) hx hb dX11_emitForm_125 (by decide) ?_
      exact j217 σ17 _ _ _ hP hD hS (lv_sub hl [] rfl) hw
    · replace hw := hw.2 k15
      refine lv_aload_n hx hb dX11_emitForm_97 rfl (lv_at hl 0 rfl) ?_
      refine lv_iconst (v := Int32.ofInt 2) hx hb dX11_emitForm_98 (by decide) ?_
      refine lv_aload_n hx hb dX11_emitForm_99 rfl (lv_at hl 0 rfl) ?_
      refine zgR0_39 hx hb hg hown hK hP q1654 dX11_emitForm_100 ?_
      refine lv_aload_n hx hb dX11_emitForm_103 rfl (lv_at hl 0 rfl) ?_
      refine zgR0_38 hx hb hg hown hK hP q1653 dX11_emitForm_104 ?_
      refine lv_iconst (v := Int32.ofInt 0) hx hb dX11_emitForm_107 (by decide) ?_
      refine z_Vv (n := 4) (As := [.int (Int32.ofInt 2), .int (Int32.ofInt (zI σ13 0 39)), .int (Int32.ofInt (zI σ13 0 38)), .int (Int32.ofInt 0)]) (rest := []) hx hb hml hg hown hK hP hD hS hA (kX11_piece l D dA ad 2 (zI σ13 0 39) (zI σ13 0 38) 0 σ13 _ _ hw) (zoR0) rfl q1939 q160 q1936 q1938 q88 (by decide +kernel) ⟨(Nat.le_of_ble_eq_true rfl), (Nat.le_of_ble_eq_true rfl)⟩ rfl hl.1 rfl (Nat.le_of_ble_eq_true rfl) dX11_emitForm_108 ⟨(Nat.le_of_ble_eq_true rfl), (Nat.le_of_ble_eq_true rfl)⟩ (fun σ19 H locs hw hP hD hS => ?_)
      refine lv_goto (tgt := 217) hx hb dX11_emitForm_111 (by decide) ?_
      exact j217 σ19 _ _ _ hP hD hS (lv_sub hl [] rfl) hw
  have j68 : ∀ (v1 v2 v3 : Int) (σ : ZS), ∀ (H : Heap) (locs : List Loc) (ls : Array Slot), va_P D vwC (zR dA ad σ) H → va_D A (zR dA ad σ) → va_S A s.heap H locs → lv_has ls 5 [(0, .ref (ad 0 1000)), (1, .int (Int32.ofInt v1)), (2, .int (Int32.ofInt v2)), (3, .int (Int32.ofInt v3))] → wpX11_emitForm_68 v1 v2 v3 σ Q → W p l e (gR 3 0 0) s m #[.ref (ad 0 1000), .int (Int32.ofInt a1)] below meth c H locs 0 0 QQ (F0 m 68 ls []) := by
    intro v1 v2 v3 σ H locs ls hP hD hS hl hw
    unfold wpX11_emitForm_68 at hw
    refine lv_aload_n hx hb dX11_emitForm_68 rfl (lv_at hl 0 rfl) ?_
    refine lv_iload_n hx hb dX11_emitForm_69 rfl (lv_at hl 3 rfl) ?_
    obtain ⟨o20, hw⟩ := hw
    refine z_if_eq (tgt := 77) hx hb o20 dX11_emitForm_70 (by decide) (fun k21 => ?_) (fun k21 => ?_)
    · replace hw := hw.1 k21
      refine lv_sipush (v := Int32.ofInt 128) hx hb dX11_emitForm_77 (by decide) ?_
      exact j80 v1 v2 128 σ _ _ _ hP hD hS (lv_sub hl [0, 1, 2] rfl) hw
    · replace hw := hw.2 k21
      refine lv_iconst (v := Int32.ofInt 0) hx hb dX11_emitForm_73 (by decide) ?_
      refine lv_goto (tgt := 80) hx hb dX11_emitForm_74 (by decide) ?_
      exact j80 v1 v2 0 σ _ _ _ hP hD hS (lv_sub hl [0, 1, 2] rfl) hw
  have j49 : ∀ (v1 v2 s0 : Int) (σ : ZS), ∀ (H : Heap) (locs : List Loc) (ls : Array Slot), va_P D vwC (zR dA ad σ) H → va_D A (zR dA ad σ) → va_S A s.heap H locs → lv_has ls 5 [(0, .ref (ad 0 1000)), (1, .int (Int32.ofInt v1)), (2, .int (Int32.ofInt v2))] → wpX11_emitForm_49 v1 v2 s0 σ Q → W p l e (gR 3 0 0) s m #[.ref (ad 0 1000), .int (Int32.ofInt a1)] below meth c H locs 0 0 QQ (F0 m 49 ls [.int (Int32.ofInt s0)]) := by
    intro v1 v2 s0 σ H locs ls hP hD hS hl hw
    unfold wpX11_emitForm_49 at hw
    refine lv_istore_n (lv' := [(3, .int (Int32.ofInt s0)), (0, .ref (ad 0 1000)), (1, .int (Int32.ofInt v1)), (2, .int (Int32.ofInt v2))]) hx hb dX11_emitForm_49 rfl hl (by decide) rfl (fun ls hl => ?_)
    refine lv_aload_n hx hb dX11_emitForm_50 rfl (lv_at hl 1 rfl) ?_
    refine zgR0_38 hx hb hg hown hK hP q1653 dX11_emitForm_51 ?_
    refine z_i2s hx hb dX11_emitForm_54 ?_
    refine lv_istore (lv' := [(4, .int (Int32.ofInt (((zI σ 0 38) + 32768) % 65536 - 32768))), (3, .int (Int32.ofInt s0)), (0, .ref (ad 0 1000)), (1, .int (Int32.ofInt v1)), (2, .int (Int32.ofInt v2))]) hx hb dX11_emitForm_55 hl (by decide) rfl (fun ls hl => ?_)
    refine lv_iload_n hx hb dX11_emitForm_57 rfl (lv_at hl 1 rfl) ?_
    obtain ⟨o22, hw⟩ := hw
    refine z_if_ne (tgt := 68) hx hb o22 dX11_emitForm_58 (by decide) (fun k23 => ?_) (fun k23 => ?_)
    · replace hw := hw.1 k23
      exact j68 v1 v2 s0 σ _ _ _ hP hD hS (lv_sub hl [2, 3, 4, 1] rfl) hw
    · replace hw := hw.2 k23
      refine lv_aload_n hx hb dX11_emitForm_61 rfl (lv_at hl 2 rfl) ?_
      refine zgR0_39 hx hb hg hown hK hP q1654 dX11_emitForm_62 ?_
      obtain ⟨o24, hw⟩ := hw
      refine z_if_lt (tgt := 128) hx hb o24 dX11_emitForm_65 (by decide) (fun k25 => ?_) (fun k25 => ?_)
      · replace hw := hw.1 k25
        refine lv_iload hx hb dX11_emitForm_128 (lv_at hl 0 rfl) ?_
        refine z_if_ne (tgt := 152) hx hb (by clear hw; omega) dX11_emitForm_130 (by decide) (fun k26 => ?_) (fun k26 => ?_)
        · replace hw := hw.1 k26
          exact j152 v1 v2 (((zI σ 0 38) + 32768) % 65536 - 32768) σ _ _ _ hP hD hS (lv_sub hl [2, 3, 4, 0] rfl) hw
        · replace hw := hw.2 k26
          refine lv_iload_n hx hb dX11_emitForm_133 rfl (lv_at hl 4 rfl) ?_
          refine lv_bipush (v := Int32.ofInt 6) hx hb dX11_emitForm_134 (by decide) ?_
          obtain ⟨o27, hw⟩ := hw
          refine z_icmp_eq (tgt := 152) hx hb o27 (by decide) dX11_emitForm_136 (by decide) (fun k28 => ?_) (fun k28 => ?_)
          · replace hw := hw.1 k28
            exact j152 v1 v2 (((zI σ 0 38) + 32768) % 65536 - 32768) σ _ _ _ hP hD hS (lv_sub hl [2, 3, 4, 0] rfl) hw
          · replace hw := hw.2 k28
            refine lv_aload_n hx hb dX11_emitForm_139 rfl (lv_at hl 2 rfl) ?_
            refine lv_bipush (v := Int32.ofInt 8) hx hb dX11_emitForm_140 (by decide) ?_
            refine lv_iload_n hx hb dX11_emitForm_142 rfl (lv_at hl 3 rfl) ?_
            refine z_imul hx hb dX11_emitForm_143 ?_
            refine lv_iload_n hx hb dX11_emitForm_144 rfl (lv_at hl 4 rfl) ?_
            refine z_iadd hx hb dX11_emitForm_145 ?_
            refine z_Vv (n := 1) (As := [.int (Int32.ofInt ((8 * v1) + v2))]) (rest := []) hx hb hml hg hown hK hP hD hS hA (kX11_octet l D dA ad ((8 * v1) + v2) σ _ _ hw) (zoR0) rfl q1951 q160 q1948 q1950 q91 (by decide +kernel) ⟨(Nat.le_of_ble_eq_true rfl), (Nat.le_of_ble_eq_true rfl)⟩ rfl hl.1 rfl (Nat.le_of_ble_eq_true rfl) dX11_emitForm_146 ⟨(Nat.le_of_ble_eq_true rfl), (Nat.le_of_ble_eq_true rfl)⟩ (fun σ30 H locs hw hP hD hS => ?_)
            refine lv_goto (tgt := 217) hx hb dX11_emitForm_149 (by decide) ?_
            exact j217 σ30 _ _ _ hP hD hS (lv_sub hl [] rfl) hw
      · replace hw := hw.2 k25
        exact j68 v1 v2 s0 σ _ _ _ hP hD hS (lv_sub hl [2, 3, 4, 1] rfl) hw
  have j48 : ∀ (v1 v2 : Int) (σ : ZS), ∀ (H : Heap) (locs : List Loc) (ls : Array Slot), va_P D vwC (zR dA ad σ) H → va_D A (zR dA ad σ) → va_S A s.heap H locs → lv_has ls 5 [(0, .ref (ad 0 1000)), (1, .int (Int32.ofInt v1)), (2, .int (Int32.ofInt v2))] → wpX11_emitForm_48 v1 v2 σ Q → W p l e (gR 3 0 0) s m #[.ref (ad 0 1000), .int (Int32.ofInt a1)] below meth c H locs 0 0 QQ (F0 m 48 ls []) := by
    intro v1 v2 σ H locs ls hP hD hS hl hw
    unfold wpX11_emitForm_48 at hw
    refine lv_iconst (v := Int32.ofInt 0) hx hb dX11_emitForm_48 (by decide) ?_
    exact j49 v1 v2 0 σ _ _ _ hP hD hS (lv_sub hl [0, 1, 2] rfl) hw
  unfold wpX11_emitForm at hw
  refine lv_aload_n hx hb dX11_emitForm_0 rfl (lv_at hl 0 rfl) ?_
  refine zgR0_37 hx hb hg hown hK hP q1652 dX11_emitForm_1 ?_
  obtain ⟨o31, hw⟩ := hw
  refine z_if_ne (tgt := 25) hx hb o31 dX11_emitForm_4 (by decide) (fun k32 => ?_) (fun k32 => ?_)
  · replace hw := hw.1 k32
    refine lv_aload_n hx hb dX11_emitForm_25 rfl (lv_at hl 0 rfl) ?_
    refine z_Vi (n := 0) (As := []) (rest := []) hx hb hml hg hown hK hP hD hS hA (kX11_bits l D dA ad σ _ _ hw) (zoR0) rfl q2003 q160 q2000 q2002 q104 (by decide +kernel) ⟨(Nat.le_of_ble_eq_true rfl), (Nat.le_of_ble_eq_true rfl)⟩ rfl hl.1 rfl (Nat.le_of_ble_eq_true rfl) dX11_emitForm_26 ⟨(Nat.le_of_ble_eq_true rfl), (Nat.le_of_ble_eq_true rfl)⟩ (fun x33 σ34 H locs hw hP hD hS => ?_)
    refine lv_istore_n (lv' := [(2, .int (Int32.ofInt x33)), (0, .ref (ad 0 1000)), (1, .int (Int32.ofInt a1))]) hx hb dX11_emitForm_29 rfl hl (by decide) rfl (fun ls hl => ?_)
    refine lv_aload_n hx hb dX11_emitForm_30 rfl (lv_at hl 1 rfl) ?_
    refine zgR0_41 hx hb hg hown hK hP q1656 dX11_emitForm_31 ?_
    obtain ⟨o35, hw⟩ := hw
    refine z_if_ge (tgt := 48) hx hb o35 dX11_emitForm_34 (by decide) (fun k36 => ?_) (fun k36 => ?_)
    · replace hw := hw.1 k36
      exact j48 a1 x33 σ34 _ _ _ hP hD hS (lv_sub hl [1, 2, 0] rfl) hw
    · replace hw := hw.2 k36
      refine lv_aload_n hx hb dX11_emitForm_37 rfl (lv_at hl 1 rfl) ?_
      refine zgR0_42 hx hb hg hown hK hP q1657 dX11_emitForm_38 ?_
      obtain ⟨o37, hw⟩ := hw
      refine z_if_ge (tgt := 48) hx hb o37 dX11_emitForm_41 (by decide) (fun k38 => ?_) (fun k38 => ?_)
      · replace hw := hw.1 k38
        exact j48 a1 x33 σ34 _ _ _ hP hD hS (lv_sub hl [1, 2, 0] rfl) hw
      · replace hw := hw.2 k38
        refine lv_iconst (v := Int32.ofInt 1) hx hb dX11_emitForm_44 (by decide) ?_
        refine lv_goto (tgt := 49) hx hb dX11_emitForm_45 (by decide) ?_
        exact j49 a1 x33 1 σ34 _ _ _ hP hD hS (lv_sub hl [1, 2, 0] rfl) hw
  · replace hw := hw.2 k32
    refine lv_aload_n hx hb dX11_emitForm_7 rfl (lv_at hl 0 rfl) ?_
    refine lv_sipush (v := Int32.ofInt 192) hx hb dX11_emitForm_8 (by decide) ?_
    refine lv_bipush (v := Int32.ofInt 8) hx hb dX11_emitForm_11 (by decide) ?_
    refine lv_iload_n hx hb dX11_emitForm_13 rfl (lv_at hl 1 rfl) ?_
    refine z_imul hx hb dX11_emitForm_14 ?_
    refine z_iadd hx hb dX11_emitForm_15 ?_
    refine lv_aload_n hx hb dX11_emitForm_16 rfl (lv_at hl 0 rfl) ?_
    refine zgR0_38 hx hb hg hown hK hP q1653 dX11_emitForm_17 ?_
    refine z_iadd hx hb dX11_emitForm_20 ?_
    refine z_Vv (n := 1) (As := [.int (Int32.ofInt ((192 + (8 * a1)) + (zI σ 0 38)))]) (rest := []) hx hb hml hg hown hK hP hD hS hA (kX11_octet l D dA ad ((192 + (8 * a1)) + (zI σ 0 38)) σ _ _ hw) (zoR0) rfl q1951 q160 q1948 q1950 q91 (by decide +kernel) ⟨(Nat.le_of_ble_eq_true rfl), (Nat.le_of_ble_eq_true rfl)⟩ rfl hl.1 rfl (Nat.le_of_ble_eq_true rfl) dX11_emitForm_21 ⟨(Nat.le_of_ble_eq_true rfl), (Nat.le_of_ble_eq_true rfl)⟩ (fun σ40 H locs hw hP hD hS => ?_)
    exact hret σ40 _ _ _ _ hw hP hD hS dX11_emitForm_24
def wpX11_movTo_121 (σ : ZS) (Q : Int → ZS → Prop) : Prop := Q 1 σ
def wpX11_movTo_28 (σ : ZS) (Q : Int → ZS → Prop) : Prop := Q 0 σ
def wpX11_movTo_22 (v1 v2 s1 : Int) (σ : ZS) (Q : Int → ZS → Prop) : Prop := wpX11_operand s1 σ (fun (x1 : Int) (σ2 : ZS) => (-2147483648 ≤ x1 ∧ x1 ≤ 2147483647) ∧ (¬ x1 = 0 → (-2147483648 ≤ v1 ∧ v1 ≤ 2147483647) ∧ (¬ v1 = 1 → (-2147483648 ≤ (zI σ2 0 37) ∧ (zI σ2 0 37) ≤ 2147483647) ∧ (¬ (zI σ2 0 37) = 1 → ((zI σ2 0 37) ≤ 2 → wpX11_octet 139 σ2 (fun (σ11 : ZS) => wpX11_emitForm v2 σ11 (fun (σ13 : ZS) => wpX11_movTo_121 σ13 Q))) ∧ (¬ (zI σ2 0 37) ≤ 2 → wpX11_octet (184 + v2) σ2 (fun (σ15 : ZS) => wpX11_emitValue σ15 (fun (σ17 : ZS) => wpX11_movTo_121 σ17 Q)))) ∧ ((zI σ2 0 37) = 1 → wpX11_octet 140 σ2 (fun (σ19 : ZS) => wpX11_octet ((192 + (8 * (zI σ19 0 38))) + v2) σ19 (fun (σ21 : ZS) => wpX11_movTo_121 σ21 Q)))) ∧ (v1 = 1 → wpX11_octet 142 σ2 (fun (σ23 : ZS) => wpX11_emitForm v2 σ23 (fun (σ25 : ZS) => wpX11_movTo_121 σ25 Q)))) ∧ (x1 = 0 → wpX11_movTo_28 σ2 Q))
def wpX11_movTo (a1 a2 : Int) (σ : ZS) (Q : Int → ZS → Prop) : Prop := wpX11_take 44 σ (fun (x26 : Int) (σ27 : ZS) => (-2147483648 ≤ x26 ∧ x26 ≤ 2147483647) ∧ (x26 = 0 → wpX11_movTo_28 σ27 Q) ∧ (¬ x26 = 0 → (-2147483648 ≤ a1 ∧ a1 ≤ 2147483647) ∧ (¬ a1 = 1 → wpX11_movTo_22 a1 a2 27 σ27 Q) ∧ (a1 = 1 → wpX11_movTo_22 a1 a2 9 σ27 Q)))
set_option maxHeartbeats 4000000 in
set_option maxRecDepth 100000 in
theorem kX11_movTo (l : Launch) (D : va_G) (dA : Nat → ClassId) (ad : Int → Nat → Nat) (a1 a2 : Int) (σ : ZS) (Q : Int → ZS → Prop) (sz : Nat) (hw : wpX11_movTo a1 a2 σ Q) : Met l yX11_movTo (gws yX11_movTo cX11_movTo 3 (some .boolean)) (gR 6 0 0) (gPre D dA [.ref (ad 0 1000), .int (Int32.ofInt a1), .int (Int32.ofInt a2)] (zR dA ad σ) sz) (va_Qi (zQi Q) (gAt D dA (va_A (zR dA ad σ) sz) (zR dA ad)) (va_A (zR dA ad σ) sz)) 0 0 (va_A (zR dA ad σ) sz) := by
  refine Met.ofW (cc := cX11_movTo) (maxL := 3) (ret := (some .boolean)) (by decide) rfl ?_
  intro p e s m args below meth c s₁ B hml hv
  obtain ⟨rfl, hsz, hP, hK, hD0⟩ := hv
  have hx := B.exec
  have hb := B.bytes
  have hr := B.returns
  have hts := atoms_spec (ws := gws yX11_movTo cX11_movTo 3 (some .boolean)) B.pre
  have hg : ∀ w ∈ gw, w.before _ s = true := fun w h => hts w (List.mem_cons_of_mem _ h)
  have hown : s.vm.findClass RX11 = some m.cls := findClass_of_methodNamed B.named
  have hlocks := B.notSynchronized
  subst hsz
  have hD := hD0.self (sz := s.heap.size)
  generalize hAe : va_A (zR dA ad σ) s.heap.size = A at hD ⊢
  have hA : ∀ q : Nat, s.heap.size ≤ q → A q := fun q h => by rw [← hAe]; exact Or.inr h
  have hS : va_S A s.heap s.heap [] := va_S.rf
  have hl := lv_entry ([.ref (ad 0 1000), .int (Int32.ofInt a1), .int (Int32.ofInt a2)]) (n := 3) (Nat.le_of_ble_eq_true rfl)
  rw [lg_entry_eq]
  generalize (lg_sl ([.ref (ad 0 1000), .int (Int32.ofInt a1), .int (Int32.ofInt a2)]) ++ List.replicate (3 - (lg_sl ([.ref (ad 0 1000), .int (Int32.ofInt a1), .int (Int32.ofInt a2)])).length) Slot.unset).toArray = ls at hl ⊢
  have hl : lv_has ls 3 [(0, .ref (ad 0 1000)), (1, .int (Int32.ofInt a1)), (2, .int (Int32.ofInt a2))] := hl
  have hret : ∀ (v : Int) (σ : ZS) (H : Heap) (locs : List Loc) (ls : Array Slot) (pc : Nat), (0 ≤ v ∧ v ≤ 1) → Q v σ → va_P D vwC (zR dA ad σ) H → va_D A (zR dA ad σ) → va_S A s.heap H locs → decode cX11_movTo pc = .ok (.ireturn, 1) → W p l e (gR 6 0 0) s m #[.ref (ad 0 1000), .int (Int32.ofInt a1), .int (Int32.ofInt a2)] below meth c H locs 0 0 (MQ below (va_Qi (zQi Q) (gAt D dA A (zR dA ad)) A) #[.ref (ad 0 1000), .int (Int32.ofInt a1), .int (Int32.ofInt a2)] s 0 0 A) (F0 m pc ls [.int (Int32.ofInt v)]) := fun v σ H locs ls pc hv hw hP hD hS hd => g_iret hx hb hr (z_nb hv) hlocks hK σ hP hD hS ⟨v, rfl, hw⟩ (Nat.le_of_ble_eq_true rfl) (Nat.le_of_ble_eq_true rfl) hd
  generalize MQ below (va_Qi (zQi Q) (gAt D dA A (zR dA ad)) A) #[.ref (ad 0 1000), .int (Int32.ofInt a1), .int (Int32.ofInt a2)] s 0 0 A = QQ at hret ⊢
  have j121 : ∀ (σ : ZS), ∀ (H : Heap) (locs : List Loc) (ls : Array Slot), va_P D vwC (zR dA ad σ) H → va_D A (zR dA ad σ) → va_S A s.heap H locs → lv_has ls 3 [] → wpX11_movTo_121 σ Q → W p l e (gR 6 0 0) s m #[.ref (ad 0 1000), .int (Int32.ofInt a1), .int (Int32.ofInt a2)] below meth c H locs 0 0 QQ (F0 m 121 ls []) := by
    intro σ H locs ls hP hD hS hl hw
    unfold wpX11_movTo_121 at hw
    refine lv_iconst (v := Int32.ofInt 1) hx hb dX11_movTo_121 (by decide) ?_
    exact hret 1 σ _ _ _ _ (by decide) hw hP hD hS dX11_movTo_122
  have j28 : ∀ (σ : ZS), ∀ (H : Heap) (locs : List Loc) (ls : Array Slot), va_P D vwC (zR dA ad σ) H → va_D A (zR dA ad σ) → va_S A s.heap H locs → lv_has ls 3 [] → wpX11_movTo_28 σ Q → W p l e (gR 6 0 0) s m #[.ref (ad 0 1000), .int (Int32.ofInt a1), .int (Int32.ofInt a2)] below meth c H locs 0 0 QQ (F0 m 28 ls []) := by
    intro σ H locs ls hP hD hS hl hw
    unfold wpX11_movTo_28 at hw
    refine lv_iconst (v := Int32.ofInt 0) hx hb dX11_movTo_28 (by decide) ?_
    exact hret 0 σ _ _ _ _ (by decide) hw hP hD hS dX11_movTo_29
  have j22 : ∀ (v1 v2 s1 : Int) (σ : ZS), ∀ (H : Heap) (locs : List Loc) (ls : Array Slot), va_P D vwC (zR dA ad σ) H → va_D A (zR dA ad σ) → va_S A s.heap H locs → lv_has ls 3 [(0, .ref (ad 0 1000)), (1, .int (Int32.ofInt v1)), (2, .int (Int32.ofInt v2))] → wpX11_movTo_22 v1 v2 s1 σ Q → W p l e (gR 6 0 0) s m #[.ref (ad 0 1000), .int (Int32.ofInt a1), .int (Int32.ofInt a2)] below meth c H locs 0 0 QQ (F0 m 22 ls [.int (Int32.ofInt s1), .ref (ad 0 1000)]) := by
    intro v1 v2 s1 σ H locs ls hP hD hS hl hw
    unfold wpX11_movTo_22 at hw
    refine z_Vi (n := 1) (As := [.int (Int32.ofInt s1)]) (rest := []) hx hb hml hg hown hK hP hD hS hA (kX11_operand l D dA ad s1 σ _ _ hw) (zoR0) rfl q1979 q160 q1976 q1978 q98 (by decide +kernel) ⟨(Nat.le_of_ble_eq_true rfl), (Nat.le_of_ble_eq_true rfl)⟩ rfl hl.1 rfl (Nat.le_of_ble_eq_true rfl) dX11_movTo_22 ⟨(Nat.le_of_ble_eq_true rfl), (Nat.le_of_ble_eq_true rfl)⟩ (fun x1 σ2 H locs hw hP hD hS => ?_)
    obtain ⟨o3, hw⟩ := hw
    refine z_if_ne (tgt := 30) hx hb o3 dX11_movTo_25 (by decide) (fun k4 => ?_) (fun k4 => ?_)
    · replace hw := hw.1 k4
      refine lv_iload_n hx hb dX11_movTo_30 rfl (lv_at hl 1 rfl) ?_
      refine lv_iconst (v := Int32.ofInt 1) hx hb dX11_movTo_31 (by decide) ?_
      obtain ⟨o5, hw⟩ := hw
      refine z_icmp_ne (tgt := 50) hx hb o5 (by decide) dX11_movTo_32 (by decide) (fun k6 => ?_) (fun k6 => ?_)
      · replace hw := hw.1 k6
        refine lv_aload_n hx hb dX11_movTo_50 rfl (lv_at hl 0 rfl) ?_
        refine zgR0_37 hx hb hg hown hK hP q1652 dX11_movTo_51 ?_
        refine lv_iconst (v := Int32.ofInt 1) hx hb dX11_movTo_54 (by decide) ?_
        obtain ⟨o7, hw⟩ := hw
        refine z_icmp_ne (tgt := 85) hx hb o7 (by decide) dX11_movTo_55 (by decide) (fun k8 => ?_) (fun k8 => ?_)
        · replace hw := hw.1 k8
          refine lv_aload_n hx hb dX11_movTo_85 rfl (lv_at hl 0 rfl) ?_
          refine zgR0_37 hx hb hg hown hK hP q1652 dX11_movTo_86 ?_
          refine lv_iconst (v := Int32.ofInt 2) hx hb dX11_movTo_89 (by decide) ?_
          refine z_icmp_le (tgt := 109) hx hb o7 (by decide) dX11_movTo_90 (by decide) (fun k9 => ?_) (fun k9 => ?_)
          · replace hw := hw.1 k9
            refine lv_aload_n hx hb dX11_movTo_109 rfl (lv_at hl 0 rfl) ?_
            refine lv_sipush (v := Int32.ofInt 139) hx hb dX11_movTo_110 (by decide) ?_
            refine z_Vv (n := 1) (As := [.int (Int32.ofInt 139)]) (rest := []) hx hb hml hg hown hK hP hD hS hA (kX11_octet l D dA ad 139 σ2 _ _ hw) (zoR0) rfl q1951 q160 q1948 q1950 q91 (by decide +kernel) ⟨(Nat.le_of_ble_eq_true rfl), (Nat.le_of_ble_eq_true rfl)⟩ rfl hl.1 rfl (Nat.le_of_ble_eq_true rfl) dX11_movTo_113 ⟨(Nat.le_of_ble_eq_true rfl), (Nat.le_of_ble_eq_true rfl)⟩ (fun σ11 H locs hw hP hD hS => ?_)
            refine lv_aload_n hx hb dX11_movTo_116 rfl (lv_at hl 0 rfl) ?_
            refine lv_iload_n hx hb dX11_movTo_117 rfl (lv_at hl 2 rfl) ?_
            refine z_Vv (n := 1) (As := [.int (Int32.ofInt v2)]) (rest := []) hx hb hml hg hown hK hP hD hS hA (kX11_emitForm l D dA ad v2 σ11 _ _ hw) (zoR0) rfl q1999 q160 q1996 q1998 q103 (by decide +kernel) ⟨(Nat.le_of_ble_eq_true rfl), (Nat.le_of_ble_eq_true rfl)⟩ rfl hl.1 rfl (Nat.le_of_ble_eq_true rfl) dX11_movTo_118 ⟨(Nat.le_of_ble_eq_true rfl), (Nat.le_of_ble_eq_true rfl)⟩ (fun σ13 H locs hw hP hD hS => ?_)
            exact j121 σ13 _ _ _ hP hD hS (lv_sub hl [] rfl) hw
          · replace hw := hw.2 k9
            refine lv_aload_n hx hb dX11_movTo_93 rfl (lv_at hl 0 rfl) ?_
            refine lv_sipush (v := Int32.ofInt 184) hx hb dX11_movTo_94 (by decide) ?_
            refine lv_iload_n hx hb dX11_movTo_97 rfl (lv_at hl 2 rfl) ?_
            refine z_iadd hx hb dX11_movTo_98 ?_
            refine z_Vv (n := 1) (As := [.int (Int32.ofInt (184 + v2))]) (rest := []) hx hb hml hg hown hK hP hD hS hA (kX11_octet l D dA ad (184 + v2) σ2 _ _ hw) (zoR0) rfl q1951 q160 q1948 q1950 q91 (by decide +kernel) ⟨(Nat.le_of_ble_eq_true rfl), (Nat.le_of_ble_eq_true rfl)⟩ rfl hl.1 rfl (Nat.le_of_ble_eq_true rfl) dX11_movTo_99 ⟨(Nat.le_of_ble_eq_true rfl), (Nat.le_of_ble_eq_true rfl)⟩ (fun σ15 H locs hw hP hD hS => ?_)
            refine lv_aload_n hx hb dX11_movTo_102 rfl (lv_at hl 0 rfl) ?_
            refine z_Vv (n := 0) (As := []) (rest := []) hx hb hml hg hown hK hP hD hS hA (kX11_emitValue l D dA ad σ15 _ _ hw) (zoR0) rfl q1963 q160 q1960 q1962 q94 (by decide +kernel) ⟨(Nat.le_of_ble_eq_true rfl), (Nat.le_of_ble_eq_true rfl)⟩ rfl hl.1 rfl (Nat.le_of_ble_eq_true rfl) dX11_movTo_103 ⟨(Nat.le_of_ble_eq_true rfl), (Nat.le_of_ble_eq_true rfl)⟩ (fun σ17 H locs hw hP hD hS => ?_)
            refine lv_goto (tgt := 121) hx hb dX11_movTo_106 (by decide) ?_
            exact j121 σ17 _ _ _ hP hD hS (lv_sub hl [] rfl) hw
        · replace hw := hw.2 k8
          refine lv_aload_n hx hb dX11_movTo_58 rfl (lv_at hl 0 rfl) ?_
          refine lv_sipush (v := Int32.ofInt 140) hx hb dX11_movTo_59 (by decide) ?_
          refine z_Vv (n := 1) (As := [.int (Int32.ofInt 140)]) (rest := []) hx hb hml hg hown hK hP hD hS hA (kX11_octet l D dA ad 140 σ2 _ _ hw) (zoR0) rfl q1951 q160 q1948 q1950 q91 (by decide +kernel) ⟨(Nat.le_of_ble_eq_true rfl), (Nat.le_of_ble_eq_true rfl)⟩ rfl hl.1 rfl (Nat.le_of_ble_eq_true rfl) dX11_movTo_62 ⟨(Nat.le_of_ble_eq_true rfl), (Nat.le_of_ble_eq_true rfl)⟩ (fun σ19 H locs hw hP hD hS => ?_)
          refine lv_aload_n hx hb dX11_movTo_65 rfl (lv_at hl 0 rfl) ?_
          refine lv_sipush (v := Int32.ofInt 192) hx hb dX11_movTo_66 (by decide) ?_
          refine lv_bipush (v := Int32.ofInt 8) hx hb dX11_movTo_69 (by decide) ?_
          refine lv_aload_n hx hb dX11_movTo_71 rfl (lv_at hl 0 rfl) ?_
          refine zgR0_38 hx hb hg hown hK hP q1653 dX11_movTo_72 ?_
          refine z_imul hx hb dX11_movTo_75 ?_
          refine z_iadd hx hb dX11_movTo_76 ?_
          refine lv_iload_n hx hb dX11_movTo_77 rfl (lv_at hl 2 rfl) ?_
          refine z_iadd hx hb dX11_movTo_78 ?_
          refine z_Vv (n := 1) (As := [.int (Int32.ofInt ((192 + (8 * (zI σ19 0 38))) + v2))]) (rest := []) hx hb hml hg hown hK hP hD hS hA (kX11_octet l D dA ad ((192 + (8 * (zI σ19 0 38))) + v2) σ19 _ _ hw) (zoR0) rfl q1951 q160 q1948 q1950 q91 (by decide +kernel) ⟨(Nat.le_of_ble_eq_true rfl), (Nat.le_of_ble_eq_true rfl)⟩ rfl hl.1 rfl (Nat.le_of_ble_eq_true rfl) dX11_movTo_79 ⟨(Nat.le_of_ble_eq_true rfl), (Nat.le_of_ble_eq_true rfl)⟩ (fun σ21 H locs hw hP hD hS => ?_)
          refine lv_goto (tgt := 121) hx hb dX11_movTo_82 (by decide) ?_
          exact j121 σ21 _ _ _ hP hD hS (lv_sub hl [] rfl) hw
      · replace hw := hw.2 k6
        refine lv_aload_n hx hb dX11_movTo_35 rfl (lv_at hl 0 rfl) ?_
        refine lv_sipush (v := Int32.ofInt 142) hx hb dX11_movTo_36 (by decide) ?_
        refine z_Vv (n := 1) (As := [.int (Int32.ofInt 142)]) (rest := []) hx hb hml hg hown hK hP hD hS hA (kX11_octet l D dA ad 142 σ2 _ _ hw) (zoR0) rfl q1951 q160 q1948 q1950 q91 (by decide +kernel) ⟨(Nat.le_of_ble_eq_true rfl), (Nat.le_of_ble_eq_true rfl)⟩ rfl hl.1 rfl (Nat.le_of_ble_eq_true rfl) dX11_movTo_39 ⟨(Nat.le_of_ble_eq_true rfl), (Nat.le_of_ble_eq_true rfl)⟩ (fun σ23 H locs hw hP hD hS => ?_)
        refine lv_aload_n hx hb dX11_movTo_42 rfl (lv_at hl 0 rfl) ?_
        refine lv_iload_n hx hb dX11_movTo_43 rfl (lv_at hl 2 rfl) ?_
        refine z_Vv (n := 1) (As := [.int (Int32.ofInt v2)]) (rest := []) hx hb hml hg hown hK hP hD hS hA (kX11_emitForm l D dA ad v2 σ23 _ _ hw) (zoR0) rfl q1999 q160 q1996 q1998 q103 (by decide +kernel) ⟨(Nat.le_of_ble_eq_true rfl), (Nat.le_of_ble_eq_true rfl)⟩ rfl hl.1 rfl (Nat.le_of_ble_eq_true rfl) dX11_movTo_44 ⟨(Nat.le_of_ble_eq_true rfl), (Nat.le_of_ble_eq_true rfl)⟩ (fun σ25 H locs hw hP hD hS => ?_)
        refine lv_goto (tgt := 121) hx hb dX11_movTo_47 (by decide) ?_
        exact j121 σ25 _ _ _ hP hD hS (lv_sub hl [] rfl) hw
    · replace hw := hw.2 k4
      exact j28 σ2 _ _ _ hP hD hS (lv_sub hl [] rfl) hw
  unfold wpX11_movTo at hw
  refine lv_aload_n hx hb dX11_movTo_0 rfl (lv_at hl 0 rfl) ?_
  refine lv_bipush (v := Int32.ofInt 44) hx hb dX11_movTo_1 (by decide) ?_
  refine z_Vi (n := 1) (As := [.int (Int32.ofInt 44)]) (rest := []) hx hb hml hg hown hK hP hD hS hA (kX11_take l D dA ad 44 σ _ _ hw) (zoR0) rfl q1931 q160 q1928 q1930 q86 (by decide +kernel) ⟨(Nat.le_of_ble_eq_true rfl), (Nat.le_of_ble_eq_true rfl)⟩ rfl hl.1 rfl (Nat.le_of_ble_eq_true rfl) dX11_movTo_3 ⟨(Nat.le_of_ble_eq_true rfl), (Nat.le_of_ble_eq_true rfl)⟩ (fun x26 σ27 H locs hw hP hD hS => ?_)
  obtain ⟨o28, hw⟩ := hw
  refine z_if_eq (tgt := 28) hx hb o28 dX11_movTo_6 (by decide) (fun k29 => ?_) (fun k29 => ?_)
  · replace hw := hw.1 k29
    exact j28 σ27 _ _ _ hP hD hS (lv_sub hl [] rfl) hw
  · replace hw := hw.2 k29
    refine lv_aload_n hx hb dX11_movTo_9 rfl (lv_at hl 0 rfl) ?_
    refine lv_iload_n hx hb dX11_movTo_10 rfl (lv_at hl 1 rfl) ?_
    refine lv_iconst (v := Int32.ofInt 1) hx hb dX11_movTo_11 (by decide) ?_
    obtain ⟨o30, hw⟩ := hw
    refine z_icmp_ne (tgt := 20) hx hb o30 (by decide) dX11_movTo_12 (by decide) (fun k31 => ?_) (fun k31 => ?_)
    · replace hw := hw.1 k31
      refine lv_bipush (v := Int32.ofInt 27) hx hb dX11_movTo_20 (by decide) ?_
      exact j22 a1 a2 27 σ27 _ _ _ hP hD hS (lv_sub hl [0, 1, 2] rfl) hw
    · replace hw := hw.2 k31
      refine lv_bipush (v := Int32.ofInt 9) hx hb dX11_movTo_15 (by decide) ?_
      refine lv_goto (tgt := 22) hx hb dX11_movTo_17 (by decide) ?_
      exact j22 a1 a2 9 σ27 _ _ _ hP hD hS (lv_sub hl [0, 1, 2] rfl) hw
def wpX11_mov_209 (s0 : Int) (σ : ZS) (Q : Int → ZS → Prop) : Prop := (0 ≤ s0 ∧ s0 ≤ 1) ∧ Q s0 σ
def wpX11_mov_196 (v3 : Int) (σ : ZS) (Q : Int → ZS → Prop) : Prop := (-2147483648 ≤ v3 ∧ v3 ≤ 2147483647) ∧ (-2147483648 ≤ (zI σ 0 31) ∧ (zI σ 0 31) ≤ 2147483647) ∧ ((zI σ 0 31) ≤ v3 → wpX11_mov_209 0 σ Q) ∧ (¬ (zI σ 0 31) ≤ v3 → wpX11_mov_209 1 σ Q)
def wpX11_mov_165 (v3 v7 v8 v9 s1 : Int) (σ : ZS) (Q : Int → ZS → Prop) : Prop := wpX11_emitForm s1 σ (fun (σ6 : ZS) => (-2147483648 ≤ v7 ∧ v7 ≤ 2147483647) ∧ (v7 ≤ 2 → wpX11_mov_196 v3 (zsI (zsI (zsI σ6 0 37 v7) 0 38 v8) 0 39 v9) Q) ∧ (¬ v7 ≤ 2 → wpX11_emitValue (zsI (zsI (zsI σ6 0 37 v7) 0 38 v8) 0 39 v9) (fun (σ10 : ZS) => wpX11_mov_196 v3 σ10 Q)))
def wpX11_mov_149 (v3 v7 v8 v9 s1 : Int) (σ : ZS) (Q : Int → ZS → Prop) : Prop := wpX11_octet s1 σ (fun (σ12 : ZS) => (-2147483648 ≤ v7 ∧ v7 ≤ 2147483647) ∧ (2 ≤ v7 → wpX11_mov_165 v3 v7 v8 v9 0 σ12 Q) ∧ (¬ 2 ≤ v7 → wpX11_mov_165 v3 v7 v8 v9 v8 σ12 Q))
def wpX11_mov_74 (σ : ZS) (Q : Int → ZS → Prop) : Prop := Q 0 σ
def wpX11_mov (σ : ZS) (Q : Int → ZS → Prop) : Prop := wpX11_operand 13 σ (fun (x15 : Int) (σ16 : ZS) => (-2147483648 ≤ x15 ∧ x15 ≤ 2147483647) ∧ (¬ x15 = 0 → (-2147483648 ≤ (zI σ16 0 37) ∧ (zI σ16 0 37) ≤ 2147483647) ∧ ((zI σ16 0 37) = 2 → wpX11_take 44 σ16 (fun (x21 : Int) (σ22 : ZS) => (-2147483648 ≤ x21 ∧ x21 ≤ 2147483647) ∧ (x21 = 0 → wpX11_mov_74 σ22 Q) ∧ (¬ x21 = 0 → wpX11_operand 19 σ22 (fun (x25 : Int) (σ26 : ZS) => (-2147483648 ≤ x25 ∧ x25 ≤ 2147483647) ∧ (¬ x25 = 0 → (-2147483648 ≤ (zI σ26 0 37) ∧ (zI σ26 0 37) ≤ 2147483647) ∧ (¬ (zI σ26 0 37) = 0 → (¬ (zI σ26 0 37) = 1 → wpX11_mov_149 (zI σ16 0 31) (zI σ26 0 37) (zI σ26 0 38) (zI σ26 0 39) 199 (zsI (zsI (zsI (zsI (zsI σ26 0 37 2) 0 38 (zI σ16 0 38)) 0 39 (zI σ16 0 39)) 0 41 (zI σ16 0 41)) 0 42 (zI σ16 0 42)) Q) ∧ ((zI σ26 0 37) = 1 → wpX11_mov_149 (zI σ16 0 31) (zI σ26 0 37) (zI σ26 0 38) (zI σ26 0 39) 140 (zsI (zsI (zsI (zsI (zsI σ26 0 37 2) 0 38 (zI σ16 0 38)) 0 39 (zI σ16 0 39)) 0 41 (zI σ16 0 41)) 0 42 (zI σ16 0 42)) Q)) ∧ ((zI σ26 0 37) = 0 → wpX11_mov_149 (zI σ16 0 31) (zI σ26 0 37) (zI σ26 0 38) (zI σ26 0 39) 137 (zsI (zsI (zsI (zsI (zsI σ26 0 37 2) 0 38 (zI σ16 0 38)) 0 39 (zI σ16 0 39)) 0 41 (zI σ16 0 41)) 0 42 (zI σ16 0 42)) Q)) ∧ (x25 = 0 → wpX11_mov_74 σ26 Q))))) ∧ (¬ (zI σ16 0 37) = 2 → wpX11_movTo (zI σ16 0 37) (zI σ16 0 38) σ16 (fun (x32 : Int) (σ33 : ZS) => (0 ≤ x32 ∧ x32 ≤ 1) ∧ Q x32 σ33))) ∧ (x15 = 0 → Q 0 σ16))
set_option maxHeartbeats 4000000 in
set_option maxRecDepth 100000 in
theorem kX11_mov (l : Launch) (D : va_G) (dA : Nat → ClassId) (ad : Int → Nat → Nat) (σ : ZS) (Q : Int → ZS → Prop) (sz : Nat) (hw : wpX11_mov σ Q) : Met l yX11_mov (gws yX11_mov cX11_mov 10 (some .boolean)) (gR 7 0 0) (gPre D dA [.ref (ad 0 1000)] (zR dA ad σ) sz) (va_Qi (zQi Q) (gAt D dA (va_A (zR dA ad σ) sz) (zR dA ad)) (va_A (zR dA ad σ) sz)) 0 0 (va_A (zR dA ad σ) sz) := by
  refine Met.ofW (cc := cX11_mov) (maxL := 10) (ret := (some .boolean)) (by decide) rfl ?_
  intro p e s m args below meth c s₁ B hml hv
  obtain ⟨rfl, hsz, hP, hK, hD0⟩ := hv
  have hx := B.exec
  have hb := B.bytes
  have hr := B.returns
  have hts := atoms_spec (ws := gws yX11_mov cX11_mov 10 (some .boolean)) B.pre
  have hg : ∀ w ∈ gw, w.before _ s = true := fun w h => hts w (List.mem_cons_of_mem _ h)
  have hown : s.vm.findClass RX11 = some m.cls := findClass_of_methodNamed B.named
  have hlocks := B.notSynchronized
  subst hsz
  have hD := hD0.self (sz := s.heap.size)
  generalize hAe : va_A (zR dA ad σ) s.heap.size = A at hD ⊢
  have hA : ∀ q : Nat, s.heap.size ≤ q → A q := fun q h => by rw [← hAe]; exact Or.inr h
  have hS : va_S A s.heap s.heap [] := va_S.rf
  have hl := lv_entry ([.ref (ad 0 1000)]) (n := 10) (Nat.le_of_ble_eq_true rfl)
  rw [lg_entry_eq]
  generalize (lg_sl ([.ref (ad 0 1000)]) ++ List.replicate (10 - (lg_sl ([.ref (ad 0 1000)])).length) Slot.unset).toArray = ls at hl ⊢
  have hl : lv_has ls 10 [(0, .ref (ad 0 1000))] := hl
  have hret : ∀ (v : Int) (σ : ZS) (H : Heap) (locs : List Loc) (ls : Array Slot) (pc : Nat), (0 ≤ v ∧ v ≤ 1) → Q v σ → va_P D vwC (zR dA ad σ) H → va_D A (zR dA ad σ) → va_S A s.heap H locs → decode cX11_mov pc = .ok (.ireturn, 1) → W p l e (gR 7 0 0) s m #[.ref (ad 0 1000)] below meth c H locs 0 0 (MQ below (va_Qi (zQi Q) (gAt D dA A (zR dA ad)) A) #[.ref (ad 0 1000)] s 0 0 A) (F0 m pc ls [.int (Int32.ofInt v)]) := fun v σ H locs ls pc hv hw hP hD hS hd => g_iret hx hb hr (z_nb hv) hlocks hK σ hP hD hS ⟨v, rfl, hw⟩ (Nat.le_of_ble_eq_true rfl) (Nat.le_of_ble_eq_true rfl) hd
  generalize MQ below (va_Qi (zQi Q) (gAt D dA A (zR dA ad)) A) #[.ref (ad 0 1000)] s 0 0 A = QQ at hret ⊢
  have j209 : ∀ (s0 : Int) (σ : ZS), ∀ (H : Heap) (locs : List Loc) (ls : Array Slot), va_P D vwC (zR dA ad σ) H → va_D A (zR dA ad σ) → va_S A s.heap H locs → lv_has ls 10 [] → wpX11_mov_209 s0 σ Q → W p l e (gR 7 0 0) s m #[.ref (ad 0 1000)] below meth c H locs 0 0 QQ (F0 m 209 ls [.int (Int32.ofInt s0)]) := by
    intro s0 σ H locs ls hP hD hS hl hw
    unfold wpX11_mov_209 at hw
    obtain ⟨o1, hw⟩ := hw
    exact hret s0 σ _ _ _ _ o1 hw hP hD hS dX11_mov_209
  have j196 : ∀ (v3 : Int) (σ : ZS), ∀ (H : Heap) (locs : List Loc) (ls : Array Slot), va_P D vwC (zR dA ad σ) H → va_D A (zR dA ad σ) → va_S A s.heap H locs → lv_has ls 10 [(0, .ref (ad 0 1000)), (3, .int (Int32.ofInt v3))] → wpX11_mov_196 v3 σ Q → W p l e (gR 7 0 0) s m #[.ref (ad 0 1000)] below meth c H locs 0 0 QQ (F0 m 196 ls []) := by
    intro v3 σ H locs ls hP hD hS hl hw
    unfold wpX11_mov_196 at hw
    refine lv_iload_n hx hb dX11_mov_196 rfl (lv_at hl 1 rfl) ?_
    refine lv_aload_n hx hb dX11_mov_197 rfl (lv_at hl 0 rfl) ?_
    refine zgR0_31 hx hb hg hown hK hP q1646 dX11_mov_198 ?_
    obtain ⟨o2, hw⟩ := hw
    obtain ⟨o3, hw⟩ := hw
    refine z_icmp_ge (tgt := 208) hx hb o2 o3 dX11_mov_201 (by decide) (fun k4 => ?_) (fun k4 => ?_)
    · replace hw := hw.1 k4
      refine lv_iconst (v := Int32.ofInt 0) hx hb dX11_mov_208 (by decide) ?_
      exact j209 0 σ _ _ _ hP hD hS (lv_sub hl [] rfl) hw
    · replace hw := hw.2 k4
      refine lv_iconst (v := Int32.ofInt 1) hx hb dX11_mov_204 (by decide) ?_
      refine lv_goto (tgt := 209) hx hb dX11_mov_205 (by decide) ?_
      exact j209 1 σ _ _ _ hP hD hS (lv_sub hl [] rfl) hw
  have j165 : ∀ (v3 v7 v8 v9 s1 : Int) (σ : ZS), ∀ (H : Heap) (locs : List Loc) (ls : Array Slot), va_P D vwC (zR dA ad σ) H → va_D A (zR dA ad σ) → va_S A s.heap H locs → lv_has ls 10 [(0, .ref (ad 0 1000)), (3, .int (Int32.ofInt v3)), (7, .int (Int32.ofInt v7)), (8, .int (Int32.ofInt v8)), (9, .int (Int32.ofInt v9))] → wpX11_mov_165 v3 v7 v8 v9 s1 σ Q → W p l e (gR 7 0 0) s m #[.ref (ad 0 1000)] below meth c H locs 0 0 QQ (F0 m 165 ls [.int (Int32.ofInt s1), .ref (ad 0 1000)]) := by
    intro v3 v7 v8 v9 s1 σ H locs ls hP hD hS hl hw
    unfold wpX11_mov_165 at hw
    refine z_Vv (n := 1) (As := [.int (Int32.ofInt s1)]) (rest := []) hx hb hml hg hown hK hP hD hS hA (kX11_emitForm l D dA ad s1 σ _ _ hw) (zoR0) rfl q1999 q160 q1996 q1998 q103 (by decide +kernel) ⟨(Nat.le_of_ble_eq_true rfl), (Nat.le_of_ble_eq_true rfl)⟩ rfl hl.1 rfl (Nat.le_of_ble_eq_true rfl) dX11_mov_165 ⟨(Nat.le_of_ble_eq_true rfl), (Nat.le_of_ble_eq_true rfl)⟩ (fun σ6 H locs hw hP hD hS => ?_)
    refine lv_aload_n hx hb dX11_mov_168 rfl (lv_at hl 0 rfl) ?_
    refine lv_iload hx hb dX11_mov_169 (lv_at hl 2 rfl) ?_
    refine zpR0_37 (v := v7) hx hb hg hown hK hP hD hS q1652 dX11_mov_171 (fun H locs hP hD hS => ?_)
    refine lv_aload_n hx hb dX11_mov_174 rfl (lv_at hl 0 rfl) ?_
    refine lv_iload hx hb dX11_mov_175 (lv_at hl 3 rfl) ?_
    refine zpR0_38 (v := v8) hx hb hg hown hK hP hD hS q1653 dX11_mov_177 (fun H locs hP hD hS => ?_)
    refine lv_aload_n hx hb dX11_mov_180 rfl (lv_at hl 0 rfl) ?_
    refine lv_iload hx hb dX11_mov_181 (lv_at hl 4 rfl) ?_
    refine zpR0_39 (v := v9) hx hb hg hown hK hP hD hS q1654 dX11_mov_183 (fun H locs hP hD hS => ?_)
    refine lv_iload hx hb dX11_mov_186 (lv_at hl 2 rfl) ?_
    refine lv_iconst (v := Int32.ofInt 2) hx hb dX11_mov_188 (by decide) ?_
    obtain ⟨o7, hw⟩ := hw
    refine z_icmp_le (tgt := 196) hx hb o7 (by decide) dX11_mov_189 (by decide) (fun k8 => ?_) (fun k8 => ?_)
    · replace hw := hw.1 k8
      exact j196 v3 (zsI (zsI (zsI σ6 0 37 v7) 0 38 v8) 0 39 v9) _ _ _ hP hD hS (lv_sub hl [0, 1] rfl) hw
    · replace hw := hw.2 k8
      refine lv_aload_n hx hb dX11_mov_192 rfl (lv_at hl 0 rfl) ?_
      refine z_Vv (n := 0) (As := []) (rest := []) hx hb hml hg hown hK hP hD hS hA (kX11_emitValue l D dA ad (zsI (zsI (zsI σ6 0 37 v7) 0 38 v8) 0 39 v9) _ _ hw) (zoR0) rfl q1963 q160 q1960 q1962 q94 (by decide +kernel) ⟨(Nat.le_of_ble_eq_true rfl), (Nat.le_of_ble_eq_true rfl)⟩ rfl hl.1 rfl (Nat.le_of_ble_eq_true rfl) dX11_mov_193 ⟨(Nat.le_of_ble_eq_true rfl), (Nat.le_of_ble_eq_true rfl)⟩ (fun σ10 H locs hw hP hD hS => ?_)
      exact j196 v3 σ10 _ _ _ hP hD hS (lv_sub hl [0, 1] rfl) hw
  have j149 : ∀ (v3 v7 v8 v9 s1 : Int) (σ : ZS), ∀ (H : Heap) (locs : List Loc) (ls : Array Slot), va_P D vwC (zR dA ad σ) H → va_D A (zR dA ad σ) → va_S A s.heap H locs → lv_has ls 10 [(0, .ref (ad 0 1000)), (3, .int (Int32.ofInt v3)), (7, .int (Int32.ofInt v7)), (8, .int (Int32.ofInt v8)), (9, .int (Int32.ofInt v9))] → wpX11_mov_149 v3 v7 v8 v9 s1 σ Q → W p l e (gR 7 0 0) s m #[.ref (ad 0 1000)] below meth c H locs 0 0 QQ (F0 m 149 ls [.int (Int32.ofInt s1), .ref (ad 0 1000)]) := by
    intro v3 v7 v8 v9 s1 σ H locs ls hP hD hS hl hw
    unfold wpX11_mov_149 at hw
    refine z_Vv (n := 1) (As := [.int (Int32.ofInt s1)]) (rest := []) hx hb hml hg hown hK hP hD hS hA (kX11_octet l D dA ad s1 σ _ _ hw) (zoR0) rfl q1951 q160 q1948 q1950 q91 (by decide +kernel) ⟨(Nat.le_of_ble_eq_true rfl), (Nat.le_of_ble_eq_true rfl)⟩ rfl hl.1 rfl (Nat.le_of_ble_eq_true rfl) dX11_mov_149 ⟨(Nat.le_of_ble_eq_true rfl), (Nat.le_of_ble_eq_true rfl)⟩ (fun σ12 H locs hw hP hD hS => ?_)
    refine lv_aload_n hx hb dX11_mov_152 rfl (lv_at hl 0 rfl) ?_
    refine lv_iload hx hb dX11_mov_153 (lv_at hl 2 rfl) ?_
    refine lv_iconst (v := Int32.ofInt 2) hx hb dX11_mov_155 (by decide) ?_
    obtain ⟨o13, hw⟩ := hw
    refine z_icmp_ge (tgt := 164) hx hb o13 (by decide) dX11_mov_156 (by decide) (fun k14 => ?_) (fun k14 => ?_)
    · replace hw := hw.1 k14
      refine lv_iconst (v := Int32.ofInt 0) hx hb dX11_mov_164 (by decide) ?_
      exact j165 v3 v7 v8 v9 0 σ12 _ _ _ hP hD hS (lv_sub hl [0, 1, 2, 3, 4] rfl) hw
    · replace hw := hw.2 k14
      refine lv_iload hx hb dX11_mov_159 (lv_at hl 3 rfl) ?_
      refine lv_goto (tgt := 165) hx hb dX11_mov_161 (by decide) ?_
      exact j165 v3 v7 v8 v9 v8 σ12 _ _ _ hP hD hS (lv_sub hl [0, 1, 2, 3, 4] rfl) hw
  have j74 : ∀ (σ : ZS), ∀ (H : Heap) (locs : List Loc) (ls : Array Slot), va_P D vwC (zR dA ad σ) H → va_D A (zR dA ad σ) → va_S A s.heap H locs → lv_has ls 10 [] → wpX11_mov_74 σ Q → W p l e (gR 7 0 0) s m #[.ref (ad 0 1000)] below meth c H locs 0 0 QQ (F0 m 74 ls []) := by
    intro σ H locs ls hP hD hS hl hw
    unfold wpX11_mov_74 at hw
    refine lv_iconst (v := Int32.ofInt 0) hx hb dX11_mov_74 (by decide) ?_
    exact hret 0 σ _ _ _ _ (by decide) hw hP hD hS dX11_mov_75
  unfold wpX11_mov at hw
  refine lv_aload_n hx hb dX11_mov_0 rfl (lv_at hl 0 rfl) ?_
  refine lv_bipush (v := Int32.ofInt 13) hx hb dX11_mov_1 (by decide) ?_
  refine z_Vi (n := 1) (As := [.int (Int32.ofInt 13)]) (rest := []) hx hb hml hg hown hK hP hD hS hA (kX11_operand l D dA ad 13 σ _ _ hw) (zoR0) rfl q1979 q160 q1976 q1978 q98 (by decide +kernel) ⟨(Nat.le_of_ble_eq_true rfl), (Nat.le_of_ble_eq_true rfl)⟩ rfl hl.1 rfl (Nat.le_of_ble_eq_true rfl) dX11_mov_3 ⟨(Nat.le_of_ble_eq_true rfl), (Nat.le_of_ble_eq_true rfl)⟩ (fun x15 σ16 H locs hw hP hD hS => ?_)
  obtain ⟨o17, hw⟩ := hw
  refine z_if_ne (tgt := 11) hx hb o17 dX11_mov_6 (by decide) (fun k18 => ?_) (fun k18 => ?_)
  · replace hw := hw.1 k18
    refine lv_aload_n hx hb dX11_mov_11 rfl (lv_at hl 0 rfl) ?_
    refine zgR0_37 hx hb hg hown hK hP q1652 dX11_mov_12 ?_
    refine lv_istore_n (lv' := [(1, .int (Int32.ofInt (zI σ16 0 37))), (0, .ref (ad 0 1000))]) hx hb dX11_mov_15 rfl hl (by decide) rfl (fun ls hl => ?_)
    refine lv_aload_n hx hb dX11_mov_16 rfl (lv_at hl 1 rfl) ?_
    refine zgR0_38 hx hb hg hown hK hP q1653 dX11_mov_17 ?_
    refine lv_istore_n (lv' := [(2, .int (Int32.ofInt (zI σ16 0 38))), (1, .int (Int32.ofInt (zI σ16 0 37))), (0, .ref (ad 0 1000))]) hx hb dX11_mov_20 rfl hl (by decide) rfl (fun ls hl => ?_)
    refine lv_iload_n hx hb dX11_mov_21 rfl (lv_at hl 1 rfl) ?_
    refine lv_iconst (v := Int32.ofInt 2) hx hb dX11_mov_22 (by decide) ?_
    obtain ⟨o19, hw⟩ := hw
    refine z_icmp_eq (tgt := 33) hx hb o19 (by decide) dX11_mov_23 (by decide) (fun k20 => ?_) (fun k20 => ?_)
    · replace hw := hw.1 k20
      refine lv_aload_n hx hb dX11_mov_33 rfl (lv_at hl 2 rfl) ?_
      refine zgR0_31 hx hb hg hown hK hP q1646 dX11_mov_34 ?_
      refine lv_istore_n (lv' := [(3, .int (Int32.ofInt (zI σ16 0 31))), (2, .int (Int32.ofInt (zI σ16 0 38))), (1, .int (Int32.ofInt (zI σ16 0 37))), (0, .ref (ad 0 1000))]) hx hb dX11_mov_37 rfl hl (by decide) rfl (fun ls hl => ?_)
      refine lv_aload_n hx hb dX11_mov_38 rfl (lv_at hl 3 rfl) ?_
      refine zgR0_39 hx hb hg hown hK hP q1654 dX11_mov_39 ?_
      refine lv_istore (lv' := [(4, .int (Int32.ofInt (zI σ16 0 39))), (3, .int (Int32.ofInt (zI σ16 0 31))), (2, .int (Int32.ofInt (zI σ16 0 38))), (1, .int (Int32.ofInt (zI σ16 0 37))), (0, .ref (ad 0 1000))]) hx hb dX11_mov_42 hl (by decide) rfl (fun ls hl => ?_)
      refine lv_aload_n hx hb dX11_mov_44 rfl (lv_at hl 4 rfl) ?_
      refine zgR0_41 hx hb hg hown hK hP q1656 dX11_mov_45 ?_
      refine lv_istore (lv' := [(5, .int (Int32.ofInt (zI σ16 0 41))), (4, .int (Int32.ofInt (zI σ16 0 39))), (3, .int (Int32.ofInt (zI σ16 0 31))), (2, .int (Int32.ofInt (zI σ16 0 38))), (1, .int (Int32.ofInt (zI σ16 0 37))), (0, .ref (ad 0 1000))]) hx hb dX11_mov_48 hl (by decide) rfl (fun ls hl => ?_)
      refine lv_aload_n hx hb dX11_mov_50 rfl (lv_at hl 5 rfl) ?_
      refine zgR0_42 hx hb hg hown hK hP q1657 dX11_mov_51 ?_
      refine lv_istore (lv' := [(6, .int (Int32.ofInt (zI σ16 0 42))), (5, .int (Int32.ofInt (zI σ16 0 41))), (4, .int (Int32.ofInt (zI σ16 0 39))), (3, .int (Int32.ofInt (zI σ16 0 31))), (2, .int (Int32.ofInt (zI σ16 0 38))), (1, .int (Int32.ofInt (zI σ16 0 37))), (0, .ref (ad 0 1000))]) hx hb dX11_mov_54 hl (by decide) rfl (fun ls hl => ?_)
      refine lv_aload_n hx hb dX11_mov_56 rfl (lv_at hl 6 rfl) ?_
      refine lv_bipush (v := Int32.ofInt 44) hx hb dX11_mov_57 (by decide) ?_
      refine z_Vi (n := 1) (As := [.int (Int32.ofInt 44)]) (rest := []) hx hb hml hg hown hK hP hD hS hA (kX11_take l D dA ad 44 σ16 _ _ hw) (zoR0) rfl q1931 q160 q1928 q1930 q86 (by decide +kernel) ⟨(Nat.le_of_ble_eq_true rfl), (Nat.le_of_ble_eq_true rfl)⟩ rfl hl.1 rfl (Nat.le_of_ble_eq_true rfl) dX11_mov_59 ⟨(Nat.le_of_ble_eq_true rfl), (Nat.le_of_ble_eq_true rfl)⟩ (fun x21 σ22 H locs hw hP hD hS => ?_)
      obtain ⟨o23, hw⟩ := hw
      refine z_if_eq (tgt := 74) hx hb o23 dX11_mov_62 (by decide) (fun k24 => ?_) (fun k24 => ?_)
      · replace hw := hw.1 k24
        exact j74 σ22 _ _ _ hP hD hS (lv_sub hl [] rfl) hw
      · replace hw := hw.2 k24
        refine lv_aload_n hx hb dX11_mov_65 rfl (lv_at hl 6 rfl) ?_
        refine lv_bipush (v := Int32.ofInt 19) hx hb dX11_mov_66 (by decide) ?_
        refine z_Vi (n := 1) (As := [.int (Int32.ofInt 19)]) (rest := []) hx hb hml hg hown hK hP hD hS hA (kX11_operand l D dA ad 19 σ22 _ _ hw) (zoR0) rfl q1979 q160 q1976 q1978 q98 (by decide +kernel) ⟨(Nat.le_of_ble_eq_true rfl), (Nat.le_of_ble_eq_true rfl)⟩ rfl hl.1 rfl (Nat.le_of_ble_eq_true rfl) dX11_mov_68 ⟨(Nat.le_of_ble_eq_true rfl), (Nat.le_of_ble_eq_true rfl)⟩ (fun x25 σ26 H locs hw hP hD hS => ?_)
        obtain ⟨o27, hw⟩ := hw
        refine z_if_ne (tgt := 76) hx hb o27 dX11_mov_71 (by decide) (fun k28 => ?_) (fun k28 => ?_)
        · replace hw := hw.1 k28
          refine lv_aload_n hx hb dX11_mov_76 rfl (lv_at hl 6 rfl) ?_
          refine zgR0_37 hx hb hg hown hK hP q1652 dX11_mov_77 ?_
          refine lv_istore (lv' := [(7, .int (Int32.ofInt (zI σ26 0 37))), (6, .int (Int32.ofInt (zI σ16 0 42))), (5, .int (Int32.ofInt (zI σ16 0 41))), (4, .int (Int32.ofInt (zI σ16 0 39))), (3, .int (Int32.ofInt (zI σ16 0 31))), (2, .int (Int32.ofInt (zI σ16 0 38))), (1, .int (Int32.ofInt (zI σ16 0 37))), (0, .ref (ad 0 1000))]) hx hb dX11_mov_80 hl (by decide) rfl (fun ls hl => ?_)
          refine lv_aload_n hx hb dX11_mov_82 rfl (lv_at hl 7 rfl) ?_
          refine zgR0_38 hx hb hg hown hK hP q1653 dX11_mov_83 ?_
          refine lv_istore (lv' := [(8, .int (Int32.ofInt (zI σ26 0 38))), (7, .int (Int32.ofInt (zI σ26 0 37))), (6, .int (Int32.ofInt (zI σ16 0 42))), (5, .int (Int32.ofInt (zI σ16 0 41))), (4, .int (Int32.ofInt (zI σ16 0 39))), (3, .int (Int32.ofInt (zI σ16 0 31))), (2, .int (Int32.ofInt (zI σ16 0 38))), (1, .int (Int32.ofInt (zI σ16 0 37))), (0, .ref (ad 0 1000))]) hx hb dX11_mov_86 hl (by decide) rfl (fun ls hl => ?_)
          refine lv_aload_n hx hb dX11_mov_88 rfl (lv_at hl 8 rfl) ?_
          refine zgR0_39 hx hb hg hown hK hP q1654 dX11_mov_89 ?_
          refine lv_istore (lv' := [(9, .int (Int32.ofInt (zI σ26 0 39))), (8, .int (Int32.ofInt (zI σ26 0 38))), (7, .int (Int32.ofInt (zI σ26 0 37))), (6, .int (Int32.ofInt (zI σ16 0 42))), (5, .int (Int32.ofInt (zI σ16 0 41))), (4, .int (Int32.ofInt (zI σ16 0 39))), (3, .int (Int32.ofInt (zI σ16 0 31))), (2, .int (Int32.ofInt (zI σ16 0 38))), (1, .int (Int32.ofInt (zI σ16 0 37))), (0, .ref (ad 0 1000))]) hx hb dX11_mov_92 hl (by decide) rfl (fun ls hl => ?_)
          refine lv_aload_n hx hb dX11_mov_94 rfl (lv_at hl 9 rfl) ?_
          refine lv_iconst (v := Int32.ofInt 2) hx hb dX11_mov_95 (by decide) ?_
          refine zpR0_37 (v := 2) hx hb hg hown hK hP hD hS q1652 dX11_mov_96 (fun H locs hP hD hS => ?_)
          refine lv_aload_n hx hb dX11_mov_99 rfl (lv_at hl 9 rfl) ?_
          refine lv_iload_n hx hb dX11_mov_100 rfl (lv_at hl 7 rfl) ?_
          refine zpR0_38 (v := (zI σ16 0 38)) hx hb hg hown hK hP hD hS q1653 dX11_mov_101 (fun H locs hP hD hS => ?_)
          refine lv_aload_n hx hb dX11_mov_104 rfl (lv_at hl 9 rfl) ?_
          refine lv_iload hx hb dX11_mov_105 (lv_at hl 5 rfl) ?_
          refine zpR0_39 (v := (zI σ16 0 39)) hx hb hg hown hK hP hD hS q1654 dX11_mov_107 (fun H locs hP hD hS => ?_)
          refine lv_aload_n hx hb dX11_mov_110 rfl (lv_at hl 9 rfl) ?_
          refine lv_iload hx hb dX11_mov_111 (lv_at hl 4 rfl) ?_
          refine zpR0_41 (v := (zI σ16 0 41)) hx hb hg hown hK hP hD hS q1656 dX11_mov_113 (fun H locs hP hD hS => ?_)
          refine lv_aload_n hx hb dX11_mov_116 rfl (lv_at hl 9 rfl) ?_
          refine lv_iload hx hb dX11_mov_117 (lv_at hl 3 rfl) ?_
          refine zpR0_42 (v := (zI σ16 0 42)) hx hb hg hown hK hP hD hS q1657 dX11_mov_119 (fun H locs hP hD hS => ?_)
          refine lv_aload_n hx hb dX11_mov_122 rfl (lv_at hl 9 rfl) ?_
          refine lv_iload hx hb dX11_mov_123 (lv_at hl 2 rfl) ?_
          obtain ⟨o29, hw⟩ := hw
          refine z_if_ne (tgt := 134) hx hb o29 dX11_mov_125 (by decide) (fun k30 => ?_) (fun k30 => ?_)
          · replace hw := hw.1 k30
            refine lv_iload hx hb dX11_mov_134 (lv_at hl 2 rfl) ?_
            refine lv_iconst (v := Int32.ofInt 1) hx hb dX11_mov_136 (by decide) ?_
            refine z_icmp_ne (tgt := 146) hx hb o29 (by decide) dX11_mov_137 (by decide) (fun k31 => ?_) (fun k31 => ?_)
            · replace hw := hw.1 k31
              refine lv_sipush (v := Int32.ofInt 199) hx hb dX11_mov_146 (by decide) ?_
              exact j149 (zI σ16 0 31) (zI σ26 0 37) (zI σ26 0 38) (zI σ26 0 39) 199 (zsI (zsI (zsI (zsI (zsI σ26 0 37 2) 0 38 (zI σ16 0 38)) 0 39 (zI σ16 0 39)) 0 41 (zI σ16 0 41)) 0 42 (zI σ16 0 42)) _ _ _ hP hD hS (lv_sub hl [9, 6, 2, 1, 0] rfl) hw
            · replace hw := hw.2 k31
              refine lv_sipush (v := Int32.ofInt 140) hx hb dX11_mov_140 (by decide) ?_
              refine lv_goto (tgt := 149) hx hb dX11_mov_143 (by decide) ?_
              exact j149 (zI σ16 0 31) (zI σ26 0 37) (zI σ26 0 38) (zI σ26 0 39) 140 (zsI (zsI (zsI (zsI (zsI σ26 0 37 2) 0 38 (zI σ16 0 38)) 0 39 (zI σ16 0 39)) 0 41 (zI σ16 0 41)) 0 42 (zI σ16 0 42)) _ _ _ hP hD hS (lv_sub hl [9, 6, 2, 1, 0] rfl) hw
          · replace hw := hw.2 k30
            refine lv_sipush (v := Int32.ofInt 137) hx hb dX11_mov_128 (by decide) ?_
            refine lv_goto (tgt := 149) hx hb dX11_mov_131 (by decide) ?_
            exact j149 (zI σ16 0 31) (zI σ26 0 37) (zI σ26 0 38) (zI σ26 0 39) 137 (zsI (zsI (zsI (zsI (zsI σ26 0 37 2) 0 38 (zI σ16 0 38)) 0 39 (zI σ16 0 39)) 0 41 (zI σ16 0 41)) 0 42 (zI σ16 0 42)) _ _ _ hP hD hS (lv_sub hl [9, 6, 2, 1, 0] rfl) hw
        · replace hw := hw.2 k28
          exact j74 σ26 _ _ _ hP hD hS (lv_sub hl [] rfl) hw
    · replace hw := hw.2 k20
      refine lv_aload_n hx hb dX11_mov_26 rfl (lv_at hl 2 rfl) ?_
      refine lv_iload_n hx hb dX11_mov_27 rfl (lv_at hl 1 rfl) ?_
      refine lv_iload_n hx hb dX11_mov_28 rfl (lv_at hl 0 rfl) ?_
      refine z_Vi (n := 2) (As := [.int (Int32.ofInt (zI σ16 0 37)), .int (Int32.ofInt (zI σ16 0 38))]) (rest := []) hx hb hml hg hown hK hP hD hS hA (kX11_movTo l D dA ad (zI σ16 0 37) (zI σ16 0 38) σ16 _ _ hw) (zoR0) rfl q1995 q160 q1992 q1994 q102 (by decide +kernel) ⟨(Nat.le_of_ble_eq_true rfl), (Nat.le_of_ble_eq_true rfl)⟩ rfl hl.1 rfl (Nat.le_of_ble_eq_true rfl) dX11_mov_29 ⟨(Nat.le_of_ble_eq_true rfl), (Nat.le_of_ble_eq_true rfl)⟩ (fun x32 σ33 H locs hw hP hD hS => ?_)
      obtain ⟨o34, hw⟩ := hw
      exact hret x32 σ33 _ _ _ _ o34 hw hP hD hS dX11_mov_32
  · replace hw := hw.2 k18
    refine lv_iconst (v := Int32.ofInt 0) hx hb dX11_mov_9 (by decide) ?_
    exact hret 0 σ16 _ _ _ _ (by decide) hw hP hD hS dX11_mov_10
def wpX11_reckon_210 (σ : ZS) (Q : Int → ZS → Prop) : Prop := Q 1 σ
def wpX11_reckon_179 (v7 v8 v9 s1 : Int) (σ : ZS) (Q : Int → ZS → Prop) : Prop := wpX11_emitForm s1 σ (fun (σ2 : ZS) => (-2147483648 ≤ v7 ∧ v7 ≤ 2147483647) ∧ (v7 ≤ 2 → wpX11_reckon_210 (zsI (zsI (zsI σ2 0 37 v7) 0 38 v8) 0 39 v9) Q) ∧ (¬ v7 ≤ 2 → wpX11_emitValue (zsI (zsI (zsI σ2 0 37 v7) 0 38 v8) 0 39 v9) (fun (σ6 : ZS) => wpX11_reckon_210 σ6 Q)))
def wpX11_reckon_164 (v1 v7 v8 v9 s1 : Int) (σ : ZS) (Q : Int → ZS → Prop) : Prop := wpX11_octet s1 σ (fun (σ8 : ZS) => (-2147483648 ≤ v7 ∧ v7 ≤ 2147483647) ∧ (¬ v7 = 0 → wpX11_reckon_179 v7 v8 v9 v1 σ8 Q) ∧ (v7 = 0 → wpX11_reckon_179 v7 v8 v9 v8 σ8 Q))
def wpX11_reckon_118 (v1 v2 v3 v4 v5 v6 v7 v8 v9 : Int) (σ : ZS) (Q : Int → ZS → Prop) : Prop := (-2147483648 ≤ v7 ∧ v7 ≤ 2147483647) ∧ (¬ v7 = 0 → wpX11_reckon_164 v1 v7 v8 v9 129 (zsI (zsI (zsI (zsI (zsI σ 0 37 v2) 0 38 v3) 0 39 v4) 0 41 v5) 0 42 v6) Q) ∧ (v7 = 0 → wpX11_reckon_164 v1 v7 v8 v9 ((8 * v1) + 1) (zsI (zsI (zsI (zsI (zsI σ 0 37 v2) 0 38 v3) 0 39 v4) 0 41 v5) 0 42 v6) Q)
def wpX11_reckon_101 (v1 v3 : Int) (σ : ZS) (Q : Int → ZS → Prop) : Prop := wpX11_octet ((8 * v1) + 3) σ (fun (σ14 : ZS) => wpX11_emitForm v3 σ14 (fun (σ16 : ZS) => Q 1 σ16))
def wpX11_reckon_66 (σ : ZS) (Q : Int → ZS → Prop) : Prop := Q 0 σ
def wpX11_reckon_60 (v1 v2 v3 v4 v5 v6 s1 : Int) (σ : ZS) (Q : Int → ZS → Prop) : Prop := wpX11_operand s1 σ (fun (x17 : Int) (σ18 : ZS) => (-2147483648 ≤ x17 ∧ x17 ≤ 2147483647) ∧ (¬ x17 = 0 → (-2147483648 ≤ v2 ∧ v2 ≤ 2147483647) ∧ (¬ v2 = 0 → wpX11_reckon_118 v1 v2 v3 v4 v5 v6 (zI σ18 0 37) (zI σ18 0 38) (zI σ18 0 39) σ18 Q) ∧ (v2 = 0 → (-2147483648 ≤ (zI σ18 0 37) ∧ (zI σ18 0 37) ≤ 2147483647) ∧ ((zI σ18 0 37) = 0 → wpX11_reckon_101 v1 v3 σ18 Q) ∧ (¬ (zI σ18 0 37) = 0 → (¬ (zI σ18 0 37) = 2 → wpX11_reckon_118 v1 v2 v3 v4 v5 v6 (zI σ18 0 37) (zI σ18 0 38) (zI σ18 0 39) σ18 Q) ∧ ((zI σ18 0 37) = 2 → wpX11_reckon_101 v1 v3 σ18 Q)))) ∧ (x17 = 0 → wpX11_reckon_66 σ18 Q))
def wpX11_reckon (a1 : Int) (σ : ZS) (Q : Int → ZS → Prop) : Prop := wpX11_operand 9 σ (fun (x26 : Int) (σ27 : ZS) => (-2147483648 ≤ x26 ∧ x26 ≤ 2147483647) ∧ (¬ x26 = 0 → wpX11_take 44 σ27 (fun (x30 : Int) (σ31 : ZS) => (-2147483648 ≤ x30 ∧ x30 ≤ 2147483647) ∧ (x30 = 0 → wpX11_reckon_66 σ31 Q) ∧ (¬ x30 = 0 → (-2147483648 ≤ (zI σ27 0 37) ∧ (zI σ27 0 37) ≤ 2147483647) ∧ (¬ (zI σ27 0 37) = 0 → wpX11_reckon_60 a1 (zI σ27 0 37) (zI σ27 0 38) (zI σ27 0 39) (zI σ27 0 41) (zI σ27 0 42) 17 σ31 Q) ∧ ((zI σ27 0 37) = 0 → wpX11_reckon_60 a1 (zI σ27 0 37) (zI σ27 0 38) (zI σ27 0 39) (zI σ27 0 41) (zI σ27 0 42) 25 σ31 Q)))) ∧ (x26 = 0 → Q 0 σ27))
set_option maxHeartbeats 4000000 in
set_option maxRecDepth 100000 in
theorem kX11_reckon (l : Launch) (D : va_G) (dA : Nat → ClassId) (ad : Int → Nat → Nat) (a1 : Int) (σ : ZS) (Q : Int → ZS → Prop) (sz : Nat) (hw : wpX11_reckon a1 σ Q) : Met l yX11_reckon (gws yX11_reckon cX11_reckon 10 (some .boolean)) (gR 6 0 0) (gPre D dA [.ref (ad 0 1000), .int (Int32.ofInt a1)] (zR dA ad σ) sz) (va_Qi (zQi Q) (gAt D dA (va_A (zR dA ad σ) sz) (zR dA ad)) (va_A (zR dA ad σ) sz)) 0 0 (va_A (zR dA ad σ) sz) := by
  refine Met.ofW (cc := cX11_reckon) (maxL := 10) (ret := (some .boolean)) (by decide) rfl ?_
  intro p e s m args below meth c s₁ B hml hv
  obtain ⟨rfl, hsz, hP, hK, hD0⟩ := hv
  have hx := B.exec
  have hb := B.bytes
  have hr := B.returns
  have hts := atoms_spec (ws := gws yX11_reckon cX11_reckon 10 (some .boolean)) B.pre
  have hg : ∀ w ∈ gw, w.before _ s = true := fun w h => hts w (List.mem_cons_of_mem _ h)
  have hown : s.vm.findClass RX11 = some m.cls := findClass_of_methodNamed B.named
  have hlocks := B.notSynchronized
  subst hsz
  have hD := hD0.self (sz := s.heap.size)
  generalize hAe : va_A (zR dA ad σ) s.heap.size = A at hD ⊢
  have hA : ∀ q : Nat, s.heap.size ≤ q → A q := fun q h => by rw [← hAe]; exact Or.inr h
  have hS : va_S A s.heap s.heap [] := va_S.rf
  have hl := lv_entry ([.ref (ad 0 1000), .int (Int32.ofInt a1)]) (n := 10) (Nat.le_of_ble_eq_true rfl)
  rw [lg_entry_eq]
  generalize (lg_sl ([.ref (ad 0 1000), .int (Int32.ofInt a1)]) ++ List.replicate (10 - (lg_sl ([.ref (ad 0 1000), .int (Int32.ofInt a1)])).length) Slot.unset).toArray = ls at hl ⊢
  have hl : lv_has ls 10 [(0, .ref (ad 0 1000)), (1, .int (Int32.ofInt a1))] := hl
  have hret : ∀ (v : Int) (σ : ZS) (H : Heap) (locs : List Loc) (ls : Array Slot) (pc : Nat), (0 ≤ v ∧ v ≤ 1) → Q v σ → va_P D vwC (zR dA ad σ) H → va_D A (zR dA ad σ) → va_S A s.heap H locs → decode cX11_reckon pc = .ok (.ireturn, 1) → W p l e (gR 6 0 0) s m #[.ref (ad 0 1000), .int (Int32.ofInt a1)] below meth c H locs 0 0 (MQ below (va_Qi (zQi Q) (gAt D dA A (zR dA ad)) A) #[.ref (ad 0 1000), .int (Int32.ofInt a1)] s 0 0 A) (F0 m pc ls [.int (Int32.ofInt v)]) := fun v σ H locs ls pc hv hw hP hD hS hd => g_iret hx hb hr (z_nb hv) hlocks hK σ hP hD hS ⟨v, rfl, hw⟩ (Nat.le_of_ble_eq_true rfl) (Nat.le_of_ble_eq_true rfl) hd
  generalize MQ below (va_Qi (zQi Q) (gAt D dA A (zR dA ad)) A) #[.ref (ad 0 1000), .int (Int32.ofInt a1)] s 0 0 A = QQ at hret ⊢
  have j210 : ∀ (σ : ZS), ∀ (H : Heap) (locs : List Loc) (ls : Array Slot), va_P D vwC (zR dA ad σ) H → va_D A (zR dA ad σ) → va_S A s.heap H locs → lv_has ls 10 [] → wpX11_reckon_210 σ Q → W p l e (gR 6 0 0) s m #[.ref (ad 0 1000), .int (Int32.ofInt a1)] below meth c H locs 0 0 QQ (F0 m 210 ls []) := by
    intro σ H locs ls hP hD hS hl hw
    unfold wpX11_reckon_210 at hw
    refine lv_iconst (v := Int32.ofInt 1) hx hb dX11_reckon_210 (by decide) ?_
    exact hret 1 σ _ _ _ _ (by decide) hw hP hD hS dX11_reckon_211
  have j179 : ∀ (v7 v8 v9 s1 : Int) (σ : ZS), ∀ (H : Heap) (locs : List Loc) (ls : Array Slot), va_P D vwC (zR dA ad σ) H → va_D A (zR dA ad σ) → va_S A s.heap H locs → lv_has ls 10 [(0, .ref (ad 0 1000)), (7, .int (Int32.ofInt v7)), (8, .int (Int32.ofInt v8)), (9, .int (Int32.ofInt v9))] → wpX11_reckon_179 v7 v8 v9 s1 σ Q → W p l e (gR 6 0 0) s m #[.ref (ad 0 1000), .int (Int32.ofInt a1)] below meth c H locs 0 0 QQ (F0 m 179 ls [.int (Int32.ofInt s1), .ref (ad 0 1000)]) := by
    intro v7 v8 v9 s1 σ H locs ls hP hD hS hl hw
    unfold wpX11_reckon_179 at hw
    refine z_Vv (n := 1) (As := [.int (Int32.ofInt s1)]) (rest := []) hx hb hml hg hown hK hP hD hS hA (kX11_emitForm l D dA ad s1 σ _ _ hw) (zoR0) rfl q1999 q160 q1996 q1998 q103 (by decide +kernel) ⟨(Nat.le_of_ble_eq_true rfl), (Nat.le_of_ble_eq_true rfl)⟩ rfl hl.1 rfl (Nat.le_of_ble_eq_true rfl) dX11_reckon_179 ⟨(Nat.le_of_ble_eq_true rfl), (Nat.le_of_ble_eq_true rfl)⟩ (fun σ2 H locs hw hP hD hS => ?_)
    refine lv_aload_n hx hb dX11_reckon_182 rfl (lv_at hl 0 rfl) ?_
    refine lv_iload hx hb dX11_reckon_183 (lv_at hl 1 rfl) ?_
    refine zpR0_37 (v := v7) hx hb hg hown hK hP hD hS q1652 dX11_reckon_185 (fun H locs hP hD hS => ?_)
    refine lv_aload_n hx hb dX11_reckon_188 rfl (lv_at hl 0 rfl) ?_
    refine lv_iload hx hb dX11_reckon_189 (lv_at hl 2 rfl) ?_
    refine zpR0_38 (v := v8) hx hb hg hown hK hP hD hS q1653 dX11_reckon_191 (fun H locs hP hD hS => ?_)
    refine lv_aload_n hx hb dX11_reckon_194 rfl (lv_at hl 0 rfl) ?_
    refine lv_iload hx hb dX11_reckon_195 (lv_at hl 3 rfl) ?_
    refine zpR0_39 (v := v9) hx hb hg hown hK hP hD hS q1654 dX11_reckon_197 (fun H locs hP hD hS => ?_)
    refine lv_iload hx hb dX11_reckon_200 (lv_at hl 1 rfl) ?_
    refine lv_iconst (v := Int32.ofInt 2) hx hb dX11_reckon_202 (by decide) ?_
    obtain ⟨o3, hw⟩ := hw
    refine z_icmp_le (tgt := 210) hx hb o3 (by decide) dX11_reckon_203 (by decide) (fun k4 => ?_) (fun k4 => ?_)
    · replace hw := hw.1 k4
      exact j210 (zsI (zsI (zsI σ2 0 37 v7) 0 38 v8) 0 39 v9) _ _ _ hP hD hS (lv_sub hl [] rfl) hw
    · replace hw := hw.2 k4
      refine lv_aload_n hx hb dX11_reckon_206 rfl (lv_at hl 0 rfl) ?_
      refine z_Vv (n := 0) (As := []) (rest := []) hx hb hml hg hown hK hP hD hS hA (kX11_emitValue l D dA ad (zsI (zsI (zsI σ2 0 37 v7) 0 38 v8) 0 39 v9) _ _ hw) (zoR0) rfl q1963 q160 q1960 q1962 q94 (by decide +kernel) ⟨(Nat.le_of_ble_eq_true rfl), (Nat.le_of_ble_eq_true rfl)⟩ rfl hl.1 rfl (Nat.le_of_ble_eq_true rfl) dX11_reckon_207 ⟨(Nat.le_of_ble_eq_true rfl), (Nat.le_of_ble_eq_true rfl)⟩ (fun σ6 H locs hw hP hD hS => ?_)
      exact j210 σ6 _ _ _ hP hD hS (lv_sub hl [] rfl) hw
  have j164 : ∀ (v1 v7 v8 v9 s1 : Int) (σ : ZS), ∀ (H : Heap) (locs : List Loc) (ls : Array Slot), va_P D vwC (zR dA ad σ) H → va_D A (zR dA ad σ) → va_S A s.heap H locs → lv_has ls 10 [(0, .ref (ad 0 1000)), (1, .int (Int32.ofInt v1)), (7, .int (Int32.ofInt v7)), (8, .int (Int32.ofInt v8)), (9, .int (Int32.ofInt v9))] → wpX11_reckon_164 v1 v7 v8 v9 s1 σ Q → W p l e (gR 6 0 0) s m #[.ref (ad 0 1000), .int (Int32.ofInt a1)] below meth c H locs 0 0 QQ (F0 m 164 ls [.int (Int32.ofInt s1), .ref (ad 0 1000)]) := by
    intro v1 v7 v8 v9 s1 σ H locs ls hP hD hS hl hw
    unfold wpX11_reckon_164 at hw
    refine z_Vv (n := 1) (As := [.int (Int32.ofInt s1)]) (rest := []) hx hb hml hg hown hK hP hD hS hA (kX11_octet l D dA ad s1 σ _ _ hw) (zoR0) rfl q1951 q160 q1948 q1950 q91 (by decide +kernel) ⟨(Nat.le_of_ble_eq_true rfl), (Nat.le_of_ble_eq_true rfl)⟩ rfl hl.1 rfl (Nat.le_of_ble_eq_true rfl) dX11_reckon_164 ⟨(Nat.le_of_ble_eq_true rfl), (Nat.le_of_ble_eq_true rfl)⟩ (fun σ8 H locs hw hP hD hS => ?_)
    refine lv_aload_n hx hb dX11_reckon_167 rfl (lv_at hl 0 rfl) ?_
    refine lv_iload hx hb dX11_reckon_168 (lv_at hl 2 rfl) ?_
    obtain ⟨o9, hw⟩ := hw
    refine z_if_ne (tgt := 178) hx hb o9 dX11_reckon_170 (by decide) (fun k10 => ?_) (fun k10 => ?_)
    · replace hw := hw.1 k10
      refine lv_iload_n hx hb dX11_reckon_178 rfl (lv_at hl 1 rfl) ?_
      exact j179 v7 v8 v9 v1 σ8 _ _ _ hP hD hS (lv_sub hl [0, 2, 3, 4] rfl) hw
    · replace hw := hw.2 k10
      refine lv_iload hx hb dX11_reckon_173 (lv_at hl 3 rfl) ?_
      refine lv_goto (tgt := 179) hx hb dX11_reckon_175 (by decide) ?_
      exact j179 v7 v8 v9 v8 σ8 _ _ _ hP hD hS (lv_sub hl [0, 2, 3, 4] rfl) hw
  have j118 : ∀ (v1 v2 v3 v4 v5 v6 v7 v8 v9 : Int) (σ : ZS), ∀ (H : Heap) (locs : List Loc) (ls : Array Slot), va_P D vwC (zR dA ad σ) H → va_D A (zR dA ad σ) → va_S A s.heap H locs → lv_has ls 10 [(0, .ref (ad 0 1000)), (1, .int (Int32.ofInt v1)), (2, .int (Int32.ofInt v2)), (3, .int (Int32.ofInt v3)), (4, .int (Int32.ofInt v4)), (5, .int (Int32.ofInt v5)), (6, .int (Int32.ofInt v6)), (7, .int (Int32.ofInt v7)), (8, .int (Int32.ofInt v8)), (9, .int (Int32.ofInt v9))] → wpX11_reckon_118 v1 v2 v3 v4 v5 v6 v7 v8 v9 σ Q → W p l e (gR 6 0 0) s m #[.ref (ad 0 1000), .int (Int32.ofInt a1)] below meth c H locs 0 0 QQ (F0 m 118 ls []) := by
    intro v1 v2 v3 v4 v5 v6 v7 v8 v9 σ H locs ls hP hD hS hl hw
    unfold wpX11_reckon_118 at hw
    refine lv_aload_n hx hb dX11_reckon_118 rfl (lv_at hl 0 rfl) ?_
    refine lv_iload_n hx hb dX11_reckon_119 rfl (lv_at hl 2 rfl) ?_
    refine zpR0_37 (v := v2) hx hb hg hown hK hP hD hS q1652 dX11_reckon_120 (fun H locs hP hD hS => ?_)
    refine lv_aload_n hx hb dX11_reckon_123 rfl (lv_at hl 0 rfl) ?_
    refine lv_iload_n hx hb dX11_reckon_124 rfl (lv_at hl 3 rfl) ?_
    refine zpR0_38 (v := v3) hx hb hg hown hK hP hD hS q1653 dX11_reckon_125 (fun H locs hP hD hS => ?_)
    refine lv_aload_n hx hb dX11_reckon_128 rfl (lv_at hl 0 rfl) ?_
    refine lv_iload hx hb dX11_reckon_129 (lv_at hl 4 rfl) ?_
    refine zpR0_39 (v := v4) hx hb hg hown hK hP hD hS q1654 dX11_reckon_131 (fun H locs hP hD hS => ?_)
    refine lv_aload_n hx hb dX11_reckon_134 rfl (lv_at hl 0 rfl) ?_
    refine lv_iload hx hb dX11_reckon_135 (lv_at hl 5 rfl) ?_
    refine zpR0_41 (v := v5) hx hb hg hown hK hP hD hS q1656 dX11_reckon_137 (fun H locs hP hD hS => ?_)
    refine lv_aload_n hx hb dX11_reckon_140 rfl (lv_at hl 0 rfl) ?_
    refine lv_iload hx hb dX11_reckon_141 (lv_at hl 6 rfl) ?_
    refine zpR0_42 (v := v6) hx hb hg hown hK hP hD hS q1657 dX11_reckon_143 (fun H locs hP hD hS => ?_)
    refine lv_aload_n hx hb dX11_reckon_146 rfl (lv_at hl 0 rfl) ?_
    refine lv_iload hx hb dX11_reckon_147 (lv_at hl 7 rfl) ?_
    obtain ⟨o11, hw⟩ := hw
    refine z_if_ne (tgt := 161) hx hb o11 dX11_reckon_149 (by decide) (fun k12 => ?_) (fun k12 => ?_)
    · replace hw := hw.1 k12
      refine lv_sipush (v := Int32.ofInt 129) hx hb dX11_reckon_161 (by decide) ?_
      exact j164 v1 v7 v8 v9 129 (zsI (zsI (zsI (zsI (zsI σ 0 37 v2) 0 38 v3) 0 39 v4) 0 41 v5) 0 42 v6) _ _ _ hP hD hS (lv_sub hl [0, 1, 7, 8, 9] rfl) hw
    · replace hw := hw.2 k12
      refine lv_bipush (v := Int32.ofInt 8) hx hb dX11_reckon_152 (by decide) ?_
      refine lv_iload_n hx hb dX11_reckon_154 rfl (lv_at hl 1 rfl) ?_
      refine z_imul hx hb dX11_reckon_155 ?_
      refine lv_iconst (v := Int32.ofInt 1) hx hb dX11_reckon_156 (by decide) ?_
      refine z_iadd hx hb dX11_reckon_157 ?_
      refine lv_goto (tgt := 164) hx hb dX11_reckon_158 (by decide) ?_
      exact j164 v1 v7 v8 v9 ((8 * v1) + 1) (zsI (zsI (zsI (zsI (zsI σ 0 37 v2) 0 38 v3) 0 39 v4) 0 41 v5) 0 42 v6) _ _ _ hP hD hS (lv_sub hl [0, 1, 7, 8, 9] rfl) hw
  have j101 : ∀ (v1 v3 : Int) (σ : ZS), ∀ (H : Heap) (locs : List Loc) (ls : Array Slot), va_P D vwC (zR dA ad σ) H → va_D A (zR dA ad σ) → va_S A s.heap H locs → lv_has ls 10 [(0, .ref (ad 0 1000)), (1, .int (Int32.ofInt v1)), (3, .int (Int32.ofInt v3))] → wpX11_reckon_101 v1 v3 σ Q → W p l e (gR 6 0 0) s m #[.ref (ad 0 1000), .int (Int32.ofInt a1)] below meth c H locs 0 0 QQ (F0 m 101 ls []) := by
    intro v1 v3 σ H locs ls hP hD hS hl hw
    unfold wpX11_reckon_101 at hw
    refine lv_aload_n hx hb dX11_reckon_101 rfl (lv_at hl 0 rfl) ?_
    refine lv_bipush (v := Int32.ofInt 8) hx hb dX11_reckon_102 (by decide) ?_
    refine lv_iload_n hx hb dX11_reckon_104 rfl (lv_at hl 1 rfl) ?_
    refine z_imul hx hb dX11_reckon_105 ?_
    refine lv_iconst (v := Int32.ofInt 3) hx hb dX11_reckon_106 (by decide) ?_
    refine z_iadd hx hb dX11_reckon_107 ?_
    refine z_Vv (n := 1) (As := [.int (Int32.ofInt ((8 * v1) + 3))]) (rest := []) hx hb hml hg hown hK hP hD hS hA (kX11_octet l D dA ad ((8 * v1) + 3) σ _ _ hw) (zoR0) rfl q1951 q160 q1948 q1950 q91 (by decide +kernel) ⟨(Nat.le_of_ble_eq_true rfl), (Nat.le_of_ble_eq_true rfl)⟩ rfl hl.1 rfl (Nat.le_of_ble_eq_true rfl) dX11_reckon_108 ⟨(Nat.le_of_ble_eq_true rfl), (Nat.le_of_ble_eq_true rfl)⟩ (fun σ14 H locs hw hP hD hS => ?_)
    refine lv_aload_n hx hb dX11_reckon_111 rfl (lv_at hl 0 rfl) ?_
    refine lv_iload_n hx hb dX11_reckon_112 rfl (lv_at hl 2 rfl) ?_
    refine z_Vv (n := 1) (As := [.int (Int32.ofInt v3)]) (rest := []) hx hb hml hg hown hK hP hD hS hA (kX11_emitForm l D dA ad v3 σ14 _ _ hw) (zoR0) rfl q1999 q160 q1996 q1998 q103 (by decide +kernel) ⟨(Nat.le_of_ble_eq_true rfl), (Nat.le_of_ble_eq_true rfl)⟩ rfl hl.1 rfl (Nat.le_of_ble_eq_true rfl) dX11_reckon_113 ⟨(Nat.le_of_ble_eq_true rfl), (Nat.le_of_ble_eq_true rfl)⟩ (fun σ16 H locs hw hP hD hS => ?_)
    refine lv_iconst (v := Int32.ofInt 1) hx hb dX11_reckon_116 (by decide) ?_
    exact hret 1 σ16 _ _ _ _ (by decide) hw hP hD hS dX11_reckon_117
  have j66 : ∀ (σ : ZS), ∀ (H : Heap) (locs : List Loc) (ls : Array Slot), va_P D vwC (zR dA ad σ) H → va_D A (zR dA ad σ) → va_S A s.heap H locs → lv_has ls 10 [] → wpX11_reckon_66 σ Q → W p l e (gR 6 0 0) s m #[.ref (ad 0 1000), .int (Int32.ofInt a1)] below meth c H locs 0 0 QQ (F0 m 66 ls []) := by
    intro σ H locs ls hP hD hS hl hw
    unfold wpX11_reckon_66 at hw
    refine lv_iconst (v := Int32.ofInt 0) hx hb dX11_reckon_66 (by decide) ?_
    exact hret 0 σ _ _ _ _ (by decide) hw hP hD hS dX11_reckon_67
  have j60 : ∀ (v1 v2 v3 v4 v5 v6 s1 : Int) (σ : ZS), ∀ (H : Heap) (locs : List Loc) (ls : Array Slot), va_P D vwC (zR dA ad σ) H → va_D A (zR dA ad σ) → va_S A s.heap H locs → lv_has ls 10 [(0, .ref (ad 0 1000)), (1, .int (Int32.ofInt v1)), (2, .int (Int32.ofInt v2)), (3, .int (Int32.ofInt v3)), (4, .int (Int32.ofInt v4)), (5, .int (Int32.ofInt v5)), (6, .int (Int32.ofInt v6))] → wpX11_reckon_60 v1 v2 v3 v4 v5 v6 s1 σ Q → W p l e (gR 6 0 0) s m #[.ref (ad 0 1000), .int (Int32.ofInt a1)] below meth c H locs 0 0 QQ (F0 m 60 ls [.int (Int32.ofInt s1), .ref (ad 0 1000)]) := by
    intro v1 v2 v3 v4 v5 v6 s1 σ H locs ls hP hD hS hl hw
    unfold wpX11_reckon_60 at hw
    refine z_Vi (n := 1) (As := [.int (Int32.ofInt s1)]) (rest := []) hx hb hml hg hown hK hP hD hS hA (kX11_operand l D dA ad s1 σ _ _ hw) (zoR0) rfl q1979 q160 q1976 q1978 q98 (by decide +kernel) ⟨(Nat.le_of_ble_eq_true rfl), (Nat.le_of_ble_eq_true rfl)⟩ rfl hl.1 rfl (Nat.le_of_ble_eq_true rfl) dX11_reckon_60 ⟨(Nat.le_of_ble_eq_true rfl), (Nat.le_of_ble_eq_true rfl)⟩ (fun x17 σ18 H locs hw hP hD hS => ?_)
    obtain ⟨o19, hw⟩ := hw
    refine z_if_ne (tgt := 68) hx hb o19 dX11_reckon_63 (by decide) (fun k20 => ?_) (fun k20 => ?_)
    · replace hw := hw.1 k20
      refine lv_aload_n hx hb dX11_reckon_68 rfl (lv_at hl 0 rfl) ?_
      refine zgR0_37 hx hb hg hown hK hP q1652 dX11_reckon_69 ?_
      refine lv_istore (lv' := [(7, .int (Int32.ofInt (zI σ18 0 37))), (0, .ref (ad 0 1000)), (1, .int (Int32.ofInt v1)), (2, .int (Int32.ofInt v2)), (3, .int (Int32.ofInt v3)), (4, .int (Int32.ofInt v4)), (5, .int (Int32.ofInt v5)), (6, .int (Int32.ofInt v6))]) hx hb dX11_reckon_72 hl (by decide) rfl (fun ls hl => ?_)
      refine lv_aload_n hx hb dX11_reckon_74 rfl (lv_at hl 1 rfl) ?_
      refine zgR0_38 hx hb hg hown hK hP q1653 dX11_reckon_75 ?_
      refine lv_istore (lv' := [(8, .int (Int32.ofInt (zI σ18 0 38))), (7, .int (Int32.ofInt (zI σ18 0 37))), (0, .ref (ad 0 1000)), (1, .int (Int32.ofInt v1)), (2, .int (Int32.ofInt v2)), (3, .int (Int32.ofInt v3)), (4, .int (Int32.ofInt v4)), (5, .int (Int32.ofInt v5)), (6, .int (Int32.ofInt v6))]) hx hb dX11_reckon_78 hl (by decide) rfl (fun ls hl => ?_)
      refine lv_aload_n hx hb dX11_reckon_80 rfl (lv_at hl 2 rfl) ?_
      refine zgR0_39 hx hb hg hown hK hP q1654 dX11_reckon_81 ?_
      refine lv_istore (lv' := [(9, .int (Int32.ofInt (zI σ18 0 39))), (8, .int (Int32.ofInt (zI σ18 0 38))), (7, .int (Int32.ofInt (zI σ18 0 37))), (0, .ref (ad 0 1000)), (1, .int (Int32.ofInt v1)), (2, .int (Int32.ofInt v2)), (3, .int (Int32.ofInt v3)), (4, .int (Int32.ofInt v4)), (5, .int (Int32.ofInt v5)), (6, .int (Int32.ofInt v6))]) hx hb dX11_reckon_84 hl (by decide) rfl (fun ls hl => ?_)
      refine lv_iload_n hx hb dX11_reckon_86 rfl (lv_at hl 5 rfl) ?_
      obtain ⟨o21, hw⟩ := hw
      refine z_if_ne (tgt := 118) hx hb o21 dX11_reckon_87 (by decide) (fun k22 => ?_) (fun k22 => ?_)
      · replace hw := hw.1 k22
        exact j118 v1 v2 v3 v4 v5 v6 (zI σ18 0 37) (zI σ18 0 38) (zI σ18 0 39) σ18 _ _ _ hP hD hS (lv_sub hl [3, 4, 5, 6, 7, 8, 9, 2, 1, 0] rfl) hw
      · replace hw := hw.2 k22
        refine lv_iload hx hb dX11_reckon_90 (lv_at hl 2 rfl) ?_
        obtain ⟨o23, hw⟩ := hw
        refine z_if_eq (tgt := 101) hx hb o23 dX11_reckon_92 (by decide) (fun k24 => ?_) (fun k24 => ?_)
        · replace hw := hw.1 k24
          exact j101 v1 v3 σ18 _ _ _ hP hD hS (lv_sub hl [3, 4, 6] rfl) hw
        · replace hw := hw.2 k24
          refine lv_iload hx hb dX11_reckon_95 (lv_at hl 2 rfl) ?_
          refine lv_iconst (v := Int32.ofInt 2) hx hb dX11_reckon_97 (by decide) ?_
          refine z_icmp_ne (tgt := 118) hx hb o23 (by decide) dX11_reckon_98 (by decide) (fun k25 => ?_) (fun k25 => ?_)
          · replace hw := hw.1 k25
            exact j118 v1 v2 v3 v4 v5 v6 (zI σ18 0 37) (zI σ18 0 38) (zI σ18 0 39) σ18 _ _ _ hP hD hS (lv_sub hl [3, 4, 5, 6, 7, 8, 9, 2, 1, 0] rfl) hw
          · replace hw := hw.2 k25
            exact j101 v1 v3 σ18 _ _ _ hP hD hS (lv_sub hl [3, 4, 6] rfl) hw
    · replace hw := hw.2 k20
      exact j66 σ18 _ _ _ hP hD hS (lv_sub hl [] rfl) hw
  unfold wpX11_reckon at hw
  refine lv_aload_n hx hb dX11_reckon_0 rfl (lv_at hl 0 rfl) ?_
  refine lv_bipush (v := Int32.ofInt 9) hx hb dX11_reckon_1 (by decide) ?_
  refine z_Vi (n := 1) (As := [.int (Int32.ofInt 9)]) (rest := []) hx hb hml hg hown hK hP hD hS hA (kX11_operand l D dA ad 9 σ _ _ hw) (zoR0) rfl q1979 q160 q1976 q1978 q98 (by decide +kernel) ⟨(Nat.le_of_ble_eq_true rfl), (Nat.le_of_ble_eq_true rfl)⟩ rfl hl.1 rfl (Nat.le_of_ble_eq_true rfl) dX11_reckon_3 ⟨(Nat.le_of_ble_eq_true rfl), (Nat.le_of_ble_eq_true rfl)⟩ (fun x26 σ27 H locs hw hP hD hS => ?_)
  obtain ⟨o28, hw⟩ := hw
  refine z_if_ne (tgt := 11) hx hb o28 dX11_reckon_6 (by decide) (fun k29 => ?_) (fun k29 => ?_)
  · replace hw := hw.1 k29
    refine lv_aload_n hx hb dX11_reckon_11 rfl (lv_at hl 0 rfl) ?_
    refine zgR0_37 hx hb hg hown hK hP q1652 dX11_reckon_12 ?_
    refine lv_istore_n (lv' := [(2, .int (Int32.ofInt (zI σ27 0 37))), (0, .ref (ad 0 1000)), (1, .int (Int32.ofInt a1))]) hx hb dX11_reckon_15 rfl hl (by decide) rfl (fun ls hl => ?_)
    refine lv_aload_n hx hb dX11_reckon_16 rfl (lv_at hl 1 rfl) ?_
    refine zgR0_38 hx hb hg hown hK hP q1653 dX11_reckon_17 ?_
    refine lv_istore_n (lv' := [(3, .int (Int32.ofInt (zI σ27 0 38))), (2, .int (Int32.ofInt (zI σ27 0 37))), (0, .ref (ad 0 1000)), (1, .int (Int32.ofInt a1))]) hx hb dX11_reckon_20 rfl hl (by decide) rfl (fun ls hl => ?_)
    refine lv_aload_n hx hb dX11_reckon_21 rfl (lv_at hl 2 rfl) ?_
    refine zgR0_39 hx hb hg hown hK hP q1654 dX11_reckon_22 ?_
    refine lv_istore (lv' := [(4, .int (Int32.ofInt (zI σ27 0 39))), (3, .int (Int32.ofInt (zI σ27 0 38))), (2, .int (Int32.ofInt (zI σ27 0 37))), (0, .ref (ad 0 1000)), (1, .int (Int32.ofInt a1))]) hx hb dX11_reckon_25 hl (by decide) rfl (fun ls hl => ?_)
    refine lv_aload_n hx hb dX11_reckon_27 rfl (lv_at hl 3 rfl) ?_
    refine zgR0_41 hx hb hg hown hK hP q1656 dX11_reckon_28 ?_
    refine lv_istore (lv' := [(5, .int (Int32.ofInt (zI σ27 0 41))), (4, .int (Int32.ofInt (zI σ27 0 39))), (3, .int (Int32.ofInt (zI σ27 0 38))), (2, .int (Int32.ofInt (zI σ27 0 37))), (0, .ref (ad 0 1000)), (1, .int (Int32.ofInt a1))]) hx hb dX11_reckon_31 hl (by decide) rfl (fun ls hl => ?_)
    refine lv_aload_n hx hb dX11_reckon_33 rfl (lv_at hl 4 rfl) ?_
    refine zgR0_42 hx hb hg hown hK hP q1657 dX11_reckon_34 ?_
    refine lv_istore (lv' := [(6, .int (Int32.ofInt (zI σ27 0 42))), (5, .int (Int32.ofInt (zI σ27 0 41))), (4, .int (Int32.ofInt (zI σ27 0 39))), (3, .int (Int32.ofInt (zI σ27 0 38))), (2, .int (Int32.ofInt (zI σ27 0 37))), (0, .ref (ad 0 1000)), (1, .int (Int32.ofInt a1))]) hx hb dX11_reckon_37 hl (by decide) rfl (fun ls hl => ?_)
    refine lv_aload_n hx hb dX11_reckon_39 rfl (lv_at hl 5 rfl) ?_
    refine lv_bipush (v := Int32.ofInt 44) hx hb dX11_reckon_40 (by decide) ?_
    refine z_Vi (n := 1) (As := [.int (Int32.ofInt 44)]) (rest := []) hx hb hml hg hown hK hP hD hS hA (kX11_take l D dA ad 44 σ27 _ _ hw) (zoR0) rfl q1931 q160 q1928 q1930 q86 (by decide +kernel) ⟨(Nat.le_of_ble_eq_true rfl), (Nat.le_of_ble_eq_true rfl)⟩ rfl hl.1 rfl (Nat.le_of_ble_eq_true rfl) dX11_reckon_42 ⟨(Nat.le_of_ble_eq_true rfl), (Nat.le_of_ble_eq_true rfl)⟩ (fun x30 σ31 H locs hw hP hD hS => ?_)
    obtain ⟨o32, hw⟩ := hw
    refine z_if_eq (tgt := 66) hx hb o32 dX11_reckon_45 (by decide) (fun k33 => ?_) (fun k33 => ?_)
    · replace hw := hw.1 k33
      exact j66 σ31 _ _ _ hP hD hS (lv_sub hl [] rfl) hw
    · replace hw := hw.2 k33
      refine lv_aload_n hx hb dX11_reckon_48 rfl (lv_at hl 5 rfl) ?_
      refine lv_iload_n hx hb dX11_reckon_49 rfl (lv_at hl 4 rfl) ?_
      obtain ⟨o34, hw⟩ := hw
      refine z_if_ne (tgt := 58) hx hb o34 dX11_reckon_50 (by decide) (fun k35 => ?_) (fun k35 => ?_)
      · replace hw := hw.1 k35
        refine lv_bipush (v := Int32.ofInt 17) hx hb dX11_reckon_58 (by decide) ?_
        exact j60 a1 (zI σ27 0 37) (zI σ27 0 38) (zI σ27 0 39) (zI σ27 0 41) (zI σ27 0 42) 17 σ31 _ _ _ hP hD hS (lv_sub hl [5, 6, 4, 3, 2, 1, 0] rfl) hw
      · replace hw := hw.2 k35
        refine lv_bipush (v := Int32.ofInt 25) hx hb dX11_reckon_53 (by decide) ?_
        refine lv_goto (tgt := 60) hx hb dX11_reckon_55 (by decide) ?_
        exact j60 a1 (zI σ27 0 37) (zI σ27 0 38) (zI σ27 0 39) (zI σ27 0 41) (zI σ27 0 42) 25 σ31 _ _ _ hP hD hS (lv_sub hl [5, 6, 4, 3, 2, 1, 0] rfl) hw
  · replace hw := hw.2 k29
    refine lv_iconst (v := Int32.ofInt 0) hx hb dX11_reckon_9 (by decide) ?_
    exact hret 0 σ27 _ _ _ _ (by decide) hw hP hD hS dX11_reckon_10
def wpX11_stack_123 (σ : ZS) (Q : Int → ZS → Prop) : Prop := Q 1 σ
def wpX11_stack_115 (s1 : Int) (σ : ZS) (Q : Int → ZS → Prop) : Prop := wpX11_octet (s1 + (zI σ 0 38)) σ (fun (σ2 : ZS) => wpX11_stack_123 σ2 Q)
def wpX11_stack_67 (s1 : Int) (σ : ZS) (Q : Int → ZS → Prop) : Prop := wpX11_octet (s1 + (8 * (zI σ 0 38))) σ (fun (σ4 : ZS) => wpX11_stack_123 σ4 Q)
def wpX11_stack_47 (v1 v2 : Int) (σ : ZS) (Q : Int → ZS → Prop) : Prop := (-2147483648 ≤ (zI σ 0 37) ∧ (zI σ 0 37) ≤ 2147483647) ∧ (¬ (zI σ 0 37) = 1 → (-2147483648 ≤ v1 ∧ v1 ≤ 2147483647) ∧ (¬ v1 = 25 → (¬ v1 = 26 → (-2147483648 ≤ v2 ∧ v2 ≤ 2147483647) ∧ (v2 = 0 → wpX11_stack_115 88 σ Q) ∧ (¬ v2 = 0 → wpX11_stack_115 80 σ Q)) ∧ (v1 = 26 → wpX11_stack_115 72 σ Q)) ∧ (v1 = 25 → wpX11_stack_115 64 σ Q)) ∧ ((zI σ 0 37) = 1 → (-2147483648 ≤ v2 ∧ v2 ≤ 2147483647) ∧ (v2 = 0 → wpX11_stack_67 7 σ Q) ∧ (¬ v2 = 0 → wpX11_stack_67 6 σ Q))
def wpX11_stack_45 (σ : ZS) (Q : Int → ZS → Prop) : Prop := Q 0 σ
def wpX11_stack_39 (v1 v2 s1 : Int) (σ : ZS) (Q : Int → ZS → Prop) : Prop := wpX11_operand s1 σ (fun (x14 : Int) (σ15 : ZS) => (-2147483648 ≤ x14 ∧ x14 ≤ 2147483647) ∧ (¬ x14 = 0 → wpX11_stack_47 v1 v2 σ15 Q) ∧ (x14 = 0 → wpX11_stack_45 σ15 Q))
def wpX11_stack_11 (v1 s0 : Int) (σ : ZS) (Q : Int → ZS → Prop) : Prop := (-2147483648 ≤ v1 ∧ v1 ≤ 2147483647) ∧ (26 < v1 → (-2147483648 ≤ s0 ∧ s0 ≤ 2147483647) ∧ (s0 = 0 → wpX11_stack_39 v1 s0 5 σ Q) ∧ (¬ s0 = 0 → wpX11_stack_39 v1 s0 3 σ Q)) ∧ (¬ 26 < v1 → wpX11_operand 1 σ (fun (x22 : Int) (σ23 : ZS) => (-2147483648 ≤ x22 ∧ x22 ≤ 2147483647) ∧ (¬ x22 = 0 → wpX11_stack_47 v1 s0 σ23 Q) ∧ (x22 = 0 → wpX11_stack_45 σ23 Q)))
def wpX11_stack (a1 : Int) (σ : ZS) (Q : Int → ZS → Prop) : Prop := (-2147483648 ≤ a1 ∧ a1 ≤ 2147483647) ∧ (¬ a1 = 27 → wpX11_stack_11 a1 0 σ Q) ∧ (a1 = 27 → wpX11_stack_11 a1 1 σ Q)
set_option maxHeartbeats 4000000 in
set_option maxRecDepth 100000 in
theorem kX11_stack (l : Launch) (D : va_G) (dA : Nat → ClassId) (ad : Int → Nat → Nat) (a1 : Int) (σ : ZS) (Q : Int → ZS → Prop) (sz : Nat) (hw : wpX11_stack a1 σ Q) : Met l yX11_stack (gws yX11_stack cX11_stack 3 (some .boolean)) (gR 6 0 0) (gPre D dA [.ref (ad 0 1000), .int (Int32.ofInt a1)] (zR dA ad σ) sz) (va_Qi (zQi Q) (gAt D dA (va_A (zR dA ad σ) sz) (zR dA ad)) (va_A (zR dA ad σ) sz)) 0 0 (va_A (zR dA ad σ) sz) := by
  refine Met.ofW (cc := cX11_stack) (maxL := 3) (ret := (some .boolean)) (by decide) rfl ?_
  intro p e s m args below meth c s₁ B hml hv
  obtain ⟨rfl, hsz, hP, hK, hD0⟩ := hv
  have hx := B.exec
  have hb := B.bytes
  have hr := B.returns
  have hts := atoms_spec (ws := gws yX11_stack cX11_stack 3 (some .boolean)) B.pre
  have hg : ∀ w ∈ gw, w.before _ s = true := fun w h => hts w (List.mem_cons_of_mem _ h)
  have hown : s.vm.findClass RX11 = some m.cls := findClass_of_methodNamed B.named
  have hlocks := B.notSynchronized
  subst hsz
  have hD := hD0.self (sz := s.heap.size)
  generalize hAe : va_A (zR dA ad σ) s.heap.size = A at hD ⊢
  have hA : ∀ q : Nat, s.heap.size ≤ q → A q := fun q h => by rw [← hAe]; exact Or.inr h
  have hS : va_S A s.heap s.heap [] := va_S.rf
  have hl := lv_entry ([.ref (ad 0 1000), .int (Int32.ofInt a1)]) (n := 3) (Nat.le_of_ble_eq_true rfl)
  rw [lg_entry_eq]
  generalize (lg_sl ([.ref (ad 0 1000), .int (Int32.ofInt a1)]) ++ List.replicate (3 - (lg_sl ([.ref (ad 0 1000), .int (Int32.ofInt a1)])).length) Slot.unset).toArray = ls at hl ⊢
  have hl : lv_has ls 3 [(0, .ref (ad 0 1000)), (1, .int (Int32.ofInt a1))] := hl
  have hret : ∀ (v : Int) (σ : ZS) (H : Heap) (locs : List Loc) (ls : Array Slot) (pc : Nat), (0 ≤ v ∧ v ≤ 1) → Q v σ → va_P D vwC (zR dA ad σ) H → va_D A (zR dA ad σ) → va_S A s.heap H locs → decode cX11_stack pc = .ok (.ireturn, 1) → W p l e (gR 6 0 0) s m #[.ref (ad 0 1000), .int (Int32.ofInt a1)] below meth c H locs 0 0 (MQ below (va_Qi (zQi Q) (gAt D dA A (zR dA ad)) A) #[.ref (ad 0 1000), .int (Int32.ofInt a1)] s 0 0 A) (F0 m pc ls [.int (Int32.ofInt v)]) := fun v σ H locs ls pc hv hw hP hD hS hd => g_iret hx hb hr (z_nb hv) hlocks hK σ hP hD hS ⟨v, rfl, hw⟩ (Nat.le_of_ble_eq_true rfl) (Nat.le_of_ble_eq_true rfl) hd
  generalize MQ below (va_Qi (zQi Q) (gAt D dA A (zR dA ad)) A) #[.ref (ad 0 1000), .int (Int32.ofInt a1)] s 0 0 A = QQ at hret ⊢
  have j123 : ∀ (σ : ZS), ∀ (H : Heap) (locs : List Loc) (ls : Array Slot), va_P D vwC (zR dA ad σ) H → va_D A (zR dA ad σ) → va_S A s.heap H locs → lv_has ls 3 [] → wpX11_stack_123 σ Q → W p l e (gR 6 0 0) s m #[.ref (ad 0 1000), .int (Int32.ofInt a1)] below meth c H locs 0 0 QQ (F0 m 123 ls []) := by
    intro σ H locs ls hP hD hS hl hw
    unfold wpX11_stack_123 at hw
    refine lv_iconst (v := Int32.ofInt 1) hx hb dX11_stack_123 (by decide) ?_
    exact hret 1 σ _ _ _ _ (by decide) hw hP hD hS dX11_stack_124
  have j115 : ∀ (s1 : Int) (σ : ZS), ∀ (H : Heap) (locs : List Loc) (ls : Array Slot), va_P D vwC (zR dA ad σ) H → va_D A (zR dA ad σ) → va_S A s.heap H locs → lv_has ls 3 [(0, .ref (ad 0 1000))] → wpX11_stack_115 s1 σ Q → W p l e (gR 6 0 0) s m #[.ref (ad 0 1000), .int (Int32.ofInt a1)] below meth c H locs 0 0 QQ (F0 m 115 ls [.int (Int32.ofInt s1), .ref (ad 0 1000)]) := by
    intro s1 σ H locs ls hP hD hS hl hw
    unfold wpX11_stack_115 at hw
    refine lv_aload_n hx hb dX11_stack_115 rfl (lv_at hl 0 rfl) ?_
    refine zgR0_38 hx hb hg hown hK hP q1653 dX11_stack_116 ?_
    refine z_iadd hx hb dX11_stack_119 ?_
    refine z_Vv (n := 1) (As := [.int (Int32.ofInt (s1 + (zI σ 0 38)))]) (rest := []) hx hb hml hg hown hK hP hD hS hA (kX11_octet l D dA ad (s1 + (zI σ 0 38)) σ _ _ hw) (zoR0) rfl q1951 q160 q1948 q1950 q91 (by decide +kernel) ⟨(Nat.le_of_ble_eq_true rfl), (Nat.le_of_ble_eq_true rfl)⟩ rfl hl.1 rfl (Nat.le_of_ble_eq_true rfl) dX11_stack_120 ⟨(Nat.le_of_ble_eq_true rfl), (Nat.le_of_ble_eq_true rfl)⟩ (fun σ2 H locs hw hP hD hS => ?_)
    exact j123 σ2 _ _ _ hP hD hS (lv_sub hl [] rfl) hw
  have j67 : ∀ (s1 : Int) (σ : ZS), ∀ (H : Heap) (locs : List Loc) (ls : Array Slot), va_P D vwC (zR dA ad σ) H → va_D A (zR dA ad σ) → va_S A s.heap H locs → lv_has ls 3 [(0, .ref (ad 0 1000))] → wpX11_stack_67 s1 σ Q → W p l e (gR 6 0 0) s m #[.ref (ad 0 1000), .int (Int32.ofInt a1)] below meth c H locs 0 0 QQ (F0 m 67 ls [.int (Int32.ofInt s1), .ref (ad 0 1000)]) := by
    intro s1 σ H locs ls hP hD hS hl hw
    unfold wpX11_stack_67 at hw
    refine lv_bipush (v := Int32.ofInt 8) hx hb dX11_stack_67 (by decide) ?_
    refine lv_aload_n hx hb dX11_stack_69 rfl (lv_at hl 0 rfl) ?_
    refine zgR0_38 hx hb hg hown hK hP q1653 dX11_stack_70 ?_
    refine z_imul hx hb dX11_stack_73 ?_
    refine z_iadd hx hb dX11_stack_74 ?_
    refine z_Vv (n := 1) (As := [.int (Int32.ofInt (s1 + (8 * (zI σ 0 38))))]) (rest := []) hx hb hml hg hown hK hP hD hS hA (kX11_octet l D dA ad (s1 + (8 * (zI σ 0 38))) σ _ _ hw) (zoR0) rfl q1951 q160 q1948 q1950 q91 (by decide +kernel) ⟨(Nat.le_of_ble_eq_true rfl), (Nat.le_of_ble_eq_true rfl)⟩ rfl hl.1 rfl (Nat.le_of_ble_eq_true rfl) dX11_stack_75 ⟨(Nat.le_of_ble_eq_true rfl), (Nat.le_of_ble_eq_true rfl)⟩ (fun σ4 H locs hw hP hD hS => ?_)
    refine lv_goto (tgt := 123) hx hb dX11_stack_78 (by decide) ?_
    exact j123 σ4 _ _ _ hP hD hS (lv_sub hl [] rfl) hw
  have j47 : ∀ (v1 v2 : Int) (σ : ZS), ∀ (H : Heap) (locs : List Loc) (ls : Array Slot), va_P D vwC (zR dA ad σ) H → va_D A (zR dA ad σ) → va_S A s.heap H locs → lv_has ls 3 [(0, .ref (ad 0 1000)), (1, .int (Int32.ofInt v1)), (2, .int (Int32.ofInt v2))] → wpX11_stack_47 v1 v2 σ Q → W p l e (gR 6 0 0) s m #[.ref (ad 0 1000), .int (Int32.ofInt a1)] below meth c H locs 0 0 QQ (F0 m 47 ls []) := by
    intro v1 v2 σ H locs ls hP hD hS hl hw
    unfold wpX11_stack_47 at hw
    refine lv_aload_n hx hb dX11_stack_47 rfl (lv_at hl 0 rfl) ?_
    refine zgR0_37 hx hb hg hown hK hP q1652 dX11_stack_48 ?_
    refine lv_iconst (v := Int32.ofInt 1) hx hb dX11_stack_51 (by decide) ?_
    obtain ⟨o5, hw⟩ := hw
    refine z_icmp_ne (tgt := 81) hx hb o5 (by decide) dX11_stack_52 (by decide) (fun k6 => ?_) (fun k6 => ?_)
    · replace hw := hw.1 k6
      refine lv_aload_n hx hb dX11_stack_81 rfl (lv_at hl 0 rfl) ?_
      refine lv_iload_n hx hb dX11_stack_82 rfl (lv_at hl 1 rfl) ?_
      refine lv_bipush (v := Int32.ofInt 25) hx hb dX11_stack_83 (by decide) ?_
      obtain ⟨o7, hw⟩ := hw
      refine z_icmp_ne (tgt := 93) hx hb o7 (by decide) dX11_stack_85 (by decide) (fun k8 => ?_) (fun k8 => ?_)
      · replace hw := hw.1 k8
        refine lv_iload_n hx hb dX11_stack_93 rfl (lv_at hl 1 rfl) ?_
        refine lv_bipush (v := Int32.ofInt 26) hx hb dX11_stack_94 (by decide) ?_
        refine z_icmp_ne (tgt := 104) hx hb o7 (by decide) dX11_stack_96 (by decide) (fun k9 => ?_) (fun k9 => ?_)
        · replace hw := hw.1 k9
          refine lv_iload_n hx hb dX11_stack_104 rfl (lv_at hl 2 rfl) ?_
          obtain ⟨o10, hw⟩ := hw
          refine z_if_eq (tgt := 113) hx hb o10 dX11_stack_105 (by decide) (fun k11 => ?_) (fun k11 => ?_)
          · replace hw := hw.1 k11
            refine lv_bipush (v := Int32.ofInt 88) hx hb dX11_stack_113 (by decide) ?_
            exact j115 88 σ _ _ _ hP hD hS (lv_sub hl [0] rfl) hw
          · replace hw := hw.2 k11
            refine lv_bipush (v := Int32.ofInt 80) hx hb dX11_stack_108 (by decide) ?_
            refine lv_goto (tgt := 115) hx hb dX11_stack_110 (by decide) ?_
            exact j115 80 σ _ _ _ hP hD hS (lv_sub hl [0] rfl) hw
        · replace hw := hw.2 k9
          refine lv_bipush (v := Int32.ofInt 72) hx hb dX11_stack_99 (by decide) ?_
          refine lv_goto (tgt := 115) hx hb dX11_stack_101 (by decide) ?_
          exact j115 72 σ _ _ _ hP hD hS (lv_sub hl [0] rfl) hw
      · replace hw := hw.2 k8
        refine lv_bipush (v := Int32.ofInt 64) hx hb dX11_stack_88 (by decide) ?_
        refine lv_goto (tgt := 115) hx hb dX11_stack_90 (by decide) ?_
        exact j115 64 σ _ _ _ hP hD hS (lv_sub hl [0] rfl) hw
    · replace hw := hw.2 k6
      refine lv_aload_n hx hb dX11_stack_55 rfl (lv_at hl 0 rfl) ?_
      refine lv_iload_n hx hb dX11_stack_56 rfl (lv_at hl 2 rfl) ?_
      obtain ⟨o12, hw⟩ := hw
      refine z_if_eq (tgt := 65) hx hb o12 dX11_stack_57 (by decide) (fun k13 => ?_) (fun k13 => ?_)
      · replace hw := hw.1 k13
        refine lv_bipush (v := Int32.ofInt 7) hx hb dX11_stack_65 (by decide) ?_
        exact j67 7 σ _ _ _ hP hD hS (lv_sub hl [0] rfl) hw
      · replace hw := hw.2 k13
        refine lv_bipush (v := Int32.ofInt 6) hx hb dX11_stack_60 (by decide) ?_
        refine lv_goto (tgt := 67) hx hb dX11_stack_62 (by decide) ?_
        exact j67 6 σ _ _ _ hP hD hS (lv_sub hl [0] rfl) hw
  have j45 : ∀ (σ : ZS), ∀ (H : Heap) (locs : List Loc) (ls : Array Slot), va_P D vwC (zR dA ad σ) H → va_D A (zR dA ad σ) → va_S A s.heap H locs → lv_has ls 3 [] → wpX11_stack_45 σ Q → W p l e (gR 6 0 0) s m #[.ref (ad 0 1000), .int (Int32.ofInt a1)] below meth c H locs 0 0 QQ (F0 m 45 ls []) := by
    intro σ H locs ls hP hD hS hl hw
    unfold wpX11_stack_45 at hw
    refine lv_iconst (v := Int32.ofInt 0) hx hb dX11_stack_45 (by decide) ?_
    exact hret 0 σ _ _ _ _ (by decide) hw hP hD hS dX11_stack_46
  have j39 : ∀ (v1 v2 s1 : Int) (σ : ZS), ∀ (H : Heap) (locs : List Loc) (ls : Array Slot), va_P D vwC (zR dA ad σ) H → va_D A (zR dA ad σ) → va_S A s.heap H locs → lv_has ls 3 [(0, .ref (ad 0 1000)), (1, .int (Int32.ofInt v1)), (2, .int (Int32.ofInt v2))] → wpX11_stack_39 v1 v2 s1 σ Q → W p l e (gR 6 0 0) s m #[.ref (ad 0 1000), .int (Int32.ofInt a1)] below meth c H locs 0 0 QQ (F0 m 39 ls [.int (Int32.ofInt s1), .ref (ad 0 1000)]) := by
    intro v1 v2 s1 σ H locs ls hP hD hS hl hw
    unfold wpX11_stack_39 at hw
    refine z_Vi (n := 1) (As := [.int (Int32.ofInt s1)]) (rest := []) hx hb hml hg hown hK hP hD hS hA (kX11_operand l D dA ad s1 σ _ _ hw) (zoR0) rfl q1979 q160 q1976 q1978 q98 (by decide +kernel) ⟨(Nat.le_of_ble_eq_true rfl), (Nat.le_of_ble_eq_true rfl)⟩ rfl hl.1 rfl (Nat.le_of_ble_eq_true rfl) dX11_stack_39 ⟨(Nat.le_of_ble_eq_true rfl), (Nat.le_of_ble_eq_true rfl)⟩ (fun x14 σ15 H locs hw hP hD hS => ?_)
    obtain ⟨o16, hw⟩ := hw
    refine z_if_ne (tgt := 47) hx hb o16 dX11_stack_42 (by decide) (fun k17 => ?_) (fun k17 => ?_)
    · replace hw := hw.1 k17
      exact j47 v1 v2 σ15 _ _ _ hP hD hS (lv_sub hl [0, 1, 2] rfl) hw
    · replace hw := hw.2 k17
      exact j45 σ15 _ _ _ hP hD hS (lv_sub hl [] rfl) hw
  have j11 : ∀ (v1 s0 : Int) (σ : ZS), ∀ (H : Heap) (locs : List Loc) (ls : Array Slot), va_P D vwC (zR dA ad σ) H → va_D A (zR dA ad σ) → va_S A s.heap H locs → lv_has ls 3 [(0, .ref (ad 0 1000)), (1, .int (Int32.ofInt v1))] → wpX11_stack_11 v1 s0 σ Q → W p l e (gR 6 0 0) s m #[.ref (ad 0 1000), .int (Int32.ofInt a1)] below meth c H locs 0 0 QQ (F0 m 11 ls [.int (Int32.ofInt s0)]) := by
    intro v1 s0 σ H locs ls hP hD hS hl hw
    unfold wpX11_stack_11 at hw
    refine lv_istore_n (lv' := [(2, .int (Int32.ofInt s0)), (0, .ref (ad 0 1000)), (1, .int (Int32.ofInt v1))]) hx hb dX11_stack_11 rfl hl (by decide) rfl (fun ls hl => ?_)
    refine lv_iload_n hx hb dX11_stack_12 rfl (lv_at hl 2 rfl) ?_
    refine lv_bipush (v := Int32.ofInt 26) hx hb dX11_stack_13 (by decide) ?_
    obtain ⟨o18, hw⟩ := hw
    refine z_icmp_gt (tgt := 29) hx hb o18 (by decide) dX11_stack_15 (by decide) (fun k19 => ?_) (fun k19 => ?_)
    · replace hw := hw.1 k19
      refine lv_aload_n hx hb dX11_stack_29 rfl (lv_at hl 1 rfl) ?_
      refine lv_iload_n hx hb dX11_stack_30 rfl (lv_at hl 0 rfl) ?_
      obtain ⟨o20, hw⟩ := hw
      refine z_if_eq (tgt := 38) hx hb o20 dX11_stack_31 (by decide) (fun k21 => ?_) (fun k21 => ?_)
      · replace hw := hw.1 k21
        refine lv_iconst (v := Int32.ofInt 5) hx hb dX11_stack_38 (by decide) ?_
        exact j39 v1 s0 5 σ _ _ _ hP hD hS (lv_sub hl [1, 2, 0] rfl) hw
      · replace hw := hw.2 k21
        refine lv_iconst (v := Int32.ofInt 3) hx hb dX11_stack_34 (by decide) ?_
        refine lv_goto (tgt := 39) hx hb dX11_stack_35 (by decide) ?_
        exact j39 v1 s0 3 σ _ _ _ hP hD hS (lv_sub hl [1, 2, 0] rfl) hw
    · replace hw := hw.2 k19
      refine lv_aload_n hx hb dX11_stack_18 rfl (lv_at hl 1 rfl) ?_
      refine lv_iconst (v := Int32.ofInt 1) hx hb dX11_stack_19 (by decide) ?_
      refine z_Vi (n := 1) (As := [.int (Int32.ofInt 1)]) (rest := []) hx hb hml hg hown hK hP hD hS hA (kX11_operand l D dA ad 1 σ _ _ hw) (zoR0) rfl q1979 q160 q1976 q1978 q98 (by decide +kernel) ⟨(Nat.le_of_ble_eq_true rfl), (Nat.le_of_ble_eq_true rfl)⟩ rfl hl.1 rfl (Nat.le_of_ble_eq_true rfl) dX11_stack_20 ⟨(Nat.le_of_ble_eq_true rfl), (Nat.le_of_ble_eq_true rfl)⟩ (fun x22 σ23 H locs hw hP hD hS => ?_)
      obtain ⟨o24, hw⟩ := hw
      refine z_if_ne (tgt := 47) hx hb o24 dX11_stack_23 (by decide) (fun k25 => ?_) (fun k25 => ?_)
      · replace hw := hw.1 k25
        exact j47 v1 s0 σ23 _ _ _ hP hD hS (lv_sub hl [1, 2, 0] rfl) hw
      · replace hw := hw.2 k25
        refine lv_goto (tgt := 45) hx hb dX11_stack_26 (by decide) ?_
        exact j45 σ23 _ _ _ hP hD hS (lv_sub hl [] rfl) hw
  unfold wpX11_stack at hw
  refine lv_iload_n hx hb dX11_stack_0 rfl (lv_at hl 1 rfl) ?_
  refine lv_bipush (v := Int32.ofInt 27) hx hb dX11_stack_1 (by decide) ?_
  obtain ⟨o26, hw⟩ := hw
  refine z_icmp_ne (tgt := 10) hx hb o26 (by decide) dX11_stack_3 (by decide) (fun k27 => ?_) (fun k27 => ?_)
  · replace hw := hw.1 k27
    refine lv_iconst (v := Int32.ofInt 0) hx hb dX11_stack_10 (by decide) ?_
    exact j11 a1 0 σ _ _ _ hP hD hS (lv_sub hl [0, 1] rfl) hw
  · replace hw := hw.2 k27
    refine lv_iconst (v := Int32.ofInt 1) hx hb dX11_stack_6 (by decide) ?_
    refine lv_goto (tgt := 11) hx hb dX11_stack_7 (by decide) ?_
    exact j11 a1 1 σ _ _ _ hP hD hS (lv_sub hl [0, 1] rfl) hw
def wpX11_single_73 (s1 : Int) (σ : ZS) (Q : Int → ZS → Prop) : Prop := wpX11_emitForm s1 σ (fun (σ2 : ZS) => Q 1 σ2)
def wpX11_single_27 (v1 s1 : Int) (σ : ZS) (Q : Int → ZS → Prop) : Prop := wpX11_octet s1 σ (fun (σ4 : ZS) => (-2147483648 ≤ v1 ∧ v1 ≤ 2147483647) ∧ (¬ v1 = 29 → (¬ v1 = 30 → (¬ v1 = 31 → (¬ v1 = 32 → wpX11_single_73 6 σ4 Q) ∧ (v1 = 32 → wpX11_single_73 4 σ4 Q)) ∧ (v1 = 31 → wpX11_single_73 3 σ4 Q)) ∧ (v1 = 30 → wpX11_single_73 5 σ4 Q)) ∧ (v1 = 29 → wpX11_single_73 4 σ4 Q))
def wpX11_single (a1 : Int) (σ : ZS) (Q : Int → ZS → Prop) : Prop := wpX11_operand 9 σ (fun (x10 : Int) (σ11 : ZS) => (-2147483648 ≤ x10 ∧ x10 ≤ 2147483647) ∧ (¬ x10 = 0 → (-2147483648 ≤ a1 ∧ a1 ≤ 2147483647) ∧ (30 < a1 → wpX11_single_27 a1 247 σ11 Q) ∧ (¬ 30 < a1 → wpX11_single_27 a1 209 σ11 Q)) ∧ (x10 = 0 → Q 0 σ11))
set_option maxHeartbeats 4000000 in
set_option maxRecDepth 100000 in
theorem kX11_single (l : Launch) (D : va_G) (dA : Nat → ClassId) (ad : Int → Nat → Nat) (a1 : Int) (σ : ZS) (Q : Int → ZS → Prop) (sz : Nat) (hw : wpX11_single a1 σ Q) : Met l yX11_single (gws yX11_single cX11_single 2 (some .boolean)) (gR 6 0 0) (gPre D dA [.ref (ad 0 1000), .int (Int32.ofInt a1)] (zR dA ad σ) sz) (va_Qi (zQi Q) (gAt D dA (va_A (zR dA ad σ) sz) (zR dA ad)) (va_A (zR dA ad σ) sz)) 0 0 (va_A (zR dA ad σ) sz) := by
  refine Met.ofW (cc := cX11_single) (maxL := 2) (ret := (some .boolean)) (by decide) rfl ?_
  intro p e s m args below meth c s₁ B hml hv
  obtain ⟨rfl, hsz, hP, hK, hD0⟩ := hv
  have hx := B.exec
  have hb := B.bytes
  have hr := B.returns
  have hts := atoms_spec (ws := gws yX11_single cX11_single 2 (some .boolean)) B.pre
  have hg : ∀ w ∈ gw, w.before _ s = true := fun w h => hts w (List.mem_cons_of_mem _ h)
  have hown : s.vm.findClass RX11 = some m.cls := findClass_of_methodNamed B.named
  have hlocks := B.notSynchronized
  subst hsz
  have hD := hD0.self (sz := s.heap.size)
  generalize hAe : va_A (zR dA ad σ) s.heap.size = A at hD ⊢
  have hA : ∀ q : Nat, s.heap.size ≤ q → A q := fun q h => by rw [← hAe]; exact Or.inr h
  have hS : va_S A s.heap s.heap [] := va_S.rf
  have hl := lv_entry ([.ref (ad 0 1000), .int (Int32.ofInt a1)]) (n := 2) (Nat.le_of_ble_eq_true rfl)
  rw [lg_entry_eq]
  generalize (lg_sl ([.ref (ad 0 1000), .int (Int32.ofInt a1)]) ++ List.replicate (2 - (lg_sl ([.ref (ad 0 1000), .int (Int32.ofInt a1)])).length) Slot.unset).toArray = ls at hl ⊢
  have hl : lv_has ls 2 [(0, .ref (ad 0 1000)), (1, .int (Int32.ofInt a1))] := hl
  have hret : ∀ (v : Int) (σ : ZS) (H : Heap) (locs : List Loc) (ls : Array Slot) (pc : Nat), (0 ≤ v ∧ v ≤ 1) → Q v σ → va_P D vwC (zR dA ad σ) H → va_D A (zR dA ad σ) → va_S A s.heap H locs → decode cX11_single pc = .ok (.ireturn, 1) → W p l e (gR 6 0 0) s m #[.ref (ad 0 1000), .int (Int32.ofInt a1)] below meth c H locs 0 0 (MQ below (va_Qi (zQi Q) (gAt D dA A (zR dA ad)) A) #[.ref (ad 0 1000), .int (Int32.ofInt a1)] s 0 0 A) (F0 m pc ls [.int (Int32.ofInt v)]) := fun v σ H locs ls pc hv hw hP hD hS hd => g_iret hx hb hr (z_nb hv) hlocks hK σ hP hD hS ⟨v, rfl, hw⟩ (Nat.le_of_ble_eq_true rfl) (Nat.le_of_ble_eq_true rfl) hd
  generalize MQ below (va_Qi (zQi Q) (gAt D dA A (zR dA ad)) A) #[.ref (ad 0 1000), .int (Int32.ofInt a1)] s 0 0 A = QQ at hret ⊢
  have j73 : ∀ (s1 : Int) (σ : ZS), ∀ (H : Heap) (locs : List Loc) (ls : Array Slot), va_P D vwC (zR dA ad σ) H → va_D A (zR dA ad σ) → va_S A s.heap H locs → lv_has ls 2 [] → wpX11_single_73 s1 σ Q → W p l e (gR 6 0 0) s m #[.ref (ad 0 1000), .int (Int32.ofInt a1)] below meth c H locs 0 0 QQ (F0 m 73 ls [.int (Int32.ofInt s1), .ref (ad 0 1000)]) := by
    intro s1 σ H locs ls hP hD hS hl hw
    unfold wpX11_single_73 at hw
    refine z_Vv (n := 1) (As := [.int (Int32.ofInt s1)]) (rest := []) hx hb hml hg hown hK hP hD hS hA (kX11_emitForm l D dA ad s1 σ _ _ hw) (zoR0) rfl q1999 q160 q1996 q1998 q103 (by decide +kernel) ⟨(Nat.le_of_ble_eq_true rfl), (Nat.le_of_ble_eq_true rfl)⟩ rfl hl.1 rfl (Nat.le_of_ble_eq_true rfl) dX11_single_73 ⟨(Nat.le_of_ble_eq_true rfl), (Nat.le_of_ble_eq_true rfl)⟩ (fun σ2 H locs hw hP hD hS => ?_)
    refine lv_iconst (v := Int32.ofInt 1) hx hb dX11_single_76 (by decide) ?_
    exact hret 1 σ2 _ _ _ _ (by decide) hw hP hD hS dX11_single_77
  have j27 : ∀ (v1 s1 : Int) (σ : ZS), ∀ (H : Heap) (locs : List Loc) (ls : Array Slot), va_P D vwC (zR dA ad σ) H → va_D A (zR dA ad σ) → va_S A s.heap H locs → lv_has ls 2 [(0, .ref (ad 0 1000)), (1, .int (Int32.ofInt v1))] → wpX11_single_27 v1 s1 σ Q → W p l e (gR 6 0 0) s m #[.ref (ad 0 1000), .int (Int32.ofInt a1)] below meth c H locs 0 0 QQ (F0 m 27 ls [.int (Int32.ofInt s1), .ref (ad 0 1000)]) := by
    intro v1 s1 σ H locs ls hP hD hS hl hw
    unfold wpX11_single_27 at hw
    refine z_Vv (n := 1) (As := [.int (Int32.ofInt s1)]) (rest := []) hx hb hml hg hown hK hP hD hS hA (kX11_octet l D dA ad s1 σ _ _ hw) (zoR0) rfl q1951 q160 q1948 q1950 q91 (by decide +kernel) ⟨(Nat.le_of_ble_eq_true rfl), (Nat.le_of_ble_eq_true rfl)⟩ rfl hl.1 rfl (Nat.le_of_ble_eq_true rfl) dX11_single_27 ⟨(Nat.le_of_ble_eq_true rfl), (Nat.le_of_ble_eq_true rfl)⟩ (fun σ4 H locs hw hP hD hS => ?_)
    refine lv_aload_n hx hb dX11_single_30 rfl (lv_at hl 0 rfl) ?_
    refine lv_iload_n hx hb dX11_single_31 rfl (lv_at hl 1 rfl) ?_
    refine lv_bipush (v := Int32.ofInt 29) hx hb dX11_single_32 (by decide) ?_
    obtain ⟨o5, hw⟩ := hw
    refine z_icmp_ne (tgt := 41) hx hb o5 (by decide) dX11_single_34 (by decide) (fun k6 => ?_) (fun k6 => ?_)
    · replace hw := hw.1 k6
      refine lv_iload_n hx hb dX11_single_41 rfl (lv_at hl 1 rfl) ?_
      refine lv_bipush (v := Int32.ofInt 30) hx hb dX11_single_42 (by decide) ?_
      refine z_icmp_ne (tgt := 51) hx hb o5 (by decide) dX11_single_44 (by decide) (fun k7 => ?_) (fun k7 => ?_)
      · replace hw := hw.1 k7
        refine lv_iload_n hx hb dX11_single_51 rfl (lv_at hl 1 rfl) ?_
        refine lv_bipush (v := Int32.ofInt 31) hx hb dX11_single_52 (by decide) ?_
        refine z_icmp_ne (tgt := 61) hx hb o5 (by decide) dX11_single_54 (by decide) (fun k8 => ?_) (fun k8 => ?_)
        · replace hw := hw.1 k8
          refine lv_iload_n hx hb dX11_single_61 rfl (lv_at hl 1 rfl) ?_
          refine lv_bipush (v := Int32.ofInt 32) hx hb dX11_single_62 (by decide) ?_
          refine z_icmp_ne (tgt := 71) hx hb o5 (by decide) dX11_single_64 (by decide) (fun k9 => ?_) (fun k9 => ?_)
          · replace hw := hw.1 k9
            refine lv_bipush (v := Int32.ofInt 6) hx hb dX11_single_71 (by decide) ?_
            exact j73 6 σ4 _ _ _ hP hD hS (lv_sub hl [] rfl) hw
          · replace hw := hw.2 k9
            refine lv_iconst (v := Int32.ofInt 4) hx hb dX11_single_67 (by decide) ?_
            refine lv_goto (tgt := 73) hx hb dX11_single_68 (by decide) ?_
            exact j73 4 σ4 _ _ _ hP hD hS (lv_sub hl [] rfl) hw
        · replace hw := hw.2 k8
          refine lv_iconst (v := Int32.ofInt 3) hx hb dX11_single_57 (by decide) ?_
          refine lv_goto (tgt := 73) hx hb dX11_single_58 (by decide) ?_
          exact j73 3 σ4 _ _ _ hP hD hS (lv_sub hl [] rfl) hw
      · replace hw := hw.2 k7
        refine lv_iconst (v := Int32.ofInt 5) hx hb dX11_single_47 (by decide) ?_
        refine lv_goto (tgt := 73) hx hb dX11_single_48 (by decide) ?_
        exact j73 5 σ4 _ _ _ hP hD hS (lv_sub hl [] rfl) hw
    · replace hw := hw.2 k6
      refine lv_iconst (v := Int32.ofInt 4) hx hb dX11_single_37 (by decide) ?_
      refine lv_goto (tgt := 73) hx hb dX11_single_38 (by decide) ?_
      exact j73 4 σ4 _ _ _ hP hD hS (lv_sub hl [] rfl) hw
  unfold wpX11_single at hw
  refine lv_aload_n hx hb dX11_single_0 rfl (lv_at hl 0 rfl) ?_
  refine lv_bipush (v := Int32.ofInt 9) hx hb dX11_single_1 (by decide) ?_
  refine z_Vi (n := 1) (As := [.int (Int32.ofInt 9)]) (rest := []) hx hb hml hg hown hK hP hD hS hA (kX11_operand l D dA ad 9 σ _ _ hw) (zoR0) rfl q1979 q160 q1976 q1978 q98 (by decide +kernel) ⟨(Nat.le_of_ble_eq_true rfl), (Nat.le_of_ble_eq_true rfl)⟩ rfl hl.1 rfl (Nat.le_of_ble_eq_true rfl) dX11_single_3 ⟨(Nat.le_of_ble_eq_true rfl), (Nat.le_of_ble_eq_true rfl)⟩ (fun x10 σ11 H locs hw hP hD hS => ?_)
  obtain ⟨o12, hw⟩ := hw
  refine z_if_ne (tgt := 11) hx hb o12 dX11_single_6 (by decide) (fun k13 => ?_) (fun k13 => ?_)
  · replace hw := hw.1 k13
    refine lv_aload_n hx hb dX11_single_11 rfl (lv_at hl 0 rfl) ?_
    refine lv_iload_n hx hb dX11_single_12 rfl (lv_at hl 1 rfl) ?_
    refine lv_bipush (v := Int32.ofInt 30) hx hb dX11_single_13 (by decide) ?_
    obtain ⟨o14, hw⟩ := hw
    refine z_icmp_gt (tgt := 24) hx hb o14 (by decide) dX11_single_15 (by decide) (fun k15 => ?_) (fun k15 => ?_)
    · replace hw := hw.1 k15
      refine lv_sipush (v := Int32.ofInt 247) hx hb dX11_single_24 (by decide) ?_
      exact j27 a1 247 σ11 _ _ _ hP hD hS (lv_sub hl [0, 1] rfl) hw
    · replace hw := hw.2 k15
      refine lv_sipush (v := Int32.ofInt 209) hx hb dX11_single_18 (by decide) ?_
      refine lv_goto (tgt := 27) hx hb dX11_single_21 (by decide) ?_
      exact j27 a1 209 σ11 _ _ _ hP hD hS (lv_sub hl [0, 1] rfl) hw
  · replace hw := hw.2 k13
    refine lv_iconst (v := Int32.ofInt 0) hx hb dX11_single_9 (by decide) ?_
    exact hret 0 σ11 _ _ _ _ (by decide) hw hP hD hS dX11_single_10
