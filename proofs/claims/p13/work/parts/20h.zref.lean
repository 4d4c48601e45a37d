theorem q132 : Cond.selects RX11 yX11_readForm yX11_readForm ∈ gw := gw_in (i := 132) (by decide +kernel) rfl
theorem q133 : Cond.selects RX11 yX11_fetchTwo yX11_fetchTwo ∈ gw := gw_in (i := 133) (by decide +kernel) rfl
theorem q134 : Cond.selects RX11 yX11_fetchSigned yX11_fetchSigned ∈ gw := gw_in (i := 134) (by decide +kernel) rfl
theorem q135 : Cond.selects RX11 yX11_formGet yX11_formGet ∈ gw := gw_in (i := 135) (by decide +kernel) rfl
theorem q136 : Cond.selects RX11 yX11_get yX11_get ∈ gw := gw_in (i := 136) (by decide +kernel) rfl
theorem q137 : Cond.selects RX11 yX11_reckoned yX11_reckoned ∈ gw := gw_in (i := 137) (by decide +kernel) rfl
theorem q138 : Cond.selects RX11 yX11_flags yX11_flags ∈ gw := gw_in (i := 138) (by decide +kernel) rfl
theorem q139 : Cond.selects RX11 yX11_formSet yX11_formSet ∈ gw := gw_in (i := 139) (by decide +kernel) rfl
theorem q140 : Cond.selects RX11 yX11_store yX11_store ∈ gw := gw_in (i := 140) (by decide +kernel) rfl
theorem q141 : Cond.selects RX11 yX11_shift yX11_shift ∈ gw := gw_in (i := 141) (by decide +kernel) rfl
theorem q142 : Cond.selects RX11 yX11_group yX11_group ∈ gw := gw_in (i := 142) (by decide +kernel) rfl
theorem q1696 : Cond.fieldLink RX11 542 "SegmentBenchModel" "form" "I" ∈ gw := gw_in (i := 1696) (by decide +kernel) rfl
theorem q1697 : Cond.fieldLink RX11 545 "SegmentBenchModel" "formK" "I" ∈ gw := gw_in (i := 1697) (by decide +kernel) rfl
theorem q1698 : Cond.fieldLink RX11 557 "SegmentBenchModel" "formS" "I" ∈ gw := gw_in (i := 1698) (by decide +kernel) rfl
theorem q1699 : Cond.fieldLink RX11 554 "SegmentBenchModel" "formX" "I" ∈ gw := gw_in (i := 1699) (by decide +kernel) rfl
theorem q2134 : Cond.methodLink RX11 581 yX11_operation ∈ gw := gw_in (i := 2134) (by decide +kernel) rfl
theorem q2135 : Cond.static yX11_operation ∈ gw := gw_in (i := 2135) (by decide +kernel) rfl
theorem q2136 : Cond.code yX11_operation cX11_operation 1 (some .boolean) ∈ gw := gw_in (i := 2136) (by decide +kernel) rfl
theorem q2141 : Cond.methodLink RX11 569 yX11_readForm ∈ gw := gw_in (i := 2141) (by decide +kernel) rfl
theorem q2143 : Cond.instanceMethod yX11_readForm ∈ gw := gw_in (i := 2143) (by decide +kernel) rfl
theorem q2144 : Cond.code yX11_readForm cX11_readForm 5 none ∈ gw := gw_in (i := 2144) (by decide +kernel) rfl
theorem q2145 : Cond.methodLink RX11 548 yX11_fetchTwo ∈ gw := gw_in (i := 2145) (by decide +kernel) rfl
theorem q2147 : Cond.instanceMethod yX11_fetchTwo ∈ gw := gw_in (i := 2147) (by decide +kernel) rfl
theorem q2148 : Cond.code yX11_fetchTwo cX11_fetchTwo 2 (some .int) ∈ gw := gw_in (i := 2148) (by decide +kernel) rfl
theorem q2149 : Cond.methodLink RX11 551 yX11_fetchSigned ∈ gw := gw_in (i := 2149) (by decide +kernel) rfl
theorem q2151 : Cond.instanceMethod yX11_fetchSigned ∈ gw := gw_in (i := 2151) (by decide +kernel) rfl
theorem q2152 : Cond.code yX11_fetchSigned cX11_fetchSigned 1 (some .int) ∈ gw := gw_in (i := 2152) (by decide +kernel) rfl
theorem q2153 : Cond.methodLink RX11 572 yX11_formGet ∈ gw := gw_in (i := 2153) (by decide +kernel) rfl
theorem q2155 : Cond.instanceMethod yX11_formGet ∈ gw := gw_in (i := 2155) (by decide +kernel) rfl
theorem q2156 : Cond.code yX11_formGet cX11_formGet 1 (some .int) ∈ gw := gw_in (i := 2156) (by decide +kernel) rfl
theorem q2157 : Cond.methodLink RX11 560 yX11_get ∈ gw := gw_in (i := 2157) (by decide +kernel) rfl
theorem q2159 : Cond.instanceMethod yX11_get ∈ gw := gw_in (i := 2159) (by decide +kernel) rfl
theorem q2160 : Cond.code yX11_get cX11_get 3 (some .int) ∈ gw := gw_in (i := 2160) (by decide +kernel) rfl
theorem q2161 : Cond.methodLink RX11 575 yX11_reckoned ∈ gw := gw_in (i := 2161) (by decide +kernel) rfl
theorem q2163 : Cond.instanceMethod yX11_reckoned ∈ gw := gw_in (i := 2163) (by decide +kernel) rfl
theorem q2164 : Cond.code yX11_reckoned cX11_reckoned 5 (some .int) ∈ gw := gw_in (i := 2164) (by decide +kernel) rfl
theorem q2165 : Cond.methodLink RX11 566 yX11_flags ∈ gw := gw_in (i := 2165) (by decide +kernel) rfl
theorem q2167 : Cond.instanceMethod yX11_flags ∈ gw := gw_in (i := 2167) (by decide +kernel) rfl
theorem q2168 : Cond.code yX11_flags cX11_flags 2 none ∈ gw := gw_in (i := 2168) (by decide +kernel) rfl
theorem q2169 : Cond.methodLink RX11 578 yX11_formSet ∈ gw := gw_in (i := 2169) (by decide +kernel) rfl
theorem q2171 : Cond.instanceMethod yX11_formSet ∈ gw := gw_in (i := 2171) (by decide +kernel) rfl
theorem q2172 : Cond.code yX11_formSet cX11_formSet 2 none ∈ gw := gw_in (i := 2172) (by decide +kernel) rfl
theorem q2173 : Cond.methodLink RX11 563 yX11_store ∈ gw := gw_in (i := 2173) (by decide +kernel) rfl
theorem q2175 : Cond.instanceMethod yX11_store ∈ gw := gw_in (i := 2175) (by decide +kernel) rfl
theorem q2176 : Cond.code yX11_store cX11_store 4 none ∈ gw := gw_in (i := 2176) (by decide +kernel) rfl
theorem q2177 : Cond.methodLink RX11 584 yX11_shift ∈ gw := gw_in (i := 2177) (by decide +kernel) rfl
theorem q2179 : Cond.instanceMethod yX11_shift ∈ gw := gw_in (i := 2179) (by decide +kernel) rfl
theorem q2180 : Cond.code yX11_shift cX11_shift 3 (some .int) ∈ gw := gw_in (i := 2180) (by decide +kernel) rfl
theorem q2181 : Cond.methodLink RX11 587 yX11_group ∈ gw := gw_in (i := 2181) (by decide +kernel) rfl
theorem q2183 : Cond.instanceMethod yX11_group ∈ gw := gw_in (i := 2183) (by decide +kernel) rfl
theorem q2184 : Cond.code yX11_group cX11_group 4 (some .int) ∈ gw := gw_in (i := 2184) (by decide +kernel) rfl
theorem q2185 : Cond.constantLong RX11 590 (65535) ∈ gw := gw_in (i := 2185) (by decide +kernel) rfl
theorem dX11_fetchSigned_0 : decode cX11_fetchSigned 0 = .ok (.aload_n 0, 1) := by decide +kernel
theorem dX11_fetchSigned_1 : decode cX11_fetchSigned 1 = .ok (.invokevirtual 539, 3) := by decide +kernel
theorem dX11_fetchSigned_4 : decode cX11_fetchSigned 4 = .ok (.i2b, 1) := by decide +kernel
theorem dX11_fetchSigned_5 : decode cX11_fetchSigned 5 = .ok (.ireturn, 1) := by decide +kernel
theorem dX11_readForm_0 : decode cX11_readForm 0 = .ok (.aload_n 0, 1) := by decide +kernel
theorem dX11_readForm_1 : decode cX11_readForm 1 = .ok (.aload_n 0, 1) := by decide +kernel
theorem dX11_readForm_2 : decode cX11_readForm 2 = .ok (.invokevirtual 539, 3) := by decide +kernel
theorem dX11_readForm_5 : decode cX11_readForm 5 = .ok (.putfield 542, 3) := by decide +kernel
theorem dX11_readForm_8 : decode cX11_readForm 8 = .ok (.aload_n 0, 1) := by decide +kernel
theorem dX11_readForm_9 : decode cX11_readForm 9 = .ok (.aload_n 0, 1) := by decide +kernel
theorem dX11_readForm_10 : decode cX11_readForm 10 = .ok (.getfield 542, 3) := by decide +kernel
theorem dX11_readForm_13 : decode cX11_readForm 13 = .ok (.iconst 3, 1) := by decide +kernel
theorem dX11_readForm_14 : decode cX11_readForm 14 = .ok (.ishr, 1) := by decide +kernel
theorem dX11_readForm_15 : decode cX11_readForm 15 = .ok (.bipush 7, 2) := by decide +kernel
theorem dX11_readForm_17 : decode cX11_readForm 17 = .ok (.iand, 1) := by decide +kernel
theorem dX11_readForm_18 : decode cX11_readForm 18 = .ok (.putfield 545, 3) := by decide +kernel
theorem dX11_readForm_21 : decode cX11_readForm 21 = .ok (.aload_n 0, 1) := by decide +kernel
theorem dX11_readForm_22 : decode cX11_readForm 22 = .ok (.getfield 542, 3) := by decide +kernel
theorem dX11_readForm_25 : decode cX11_readForm 25 = .ok (.bipush 6, 2) := by decide +kernel
theorem dX11_readForm_27 : decode cX11_readForm 27 = .ok (.ishr, 1) := by decide +kernel
theorem dX11_readForm_28 : decode cX11_readForm 28 = .ok (.istore_n 1, 1) := by decide +kernel
theorem dX11_readForm_29 : decode cX11_readForm 29 = .ok (.aload_n 0, 1) := by decide +kernel
theorem dX11_readForm_30 : decode cX11_readForm 30 = .ok (.getfield 542, 3) := by decide +kernel
theorem dX11_readForm_33 : decode cX11_readForm 33 = .ok (.bipush 7, 2) := by decide +kernel
theorem dX11_readForm_35 : decode cX11_readForm 35 = .ok (.iand, 1) := by decide +kernel
theorem dX11_readForm_36 : decode cX11_readForm 36 = .ok (.istore_n 2, 1) := by decide +kernel
theorem dX11_readForm_37 : decode cX11_readForm 37 = .ok (.iload_n 1, 1) := by decide +kernel
theorem dX11_readForm_38 : decode cX11_readForm 38 = .ok (.iconst 3, 1) := by decide +kernel
theorem dX11_readForm_39 : decode cX11_readForm 39 = .ok (.if_icmp .ne 4, 3) := by decide +kernel
theorem dX11_readForm_43 : decode cX11_readForm 43 = .ok (.iload_n 1, 1) := by decide +kernel
theorem dX11_readForm_44 : decode cX11_readForm 44 = .ok (.ifCond .ne 20, 3) := by decide +kernel
theorem dX11_readForm_64 : decode cX11_readForm 64 = .ok (.iload_n 1, 1) := by decide +kernel
theorem dX11_readForm_65 : decode cX11_readForm 65 = .ok (.iconst 1, 1) := by decide +kernel
theorem dX11_readForm_66 : decode cX11_readForm 66 = .ok (.if_icmp .ne 10, 3) := by decide +kernel
theorem dX11_readForm_76 : decode cX11_readForm 76 = .ok (.aload_n 0, 1) := by decide +kernel
theorem dX11_readForm_77 : decode cX11_readForm 77 = .ok (.invokevirtual 548, 3) := by decide +kernel
theorem dX11_readForm_69 : decode cX11_readForm 69 = .ok (.aload_n 0, 1) := by decide +kernel
theorem dX11_readForm_70 : decode cX11_readForm 70 = .ok (.invokevirtual 551, 3) := by decide +kernel
theorem dX11_readForm_73 : decode cX11_readForm 73 = .ok (.goto 7, 3) := by decide +kernel
theorem dX11_readForm_47 : decode cX11_readForm 47 = .ok (.iload_n 2, 1) := by decide +kernel
theorem dX11_readForm_48 : decode cX11_readForm 48 = .ok (.bipush 6, 2) := by decide +kernel
theorem dX11_readForm_50 : decode cX11_readForm 50 = .ok (.if_icmp .ne 10, 3) := by decide +kernel
theorem dX11_readForm_60 : decode cX11_readForm 60 = .ok (.iconst 0, 1) := by decide +kernel
theorem dX11_readForm_61 : decode cX11_readForm 61 = .ok (.goto 19, 3) := by decide +kernel
theorem dX11_readForm_53 : decode cX11_readForm 53 = .ok (.aload_n 0, 1) := by decide +kernel
theorem dX11_readForm_54 : decode cX11_readForm 54 = .ok (.invokevirtual 548, 3) := by decide +kernel
theorem dX11_readForm_57 : decode cX11_readForm 57 = .ok (.goto 23, 3) := by decide +kernel
theorem dX11_readForm_42 : decode cX11_readForm 42 = .ok (.return_, 1) := by decide +kernel
theorem dX11_readForm_80 : decode cX11_readForm 80 = .ok (.istore_n 3, 1) := by decide +kernel
theorem dX11_readForm_81 : decode cX11_readForm 81 = .ok (.iconst 0, 1) := by decide +kernel
theorem dX11_readForm_82 : decode cX11_readForm 82 = .ok (.istore 4, 2) := by decide +kernel
theorem dX11_readForm_84 : decode cX11_readForm 84 = .ok (.iload_n 2, 1) := by decide +kernel
theorem dX11_readForm_85 : decode cX11_readForm 85 = .ok (.ifCond .eq 14, 3) := by decide +kernel
theorem dX11_readForm_88 : decode cX11_readForm 88 = .ok (.iload_n 2, 1) := by decide +kernel
theorem dX11_readForm_89 : decode cX11_readForm 89 = .ok (.iconst 1, 1) := by decide +kernel
theorem dX11_readForm_90 : decode cX11_readForm 90 = .ok (.if_icmp .eq 9, 3) := by decide +kernel
theorem dX11_readForm_93 : decode cX11_readForm 93 = .ok (.iload_n 2, 1) := by decide +kernel
theorem dX11_readForm_94 : decode cX11_readForm 94 = .ok (.bipush 7, 2) := by decide +kernel
theorem dX11_readForm_96 : decode cX11_readForm 96 = .ok (.if_icmp .ne 11, 3) := by decide +kernel
theorem dX11_readForm_99 : decode cX11_readForm 99 = .ok (.aload_n 0, 1) := by decide +kernel
theorem dX11_readForm_100 : decode cX11_readForm 100 = .ok (.getfield 253, 3) := by decide +kernel
theorem dX11_readForm_103 : decode cX11_readForm 103 = .ok (.iconst 3, 1) := by decide +kernel
theorem dX11_readForm_104 : decode cX11_readForm 104 = .ok (.iaload, 1) := by decide +kernel
theorem dX11_readForm_105 : decode cX11_readForm 105 = .ok (.istore 4, 2) := by decide +kernel
theorem dX11_readForm_107 : decode cX11_readForm 107 = .ok (.iload_n 2, 1) := by decide +kernel
theorem dX11_readForm_108 : decode cX11_readForm 108 = .ok (.iconst 2, 1) := by decide +kernel
theorem dX11_readForm_109 : decode cX11_readForm 109 = .ok (.if_icmp .eq 18, 3) := by decide +kernel
theorem dX11_readForm_112 : decode cX11_readForm 112 = .ok (.iload_n 2, 1) := by decide +kernel
theorem dX11_readForm_113 : decode cX11_readForm 113 = .ok (.iconst 3, 1) := by decide +kernel
theorem dX11_readForm_114 : decode cX11_readForm 114 = .ok (.if_icmp .eq 13, 3) := by decide +kernel
theorem dX11_readForm_117 : decode cX11_readForm 117 = .ok (.iload_n 2, 1) := by decide +kernel
theorem dX11_readForm_118 : decode cX11_readForm 118 = .ok (.bipush 6, 2) := by decide +kernel
theorem dX11_readForm_120 : decode cX11_readForm 120 = .ok (.if_icmp .ne 15, 3) := by decide +kernel
theorem dX11_readForm_123 : decode cX11_readForm 123 = .ok (.iload_n 1, 1) := by decide +kernel
theorem dX11_readForm_124 : decode cX11_readForm 124 = .ok (.ifCond .eq 11, 3) := by decide +kernel
theorem dX11_readForm_127 : decode cX11_readForm 127 = .ok (.aload_n 0, 1) := by decide +kernel
theorem dX11_readForm_128 : decode cX11_readForm 128 = .ok (.getfield 253, 3) := by decide +kernel
theorem dX11_readForm_131 : decode cX11_readForm 131 = .ok (.iconst 5, 1) := by decide +kernel
theorem dX11_readForm_132 : decode cX11_readForm 132 = .ok (.iaload, 1) := by decide +kernel
theorem dX11_readForm_133 : decode cX11_readForm 133 = .ok (.istore 4, 2) := by decide +kernel
theorem dX11_readForm_135 : decode cX11_readForm 135 = .ok (.iload_n 2, 1) := by decide +kernel
theorem dX11_readForm_136 : decode cX11_readForm 136 = .ok (.ifCond .eq 13, 3) := by decide +kernel
theorem dX11_readForm_139 : decode cX11_readForm 139 = .ok (.iload_n 2, 1) := by decide +kernel
theorem dX11_readForm_140 : decode cX11_readForm 140 = .ok (.iconst 2, 1) := by decide +kernel
theorem dX11_readForm_141 : decode cX11_readForm 141 = .ok (.if_icmp .eq 8, 3) := by decide +kernel
theorem dX11_readForm_144 : decode cX11_readForm 144 = .ok (.iload_n 2, 1) := by decide +kernel
theorem dX11_readForm_145 : decode cX11_readForm 145 = .ok (.iconst 4, 1) := by decide +kernel
theorem dX11_readForm_146 : decode cX11_readForm 146 = .ok (.if_icmp .ne 15, 3) := by decide +kernel
theorem dX11_readForm_149 : decode cX11_readForm 149 = .ok (.iload 4, 2) := by decide +kernel
theorem dX11_readForm_151 : decode cX11_readForm 151 = .ok (.aload_n 0, 1) := by decide +kernel
theorem dX11_readForm_152 : decode cX11_readForm 152 = .ok (.getfield 253, 3) := by decide +kernel
theorem dX11_readForm_155 : decode cX11_readForm 155 = .ok (.bipush 6, 2) := by decide +kernel
theorem dX11_readForm_157 : decode cX11_readForm 157 = .ok (.iaload, 1) := by decide +kernel
theorem dX11_readForm_158 : decode cX11_readForm 158 = .ok (.iadd, 1) := by decide +kernel
theorem dX11_readForm_159 : decode cX11_readForm 159 = .ok (.istore 4, 2) := by decide +kernel
theorem dX11_readForm_161 : decode cX11_readForm 161 = .ok (.iload_n 2, 1) := by decide +kernel
theorem dX11_readForm_162 : decode cX11_readForm 162 = .ok (.iconst 1, 1) := by decide +kernel
theorem dX11_readForm_163 : decode cX11_readForm 163 = .ok (.if_icmp .eq 13, 3) := by decide +kernel
theorem dX11_readForm_166 : decode cX11_readForm 166 = .ok (.iload_n 2, 1) := by decide +kernel
theorem dX11_readForm_167 : decode cX11_readForm 167 = .ok (.iconst 3, 1) := by decide +kernel
theorem dX11_readForm_168 : decode cX11_readForm 168 = .ok (.if_icmp .eq 8, 3) := by decide +kernel
theorem dX11_readForm_171 : decode cX11_readForm 171 = .ok (.iload_n 2, 1) := by decide +kernel
theorem dX11_readForm_172 : decode cX11_readForm 172 = .ok (.iconst 5, 1) := by decide +kernel
theorem dX11_readForm_173 : decode cX11_readForm 173 = .ok (.if_icmp .ne 15, 3) := by decide +kernel
theorem dX11_readForm_176 : decode cX11_readForm 176 = .ok (.iload 4, 2) := by decide +kernel
theorem dX11_readForm_178 : decode cX11_readForm 178 = .ok (.aload_n 0, 1) := by decide +kernel
theorem dX11_readForm_179 : decode cX11_readForm 179 = .ok (.getfield 253, 3) := by decide +kernel
theorem dX11_readForm_182 : decode cX11_readForm 182 = .ok (.bipush 7, 2) := by decide +kernel
theorem dX11_readForm_184 : decode cX11_readForm 184 = .ok (.iaload, 1) := by decide +kernel
theorem dX11_readForm_185 : decode cX11_readForm 185 = .ok (.iadd, 1) := by decide +kernel
theorem dX11_readForm_186 : decode cX11_readForm 186 = .ok (.istore 4, 2) := by decide +kernel
theorem dX11_readForm_188 : decode cX11_readForm 188 = .ok (.aload_n 0, 1) := by decide +kernel
theorem dX11_readForm_189 : decode cX11_readForm 189 = .ok (.iload 4, 2) := by decide +kernel
theorem dX11_readForm_191 : decode cX11_readForm 191 = .ok (.iload_n 3, 1) := by decide +kernel
theorem dX11_readForm_192 : decode cX11_readForm 192 = .ok (.iadd, 1) := by decide +kernel
theorem dX11_readForm_193 : decode cX11_readForm 193 = .ok (.ldc_w 300, 3) := by decide +kernel
theorem dX11_readForm_196 : decode cX11_readForm 196 = .ok (.iand, 1) := by decide +kernel
theorem dX11_readForm_197 : decode cX11_readForm 197 = .ok (.putfield 554, 3) := by decide +kernel
theorem dX11_readForm_200 : decode cX11_readForm 200 = .ok (.aload_n 0, 1) := by decide +kernel
theorem dX11_readForm_201 : decode cX11_readForm 201 = .ok (.iload_n 2, 1) := by decide +kernel
theorem dX11_readForm_202 : decode cX11_readForm 202 = .ok (.iconst 2, 1) := by decide +kernel
theorem dX11_readForm_203 : decode cX11_readForm 203 = .ok (.if_icmp .eq 18, 3) := by decide +kernel
theorem dX11_readForm_206 : decode cX11_readForm 206 = .ok (.iload_n 2, 1) := by decide +kernel
theorem dX11_readForm_207 : decode cX11_readForm 207 = .ok (.iconst 3, 1) := by decide +kernel
theorem dX11_readForm_208 : decode cX11_readForm 208 = .ok (.if_icmp .eq 13, 3) := by decide +kernel
theorem dX11_readForm_211 : decode cX11_readForm 211 = .ok (.iload_n 2, 1) := by decide +kernel
theorem dX11_readForm_212 : decode cX11_readForm 212 = .ok (.bipush 6, 2) := by decide +kernel
theorem dX11_readForm_214 : decode cX11_readForm 214 = .ok (.if_icmp .ne 12, 3) := by decide +kernel
theorem dX11_readForm_217 : decode cX11_readForm 217 = .ok (.iload_n 1, 1) := by decide +kernel
theorem dX11_readForm_218 : decode cX11_readForm 218 = .ok (.ifCond .eq 8, 3) := by decide +kernel
theorem dX11_readForm_221 : decode cX11_readForm 221 = .ok (.bipush 10, 2) := by decide +kernel
theorem dX11_readForm_223 : decode cX11_readForm 223 = .ok (.goto 5, 3) := by decide +kernel
theorem dX11_readForm_226 : decode cX11_readForm 226 = .ok (.bipush 11, 2) := by decide +kernel
theorem dX11_readForm_228 : decode cX11_readForm 228 = .ok (.putfield 557, 3) := by decide +kernel
theorem dX11_readForm_231 : decode cX11_readForm 231 = .ok (.return_, 1) := by decide +kernel
theorem dX11_formGet_0 : decode cX11_formGet 0 = .ok (.aload_n 0, 1) := by decide +kernel
theorem dX11_formGet_1 : decode cX11_formGet 1 = .ok (.getfield 542, 3) := by decide +kernel
theorem dX11_formGet_4 : decode cX11_formGet 4 = .ok (.bipush 6, 2) := by decide +kernel
theorem dX11_formGet_6 : decode cX11_formGet 6 = .ok (.ishr, 1) := by decide +kernel
theorem dX11_formGet_7 : decode cX11_formGet 7 = .ok (.iconst 3, 1) := by decide +kernel
theorem dX11_formGet_8 : decode cX11_formGet 8 = .ok (.if_icmp .ne 18, 3) := by decide +kernel
theorem dX11_formGet_26 : decode cX11_formGet 26 = .ok (.aload_n 0, 1) := by decide +kernel
theorem dX11_formGet_27 : decode cX11_formGet 27 = .ok (.aload_n 0, 1) := by decide +kernel
theorem dX11_formGet_28 : decode cX11_formGet 28 = .ok (.getfield 253, 3) := by decide +kernel
theorem dX11_formGet_31 : decode cX11_formGet 31 = .ok (.aload_n 0, 1) := by decide +kernel
theorem dX11_formGet_32 : decode cX11_formGet 32 = .ok (.getfield 557, 3) := by decide +kernel
theorem dX11_formGet_35 : decode cX11_formGet 35 = .ok (.iaload, 1) := by decide +kernel
theorem dX11_formGet_36 : decode cX11_formGet 36 = .ok (.aload_n 0, 1) := by decide +kernel
theorem dX11_formGet_37 : decode cX11_formGet 37 = .ok (.getfield 554, 3) := by decide +kernel
theorem dX11_formGet_40 : decode cX11_formGet 40 = .ok (.invokevirtual 560, 3) := by decide +kernel
theorem dX11_formGet_11 : decode cX11_formGet 11 = .ok (.aload_n 0, 1) := by decide +kernel
theorem dX11_formGet_12 : decode cX11_formGet 12 = .ok (.getfield 253, 3) := by decide +kernel
theorem dX11_formGet_15 : decode cX11_formGet 15 = .ok (.aload_n 0, 1) := by decide +kernel
theorem dX11_formGet_16 : decode cX11_formGet 16 = .ok (.getfield 542, 3) := by decide +kernel
theorem dX11_formGet_19 : decode cX11_formGet 19 = .ok (.bipush 7, 2) := by decide +kernel
theorem dX11_formGet_21 : decode cX11_formGet 21 = .ok (.iand, 1) := by decide +kernel
theorem dX11_formGet_22 : decode cX11_formGet 22 = .ok (.iaload, 1) := by decide +kernel
theorem dX11_formGet_23 : decode cX11_formGet 23 = .ok (.goto 20, 3) := by decide +kernel
theorem dX11_formGet_43 : decode cX11_formGet 43 = .ok (.ireturn, 1) := by decide +kernel
theorem dX11_formSet_0 : decode cX11_formSet 0 = .ok (.aload_n 0, 1) := by decide +kernel
theorem dX11_formSet_1 : decode cX11_formSet 1 = .ok (.getfield 542, 3) := by decide +kernel
theorem dX11_formSet_4 : decode cX11_formSet 4 = .ok (.bipush 6, 2) := by decide +kernel
theorem dX11_formSet_6 : decode cX11_formSet 6 = .ok (.ishr, 1) := by decide +kernel
theorem dX11_formSet_7 : decode cX11_formSet 7 = .ok (.iconst 3, 1) := by decide +kernel
theorem dX11_formSet_8 : decode cX11_formSet 8 = .ok (.if_icmp .ne 23, 3) := by decide +kernel
theorem dX11_formSet_31 : decode cX11_formSet 31 = .ok (.aload_n 0, 1) := by decide +kernel
theorem dX11_formSet_32 : decode cX11_formSet 32 = .ok (.aload_n 0, 1) := by decide +kernel
theorem dX11_formSet_33 : decode cX11_formSet 33 = .ok (.getfield 253, 3) := by decide +kernel
theorem dX11_formSet_36 : decode cX11_formSet 36 = .ok (.aload_n 0, 1) := by decide +kernel
theorem dX11_formSet_37 : decode cX11_formSet 37 = .ok (.getfield 557, 3) := by decide +kernel
theorem dX11_formSet_40 : decode cX11_formSet 40 = .ok (.iaload, 1) := by decide +kernel
theorem dX11_formSet_41 : decode cX11_formSet 41 = .ok (.aload_n 0, 1) := by decide +kernel
theorem dX11_formSet_42 : decode cX11_formSet 42 = .ok (.getfield 554, 3) := by decide +kernel
theorem dX11_formSet_45 : decode cX11_formSet 45 = .ok (.iload_n 1, 1) := by decide +kernel
theorem dX11_formSet_46 : decode cX11_formSet 46 = .ok (.invokevirtual 563, 3) := by decide +kernel
theorem dX11_formSet_11 : decode cX11_formSet 11 = .ok (.aload_n 0, 1) := by decide +kernel
theorem dX11_formSet_12 : decode cX11_formSet 12 = .ok (.getfield 253, 3) := by decide +kernel
theorem dX11_formSet_15 : decode cX11_formSet 15 = .ok (.aload_n 0, 1) := by decide +kernel
theorem dX11_formSet_16 : decode cX11_formSet 16 = .ok (.getfield 542, 3) := by decide +kernel
theorem dX11_formSet_19 : decode cX11_formSet 19 = .ok (.bipush 7, 2) := by decide +kernel
theorem dX11_formSet_21 : decode cX11_formSet 21 = .ok (.iand, 1) := by decide +kernel
theorem dX11_formSet_22 : decode cX11_formSet 22 = .ok (.iload_n 1, 1) := by decide +kernel
theorem dX11_formSet_23 : decode cX11_formSet 23 = .ok (.ldc_w 300, 3) := by decide +kernel
theorem dX11_formSet_26 : decode cX11_formSet 26 = .ok (.iand, 1) := by decide +kernel
theorem dX11_formSet_27 : decode cX11_formSet 27 = .ok (.iastore, 1) := by decide +kernel
theorem dX11_formSet_28 : decode cX11_formSet 28 = .ok (.goto 21, 3) := by decide +kernel
theorem dX11_formSet_49 : decode cX11_formSet 49 = .ok (.return_, 1) := by decide +kernel
theorem dX11_flags_0 : decode cX11_flags 0 = .ok (.aload_n 0, 1) := by decide +kernel
theorem dX11_flags_1 : decode cX11_flags 1 = .ok (.getfield 253, 3) := by decide +kernel
theorem dX11_flags_4 : decode cX11_flags 4 = .ok (.bipush 14, 2) := by decide +kernel
theorem dX11_flags_6 : decode cX11_flags 6 = .ok (.iload_n 1, 1) := by decide +kernel
theorem dX11_flags_7 : decode cX11_flags 7 = .ok (.ldc_w 300, 3) := by decide +kernel
theorem dX11_flags_10 : decode cX11_flags 10 = .ok (.iand, 1) := by decide +kernel
theorem dX11_flags_11 : decode cX11_flags 11 = .ok (.ifCond .ne 7, 3) := by decide +kernel
theorem dX11_flags_18 : decode cX11_flags 18 = .ok (.iconst 0, 1) := by decide +kernel
theorem dX11_flags_14 : decode cX11_flags 14 = .ok (.iconst 1, 1) := by decide +kernel
theorem dX11_flags_15 : decode cX11_flags 15 = .ok (.goto 4, 3) := by decide +kernel
theorem dX11_flags_19 : decode cX11_flags 19 = .ok (.iastore, 1) := by decide +kernel
theorem dX11_flags_20 : decode cX11_flags 20 = .ok (.aload_n 0, 1) := by decide +kernel
theorem dX11_flags_21 : decode cX11_flags 21 = .ok (.getfield 253, 3) := by decide +kernel
theorem dX11_flags_24 : decode cX11_flags 24 = .ok (.bipush 15, 2) := by decide +kernel
theorem dX11_flags_26 : decode cX11_flags 26 = .ok (.iload_n 1, 1) := by decide +kernel
theorem dX11_flags_27 : decode cX11_flags 27 = .ok (.bipush 15, 2) := by decide +kernel
theorem dX11_flags_29 : decode cX11_flags 29 = .ok (.ishr, 1) := by decide +kernel
theorem dX11_flags_30 : decode cX11_flags 30 = .ok (.iconst 1, 1) := by decide +kernel
theorem dX11_flags_31 : decode cX11_flags 31 = .ok (.iand, 1) := by decide +kernel
theorem dX11_flags_32 : decode cX11_flags 32 = .ok (.iastore, 1) := by decide +kernel
theorem dX11_flags_33 : decode cX11_flags 33 = .ok (.return_, 1) := by decide +kernel
theorem dX11_reckoned_0 : decode cX11_reckoned 0 = .ok (.iload_n 1, 1) := by decide +kernel
theorem dX11_reckoned_1 : decode cX11_reckoned 1 = .ok (.tableswitch 75 0 6 #[43, 51, 75, 75, 59, 75, 67], 43) := by decide +kernel
theorem dX11_reckoned_44 : decode cX11_reckoned 44 = .ok (.iload_n 2, 1) := by decide +kernel
theorem dX11_reckoned_45 : decode cX11_reckoned 45 = .ok (.iload_n 3, 1) := by decide +kernel
theorem dX11_reckoned_46 : decode cX11_reckoned 46 = .ok (.iadd, 1) := by decide +kernel
theorem dX11_reckoned_47 : decode cX11_reckoned 47 = .ok (.istore 4, 2) := by decide +kernel
theorem dX11_reckoned_49 : decode cX11_reckoned 49 = .ok (.goto 32, 3) := by decide +kernel
theorem dX11_reckoned_52 : decode cX11_reckoned 52 = .ok (.iload_n 2, 1) := by decide +kernel
theorem dX11_reckoned_53 : decode cX11_reckoned 53 = .ok (.iload_n 3, 1) := by decide +kernel
theorem dX11_reckoned_54 : decode cX11_reckoned 54 = .ok (.ior, 1) := by decide +kernel
theorem dX11_reckoned_55 : decode cX11_reckoned 55 = .ok (.istore 4, 2) := by decide +kernel
theorem dX11_reckoned_57 : decode cX11_reckoned 57 = .ok (.goto 24, 3) := by decide +kernel
theorem dX11_reckoned_60 : decode cX11_reckoned 60 = .ok (.iload_n 2, 1) := by decide +kernel
theorem dX11_reckoned_61 : decode cX11_reckoned 61 = .ok (.iload_n 3, 1) := by decide +kernel
theorem dX11_reckoned_62 : decode cX11_reckoned 62 = .ok (.iand, 1) := by decide +kernel
theorem dX11_reckoned_63 : decode cX11_reckoned 63 = .ok (.istore 4, 2) := by decide +kernel
theorem dX11_reckoned_65 : decode cX11_reckoned 65 = .ok (.goto 16, 3) := by decide +kernel
theorem dX11_reckoned_68 : decode cX11_reckoned 68 = .ok (.iload_n 2, 1) := by decide +kernel
theorem dX11_reckoned_69 : decode cX11_reckoned 69 = .ok (.iload_n 3, 1) := by decide +kernel
theorem dX11_reckoned_70 : decode cX11_reckoned 70 = .ok (.ixor, 1) := by decide +kernel
theorem dX11_reckoned_71 : decode cX11_reckoned 71 = .ok (.istore 4, 2) := by decide +kernel
theorem dX11_reckoned_73 : decode cX11_reckoned 73 = .ok (.goto 8, 3) := by decide +kernel
theorem dX11_reckoned_81 : decode cX11_reckoned 81 = .ok (.aload_n 0, 1) := by decide +kernel
theorem dX11_reckoned_82 : decode cX11_reckoned 82 = .ok (.getfield 253, 3) := by decide +kernel
theorem dX11_reckoned_85 : decode cX11_reckoned 85 = .ok (.bipush 13, 2) := by decide +kernel
theorem dX11_reckoned_87 : decode cX11_reckoned 87 = .ok (.iload 4, 2) := by decide +kernel
theorem dX11_reckoned_89 : decode cX11_reckoned 89 = .ok (.bipush 16, 2) := by decide +kernel
theorem dX11_reckoned_91 : decode cX11_reckoned 91 = .ok (.ishr, 1) := by decide +kernel
theorem dX11_reckoned_92 : decode cX11_reckoned 92 = .ok (.iconst 1, 1) := by decide +kernel
theorem dX11_reckoned_93 : decode cX11_reckoned 93 = .ok (.iand, 1) := by decide +kernel
theorem dX11_reckoned_94 : decode cX11_reckoned 94 = .ok (.iastore, 1) := by decide +kernel
theorem dX11_reckoned_95 : decode cX11_reckoned 95 = .ok (.aload_n 0, 1) := by decide +kernel
theorem dX11_reckoned_96 : decode cX11_reckoned 96 = .ok (.iload 4, 2) := by decide +kernel
theorem dX11_reckoned_98 : decode cX11_reckoned 98 = .ok (.invokevirtual 566, 3) := by decide +kernel
theorem dX11_reckoned_101 : decode cX11_reckoned 101 = .ok (.iload 4, 2) := by decide +kernel
theorem dX11_reckoned_103 : decode cX11_reckoned 103 = .ok (.ldc_w 300, 3) := by decide +kernel
theorem dX11_reckoned_106 : decode cX11_reckoned 106 = .ok (.iand, 1) := by decide +kernel
theorem dX11_reckoned_107 : decode cX11_reckoned 107 = .ok (.ireturn, 1) := by decide +kernel
theorem dX11_reckoned_76 : decode cX11_reckoned 76 = .ok (.iload_n 2, 1) := by decide +kernel
theorem dX11_reckoned_77 : decode cX11_reckoned 77 = .ok (.iload_n 3, 1) := by decide +kernel
theorem dX11_reckoned_78 : decode cX11_reckoned 78 = .ok (.isub, 1) := by decide +kernel
theorem dX11_reckoned_79 : decode cX11_reckoned 79 = .ok (.istore 4, 2) := by decide +kernel
theorem dX11_operation_0 : decode cX11_operation 0 = .ok (.iload_n 0, 1) := by decide +kernel
theorem dX11_operation_1 : decode cX11_operation 1 = .ok (.ifCond .eq 19, 3) := by decide +kernel
theorem dX11_operation_4 : decode cX11_operation 4 = .ok (.iload_n 0, 1) := by decide +kernel
theorem dX11_operation_5 : decode cX11_operation 5 = .ok (.iconst 1, 1) := by decide +kernel
theorem dX11_operation_6 : decode cX11_operation 6 = .ok (.if_icmp .eq 14, 3) := by decide +kernel
theorem dX11_operation_9 : decode cX11_operation 9 = .ok (.iload_n 0, 1) := by decide +kernel
theorem dX11_operation_10 : decode cX11_operation 10 = .ok (.iconst 4, 1) := by decide +kernel
theorem dX11_operation_11 : decode cX11_operation 11 = .ok (.if_icmp .lt 13, 3) := by decide +kernel
theorem dX11_operation_14 : decode cX11_operation 14 = .ok (.iload_n 0, 1) := by decide +kernel
theorem dX11_operation_15 : decode cX11_operation 15 = .ok (.bipush 7, 2) := by decide +kernel
theorem dX11_operation_17 : decode cX11_operation 17 = .ok (.if_icmp .gt 7, 3) := by decide +kernel
theorem dX11_operation_20 : decode cX11_operation 20 = .ok (.iconst 1, 1) := by decide +kernel
theorem dX11_operation_21 : decode cX11_operation 21 = .ok (.goto 4, 3) := by decide +kernel
theorem dX11_operation_24 : decode cX11_operation 24 = .ok (.iconst 0, 1) := by decide +kernel
theorem dX11_operation_25 : decode cX11_operation 25 = .ok (.ireturn, 1) := by decide +kernel
theorem dX11_push_0 : decode cX11_push 0 = .ok (.aload_n 0, 1) := by decide +kernel
theorem dX11_push_1 : decode cX11_push 1 = .ok (.getfield 253, 3) := by decide +kernel
theorem dX11_push_4 : decode cX11_push 4 = .ok (.iconst 4, 1) := by decide +kernel
theorem dX11_push_5 : decode cX11_push 5 = .ok (.aload_n 0, 1) := by decide +kernel
theorem dX11_push_6 : decode cX11_push 6 = .ok (.getfield 253, 3) := by decide +kernel
theorem dX11_push_9 : decode cX11_push 9 = .ok (.iconst 4, 1) := by decide +kernel
theorem dX11_push_10 : decode cX11_push 10 = .ok (.iaload, 1) := by decide +kernel
theorem dX11_push_11 : decode cX11_push 11 = .ok (.iconst 2, 1) := by decide +kernel
theorem dX11_push_12 : decode cX11_push 12 = .ok (.isub, 1) := by decide +kernel
theorem dX11_push_13 : decode cX11_push 13 = .ok (.ldc_w 300, 3) := by decide +kernel
theorem dX11_push_16 : decode cX11_push 16 = .ok (.iand, 1) := by decide +kernel
theorem dX11_push_17 : decode cX11_push 17 = .ok (.iastore, 1) := by decide +kernel
theorem dX11_push_18 : decode cX11_push 18 = .ok (.aload_n 0, 1) := by decide +kernel
theorem dX11_push_19 : decode cX11_push 19 = .ok (.aload_n 0, 1) := by decide +kernel
theorem dX11_push_20 : decode cX11_push 20 = .ok (.getfield 253, 3) := by decide +kernel
theorem dX11_push_23 : decode cX11_push 23 = .ok (.bipush 10, 2) := by decide +kernel
theorem dX11_push_25 : decode cX11_push 25 = .ok (.iaload, 1) := by decide +kernel
theorem dX11_push_26 : decode cX11_push 26 = .ok (.aload_n 0, 1) := by decide +kernel
theorem dX11_push_27 : decode cX11_push 27 = .ok (.getfield 253, 3) := by decide +kernel
theorem dX11_push_30 : decode cX11_push 30 = .ok (.iconst 4, 1) := by decide +kernel
theorem dX11_push_31 : decode cX11_push 31 = .ok (.iaload, 1) := by decide +kernel
theorem dX11_push_32 : decode cX11_push 32 = .ok (.iload_n 1, 1) := by decide +kernel
theorem dX11_push_33 : decode cX11_push 33 = .ok (.invokevirtual 563, 3) := by decide +kernel
theorem dX11_push_36 : decode cX11_push 36 = .ok (.return_, 1) := by decide +kernel
theorem dX11_pop_0 : decode cX11_pop 0 = .ok (.aload_n 0, 1) := by decide +kernel
theorem dX11_pop_1 : decode cX11_pop 1 = .ok (.aload_n 0, 1) := by decide +kernel
theorem dX11_pop_2 : decode cX11_pop 2 = .ok (.getfield 253, 3) := by decide +kernel
theorem dX11_pop_5 : decode cX11_pop 5 = .ok (.bipush 10, 2) := by decide +kernel
theorem dX11_pop_7 : decode cX11_pop 7 = .ok (.iaload, 1) := by decide +kernel
theorem dX11_pop_8 : decode cX11_pop 8 = .ok (.aload_n 0, 1) := by decide +kernel
theorem dX11_pop_9 : decode cX11_pop 9 = .ok (.getfield 253, 3) := by decide +kernel
theorem dX11_pop_12 : decode cX11_pop 12 = .ok (.iconst 4, 1) := by decide +kernel
theorem dX11_pop_13 : decode cX11_pop 13 = .ok (.iaload, 1) := by decide +kernel
theorem dX11_pop_14 : decode cX11_pop 14 = .ok (.invokevirtual 560, 3) := by decide +kernel
theorem dX11_pop_17 : decode cX11_pop 17 = .ok (.istore_n 1, 1) := by decide +kernel
theorem dX11_pop_18 : decode cX11_pop 18 = .ok (.aload_n 0, 1) := by decide +kernel
theorem dX11_pop_19 : decode cX11_pop 19 = .ok (.getfield 253, 3) := by decide +kernel
theorem dX11_pop_22 : decode cX11_pop 22 = .ok (.iconst 4, 1) := by decide +kernel
theorem dX11_pop_23 : decode cX11_pop 23 = .ok (.aload_n 0, 1) := by decide +kernel
theorem dX11_pop_24 : decode cX11_pop 24 = .ok (.getfield 253, 3) := by decide +kernel
theorem dX11_pop_27 : decode cX11_pop 27 = .ok (.iconst 4, 1) := by decide +kernel
theorem dX11_pop_28 : decode cX11_pop 28 = .ok (.iaload, 1) := by decide +kernel
theorem dX11_pop_29 : decode cX11_pop 29 = .ok (.iconst 2, 1) := by decide +kernel
theorem dX11_pop_30 : decode cX11_pop 30 = .ok (.iadd, 1) := by decide +kernel
theorem dX11_pop_31 : decode cX11_pop 31 = .ok (.ldc_w 300, 3) := by decide +kernel
theorem dX11_pop_34 : decode cX11_pop 34 = .ok (.iand, 1) := by decide +kernel
theorem dX11_pop_35 : decode cX11_pop 35 = .ok (.iastore, 1) := by decide +kernel
theorem dX11_pop_36 : decode cX11_pop 36 = .ok (.iload_n 1, 1) := by decide +kernel
theorem dX11_pop_37 : decode cX11_pop 37 = .ok (.ireturn, 1) := by decide +kernel
theorem dX11_shift_0 : decode cX11_shift 0 = .ok (.aload_n 0, 1) := by decide +kernel
theorem dX11_shift_1 : decode cX11_shift 1 = .ok (.getfield 545, 3) := by decide +kernel
theorem dX11_shift_4 : decode cX11_shift 4 = .ok (.iconst 4, 1) := by decide +kernel
theorem dX11_shift_5 : decode cX11_shift 5 = .ok (.if_icmp .eq 13, 3) := by decide +kernel
theorem dX11_shift_8 : decode cX11_shift 8 = .ok (.aload_n 0, 1) := by decide +kernel
theorem dX11_shift_9 : decode cX11_shift 9 = .ok (.getfield 545, 3) := by decide +kernel
theorem dX11_shift_12 : decode cX11_shift 12 = .ok (.iconst 5, 1) := by decide +kernel
theorem dX11_shift_13 : decode cX11_shift 13 = .ok (.if_icmp .eq 5, 3) := by decide +kernel
theorem dX11_shift_16 : decode cX11_shift 16 = .ok (.iconst 2, 1) := by decide +kernel
theorem dX11_shift_17 : decode cX11_shift 17 = .ok (.ireturn, 1) := by decide +kernel
theorem dX11_shift_18 : decode cX11_shift 18 = .ok (.aload_n 0, 1) := by decide +kernel
theorem dX11_shift_19 : decode cX11_shift 19 = .ok (.invokevirtual 572, 3) := by decide +kernel
theorem dX11_shift_22 : decode cX11_shift 22 = .ok (.istore_n 1, 1) := by decide +kernel
theorem dX11_shift_23 : decode cX11_shift 23 = .ok (.aload_n 0, 1) := by decide +kernel
theorem dX11_shift_24 : decode cX11_shift 24 = .ok (.getfield 545, 3) := by decide +kernel
theorem dX11_shift_27 : decode cX11_shift 27 = .ok (.iconst 4, 1) := by decide +kernel
theorem dX11_shift_28 : decode cX11_shift 28 = .ok (.if_icmp .ne 9, 3) := by decide +kernel
theorem dX11_shift_37 : decode cX11_shift 37 = .ok (.iload_n 1, 1) := by decide +kernel
theorem dX11_shift_38 : decode cX11_shift 38 = .ok (.iconst 1, 1) := by decide +kernel
theorem dX11_shift_39 : decode cX11_shift 39 = .ok (.ishr, 1) := by decide +kernel
theorem dX11_shift_31 : decode cX11_shift 31 = .ok (.iload_n 1, 1) := by decide +kernel
theorem dX11_shift_32 : decode cX11_shift 32 = .ok (.iconst 1, 1) := by decide +kernel
theorem dX11_shift_33 : decode cX11_shift 33 = .ok (.ishl, 1) := by decide +kernel
theorem dX11_shift_34 : decode cX11_shift 34 = .ok (.goto 6, 3) := by decide +kernel
theorem dX11_shift_40 : decode cX11_shift 40 = .ok (.istore_n 2, 1) := by decide +kernel
theorem dX11_shift_41 : decode cX11_shift 41 = .ok (.aload_n 0, 1) := by decide +kernel
theorem dX11_shift_42 : decode cX11_shift 42 = .ok (.getfield 253, 3) := by decide +kernel
theorem dX11_shift_45 : decode cX11_shift 45 = .ok (.bipush 13, 2) := by decide +kernel
theorem dX11_shift_47 : decode cX11_shift 47 = .ok (.aload_n 0, 1) := by decide +kernel
theorem dX11_shift_48 : decode cX11_shift 48 = .ok (.getfield 545, 3) := by decide +kernel
theorem dX11_shift_51 : decode cX11_shift 51 = .ok (.iconst 4, 1) := by decide +kernel
theorem dX11_shift_52 : decode cX11_shift 52 = .ok (.if_icmp .ne 10, 3) := by decide +kernel
theorem dX11_shift_62 : decode cX11_shift 62 = .ok (.iload_n 1, 1) := by decide +kernel
theorem dX11_shift_63 : decode cX11_shift 63 = .ok (.iconst 1, 1) := by decide +kernel
theorem dX11_shift_64 : decode cX11_shift 64 = .ok (.iand, 1) := by decide +kernel
theorem dX11_shift_55 : decode cX11_shift 55 = .ok (.iload_n 1, 1) := by decide +kernel
theorem dX11_shift_56 : decode cX11_shift 56 = .ok (.bipush 15, 2) := by decide +kernel
theorem dX11_shift_58 : decode cX11_shift 58 = .ok (.ishr, 1) := by decide +kernel
theorem dX11_shift_59 : decode cX11_shift 59 = .ok (.goto 6, 3) := by decide +kernel
theorem dX11_shift_65 : decode cX11_shift 65 = .ok (.iastore, 1) := by decide +kernel
theorem dX11_shift_66 : decode cX11_shift 66 = .ok (.aload_n 0, 1) := by decide +kernel
theorem dX11_shift_67 : decode cX11_shift 67 = .ok (.iload_n 2, 1) := by decide +kernel
theorem dX11_shift_68 : decode cX11_shift 68 = .ok (.invokevirtual 566, 3) := by decide +kernel
theorem dX11_shift_71 : decode cX11_shift 71 = .ok (.aload_n 0, 1) := by decide +kernel
theorem dX11_shift_72 : decode cX11_shift 72 = .ok (.iload_n 2, 1) := by decide +kernel
theorem dX11_shift_73 : decode cX11_shift 73 = .ok (.invokevirtual 578, 3) := by decide +kernel
theorem dX11_shift_76 : decode cX11_shift 76 = .ok (.iconst 0, 1) := by decide +kernel
theorem dX11_shift_77 : decode cX11_shift 77 = .ok (.ireturn, 1) := by decide +kernel
theorem dX11_group_0 : decode cX11_group 0 = .ok (.aload_n 0, 1) := by decide +kernel
theorem dX11_group_1 : decode cX11_group 1 = .ok (.invokevirtual 572, 3) := by decide +kernel
theorem dX11_group_4 : decode cX11_group 4 = .ok (.istore_n 1, 1) := by decide +kernel
theorem dX11_group_5 : decode cX11_group 5 = .ok (.aload_n 0, 1) := by decide +kernel
theorem dX11_group_6 : decode cX11_group 6 = .ok (.getfield 545, 3) := by decide +kernel
theorem dX11_group_9 : decode cX11_group 9 = .ok (.iconst 3, 1) := by decide +kernel
theorem dX11_group_10 : decode cX11_group 10 = .ok (.if_icmp .ne 33, 3) := by decide +kernel
theorem dX11_group_43 : decode cX11_group 43 = .ok (.aload_n 0, 1) := by decide +kernel
theorem dX11_group_44 : decode cX11_group 44 = .ok (.getfield 545, 3) := by decide +kernel
theorem dX11_group_47 : decode cX11_group 47 = .ok (.iconst 4, 1) := by decide +kernel
theorem dX11_group_48 : decode cX11_group 48 = .ok (.if_icmp .ne 64, 3) := by decide +kernel
theorem dX11_group_112 : decode cX11_group 112 = .ok (.aload_n 0, 1) := by decide +kernel
theorem dX11_group_113 : decode cX11_group 113 = .ok (.getfield 545, 3) := by decide +kernel
theorem dX11_group_116 : decode cX11_group 116 = .ok (.bipush 6, 2) := by decide +kernel
theorem dX11_group_118 : decode cX11_group 118 = .ok (.if_icmp .eq 5, 3) := by decide +kernel
theorem dX11_group_123 : decode cX11_group 123 = .ok (.aload_n 0, 1) := by decide +kernel
theorem dX11_group_124 : decode cX11_group 124 = .ok (.getfield 253, 3) := by decide +kernel
theorem dX11_group_127 : decode cX11_group 127 = .ok (.iconst 2, 1) := by decide +kernel
theorem dX11_group_128 : decode cX11_group 128 = .ok (.iaload, 1) := by decide +kernel
theorem dX11_group_129 : decode cX11_group 129 = .ok (.i2l, 1) := by decide +kernel
theorem dX11_group_130 : decode cX11_group 130 = .ok (.bipush 16, 2) := by decide +kernel
theorem dX11_group_132 : decode cX11_group 132 = .ok (.lshl, 1) := by decide +kernel
theorem dX11_group_133 : decode cX11_group 133 = .ok (.aload_n 0, 1) := by decide +kernel
theorem dX11_group_134 : decode cX11_group 134 = .ok (.getfield 253, 3) := by decide +kernel
theorem dX11_group_137 : decode cX11_group 137 = .ok (.iconst 0, 1) := by decide +kernel
theorem dX11_group_138 : decode cX11_group 138 = .ok (.iaload, 1) := by decide +kernel
theorem dX11_group_139 : decode cX11_group 139 = .ok (.i2l, 1) := by decide +kernel
theorem dX11_group_140 : decode cX11_group 140 = .ok (.lor, 1) := by decide +kernel
theorem dX11_group_141 : decode cX11_group 141 = .ok (.lstore_n 2, 1) := by decide +kernel
theorem dX11_group_142 : decode cX11_group 142 = .ok (.iload_n 1, 1) := by decide +kernel
theorem dX11_group_143 : decode cX11_group 143 = .ok (.ifCond .eq 14, 3) := by decide +kernel
theorem dX11_group_146 : decode cX11_group 146 = .ok (.lload_n 2, 1) := by decide +kernel
theorem dX11_group_147 : decode cX11_group 147 = .ok (.iload_n 1, 1) := by decide +kernel
theorem dX11_group_148 : decode cX11_group 148 = .ok (.i2l, 1) := by decide +kernel
theorem dX11_group_149 : decode cX11_group 149 = .ok (.ldiv, 1) := by decide +kernel
theorem dX11_group_150 : decode cX11_group 150 = .ok (.ldc2_w 590, 3) := by decide +kernel
theorem dX11_group_153 : decode cX11_group 153 = .ok (.lcmp, 1) := by decide +kernel
theorem dX11_group_154 : decode cX11_group 154 = .ok (.ifCond .le 5, 3) := by decide +kernel
theorem dX11_group_159 : decode cX11_group 159 = .ok (.aload_n 0, 1) := by decide +kernel
theorem dX11_group_160 : decode cX11_group 160 = .ok (.getfield 253, 3) := by decide +kernel
theorem dX11_group_163 : decode cX11_group 163 = .ok (.iconst 0, 1) := by decide +kernel
theorem dX11_group_164 : decode cX11_group 164 = .ok (.lload_n 2, 1) := by decide +kernel
theorem dX11_group_165 : decode cX11_group 165 = .ok (.iload_n 1, 1) := by decide +kernel
theorem dX11_group_166 : decode cX11_group 166 = .ok (.i2l, 1) := by decide +kernel
theorem dX11_group_167 : decode cX11_group 167 = .ok (.ldiv, 1) := by decide +kernel
theorem dX11_group_168 : decode cX11_group 168 = .ok (.l2i, 1) := by decide +kernel
theorem dX11_group_169 : decode cX11_group 169 = .ok (.iastore, 1) := by decide +kernel
theorem dX11_group_170 : decode cX11_group 170 = .ok (.aload_n 0, 1) := by decide +kernel
theorem dX11_group_171 : decode cX11_group 171 = .ok (.getfield 253, 3) := by decide +kernel
theorem dX11_group_174 : decode cX11_group 174 = .ok (.iconst 2, 1) := by decide +kernel
theorem dX11_group_175 : decode cX11_group 175 = .ok (.lload_n 2, 1) := by decide +kernel
theorem dX11_group_176 : decode cX11_group 176 = .ok (.iload_n 1, 1) := by decide +kernel
theorem dX11_group_177 : decode cX11_group 177 = .ok (.i2l, 1) := by decide +kernel
theorem dX11_group_178 : decode cX11_group 178 = .ok (.lrem, 1) := by decide +kernel
theorem dX11_group_179 : decode cX11_group 179 = .ok (.l2i, 1) := by decide +kernel
theorem dX11_group_180 : decode cX11_group 180 = .ok (.iastore, 1) := by decide +kernel
theorem dX11_group_181 : decode cX11_group 181 = .ok (.iconst 0, 1) := by decide +kernel
theorem dX11_group_182 : decode cX11_group 182 = .ok (.ireturn, 1) := by decide +kernel
theorem dX11_group_121 : decode cX11_group 121 = .ok (.iconst 2, 1) := by decide +kernel
theorem dX11_group_122 : decode cX11_group 122 = .ok (.ireturn, 1) := by decide +kernel
theorem dX11_group_51 : decode cX11_group 51 = .ok (.aload_n 0, 1) := by decide +kernel
theorem dX11_group_52 : decode cX11_group 52 = .ok (.getfield 253, 3) := by decide +kernel
theorem dX11_group_55 : decode cX11_group 55 = .ok (.iconst 0, 1) := by decide +kernel
theorem dX11_group_56 : decode cX11_group 56 = .ok (.iaload, 1) := by decide +kernel
theorem dX11_group_57 : decode cX11_group 57 = .ok (.i2l, 1) := by decide +kernel
theorem dX11_group_58 : decode cX11_group 58 = .ok (.iload_n 1, 1) := by decide +kernel
theorem dX11_group_59 : decode cX11_group 59 = .ok (.i2l, 1) := by decide +kernel
theorem dX11_group_60 : decode cX11_group 60 = .ok (.lmul, 1) := by decide +kernel
theorem dX11_group_61 : decode cX11_group 61 = .ok (.lstore_n 2, 1) := by decide +kernel
theorem dX11_group_62 : decode cX11_group 62 = .ok (.aload_n 0, 1) := by decide +kernel
theorem dX11_group_63 : decode cX11_group 63 = .ok (.getfield 253, 3) := by decide +kernel
theorem dX11_group_66 : decode cX11_group 66 = .ok (.iconst 0, 1) := by decide +kernel
theorem dX11_group_67 : decode cX11_group 67 = .ok (.lload_n 2, 1) := by decide +kernel
theorem dX11_group_68 : decode cX11_group 68 = .ok (.l2i, 1) := by decide +kernel
theorem dX11_group_69 : decode cX11_group 69 = .ok (.ldc_w 300, 3) := by decide +kernel
theorem dX11_group_72 : decode cX11_group 72 = .ok (.iand, 1) := by decide +kernel
theorem dX11_group_73 : decode cX11_group 73 = .ok (.iastore, 1) := by decide +kernel
theorem dX11_group_74 : decode cX11_group 74 = .ok (.aload_n 0, 1) := by decide +kernel
theorem dX11_group_75 : decode cX11_group 75 = .ok (.getfield 253, 3) := by decide +kernel
theorem dX11_group_78 : decode cX11_group 78 = .ok (.iconst 2, 1) := by decide +kernel
theorem dX11_group_79 : decode cX11_group 79 = .ok (.lload_n 2, 1) := by decide +kernel
theorem dX11_group_80 : decode cX11_group 80 = .ok (.bipush 16, 2) := by decide +kernel
theorem dX11_group_82 : decode cX11_group 82 = .ok (.lshr, 1) := by decide +kernel
theorem dX11_group_83 : decode cX11_group 83 = .ok (.l2i, 1) := by decide +kernel
theorem dX11_group_84 : decode cX11_group 84 = .ok (.ldc_w 300, 3) := by decide +kernel
theorem dX11_group_87 : decode cX11_group 87 = .ok (.iand, 1) := by decide +kernel
theorem dX11_group_88 : decode cX11_group 88 = .ok (.iastore, 1) := by decide +kernel
theorem dX11_group_89 : decode cX11_group 89 = .ok (.aload_n 0, 1) := by decide +kernel
theorem dX11_group_90 : decode cX11_group 90 = .ok (.getfield 253, 3) := by decide +kernel
theorem dX11_group_93 : decode cX11_group 93 = .ok (.bipush 13, 2) := by decide +kernel
theorem dX11_group_95 : decode cX11_group 95 = .ok (.aload_n 0, 1) := by decide +kernel
theorem dX11_group_96 : decode cX11_group 96 = .ok (.getfield 253, 3) := by decide +kernel
theorem dX11_group_99 : decode cX11_group 99 = .ok (.iconst 2, 1) := by decide +kernel
theorem dX11_group_100 : decode cX11_group 100 = .ok (.iaload, 1) := by decide +kernel
theorem dX11_group_101 : decode cX11_group 101 = .ok (.ifCond .eq 7, 3) := by decide +kernel
theorem dX11_group_108 : decode cX11_group 108 = .ok (.iconst 0, 1) := by decide +kernel
theorem dX11_group_104 : decode cX11_group 104 = .ok (.iconst 1, 1) := by decide +kernel
theorem dX11_group_105 : decode cX11_group 105 = .ok (.goto 4, 3) := by decide +kernel
theorem dX11_group_13 : decode cX11_group 13 = .ok (.aload_n 0, 1) := by decide +kernel
theorem dX11_group_14 : decode cX11_group 14 = .ok (.getfield 253, 3) := by decide +kernel
theorem dX11_group_17 : decode cX11_group 17 = .ok (.bipush 13, 2) := by decide +kernel
theorem dX11_group_19 : decode cX11_group 19 = .ok (.iload_n 1, 1) := by decide +kernel
theorem dX11_group_20 : decode cX11_group 20 = .ok (.ifCond .eq 7, 3) := by decide +kernel
theorem dX11_group_27 : decode cX11_group 27 = .ok (.iconst 0, 1) := by decide +kernel
theorem dX11_group_23 : decode cX11_group 23 = .ok (.iconst 1, 1) := by decide +kernel
theorem dX11_group_24 : decode cX11_group 24 = .ok (.goto 4, 3) := by decide +kernel
theorem dX11_group_157 : decode cX11_group 157 = .ok (.iconst 1, 1) := by decide +kernel
theorem dX11_group_158 : decode cX11_group 158 = .ok (.ireturn, 1) := by decide +kernel
theorem dX11_group_109 : decode cX11_group 109 = .ok (.iastore, 1) := by decide +kernel
theorem dX11_group_110 : decode cX11_group 110 = .ok (.iconst 0, 1) := by decide +kernel
theorem dX11_group_111 : decode cX11_group 111 = .ok (.ireturn, 1) := by decide +kernel
theorem dX11_group_28 : decode cX11_group 28 = .ok (.iastore, 1) := by decide +kernel
theorem dX11_group_29 : decode cX11_group 29 = .ok (.aload_n 0, 1) := by decide +kernel
theorem dX11_group_30 : decode cX11_group 30 = .ok (.iload_n 1, 1) := by decide +kernel
theorem dX11_group_31 : decode cX11_group 31 = .ok (.ineg, 1) := by decide +kernel
theorem dX11_group_32 : decode cX11_group 32 = .ok (.invokevirtual 566, 3) := by decide +kernel
theorem dX11_group_35 : decode cX11_group 35 = .ok (.aload_n 0, 1) := by decide +kernel
theorem dX11_group_36 : decode cX11_group 36 = .ok (.iload_n 1, 1) := by decide +kernel
theorem dX11_group_37 : decode cX11_group 37 = .ok (.ineg, 1) := by decide +kernel
theorem dX11_group_38 : decode cX11_group 38 = .ok (.invokevirtual 578, 3) := by decide +kernel
theorem dX11_group_41 : decode cX11_group 41 = .ok (.iconst 0, 1) := by decide +kernel
theorem dX11_group_42 : decode cX11_group 42 = .ok (.ireturn, 1) := by decide +kernel
theorem dX11_formed_0 : decode cX11_formed 0 = .ok (.aload_n 0, 1) := by decide +kernel
theorem dX11_formed_1 : decode cX11_formed 1 = .ok (.invokevirtual 569, 3) := by decide +kernel
theorem dX11_formed_4 : decode cX11_formed 4 = .ok (.iload_n 1, 1) := by decide +kernel
theorem dX11_formed_5 : decode cX11_formed 5 = .ok (.iconst 3, 1) := by decide +kernel
theorem dX11_formed_6 : decode cX11_formed 6 = .ok (.ishr, 1) := by decide +kernel
theorem dX11_formed_7 : decode cX11_formed 7 = .ok (.istore_n 2, 1) := by decide +kernel
theorem dX11_formed_8 : decode cX11_formed 8 = .ok (.iload_n 1, 1) := by decide +kernel
theorem dX11_formed_9 : decode cX11_formed 9 = .ok (.bipush 64, 2) := by decide +kernel
theorem dX11_formed_11 : decode cX11_formed 11 = .ok (.if_icmp .ge 102, 3) := by decide +kernel
theorem dX11_formed_113 : decode cX11_formed 113 = .ok (.iload_n 1, 1) := by decide +kernel
theorem dX11_formed_114 : decode cX11_formed 114 = .ok (.lookupswitch 220 #[(129, 58), (137, 107), (139, 122), (140, 137), (142, 165), (199, 201)], 58) := by decide +kernel
theorem dX11_formed_172 : decode cX11_formed 172 = .ok (.aload_n 0, 1) := by decide +kernel
theorem dX11_formed_173 : decode cX11_formed 173 = .ok (.getfield 545, 3) := by decide +kernel
theorem dX11_formed_176 : decode cX11_formed 176 = .ok (.invokestatic 581, 3) := by decide +kernel
theorem dX11_formed_179 : decode cX11_formed 179 = .ok (.ifCond .ne 5, 3) := by decide +kernel
theorem dX11_formed_184 : decode cX11_formed 184 = .ok (.aload_n 0, 1) := by decide +kernel
theorem dX11_formed_185 : decode cX11_formed 185 = .ok (.invokevirtual 548, 3) := by decide +kernel
theorem dX11_formed_188 : decode cX11_formed 188 = .ok (.istore_n 3, 1) := by decide +kernel
theorem dX11_formed_189 : decode cX11_formed 189 = .ok (.aload_n 0, 1) := by decide +kernel
theorem dX11_formed_190 : decode cX11_formed 190 = .ok (.aload_n 0, 1) := by decide +kernel
theorem dX11_formed_191 : decode cX11_formed 191 = .ok (.getfield 545, 3) := by decide +kernel
theorem dX11_formed_194 : decode cX11_formed 194 = .ok (.aload_n 0, 1) := by decide +kernel
theorem dX11_formed_195 : decode cX11_formed 195 = .ok (.invokevirtual 572, 3) := by decide +kernel
theorem dX11_formed_198 : decode cX11_formed 198 = .ok (.iload_n 3, 1) := by decide +kernel
theorem dX11_formed_199 : decode cX11_formed 199 = .ok (.invokevirtual 575, 3) := by decide +kernel
theorem dX11_formed_202 : decode cX11_formed 202 = .ok (.istore 4, 2) := by decide +kernel
theorem dX11_formed_204 : decode cX11_formed 204 = .ok (.aload_n 0, 1) := by decide +kernel
theorem dX11_formed_205 : decode cX11_formed 205 = .ok (.getfield 545, 3) := by decide +kernel
theorem dX11_formed_208 : decode cX11_formed 208 = .ok (.bipush 7, 2) := by decide +kernel
theorem dX11_formed_210 : decode cX11_formed 210 = .ok (.if_icmp .eq 9, 3) := by decide +kernel
theorem dX11_formed_213 : decode cX11_formed 213 = .ok (.aload_n 0, 1) := by decide +kernel
theorem dX11_formed_214 : decode cX11_formed 214 = .ok (.iload 4, 2) := by decide +kernel
theorem dX11_formed_216 : decode cX11_formed 216 = .ok (.invokevirtual 578, 3) := by decide +kernel
theorem dX11_formed_182 : decode cX11_formed 182 = .ok (.iconst 2, 1) := by decide +kernel
theorem dX11_formed_183 : decode cX11_formed 183 = .ok (.ireturn, 1) := by decide +kernel
theorem dX11_formed_221 : decode cX11_formed 221 = .ok (.aload_n 0, 1) := by decide +kernel
theorem dX11_formed_222 : decode cX11_formed 222 = .ok (.aload_n 0, 1) := by decide +kernel
theorem dX11_formed_223 : decode cX11_formed 223 = .ok (.getfield 253, 3) := by decide +kernel
theorem dX11_formed_226 : decode cX11_formed 226 = .ok (.aload_n 0, 1) := by decide +kernel
theorem dX11_formed_227 : decode cX11_formed 227 = .ok (.getfield 545, 3) := by decide +kernel
theorem dX11_formed_230 : decode cX11_formed 230 = .ok (.iaload, 1) := by decide +kernel
theorem dX11_formed_231 : decode cX11_formed 231 = .ok (.invokevirtual 578, 3) := by decide +kernel
theorem dX11_formed_234 : decode cX11_formed 234 = .ok (.iconst 0, 1) := by decide +kernel
theorem dX11_formed_235 : decode cX11_formed 235 = .ok (.ireturn, 1) := by decide +kernel
theorem dX11_formed_236 : decode cX11_formed 236 = .ok (.aload_n 0, 1) := by decide +kernel
theorem dX11_formed_237 : decode cX11_formed 237 = .ok (.getfield 253, 3) := by decide +kernel
theorem dX11_formed_240 : decode cX11_formed 240 = .ok (.aload_n 0, 1) := by decide +kernel
theorem dX11_formed_241 : decode cX11_formed 241 = .ok (.getfield 545, 3) := by decide +kernel
theorem dX11_formed_244 : decode cX11_formed 244 = .ok (.aload_n 0, 1) := by decide +kernel
theorem dX11_formed_245 : decode cX11_formed 245 = .ok (.invokevirtual 572, 3) := by decide +kernel
theorem dX11_formed_248 : decode cX11_formed 248 = .ok (.iastore, 1) := by decide +kernel
theorem dX11_formed_249 : decode cX11_formed 249 = .ok (.iconst 0, 1) := by decide +kernel
theorem dX11_formed_250 : decode cX11_formed 250 = .ok (.ireturn, 1) := by decide +kernel
theorem dX11_formed_251 : decode cX11_formed 251 = .ok (.aload_n 0, 1) := by decide +kernel
theorem dX11_formed_252 : decode cX11_formed 252 = .ok (.getfield 545, 3) := by decide +kernel
theorem dX11_formed_255 : decode cX11_formed 255 = .ok (.iconst 3, 1) := by decide +kernel
theorem dX11_formed_256 : decode cX11_formed 256 = .ok (.if_icmp .le 5, 3) := by decide +kernel
theorem dX11_formed_261 : decode cX11_formed 261 = .ok (.aload_n 0, 1) := by decide +kernel
theorem dX11_formed_262 : decode cX11_formed 262 = .ok (.aload_n 0, 1) := by decide +kernel
theorem dX11_formed_263 : decode cX11_formed 263 = .ok (.getfield 253, 3) := by decide +kernel
theorem dX11_formed_266 : decode cX11_formed 266 = .ok (.bipush 8, 2) := by decide +kernel
theorem dX11_formed_268 : decode cX11_formed 268 = .ok (.aload_n 0, 1) := by decide +kernel
theorem dX11_formed_269 : decode cX11_formed 269 = .ok (.getfield 545, 3) := by decide +kernel
theorem dX11_formed_272 : decode cX11_formed 272 = .ok (.iadd, 1) := by decide +kernel
theorem dX11_formed_273 : decode cX11_formed 273 = .ok (.iaload, 1) := by decide +kernel
theorem dX11_formed_274 : decode cX11_formed 274 = .ok (.invokevirtual 578, 3) := by decide +kernel
theorem dX11_formed_277 : decode cX11_formed 277 = .ok (.iconst 0, 1) := by decide +kernel
theorem dX11_formed_278 : decode cX11_formed 278 = .ok (.ireturn, 1) := by decide +kernel
theorem dX11_formed_259 : decode cX11_formed 259 = .ok (.iconst 2, 1) := by decide +kernel
theorem dX11_formed_260 : decode cX11_formed 260 = .ok (.ireturn, 1) := by decide +kernel
theorem dX11_formed_279 : decode cX11_formed 279 = .ok (.aload_n 0, 1) := by decide +kernel
theorem dX11_formed_280 : decode cX11_formed 280 = .ok (.getfield 545, 3) := by decide +kernel
theorem dX11_formed_283 : decode cX11_formed 283 = .ok (.iconst 3, 1) := by decide +kernel
theorem dX11_formed_284 : decode cX11_formed 284 = .ok (.if_icmp .gt 11, 3) := by decide +kernel
theorem dX11_formed_287 : decode cX11_formed 287 = .ok (.aload_n 0, 1) := by decide +kernel
theorem dX11_formed_288 : decode cX11_formed 288 = .ok (.getfield 545, 3) := by decide +kernel
theorem dX11_formed_291 : decode cX11_formed 291 = .ok (.iconst 1, 1) := by decide +kernel
theorem dX11_formed_292 : decode cX11_formed 292 = .ok (.if_icmp .ne 5, 3) := by decide +kernel
theorem dX11_formed_297 : decode cX11_formed 297 = .ok (.aload_n 0, 1) := by decide +kernel
theorem dX11_formed_298 : decode cX11_formed 298 = .ok (.getfield 253, 3) := by decide +kernel
theorem dX11_formed_301 : decode cX11_formed 301 = .ok (.bipush 8, 2) := by decide +kernel
theorem dX11_formed_303 : decode cX11_formed 303 = .ok (.aload_n 0, 1) := by decide +kernel
theorem dX11_formed_304 : decode cX11_formed 304 = .ok (.getfield 545, 3) := by decide +kernel
theorem dX11_formed_307 : decode cX11_formed 307 = .ok (.iadd, 1) := by decide +kernel
theorem dX11_formed_308 : decode cX11_formed 308 = .ok (.aload_n 0, 1) := by decide +kernel
theorem dX11_formed_309 : decode cX11_formed 309 = .ok (.invokevirtual 572, 3) := by decide +kernel
theorem dX11_formed_312 : decode cX11_formed 312 = .ok (.iastore, 1) := by decide +kernel
theorem dX11_formed_313 : decode cX11_formed 313 = .ok (.iconst 0, 1) := by decide +kernel
theorem dX11_formed_314 : decode cX11_formed 314 = .ok (.ireturn, 1) := by decide +kernel
theorem dX11_formed_315 : decode cX11_formed 315 = .ok (.aload_n 0, 1) := by decide +kernel
theorem dX11_formed_316 : decode cX11_formed 316 = .ok (.getfield 545, 3) := by decide +kernel
theorem dX11_formed_319 : decode cX11_formed 319 = .ok (.ifCond .eq 5, 3) := by decide +kernel
theorem dX11_formed_324 : decode cX11_formed 324 = .ok (.aload_n 0, 1) := by decide +kernel
theorem dX11_formed_325 : decode cX11_formed 325 = .ok (.aload_n 0, 1) := by decide +kernel
theorem dX11_formed_326 : decode cX11_formed 326 = .ok (.invokevirtual 548, 3) := by decide +kernel
theorem dX11_formed_329 : decode cX11_formed 329 = .ok (.invokevirtual 578, 3) := by decide +kernel
theorem dX11_formed_332 : decode cX11_formed 332 = .ok (.iconst 0, 1) := by decide +kernel
theorem dX11_formed_333 : decode cX11_formed 333 = .ok (.ireturn, 1) := by decide +kernel
theorem dX11_formed_322 : decode cX11_formed 322 = .ok (.iconst 2, 1) := by decide +kernel
theorem dX11_formed_323 : decode cX11_formed 323 = .ok (.ireturn, 1) := by decide +kernel
theorem dX11_formed_334 : decode cX11_formed 334 = .ok (.iload_n 1, 1) := by decide +kernel
theorem dX11_formed_335 : decode cX11_formed 335 = .ok (.sipush 209, 3) := by decide +kernel
theorem dX11_formed_338 : decode cX11_formed 338 = .ok (.if_icmp .ne 10, 3) := by decide +kernel
theorem dX11_formed_348 : decode cX11_formed 348 = .ok (.aload_n 0, 1) := by decide +kernel
theorem dX11_formed_349 : decode cX11_formed 349 = .ok (.invokevirtual 587, 3) := by decide +kernel
theorem dX11_formed_341 : decode cX11_formed 341 = .ok (.aload_n 0, 1) := by decide +kernel
theorem dX11_formed_342 : decode cX11_formed 342 = .ok (.invokevirtual 584, 3) := by decide +kernel
theorem dX11_formed_345 : decode cX11_formed 345 = .ok (.goto 7, 3) := by decide +kernel
theorem dX11_formed_14 : decode cX11_formed 14 = .ok (.iload_n 1, 1) := by decide +kernel
theorem dX11_formed_15 : decode cX11_formed 15 = .ok (.bipush 8, 2) := by decide +kernel
theorem dX11_formed_17 : decode cX11_formed 17 = .ok (.irem, 1) := by decide +kernel
theorem dX11_formed_18 : decode cX11_formed 18 = .ok (.iconst 3, 1) := by decide +kernel
theorem dX11_formed_19 : decode cX11_formed 19 = .ok (.if_icmp .ne 15, 3) := by decide +kernel
theorem dX11_formed_34 : decode cX11_formed 34 = .ok (.aload_n 0, 1) := by decide +kernel
theorem dX11_formed_35 : decode cX11_formed 35 = .ok (.invokevirtual 572, 3) := by decide +kernel
theorem dX11_formed_22 : decode cX11_formed 22 = .ok (.aload_n 0, 1) := by decide +kernel
theorem dX11_formed_23 : decode cX11_formed 23 = .ok (.getfield 253, 3) := by decide +kernel
theorem dX11_formed_26 : decode cX11_formed 26 = .ok (.aload_n 0, 1) := by decide +kernel
theorem dX11_formed_27 : decode cX11_formed 27 = .ok (.getfield 545, 3) := by decide +kernel
theorem dX11_formed_30 : decode cX11_formed 30 = .ok (.iaload, 1) := by decide +kernel
theorem dX11_formed_31 : decode cX11_formed 31 = .ok (.goto 7, 3) := by decide +kernel
theorem dX11_formed_219 : decode cX11_formed 219 = .ok (.iconst 0, 1) := by decide +kernel
theorem dX11_formed_220 : decode cX11_formed 220 = .ok (.ireturn, 1) := by decide +kernel
theorem dX11_formed_295 : decode cX11_formed 295 = .ok (.iconst 2, 1) := by decide +kernel
theorem dX11_formed_296 : decode cX11_formed 296 = .ok (.ireturn, 1) := by decide +kernel
theorem dX11_formed_352 : decode cX11_formed 352 = .ok (.ireturn, 1) := by decide +kernel
theorem dX11_formed_38 : decode cX11_formed 38 = .ok (.istore_n 3, 1) := by decide +kernel
theorem dX11_formed_39 : decode cX11_formed 39 = .ok (.iload_n 1, 1) := by decide +kernel
theorem dX11_formed_40 : decode cX11_formed 40 = .ok (.bipush 8, 2) := by decide +kernel
theorem dX11_formed_42 : decode cX11_formed 42 = .ok (.irem, 1) := by decide +kernel
theorem dX11_formed_43 : decode cX11_formed 43 = .ok (.iconst 3, 1) := by decide +kernel
theorem dX11_formed_44 : decode cX11_formed 44 = .ok (.if_icmp .ne 10, 3) := by decide +kernel
theorem dX11_formed_54 : decode cX11_formed 54 = .ok (.aload_n 0, 1) := by decide +kernel
theorem dX11_formed_55 : decode cX11_formed 55 = .ok (.getfield 253, 3) := by decide +kernel
theorem dX11_formed_58 : decode cX11_formed 58 = .ok (.aload_n 0, 1) := by decide +kernel
theorem dX11_formed_59 : decode cX11_formed 59 = .ok (.getfield 545, 3) := by decide +kernel
theorem dX11_formed_62 : decode cX11_formed 62 = .ok (.iaload, 1) := by decide +kernel
theorem dX11_formed_47 : decode cX11_formed 47 = .ok (.aload_n 0, 1) := by decide +kernel
theorem dX11_formed_48 : decode cX11_formed 48 = .ok (.invokevirtual 572, 3) := by decide +kernel
theorem dX11_formed_51 : decode cX11_formed 51 = .ok (.goto 12, 3) := by decide +kernel
theorem dX11_formed_63 : decode cX11_formed 63 = .ok (.istore 4, 2) := by decide +kernel
theorem dX11_formed_65 : decode cX11_formed 65 = .ok (.aload_n 0, 1) := by decide +kernel
theorem dX11_formed_66 : decode cX11_formed 66 = .ok (.iload_n 2, 1) := by decide +kernel
theorem dX11_formed_67 : decode cX11_formed 67 = .ok (.iload_n 3, 1) := by decide +kernel
theorem dX11_formed_68 : decode cX11_formed 68 = .ok (.iload 4, 2) := by decide +kernel
theorem dX11_formed_70 : decode cX11_formed 70 = .ok (.invokevirtual 575, 3) := by decide +kernel
theorem dX11_formed_73 : decode cX11_formed 73 = .ok (.istore 5, 2) := by decide +kernel
theorem dX11_formed_75 : decode cX11_formed 75 = .ok (.iload_n 2, 1) := by decide +kernel
theorem dX11_formed_76 : decode cX11_formed 76 = .ok (.bipush 7, 2) := by decide +kernel
theorem dX11_formed_78 : decode cX11_formed 78 = .ok (.if_icmp .ne 5, 3) := by decide +kernel
theorem dX11_formed_83 : decode cX11_formed 83 = .ok (.iload_n 1, 1) := by decide +kernel
theorem dX11_formed_84 : decode cX11_formed 84 = .ok (.bipush 8, 2) := by decide +kernel
theorem dX11_formed_86 : decode cX11_formed 86 = .ok (.irem, 1) := by decide +kernel
theorem dX11_formed_87 : decode cX11_formed 87 = .ok (.iconst 3, 1) := by decide +kernel
theorem dX11_formed_88 : decode cX11_formed 88 = .ok (.if_icmp .ne 17, 3) := by decide +kernel
theorem dX11_formed_105 : decode cX11_formed 105 = .ok (.aload_n 0, 1) := by decide +kernel
theorem dX11_formed_106 : decode cX11_formed 106 = .ok (.iload 5, 2) := by decide +kernel
theorem dX11_formed_108 : decode cX11_formed 108 = .ok (.invokevirtual 578, 3) := by decide +kernel
theorem dX11_formed_91 : decode cX11_formed 91 = .ok (.aload_n 0, 1) := by decide +kernel
theorem dX11_formed_92 : decode cX11_formed 92 = .ok (.getfield 253, 3) := by decide +kernel
theorem dX11_formed_95 : decode cX11_formed 95 = .ok (.aload_n 0, 1) := by decide +kernel
theorem dX11_formed_96 : decode cX11_formed 96 = .ok (.getfield 545, 3) := by decide +kernel
theorem dX11_formed_99 : decode cX11_formed 99 = .ok (.iload 5, 2) := by decide +kernel
theorem dX11_formed_101 : decode cX11_formed 101 = .ok (.iastore, 1) := by decide +kernel
theorem dX11_formed_102 : decode cX11_formed 102 = .ok (.goto 9, 3) := by decide +kernel
theorem dX11_formed_81 : decode cX11_formed 81 = .ok (.iconst 0, 1) := by decide +kernel
theorem dX11_formed_82 : decode cX11_formed 82 = .ok (.ireturn, 1) := by decide +kernel
theorem dX11_formed_111 : decode cX11_formed 111 = .ok (.iconst 0, 1) := by decide +kernel
theorem dX11_formed_112 : decode cX11_formed 112 = .ok (.ireturn, 1) := by decide +kernel
def wpX11_fetchSigned (σ : ZS) (Q : Int → ZS → Prop) : Prop := wpX11_fetch σ (fun (x1 : Int) (σ2 : ZS) => Q ((x1 + 128) % 256 - 128) σ2)
set_option maxHeartbeats 4000000 in
set_option maxRecDepth 100000 in
theorem kX11_fetchSigned (l : Launch) (D : va_G) (dA : Nat → ClassId) (ad : Int → Nat → Nat) (σ : ZS) (Q : Int → ZS → Prop) (sz : Nat) (hw : wpX11_fetchSigned σ Q) : Met l yX11_fetchSigned (gws yX11_fetchSigned cX11_fetchSigned 1 (some .int)) (gR 3 0 0) (gPre D dA [.ref (ad 0 1000)] (zR dA ad σ) sz) (va_Qi (zQi Q) (gAt D dA (va_A (zR dA ad σ) sz) (zR dA ad)) (va_A (zR dA ad σ) sz)) 0 0 (va_A (zR dA ad σ) sz) := by
  refine Met.ofW (cc := cX11_fetchSigned) (maxL := 1) (ret := (some .int)) (by decide) rfl ?_
  intro p e s m args below meth c s₁ B hml hv
  obtain ⟨rfl, hsz, hP, hK, hD0⟩ := hv
  have hx := B.exec
  have hb := B.bytes
  have hr := B.returns
  have hts := atoms_spec (ws := gws yX11_fetchSigned cX11_fetchSigned 1 (some .int)) B.pre
  have hg : ∀ w ∈ gw, w.before _ s = true := fun w h => hts w (List.mem_cons_of_mem _ h)
  have hown : s.vm.findClass RX11 = some m.cls := findClass_of_methodNamed B.named
  have hlocks := B.notSynchronized
  subst hsz
  have hD := hD0.self (sz := s.heap.size)
  generalize hAe : va_A (zR dA ad σ) s.heap.size = A at hD ⊢
  have hA : ∀ q : Nat, s.heap.size ≤ q → A q := fun q h => by rw [← hAe]; exact Or.inr h
  have hS : va_S A s.heap s.heap [] := va_S.rf
  have hl := lv_entry ([.ref (ad 0 1000)]) (n := 1) (Nat.le_of_ble_eq_true rfl)
  rw [lg_entry_eq]
  generalize (lg_sl ([.ref (ad 0 1000)]) ++ List.replicate (1 - (lg_sl ([.ref (ad 0 1000)])).length) Slot.unset).toArray = ls at hl ⊢
  have hl : lv_has ls 1 [(0, .ref (ad 0 1000))] := hl
  have hret : ∀ (v : Int) (σ : ZS) (H : Heap) (locs : List Loc) (ls : Array Slot) (pc : Nat), Q v σ → va_P D vwC (zR dA ad σ) H → va_D A (zR dA ad σ) → va_S A s.heap H locs → decode cX11_fetchSigned pc = .ok (.ireturn, 1) → W p l e (gR 3 0 0) s m #[.ref (ad 0 1000)] below meth c H locs 0 0 (MQ below (va_Qi (zQi Q) (gAt D dA A (zR dA ad)) A) #[.ref (ad 0 1000)] s 0 0 A) (F0 m pc ls [.int (Int32.ofInt v)]) := fun v σ H locs ls pc hw hP hD hS hd => g_iret hx hb hr rfl hlocks hK σ hP hD hS ⟨v, rfl, hw⟩ (Nat.le_of_ble_eq_true rfl) (Nat.le_of_ble_eq_true rfl) hd
  generalize MQ below (va_Qi (zQi Q) (gAt D dA A (zR dA ad)) A) #[.ref (ad 0 1000)] s 0 0 A = QQ at hret ⊢
  unfold wpX11_fetchSigned at hw
  refine lv_aload_n hx hb dX11_fetchSigned_0 rfl (lv_at hl 0 rfl) ?_
  refine z_Vi (n := 0) (As := []) (rest := []) hx hb hml hg hown hK hP hD hS hA (kX11_fetch l D dA ad σ _ _ hw) (zoR0) rfl q2126 q160 q2123 q2125 q129 (by decide +kernel) ⟨(Nat.le_of_ble_eq_true rfl), (Nat.le_of_ble_eq_true rfl)⟩ rfl hl.1 rfl (Nat.le_of_ble_eq_true rfl) dX11_fetchSigned_1 ⟨(Nat.le_of_ble_eq_true rfl), (Nat.le_of_ble_eq_true rfl)⟩ (fun x1 σ2 H locs hw hP hD hS => ?_)
  refine z_i2b hx hb dX11_fetchSigned_4 ?_
  exact hret ((x1 + 128) % 256 - 128) σ2 _ _ _ _ hw hP hD hS dX11_fetchSigned_5
def wpX11_readForm_228 (s1 : Int) (σ : ZS) (Q : ZS → Prop) : Prop := Q (zsI σ 0 83 s1)
def wpX11_readForm_226 (σ : ZS) (Q : ZS → Prop) : Prop := wpX11_readForm_228 11 σ Q
def wpX11_readForm_221 (σ : ZS) (Q : ZS → Prop) : Prop := wpX11_readForm_228 10 σ Q
def wpX11_readForm_188 (v1 v2 v3 v4 : Int) (σ : ZS) (Q : ZS → Prop) : Prop := (-2147483648 ≤ v2 ∧ v2 ≤ 2147483647) ∧ (v2 = 2 → wpX11_readForm_221 (zsI σ 0 84 ((v4 + v3) % 65536)) Q) ∧ (¬ v2 = 2 → (v2 = 3 → wpX11_readForm_221 (zsI σ 0 84 ((v4 + v3) % 65536)) Q) ∧ (¬ v2 = 3 → (¬ v2 = 6 → wpX11_readForm_226 (zsI σ 0 84 ((v4 + v3) % 65536)) Q) ∧ (v2 = 6 → (-2147483648 ≤ v1 ∧ v1 ≤ 2147483647) ∧ (v1 = 0 → wpX11_readForm_226 (zsI σ 0 84 ((v4 + v3) % 65536)) Q) ∧ (¬ v1 = 0 → wpX11_readForm_221 (zsI σ 0 84 ((v4 + v3) % 65536)) Q))))
def wpX11_readForm_176 (v1 v2 v3 v4 : Int) (σ : ZS) (Q : ZS → Prop) : Prop := wpX11_readForm_188 v1 v2 v3 (v4 + (zA σ 0 75 7)) σ Q
def wpX11_readForm_161 (v1 v2 v3 v4 : Int) (σ : ZS) (Q : ZS → Prop) : Prop := (-2147483648 ≤ v2 ∧ v2 ≤ 2147483647) ∧ (v2 = 1 → wpX11_readForm_176 v1 v2 v3 v4 σ Q) ∧ (¬ v2 = 1 → (v2 = 3 → wpX11_readForm_176 v1 v2 v3 v4 σ Q) ∧ (¬ v2 = 3 → (¬ v2 = 5 → wpX11_readForm_188 v1 v2 v3 v4 σ Q) ∧ (v2 = 5 → wpX11_readForm_176 v1 v2 v3 v4 σ Q)))
def wpX11_readForm_149 (v1 v2 v3 v4 : Int) (σ : ZS) (Q : ZS → Prop) : Prop := wpX11_readForm_161 v1 v2 v3 (v4 + (zA σ 0 75 6)) σ Q
def wpX11_readForm_135 (v1 v2 v3 v4 : Int) (σ : ZS) (Q : ZS → Prop) : Prop := (-2147483648 ≤ v2 ∧ v2 ≤ 2147483647) ∧ (v2 = 0 → wpX11_readForm_149 v1 v2 v3 v4 σ Q) ∧ (¬ v2 = 0 → (v2 = 2 → wpX11_readForm_149 v1 v2 v3 v4 σ Q) ∧ (¬ v2 = 2 → (¬ v2 = 4 → wpX11_readForm_161 v1 v2 v3 v4 σ Q) ∧ (v2 = 4 → wpX11_readForm_149 v1 v2 v3 v4 σ Q)))
def wpX11_readForm_127 (v1 v2 v3 : Int) (σ : ZS) (Q : ZS → Prop) : Prop := wpX11_readForm_135 v1 v2 v3 (zA σ 0 75 5) σ Q
def wpX11_readForm_107 (v1 v2 v3 v4 : Int) (σ : ZS) (Q : ZS → Prop) : Prop := (-2147483648 ≤ v2 ∧ v2 ≤ 2147483647) ∧ (v2 = 2 → wpX11_readForm_127 v1 v2 v3 σ Q) ∧ (¬ v2 = 2 → (v2 = 3 → wpX11_readForm_127 v1 v2 v3 σ Q) ∧ (¬ v2 = 3 → (¬ v2 = 6 → wpX11_readForm_135 v1 v2 v3 v4 σ Q) ∧ (v2 = 6 → (-2147483648 ≤ v1 ∧ v1 ≤ 2147483647) ∧ (v1 = 0 → wpX11_readForm_135 v1 v2 v3 v4 σ Q) ∧ (¬ v1 = 0 → wpX11_readForm_127 v1 v2 v3 σ Q))))
def wpX11_readForm_99 (v1 v2 v3 : Int) (σ : ZS) (Q : ZS → Prop) : Prop := wpX11_readForm_107 v1 v2 v3 (zA σ 0 75 3) σ Q
def wpX11_readForm_80 (v1 v2 s0 : Int) (σ : ZS) (Q : ZS → Prop) : Prop := (-2147483648 ≤ v2 ∧ v2 ≤ 2147483647) ∧ (v2 = 0 → wpX11_readForm_99 v1 v2 s0 σ Q) ∧ (¬ v2 = 0 → (v2 = 1 → wpX11_readForm_99 v1 v2 s0 σ Q) ∧ (¬ v2 = 1 → (¬ v2 = 7 → wpX11_readForm_107 v1 v2 s0 0 σ Q) ∧ (v2 = 7 → wpX11_readForm_99 v1 v2 s0 σ Q)))
def wpX11_readForm (σ : ZS) (Q : ZS → Prop) : Prop := wpX11_fetch σ (fun (x25 : Int) (σ26 : ZS) => (-2147483648 ≤ x25 ∧ x25 ≤ 2147483647) ∧ (¬ (x25 / 64) = 3 → (¬ (x25 / 64) = 0 → (¬ (x25 / 64) = 1 → wpX11_fetchTwo (zsI (zsI σ26 0 81 x25) 0 82 ((x25 / 8) % 8)) (fun (x31 : Int) (σ32 : ZS) => wpX11_readForm_80 (x25 / 64) (x25 % 8) x31 σ32 Q)) ∧ ((x25 / 64) = 1 → wpX11_fetchSigned (zsI (zsI σ26 0 81 x25) 0 82 ((x25 / 8) % 8)) (fun (x33 : Int) (σ34 : ZS) => wpX11_readForm_80 (x25 / 64) (x25 % 8) x33 σ34 Q))) ∧ ((x25 / 64) = 0 → (¬ (x25 % 8) = 6 → wpX11_readForm_80 (x25 / 64) (x25 % 8) 0 (zsI (zsI σ26 0 81 x25) 0 82 ((x25 / 8) % 8)) Q) ∧ ((x25 % 8) = 6 → wpX11_fetchTwo (zsI (zsI σ26 0 81 x25) 0 82 ((x25 / 8) % 8)) (fun (x36 : Int) (σ37 : ZS) => wpX11_readForm_80 (x25 / 64) (x25 % 8) x36 σ37 Q)))) ∧ ((x25 / 64) = 3 → Q (zsI (zsI σ26 0 81 x25) 0 82 ((x25 / 8) % 8))))
set_option maxHeartbeats 4000000 in
set_option maxRecDepth 100000 in
theorem kX11_readForm (l : Launch) (D : va_G) (dA : Nat → ClassId) (ad : Int → Nat → Nat) (σ : ZS) (Q : ZS → Prop) (sz : Nat) (hw : wpX11_readForm σ Q) : Met l yX11_readForm (gws yX11_readForm cX11_readForm 5 none) (gR 4 0 0) (gPre D dA [.ref (ad 0 1000)] (zR dA ad σ) sz) (va_Qv Q (gAt D dA (va_A (zR dA ad σ) sz) (zR dA ad)) (va_A (zR dA ad σ) sz)) 0 0 (va_A (zR dA ad σ) sz) := by
  refine Met.ofW (cc := cX11_readForm) (maxL := 5) (ret := none) (by decide) rfl ?_
  intro p e s m args below meth c s₁ B hml hv
  obtain ⟨rfl, hsz, hP, hK, hD0⟩ := hv
  have hx := B.exec
  have hb := B.bytes
  have hr := B.returns
  have hts := atoms_spec (ws := gws yX11_readForm cX11_readForm 5 none) B.pre
  have hg : ∀ w ∈ gw, w.before _ s = true := fun w h => hts w (List.mem_cons_of_mem _ h)
  have hown : s.vm.findClass RX11 = some m.cls := findClass_of_methodNamed B.named
  have hlocks := B.notSynchronized
  subst hsz
  have hD := hD0.self (sz := s.heap.size)
  generalize hAe : va_A (zR dA ad σ) s.heap.size = A at hD ⊢
  have hA : ∀ q : Nat, s.heap.size ≤ q → A q := fun q h => by rw [← hAe]; exact Or.inr h
  have hS : va_S A s.heap s.heap [] := va_S.rf
  have hl := lv_entry ([.ref (ad 0 1000)]) (n := 5) (Nat.le_of_ble_eq_true rfl)
  rw [lg_entry_eq]
  generalize (lg_sl ([.ref (ad 0 1000)]) ++ List.replicate (5 - (lg_sl ([.ref (ad 0 1000)])).length) Slot.unset).toArray = ls at hl ⊢
  have hl : lv_has ls 5 [(0, .ref (ad 0 1000))] := hl
  have hret : ∀ (σ : ZS) (H : Heap) (locs : List Loc) (ls : Array Slot) (pc : Nat), Q σ → va_P D vwC (zR dA ad σ) H → va_D A (zR dA ad σ) → va_S A s.heap H locs → decode cX11_readForm pc = .ok (.return_, 1) → W p l e (gR 4 0 0) s m #[.ref (ad 0 1000)] below meth c H locs 0 0 (MQ below (va_Qv Q (gAt D dA A (zR dA ad)) A) #[.ref (ad 0 1000)] s 0 0 A) (F0 m pc ls []) := fun σ H locs ls pc hw hP hD hS hd => g_vret hx hb hr hlocks hK σ hP hD hS hw (Nat.le_of_ble_eq_true rfl) (Nat.le_of_ble_eq_true rfl) hd
  generalize MQ below (va_Qv Q (gAt D dA A (zR dA ad)) A) #[.ref (ad 0 1000)] s 0 0 A = QQ at hret ⊢
  have j228 : ∀ (s1 : Int) (σ : ZS), ∀ (H : Heap) (locs : List Loc) (ls : Array Slot), va_P D vwC (zR dA ad σ) H → va_D A (zR dA ad σ) → va_S A s.heap H locs → lv_has ls 5 [] → wpX11_readForm_228 s1 σ Q → W p l e (gR 4 0 0) s m #[.ref (ad 0 1000)] below meth c H locs 0 0 QQ (F0 m 228 ls [.int (Int32.ofInt s1), .ref (ad 0 1000)]) := by
    intro s1 σ H locs ls hP hD hS hl hw
    unfold wpX11_readForm_228 at hw
    refine zpR0_83 (v := s1) hx hb hg hown hK hP hD hS q1698 dX11_readForm_228 (fun H locs hP hD hS => ?_)
    exact hret (zsI σ 0 83 s1) _ _ _ _ hw hP hD hS dX11_readForm_231
  have j226 : ∀ (σ : ZS), ∀ (H : Heap) (locs : List Loc) (ls : Array Slot), va_P D vwC (zR dA ad σ) H → va_D A (zR dA ad σ) → va_S A s.heap H locs → lv_has ls 5 [] → wpX11_readForm_226 σ Q → W p l e (gR 4 0 0) s m #[.ref (ad 0 1000)] below meth c H locs 0 0 QQ (F0 m 226 ls [.ref (ad 0 1000)]) := by
    intro σ H locs ls hP hD hS hl hw
    unfold wpX11_readForm_226 at hw
    refine lv_bipush (v := Int32.ofInt 11) hx hb dX11_readForm_226 (by decide) ?_
    exact j228 11 σ _ _ _ hP hD hS (lv_sub hl [] rfl) hw
  have j221 : ∀ (σ : ZS), ∀ (H : Heap) (locs : List Loc) (ls : Array Slot), va_P D vwC (zR dA ad σ) H → va_D A (zR dA ad σ) → va_S A s.heap H locs → lv_has ls 5 [] → wpX11_readForm_221 σ Q → W p l e (gR 4 0 0) s m #[.ref (ad 0 1000)] below meth c H locs 0 0 QQ (F0 m 221 ls [.ref (ad 0 1000)]) := by
    intro σ H locs ls hP hD hS hl hw
    unfold wpX11_readForm_221 at hw
    refine lv_bipush (v := Int32.ofInt 10) hx hb dX11_readForm_221 (by decide) ?_
    refine lv_goto (tgt := 228) hx hb dX11_readForm_223 (by decide) ?_
    exact j228 10 σ _ _ _ hP hD hS (lv_sub hl [] rfl) hw
  have j188 : ∀ (v1 v2 v3 v4 : Int) (σ : ZS), ∀ (H : Heap) (locs : List Loc) (ls : Array Slot), va_P D vwC (zR dA ad σ) H → va_D A (zR dA ad σ) → va_S A s.heap H locs → lv_has ls 5 [(0, .ref (ad 0 1000)), (1, .int (Int32.ofInt v1)), (2, .int (Int32.ofInt v2)), (3, .int (Int32.ofInt v3)), (4, .int (Int32.ofInt v4))] → wpX11_readForm_188 v1 v2 v3 v4 σ Q → W p l e (gR 4 0 0) s m #[.ref (ad 0 1000)] below meth c H locs 0 0 QQ (F0 m 188 ls []) := by
    intro v1 v2 v3 v4 σ H locs ls hP hD hS hl hw
    unfold wpX11_readForm_188 at hw
    refine lv_aload_n hx hb dX11_readForm_188 rfl (lv_at hl 0 rfl) ?_
    refine lv_iload hx hb dX11_readForm_189 (lv_at hl 4 rfl) ?_
    refine lv_iload_n hx hb dX11_readForm_191 rfl (lv_at hl 3 rfl) ?_
    refine z_iadd hx hb dX11_readForm_192 ?_
    refine lv_ldcw hx hb hown (hg _ q1907) dX11_readForm_193 ?_
    refine g_nrm (y := Int32.ofInt 65535) (by decide) ?_
    refine z_iandK (M := 65536) hx hb 16 (by decide) (by decide) (by decide) dX11_readForm_196 ?_
    refine zpR0_84 (v := ((v4 + v3) % 65536)) hx hb hg hown hK hP hD hS q1699 dX11_readForm_197 (fun H locs hP hD hS => ?_)
    refine lv_aload_n hx hb dX11_readForm_200 rfl (lv_at hl 0 rfl) ?_
    refine lv_iload_n hx hb dX11_readForm_201 rfl (lv_at hl 2 rfl) ?_
    refine lv_iconst (v := Int32.ofInt 2) hx hb dX11_readForm_202 (by decide) ?_
    obtain ⟨o1, hw⟩ := hw
    refine z_icmp_eq (tgt := 221) hx hb o1 (by decide) dX11_readForm_203 (by decide) (fun k2 => ?_) (fun k2 => ?_)
    · replace hw := hw.1 k2
      exact j221 (zsI σ 0 84 ((v4 + v3) % 65536)) _ _ _ hP hD hS (lv_sub hl [] rfl) hw
    · replace hw := hw.2 k2
      refine lv_iload_n hx hb dX11_readForm_206 rfl (lv_at hl 2 rfl) ?_
      refine lv_iconst (v := Int32.ofInt 3) hx hb dX11_readForm_207 (by decide) ?_
      refine z_icmp_eq (tgt := 221) hx hb o1 (by decide) dX11_readForm_208 (by decide) (fun k3 => ?_) (fun k3 => ?_)
      · replace hw := hw.1 k3
        exact j221 (zsI σ 0 84 ((v4 + v3) % 65536)) _ _ _ hP hD hS (lv_sub hl [] rfl) hw
      · replace hw := hw.2 k3
        refine lv_iload_n hx hb dX11_readForm_211 rfl (lv_at hl 2 rfl) ?_
        refine lv_bipush (v := Int32.ofInt 6) hx hb dX11_readForm_212 (by decide) ?_
        refine z_icmp_ne (tgt := 226) hx hb o1 (by decide) dX11_readForm_214 (by decide) (fun k4 => ?_) (fun k4 => ?_)
        · replace hw := hw.1 k4
          exact j226 (zsI σ 0 84 ((v4 + v3) % 65536)) _ _ _ hP hD hS (lv_sub hl [] rfl) hw
        · replace hw := hw.2 k4
          refine lv_iload_n hx hb dX11_readForm_217 rfl (lv_at hl 1 rfl) ?_
          obtain ⟨o5, hw⟩ := hw
          refine z_if_eq (tgt := 226) hx hb o5 dX11_readForm_218 (by decide) (fun k6 => ?_) (fun k6 => ?_)
          · replace hw := hw.1 k6
            exact j226 (zsI σ 0 84 ((v4 + v3) % 65536)) _ _ _ hP hD hS (lv_sub hl [] rfl) hw
          · replace hw := hw.2 k6
            exact j221 (zsI σ 0 84 ((v4 + v3) % 65536)) _ _ _ hP hD hS (lv_sub hl [] rfl) hw
  have j176 : ∀ (v1 v2 v3 v4 : Int) (σ : ZS), ∀ (H : Heap) (locs : List Loc) (ls : Array Slot), va_P D vwC (zR dA ad σ) H → va_D A (zR dA ad σ) → va_S A s.heap H locs → lv_has ls 5 [(0, .ref (ad 0 1000)), (1, .int (Int32.ofInt v1)), (2, .int (Int32.ofInt v2)), (3, .int (Int32.ofInt v3)), (4, .int (Int32.ofInt v4))] → wpX11_readForm_176 v1 v2 v3 v4 σ Q → W p l e (gR 4 0 0) s m #[.ref (ad 0 1000)] below meth c H locs 0 0 QQ (F0 m 176 ls []) := by
    intro v1 v2 v3 v4 σ H locs ls hP hD hS hl hw
    unfold wpX11_readForm_176 at hw
    refine lv_iload hx hb dX11_readForm_176 (lv_at hl 4 rfl) ?_
    refine lv_aload_n hx hb dX11_readForm_178 rfl (lv_at hl 0 rfl) ?_
    refine zgR0_75 hx hb hg hown hK hP q1690 dX11_readForm_179 ?_
    refine lv_bipush (v := Int32.ofInt 7) hx hb dX11_readForm_182 (by decide) ?_
    refine zlR0_75 hx hb (by decide) hK hP dX11_readForm_184 ?_
    refine z_iadd hx hb dX11_readForm_185 ?_
    refine lv_istore (lv' := [(4, .int (Int32.ofInt (v4 + (zA σ 0 75 7)))), (0, .ref (ad 0 1000)), (1, .int (Int32.ofInt v1)), (2, .int (Int32.ofInt v2)), (3, .int (Int32.ofInt v3))]) hx hb dX11_readForm_186 hl (by decide) rfl (fun ls hl => ?_)
    exact j188 v1 v2 v3 (v4 + (zA σ 0 75 7)) σ _ _ _ hP hD hS (lv_sub hl [1, 2, 3, 4, 0] rfl) hw
  have j161 : ∀ (v1 v2 v3 v4 : Int) (σ : ZS), ∀ (H : Heap) (locs : List Loc) (ls : Array Slot), va_P D vwC (zR dA ad σ) H → va_D A (zR dA ad σ) → va_S A s.heap H locs → lv_has ls 5 [(0, .ref (ad 0 1000)), (1, .int (Int32.ofInt v1)), (2, .int (Int32.ofInt v2)), (3, .int (Int32.ofInt v3)), (4, .int (Int32.ofInt v4))] → wpX11_readForm_161 v1 v2 v3 v4 σ Q → W p l e (gR 4 0 0) s m #[.ref (ad 0 1000)] below meth c H locs 0 0 QQ (F0 m 161 ls []) := by
    intro v1 v2 v3 v4 σ H locs ls hP hD hS hl hw
    unfold wpX11_readForm_161 at hw
    refine lv_iload_n hx hb dX11_readForm_161 rfl (lv_at hl 2 rfl) ?_
    refine lv_iconst (v := Int32.ofInt 1) hx hb dX11_readForm_162 (by decide) ?_
    obtain ⟨o7, hw⟩ := hw
    refine z_icmp_eq (tgt := 176) hx hb o7 (by decide) dX11_readForm_163 (by decide) (fun k8 => ?_) (fun k8 => ?_)
    · replace hw := hw.1 k8
      exact j176 v1 v2 v3 v4 σ _ _ _ hP hD hS (lv_sub hl [0, 1, 2, 3, 4] rfl) hw
    · replace hw := hw.2 k8
      refine lv_iload_n hx hb dX11_readForm_166 rfl (lv_at hl 2 rfl) ?_
      refine lv_iconst (v := Int32.ofInt 3) hx hb dX11_readForm_167 (by decide) ?_
      refine z_icmp_eq (tgt := 176) hx hb o7 (by decide) dX11_readForm_168 (by decide) (fun k9 => ?_) (fun k9 => ?_)
      · replace hw := hw.1 k9
        exact j176 v1 v2 v3 v4 σ _ _ _ hP hD hS (lv_sub hl [0, 1, 2, 3, 4] rfl) hw
      · replace hw := hw.2 k9
        refine lv_iload_n hx hb dX11_readForm_171 rfl (lv_at hl 2 rfl) ?_
        refine lv_iconst (v := Int32.ofInt 5) hx hb dX11_readForm_172 (by decide) ?_
        refine z_icmp_ne (tgt := 188) hx hb o7 (by decide) dX11_readForm_173 (by decide) (fun k10 => ?_) (fun k10 => ?_)
        · replace hw := hw.1 k10
          exact j188 v1 v2 v3 v4 σ _ _ _ hP hD hS (lv_sub hl [0, 1, 2, 3, 4] rfl) hw
        · replace hw := hw.2 k10
          exact j176 v1 v2 v3 v4 σ _ _ _ hP hD hS (lv_sub hl [0, 1, 2, 3, 4] rfl) hw
  have j149 : ∀ (v1 v2 v3 v4 : Int) (σ : ZS), ∀ (H : Heap) (locs : List Loc) (ls : Array Slot), va_P D vwC (zR dA ad σ) H → va_D A (zR dA ad σ) → va_S A s.heap H locs → lv_has ls 5 [(0, .ref (ad 0 1000)), (1, .int (Int32.ofInt v1)), (2, .int (Int32.ofInt v2)), (3, .int (Int32.ofInt v3)), (4, .int (Int32.ofInt v4))] → wpX11_readForm_149 v1 v2 v3 v4 σ Q → W p l e (gR 4 0 0) s m #[.ref (ad 0 1000)] below meth c H locs 0 0 QQ (F0 m 149 ls []) := by
    intro v1 v2 v3 v4 σ H locs ls hP hD hS hl hw
    unfold wpX11_readForm_149 at hw
    refine lv_iload hx hb dX11_readForm_149 (lv_at hl 4 rfl) ?_
    refine lv_aload_n hx hb dX11_readForm_151 rfl (lv_at hl 0 rfl) ?_
    refine zgR0_75 hx hb hg hown hK hP q1690 dX11_readForm_152 ?_
    refine lv_bipush (v := Int32.ofInt 6) hx hb dX11_readForm_155 (by decide) ?_
    refine zlR0_75 hx hb (by decide) hK hP dX11_readForm_157 ?_
    refine z_iadd hx hb dX11_readForm_158 ?_
    refine lv_istore (lv' := [(4, .int (Int32.ofInt (v4 + (zA σ 0 75 6)))), (0, .ref (ad 0 1000)), (1, .int (Int32.ofInt v1)), (2, .int (Int32.ofInt v2)), (3, .int (Int32.ofInt v3))]) hx hb dX11_readForm_159 hl (by decide) rfl (fun ls hl => ?_)
    exact j161 v1 v2 v3 (v4 + (zA σ 0 75 6)) σ _ _ _ hP hD hS (lv_sub hl [1, 2, 3, 4, 0] rfl) hw
  have j135 : ∀ (v1 v2 v3 v4 : Int) (σ : ZS), ∀ (H : Heap) (locs : List Loc) (ls : Array Slot), va_P D vwC (zR dA ad σ) H → va_D A (zR dA ad σ) → va_S A s.heap H locs → lv_has ls 5 [(0, .ref (ad 0 1000)), (1, .int (Int32.ofInt v1)), (2, .int (Int32.ofInt v2)), (3, .int (Int32.ofInt v3)), (4, .int (Int32.ofInt v4))] → wpX11_readForm_135 v1 v2 v3 v4 σ Q → W p l e (gR 4 0 0) s m #[.ref (ad 0 1000)] below meth c H locs 0 0 QQ (F0 m 135 ls []) := by
    intro v1 v2 v3 v4 σ H locs ls hP hD hS hl hw
    unfold wpX11_readForm_135 at hw
    refine lv_iload_n hx hb dX11_readForm_135 rfl (lv_at hl 2 rfl) ?_
    obtain ⟨o11, hw⟩ := hw
    refine z_if_eq (tgt := 149) hx hb o11 dX11_readForm_136 (by decide) (fun k12 => ?_) (fun k12 => ?_)
    · replace hw := hw.1 k12
      exact j149 v1 v2 v3 v4 σ _ _ _ hP hD hS (lv_sub hl [0, 1, 2, 3, 4] rfl) hw
    · replace hw := hw.2 k12
      refine lv_iload_n hx hb dX11_readForm_139 rfl (lv_at hl 2 rfl) ?_
      refine lv_iconst (v := Int32.ofInt 2) hx hb dX11_readForm_140 (by decide) ?_
      refine z_icmp_eq (tgt := 149) hx hb o11 (by decide) dX11_readForm_141 (by decide) (fun k13 => ?_) (fun k13 => ?_)
      · replace hw := hw.1 k13
        exact j149 v1 v2 v3 v4 σ _ _ _ hP hD hS (lv_sub hl [0, 1, 2, 3, 4] rfl) hw
      · replace hw := hw.2 k13
        refine lv_iload_n hx hb dX11_readForm_144 rfl (lv_at hl 2 rfl) ?_
        refine lv_iconst (v := Int32.ofInt 4) hx hb dX11_readForm_145 (by decide) ?_
        refine z_icmp_ne (tgt := 161) hx hb o11 (by decide) dX11_readForm_146 (by decide) (fun k14 => ?_) (fun k14 => ?_)
        · replace hw := hw.1 k14
          exact j161 v1 v2 v3 v4 σ _ _ _ hP hD hS (lv_sub hl [0, 1, 2, 3, 4] rfl) hw
        · replace hw := hw.2 k14
          exact j149 v1 v2 v3 v4 σ _ _ _ hP hD hS (lv_sub hl [0, 1, 2, 3, 4] rfl) hw
  have j127 : ∀ (v1 v2 v3 : Int) (σ : ZS), ∀ (H : Heap) (locs : List Loc) (ls : Array Slot), va_P D vwC (zR dA ad σ) H → va_D A (zR dA ad σ) → va_S A s.heap H locs → lv_has ls 5 [(0, .ref (ad 0 1000)), (1, .int (Int32.ofInt v1)), (2, .int (Int32.ofInt v2)), (3, .int (Int32.ofInt v3))] → wpX11_readForm_127 v1 v2 v3 σ Q → W p l e (gR 4 0 0) s m #[.ref (ad 0 1000)] below meth c H locs 0 0 QQ (F0 m 127 ls []) := by
    intro v1 v2 v3 σ H locs ls hP hD hS hl hw
    unfold wpX11_readForm_127 at hw
    refine lv_aload_n hx hb dX11_readForm_127 rfl (lv_at hl 0 rfl) ?_
    refine zgR0_75 hx hb hg hown hK hP q1690 dX11_readForm_128 ?_
    refine lv_iconst (v := Int32.ofInt 5) hx hb dX11_readForm_131 (by decide) ?_
    refine zlR0_75 hx hb (by decide) hK hP dX11_readForm_132 ?_
    refine lv_istore (lv' := [(4, .int (Int32.ofInt (zA σ 0 75 5))), (0, .ref (ad 0 1000)), (1, .int (Int32.ofInt v1)), (2, .int (Int32.ofInt v2)), (3, .int (Int32.ofInt v3))]) hx hb dX11_readForm_133 hl (by decide) rfl (fun ls hl => ?_)
    exact j135 v1 v2 v3 (zA σ 0 75 5) σ _ _ _ hP hD hS (lv_sub hl [1, 2, 3, 4, 0] rfl) hw
  have j107 : ∀ (v1 v2 v3 v4 : Int) (σ : ZS), ∀ (H : Heap) (locs : List Loc) (ls : Array Slot), va_P D vwC (zR dA ad σ) H → va_D A (zR dA ad σ) → va_S A s.heap H locs → lv_has ls 5 [(0, .ref (ad 0 1000)), (1, .int (Int32.ofInt v1)), (2, .int (Int32.ofInt v2)), (3, .int (Int32.ofInt v3)), (4, .int (Int32.ofInt v4))] → wpX11_readForm_107 v1 v2 v3 v4 σ Q → W p l e (gR 4 0 0) s m #[.ref (ad 0 1000)] below meth c H locs 0 0 QQ (F0 m 107 ls []) := by
    intro v1 v2 v3 v4 σ H locs ls hP hD hS hl hw
    unfold wpX11_readForm_107 at hw
    refine lv_iload_n hx hb dX11_readForm_107 rfl (lv_at hl 2 rfl) ?_
    refine lv_iconst (v := Int32.ofInt 2) hx hb dX11_readForm_108 (by decide) ?_
    obtain ⟨o15, hw⟩ := hw
    refine z_icmp_eq (tgt := 127) hx hb o15 (by decide) dX11_readForm_109 (by decide) (fun k16 => ?_) (fun k16 => ?_)
    · replace hw := hw.1 k16
      exact j127 v1 v2 v3 σ _ _ _ hP hD hS (lv_sub hl [0, 1, 2, 3] rfl) hw
    · replace hw := hw.2 k16
      refine lv_iload_n hx hb dX11_readForm_112 rfl (lv_at hl 2 rfl) ?_
      refine lv_iconst (v := Int32.ofInt 3) hx hb dX11_readForm_113 (by decide) ?_
      refine z_icmp_eq (tgt := 127) hx hb o15 (by decide) dX11_readForm_114 (by decide) (fun k17 => ?_) (fun k17 => ?_)
      · replace hw := hw.1 k17
        exact j127 v1 v2 v3 σ _ _ _ hP hD hS (lv_sub hl [0, 1, 2, 3] rfl) hw
      · replace hw := hw.2 k17
        refine lv_iload_n hx hb dX11_readForm_117 rfl (lv_at hl 2 rfl) ?_
        refine lv_bipush (v := Int32.ofInt 6) hx hb dX11_readForm_118 (by decide) ?_
        refine z_icmp_ne (tgt := 135) hx hb o15 (by decide) dX11_readForm_120 (by decide) (fun k18 => ?_) (fun k18 => ?_)
        · replace hw := hw.1 k18
          exact j135 v1 v2 v3 v4 σ _ _ _ hP hD hS (lv_sub hl [0, 1, 2, 3, 4] rfl) hw
        · replace hw := hw.2 k18
          refine lv_iload_n hx hb dX11_readForm_123 rfl (lv_at hl 1 rfl) ?_
          obtain ⟨o19, hw⟩ := hw
          refine z_if_eq (tgt := 135) hx hb o19 dX11_readForm_124 (by decide) (fun k20 => ?_) (fun k20 => ?_)
          · replace hw := hw.1 k20
            exact j135 v1 v2 v3 v4 σ _ _ _ hP hD hS (lv_sub hl [0, 1, 2, 3, 4] rfl) hw
          · replace hw := hw.2 k20
            exact j127 v1 v2 v3 σ _ _ _ hP hD hS (lv_sub hl [0, 1, 2, 3] rfl) hw
  have j99 : ∀ (v1 v2 v3 : Int) (σ : ZS), ∀ (H : Heap) (locs : List Loc) (ls : Array Slot), va_P D vwC (zR dA ad σ) H → va_D A (zR dA ad σ) → va_S A s.heap H locs → lv_has ls 5 [(0, .ref (ad 0 1000)), (1, .int (Int32.ofInt v1)), (2, .int (Int32.ofInt v2)), (3, .int (Int32.ofInt v3))] → wpX11_readForm_99 v1 v2 v3 σ Q → W p l e (gR 4 0 0) s m #[.ref (ad 0 1000)] below meth c H locs 0 0 QQ (F0 m 99 ls []) := by
    intro v1 v2 v3 σ H locs ls hP hD hS hl hw
    unfold wpX11_readForm_99 at hw
    refine lv_aload_n hx hb dX11_readForm_99 rfl (lv_at hl 0 rfl) ?_
    refine zgR0_75 hx hb hg hown hK hP q1690 dX11_readForm_100 ?_
    refine lv_iconst (v := Int32.ofInt 3) hx hb dX11_readForm_103 (by decide) ?_
    refine zlR0_75 hx hb (by decide) hK hP dX11_readForm_104 ?_
    refine lv_istore (lv' := [(4, .int (Int32.ofInt (zA σ 0 75 3))), (0, .ref (ad 0 1000)), (1, .int (Int32.ofInt v1)), (2, .int (Int32.ofInt v2)), (3, .int (Int32.ofInt v3))]) hx hb dX11_readForm_105 hl (by decide) rfl (fun ls hl => ?_)
    exact j107 v1 v2 v3 (zA σ 0 75 3) σ _ _ _ hP hD hS (lv_sub hl [1, 2, 3, 4, 0] rfl) hw
  have j80 : ∀ (v1 v2 s0 : Int) (σ : ZS), ∀ (H : Heap) (locs : List Loc) (ls : Array Slot), va_P D vwC (zR dA ad σ) H → va_D A (zR dA ad σ) → va_S A s.heap H locs → lv_has ls 5 [(0, .ref (ad 0 1000)), (1, .int (Int32.ofInt v1)), (2, .int (Int32.ofInt v2))] → wpX11_readForm_80 v1 v2 s0 σ Q → W p l e (gR 4 0 0) s m #[.ref (ad 0 1000)] below meth c H locs 0 0 QQ (F0 m 80 ls [.int (Int32.ofInt s0)]) := by
    intro v1 v2 s0 σ H locs ls hP hD hS hl hw
    unfold wpX11_readForm_80 at hw
    refine lv_istore_n (lv' := [(3, .int (Int32.ofInt s0)), (0, .ref (ad 0 1000)), (1, .int (Int32.ofInt v1)), (2, .int (Int32.ofInt v2))]) hx hb dX11_readForm_80 rfl hl (by decide) rfl (fun ls hl => ?_)
    refine lv_iconst (v := Int32.ofInt 0) hx hb dX11_readForm_81 (by decide) ?_
    refine lv_istore (lv' := [(4, .int (Int32.ofInt 0)), (3, .int (Int32.ofInt s0)), (0, .ref (ad 0 1000)), (1, .int (Int32.ofInt v1)), (2, .int (Int32.ofInt v2))]) hx hb dX11_readForm_82 hl (by decide) rfl (fun ls hl => ?_)
    refine lv_iload_n hx hb dX11_readForm_84 rfl (lv_at hl 4 rfl) ?_
    obtain ⟨o21, hw⟩ := hw
    refine z_if_eq (tgt := 99) hx hb o21 dX11_readForm_85 (by decide) (fun k22 => ?_) (fun k22 => ?_)
    · replace hw := hw.1 k22
      exact j99 v1 v2 s0 σ _ _ _ hP hD hS (lv_sub hl [2, 3, 4, 1] rfl) hw
    · replace hw := hw.2 k22
      refine lv_iload_n hx hb dX11_readForm_88 rfl (lv_at hl 4 rfl) ?_
      refine lv_iconst (v := Int32.ofInt 1) hx hb dX11_readForm_89 (by decide) ?_
      refine z_icmp_eq (tgt := 99) hx hb o21 (by decide) dX11_readForm_90 (by decide) (fun k23 => ?_) (fun k23 => ?_)
      · replace hw := hw.1 k23
        exact j99 v1 v2 s0 σ _ _ _ hP hD hS (lv_sub hl [2, 3, 4, 1] rfl) hw
      · replace hw := hw.2 k23
        refine lv_iload_n hx hb dX11_readForm_93 rfl (lv_at hl 4 rfl) ?_
        refine lv_bipush (v := Int32.ofInt 7) hx hb dX11_readForm_94 (by decide) ?_
        refine z_icmp_ne (tgt := 107) hx hb o21 (by decide) dX11_readForm_96 (by decide) (fun k24 => ?_) (fun k24 => ?_)
        · replace hw := hw.1 k24
          exact j107 v1 v2 s0 0 σ _ _ _ hP hD hS (lv_sub hl [2, 3, 4, 1, 0] rfl) hw
        · replace hw := hw.2 k24
          exact j99 v1 v2 s0 σ _ _ _ hP hD hS (lv_sub hl [2, 3, 4, 1] rfl) hw
  unfold wpX11_readForm at hw
  refine lv_aload_n hx hb dX11_readForm_0 rfl (lv_at hl 0 rfl) ?_
  refine lv_aload_n hx hb dX11_readForm_1 rfl (lv_at hl 0 rfl) ?_
  refine z_Vi (n := 0) (As := []) (rest := [.ref (ad 0 1000)]) hx hb hml hg hown hK hP hD hS hA (kX11_fetch l D dA ad σ _ _ hw) (zoR0) rfl q2126 q160 q2123 q2125 q129 (by decide +kernel) ⟨(Nat.le_of_ble_eq_true rfl), (Nat.le_of_ble_eq_true rfl)⟩ rfl hl.1 rfl (Nat.le_of_ble_eq_true rfl) dX11_readForm_2 ⟨(Nat.le_of_ble_eq_true rfl), (Nat.le_of_ble_eq_true rfl)⟩ (fun x25 σ26 H locs hw hP hD hS => ?_)
  refine zpR0_81 (v := x25) hx hb hg hown hK hP hD hS q1696 dX11_readForm_5 (fun H locs hP hD hS => ?_)
  refine lv_aload_n hx hb dX11_readForm_8 rfl (lv_at hl 0 rfl) ?_
  refine lv_aload_n hx hb dX11_readForm_9 rfl (lv_at hl 0 rfl) ?_
  refine zgR0_81 hx hb hg hown hK hP q1696 dX11_readForm_10 ?_
  refine g_nrm (y := Int32.ofInt x25) rfl ?_
  refine lv_iconst (v := Int32.ofInt 3) hx hb dX11_readForm_13 (by decide) ?_
  obtain ⟨o27, hw⟩ := hw
  refine z_ishrK (M := 8) hx hb 3 (by decide) (by decide) (by decide) o27 dX11_readForm_14 ?_
  refine lv_bipush (v := Int32.ofInt 7) hx hb dX11_readForm_15 (by decide) ?_
  refine z_iandK (M := 8) hx hb 3 (by decide) (by decide) (by decide) dX11_readForm_17 ?_
  refine zpR0_82 (v := ((x25 / 8) % 8)) hx hb hg hown hK hP hD hS q1697 dX11_readForm_18 (fun H locs hP hD hS => ?_)
  refine lv_aload_n hx hb dX11_readForm_21 rfl (lv_at hl 0 rfl) ?_
  refine zgR0_81 hx hb hg hown hK hP q1696 dX11_readForm_22 ?_
  refine g_nrm (y := Int32.ofInt x25) rfl ?_
  refine lv_bipush (v := Int32.ofInt 6) hx hb dX11_readForm_25 (by decide) ?_
  refine z_ishrK (M := 64) hx hb 6 (by decide) (by decide) (by decide) o27 dX11_readForm_27 ?_
  refine lv_istore_n (lv' := [(1, .int (Int32.ofInt (x25 / 64))), (0, .ref (ad 0 1000))]) hx hb dX11_readForm_28 rfl hl (by decide) rfl (fun ls hl => ?_)
  refine lv_aload_n hx hb dX11_readForm_29 rfl (lv_at hl 1 rfl) ?_
  refine zgR0_81 hx hb hg hown hK hP q1696 dX11_readForm_30 ?_
  refine g_nrm (y := Int32.ofInt x25) rfl ?_
  refine lv_bipush (v := Int32.ofInt 7) hx hb dX11_readForm_33 (by decide) ?_
  refine z_iandK (M := 8) hx hb 3 (by decide) (by decide) (by decide) dX11_readForm_35 ?_
  refine lv_istore_n (lv' := [(2, .int (Int32.ofInt (x25 % 8))), (1, .int (Int32.ofInt (x25 / 64))), (0, .ref (ad 0 1000))]) hx hb dX11_readForm_36 rfl hl (by decide) rfl (fun ls hl => ?_)
  refine lv_iload_n hx hb dX11_readForm_37 rfl (lv_at hl 1 rfl) ?_
  refine lv_iconst (v := Int32.ofInt 3) hx hb dX11_readForm_38 (by decide) ?_
  refine z_icmp_ne (tgt := 43) hx hb (by clear hw; omega) (by decide) dX11_readForm_39 (by decide) (fun k28 => ?_) (fun k28 => ?_)
  · replace hw := hw.1 k28
    refine lv_iload_n hx hb dX11_readForm_43 rfl (lv_at hl 1 rfl) ?_
    refine z_if_ne (tgt := 64) hx hb (by clear hw; omega) dX11_readForm_44 (by decide) (fun k29 => ?_) (fun k29 => ?_)
    · replace hw := hw.1 k29
      refine lv_iload_n hx hb dX11_readForm_64 rfl (lv_at hl 1 rfl) ?_
      refine lv_iconst (v := Int32.ofInt 1) hx hb dX11_readForm_65 (by decide) ?_
      refine z_icmp_ne (tgt := 76) hx hb (by clear hw; omega) (by decide) dX11_readForm_66 (by decide) (fun k30 => ?_) (fun k30 => ?_)
      · replace hw := hw.1 k30
        refine lv_aload_n hx hb dX11_readForm_76 rfl (lv_at hl 2 rfl) ?_
        refine z_Vi (n := 0) (As := []) (rest := []) hx hb hml hg hown hK hP hD hS hA (kX11_fetchTwo l D dA ad (zsI (zsI σ26 0 81 x25) 0 82 ((x25 / 8) % 8)) _ _ hw) (zoR0) rfl q2148 q160 q2145 q2147 q133 (by decide +kernel) ⟨(Nat.le_of_ble_eq_true rfl), (Nat.le_of_ble_eq_true rfl)⟩ rfl hl.1 rfl (Nat.le_of_ble_eq_true rfl) dX11_readForm_77 ⟨(Nat.le_of_ble_eq_true rfl), (Nat.le_of_ble_eq_true rfl)⟩ (fun x31 σ32 H locs hw hP hD hS => ?_)
        exact j80 (x25 / 64) (x25 % 8) x31 σ32 _ _ _ hP hD hS (lv_sub hl [2, 1, 0] rfl) hw
      · replace hw := hw.2 k30
        refine lv_aload_n hx hb dX11_readForm_69 rfl (lv_at hl 2 rfl) ?_
        refine z_Vi (n := 0) (As := []) (rest := []) hx hb hml hg hown hK hP hD hS hA (kX11_fetchSigned l D dA ad (zsI (zsI σ26 0 81 x25) 0 82 ((x25 / 8) % 8)) _ _ hw) (zoR0) rfl q2152 q160 q2149 q2151 q134 (by decide +kernel) ⟨(Nat.le_of_ble_eq_true rfl), (Nat.le_of_ble_eq_true rfl)⟩ rfl hl.1 rfl (Nat.le_of_ble_eq_true rfl) dX11_readForm_70 ⟨(Nat.le_of_ble_eq_true rfl), (Nat.le_of_ble_eq_true rfl)⟩ (fun x33 σ34 H locs hw hP hD hS => ?_)
        refine lv_goto (tgt := 80) hx hb dX11_readForm_73 (by decide) ?_
        exact j80 (x25 / 64) (x25 % 8) x33 σ34 _ _ _ hP hD hS (lv_sub hl [2, 1, 0] rfl) hw
    · replace hw := hw.2 k29
      refine lv_iload_n hx hb dX11_readForm_47 rfl (lv_at hl 0 rfl) ?_
      refine lv_bipush (v := Int32.ofInt 6) hx hb dX11_readForm_48 (by decide) ?_
      refine z_icmp_ne (tgt := 60) hx hb (by clear hw; omega) (by decide) dX11_readForm_50 (by decide) (fun k35 => ?_) (fun k35 => ?_)
      · replace hw := hw.1 k35
        refine lv_iconst (v := Int32.ofInt 0) hx hb dX11_readForm_60 (by decide) ?_
        refine lv_goto (tgt := 80) hx hb dX11_readForm_61 (by decide) ?_
        exact j80 (x25 / 64) (x25 % 8) 0 (zsI (zsI σ26 0 81 x25) 0 82 ((x25 / 8) % 8)) _ _ _ hP hD hS (lv_sub hl [2, 1, 0] rfl) hw
      · replace hw := hw.2 k35
        refine lv_aload_n hx hb dX11_readForm_53 rfl (lv_at hl 2 rfl) ?_
        refine z_Vi (n := 0) (As := []) (rest := []) hx hb hml hg hown hK hP hD hS hA (kX11_fetchTwo l D dA ad (zsI (zsI σ26 0 81 x25) 0 82 ((x25 / 8) % 8)) _ _ hw) (zoR0) rfl q2148 q160 q2145 q2147 q133 (by decide +kernel) ⟨(Nat.le_of_ble_eq_true rfl), (Nat.le_of_ble_eq_true rfl)⟩ rfl hl.1 rfl (Nat.le_of_ble_eq_true rfl) dX11_readForm_54 ⟨(Nat.le_of_ble_eq_true rfl), (Nat.le_of_ble_eq_true rfl)⟩ (fun x36 σ37 H locs hw hP hD hS => ?_)
        refine lv_goto (tgt := 80) hx hb dX11_readForm_57 (by decide) ?_
        exact j80 (x25 / 64) (x25 % 8) x36 σ37 _ _ _ hP hD hS (lv_sub hl [2, 1, 0] rfl) hw
  · replace hw := hw.2 k28
    exact hret (zsI (zsI σ26 0 81 x25) 0 82 ((x25 / 8) % 8)) _ _ _ _ hw hP hD hS dX11_readForm_42
def wpX11_formGet_43 (s0 : Int) (σ : ZS) (Q : Int → ZS → Prop) : Prop := Q s0 σ
def wpX11_formGet (σ : ZS) (Q : Int → ZS → Prop) : Prop := (-2147483648 ≤ (zI σ 0 81) ∧ (zI σ 0 81) ≤ 2147483647) ∧ (¬ ((zI σ 0 81) / 64) = 3 → (0 ≤ (zI σ 0 83) ∧ (zI σ 0 83) < 16) ∧ wpX11_get (zA σ 0 75 (zI σ 0 83)) (zI σ 0 84) σ (fun (x4 : Int) (σ5 : ZS) => wpX11_formGet_43 x4 σ5 Q)) ∧ (((zI σ 0 81) / 64) = 3 → wpX11_formGet_43 (zA σ 0 75 ((zI σ 0 81) % 8)) σ Q)
set_option maxHeartbeats 4000000 in
set_option maxRecDepth 100000 in
theorem kX11_formGet (l : Launch) (D : va_G) (dA : Nat → ClassId) (ad : Int → Nat → Nat) (σ : ZS) (Q : Int → ZS → Prop) (sz : Nat) (hw : wpX11_formGet σ Q) : Met l yX11_formGet (gws yX11_formGet cX11_formGet 1 (some .int)) (gR 3 0 0) (gPre D dA [.ref (ad 0 1000)] (zR dA ad σ) sz) (va_Qi (zQi Q) (gAt D dA (va_A (zR dA ad σ) sz) (zR dA ad)) (va_A (zR dA ad σ) sz)) 0 0 (va_A (zR dA ad σ) sz) := by
  refine Met.ofW (cc := cX11_formGet) (maxL := 1) (ret := (some .int)) (by decide) rfl ?_
  intro p e s m args below meth c s₁ B hml hv
  obtain ⟨rfl, hsz, hP, hK, hD0⟩ := hv
  have hx := B.exec
  have hb := B.bytes
  have hr := B.returns
  have hts := atoms_spec (ws := gws yX11_formGet cX11_formGet 1 (some .int)) B.pre
  have hg : ∀ w ∈ gw, w.before _ s = true := fun w h => hts w (List.mem_cons_of_mem _ h)
  have hown : s.vm.findClass RX11 = some m.cls := findClass_of_methodNamed B.named
  have hlocks := B.notSynchronized
  subst hsz
  have hD := hD0.self (sz := s.heap.size)
  generalize hAe : va_A (zR dA ad σ) s.heap.size = A at hD ⊢
  have hA : ∀ q : Nat, s.heap.size ≤ q → A q := fun q h => by rw [← hAe]; exact Or.inr h
  have hS : va_S A s.heap s.heap [] := va_S.rf
  have hl := lv_entry ([.ref (ad 0 1000)]) (n := 1) (Nat.le_of_ble_eq_true rfl)
  rw [lg_entry_eq]
  generalize (lg_sl ([.ref (ad 0 1000)]) ++ List.replicate (1 - (lg_sl ([.ref (ad 0 1000)])).length) Slot.unset).toArray = ls at hl ⊢
  have hl : lv_has ls 1 [(0, .ref (ad 0 1000))] := hl
  have hret : ∀ (v : Int) (σ : ZS) (H : Heap) (locs : List Loc) (ls : Array Slot) (pc : Nat), Q v σ → va_P D vwC (zR dA ad σ) H → va_D A (zR dA ad σ) → va_S A s.heap H locs → decode cX11_formGet pc = .ok (.ireturn, 1) → W p l e (gR 3 0 0) s m #[.ref (ad 0 1000)] below meth c H locs 0 0 (MQ below (va_Qi (zQi Q) (gAt D dA A (zR dA ad)) A) #[.ref (ad 0 1000)] s 0 0 A) (F0 m pc ls [.int (Int32.ofInt v)]) := fun v σ H locs ls pc hw hP hD hS hd => g_iret hx hb hr rfl hlocks hK σ hP hD hS ⟨v, rfl, hw⟩ (Nat.le_of_ble_eq_true rfl) (Nat.le_of_ble_eq_true rfl) hd
  generalize MQ below (va_Qi (zQi Q) (gAt D dA A (zR dA ad)) A) #[.ref (ad 0 1000)] s 0 0 A = QQ at hret ⊢
  have j43 : ∀ (s0 : Int) (σ : ZS), ∀ (H : Heap) (locs : List Loc) (ls : Array Slot), va_P D vwC (zR dA ad σ) H → va_D A (zR dA ad σ) → va_S A s.heap H locs → lv_has ls 1 [] → wpX11_formGet_43 s0 σ Q → W p l e (gR 3 0 0) s m #[.ref (ad 0 1000)] below meth c H locs 0 0 QQ (F0 m 43 ls [.int (Int32.ofInt s0)]) := by
    intro s0 σ H locs ls hP hD hS hl hw
    unfold wpX11_formGet_43 at hw
    exact hret s0 σ _ _ _ _ hw hP hD hS dX11_formGet_43
  unfold wpX11_formGet at hw
  refine lv_aload_n hx hb dX11_formGet_0 rfl (lv_at hl 0 rfl) ?_
  refine zgR0_81 hx hb hg hown hK hP q1696 dX11_formGet_1 ?_
  refine lv_bipush (v := Int32.ofInt 6) hx hb dX11_formGet_4 (by decide) ?_
  obtain ⟨o1, hw⟩ := hw
  refine z_ishrK (M := 64) hx hb 6 (by decide) (by decide) (by decide) o1 dX11_formGet_6 ?_
  refine lv_iconst (v := Int32.ofInt 3) hx hb dX11_formGet_7 (by decide) ?_
  refine z_icmp_ne (tgt := 26) hx hb (by clear hw; omega) (by decide) dX11_formGet_8 (by decide) (fun k2 => ?_) (fun k2 => ?_)
  · replace hw := hw.1 k2
    refine lv_aload_n hx hb dX11_formGet_26 rfl (lv_at hl 0 rfl) ?_
    refine lv_aload_n hx hb dX11_formGet_27 rfl (lv_at hl 0 rfl) ?_
    refine zgR0_75 hx hb hg hown hK hP q1690 dX11_formGet_28 ?_
    refine lv_aload_n hx hb dX11_formGet_31 rfl (lv_at hl 0 rfl) ?_
    refine zgR0_83 hx hb hg hown hK hP q1698 dX11_formGet_32 ?_
    obtain ⟨o3, hw⟩ := hw
    refine zlR0_75 hx hb o3 hK hP dX11_formGet_35 ?_
    refine lv_aload_n hx hb dX11_formGet_36 rfl (lv_at hl 0 rfl) ?_
    refine zgR0_84 hx hb hg hown hK hP q1699 dX11_formGet_37 ?_
    refine z_Vi (n := 2) (As := [.int (Int32.ofInt (zA σ 0 75 (zI σ 0 83))), .int (Int32.ofInt (zI σ 0 84))]) (rest := []) hx hb hml hg hown hK hP hD hS hA (kX11_get l D dA ad (zA σ 0 75 (zI σ 0 83)) (zI σ 0 84) σ _ _ hw) (zoR0) rfl q2160 q160 q2157 q2159 q136 (by decide +kernel) ⟨(Nat.le_of_ble_eq_true rfl), (Nat.le_of_ble_eq_true rfl)⟩ rfl hl.1 rfl (Nat.le_of_ble_eq_true rfl) dX11_formGet_40 ⟨(Nat.le_of_ble_eq_true rfl), (Nat.le_of_ble_eq_true rfl)⟩ (fun x4 σ5 H locs hw hP hD hS => ?_)
    exact j43 x4 σ5 _ _ _ hP hD hS (lv_sub hl [] rfl) hw
  · replace hw := hw.2 k2
    refine lv_aload_n hx hb dX11_formGet_11 rfl (lv_at hl 0 rfl) ?_
    refine zgR0_75 hx hb hg hown hK hP q1690 dX11_formGet_12 ?_
    refine lv_aload_n hx hb dX11_formGet_15 rfl (lv_at hl 0 rfl) ?_
    refine zgR0_81 hx hb hg hown hK hP q1696 dX11_formGet_16 ?_
    refine lv_bipush (v := Int32.ofInt 7) hx hb dX11_formGet_19 (by decide) ?_
    refine z_iandK (M := 8) hx hb 3 (by decide) (by decide) (by decide) dX11_formGet_21 ?_
    refine zlR0_75 hx hb (by clear hw; omega) hK hP dX11_formGet_22 ?_
    refine lv_goto (tgt := 43) hx hb dX11_formGet_23 (by decide) ?_
    exact j43 (zA σ 0 75 ((zI σ 0 81) % 8)) σ _ _ _ hP hD hS (lv_sub hl [] rfl) hw
def wpX11_formSet_49 (σ : ZS) (Q : ZS → Prop) : Prop := Q σ
def wpX11_formSet (a1 : Int) (σ : ZS) (Q : ZS → Prop) : Prop := (-2147483648 ≤ (zI σ 0 81) ∧ (zI σ 0 81) ≤ 2147483647) ∧ (¬ ((zI σ 0 81) / 64) = 3 → (0 ≤ (zI σ 0 83) ∧ (zI σ 0 83) < 16) ∧ wpX11_store (zA σ 0 75 (zI σ 0 83)) (zI σ 0 84) a1 σ (fun (σ5 : ZS) => wpX11_formSet_49 σ5 Q)) ∧ (((zI σ 0 81) / 64) = 3 → wpX11_formSet_49 (zsA σ 0 75 ((zI σ 0 81) % 8) (a1 % 65536)) Q)
set_option maxHeartbeats 4000000 in
set_option maxRecDepth 100000 in
theorem kX11_formSet (l : Launch) (D : va_G) (dA : Nat → ClassId) (ad : Int → Nat → Nat) (a1 : Int) (σ : ZS) (Q : ZS → Prop) (sz : Nat) (hw : wpX11_formSet a1 σ Q) : Met l yX11_formSet (gws yX11_formSet cX11_formSet 2 none) (gR 3 0 0) (gPre D dA [.ref (ad 0 1000), .int (Int32.ofInt a1)] (zR dA ad σ) sz) (va_Qv Q (gAt D dA (va_A (zR dA ad σ) sz) (zR dA ad)) (va_A (zR dA ad σ) sz)) 0 0 (va_A (zR dA ad σ) sz) := by
  refine Met.ofW (cc := cX11_formSet) (maxL := 2) (ret := none) (by decide) rfl ?_
  intro p e s m args below meth c s₁ B hml hv
  obtain ⟨rfl, hsz, hP, hK, hD0⟩ := hv
  have hx := B.exec
  have hb := B.bytes
  have hr := B.returns
  have hts := atoms_spec (ws := gws yX11_formSet cX11_formSet 2 none) B.pre
  have hg : ∀ w ∈ gw, w.before _ s = true := fun w h => hts w (List.mem_cons_of_mem _ h)
  have hown : s.vm.findClass RX11 = some m.cls := findClass_of_methodNamed B.named
  have hlocks := B.notSynchronized
  subst hsz
  have hD := hD0.self (sz := s.heap.size)
  generalize hAe : va_A (zR dA ad σ) s.heap.size = A at hD ⊢
  have hA : ∀ q : Nat, s.heap.size ≤ q → A q := fun q h => by rw [← hAe]; exact Or.inr h
  have hS : va_S A s.heap s.heap [] := va_S.rf
  have hl := lv_entry ([.ref (ad 0 1000), .int (Int32.ofInt a1)]) (n := 2) (Nat.le_of_ble_eq_true rfl)
  rw [lg_entry_eq]
  generalize (lg_sl ([.ref (ad 0 1000), .int (Int32.ofInt a1)]) ++ List.replicate (2 - (lg_sl ([.ref (ad 0 1000), .int (Int32.ofInt a1)])).length) Slot.unset).toArray = ls at hl ⊢
  have hl : lv_has ls 2 [(0, .ref (ad 0 1000)), (1, .int (Int32.ofInt a1))] := hl
  have hret : ∀ (σ : ZS) (H : Heap) (locs : List Loc) (ls : Array Slot) (pc : Nat), Q σ → va_P D vwC (zR dA ad σ) H → va_D A (zR dA ad σ) → va_S A s.heap H locs → decode cX11_formSet pc = .ok (.return_, 1) → W p l e (gR 3 0 0) s m #[.ref (ad 0 1000), .int (Int32.ofInt a1)] below meth c H locs 0 0 (MQ below (va_Qv Q (gAt D dA A (zR dA ad)) A) #[.ref (ad 0 1000), .int (Int32.ofInt a1)] s 0 0 A) (F0 m pc ls []) := fun σ H locs ls pc hw hP hD hS hd => g_vret hx hb hr hlocks hK σ hP hD hS hw (Nat.le_of_ble_eq_true rfl) (Nat.le_of_ble_eq_true rfl) hd
  generalize MQ below (va_Qv Q (gAt D dA A (zR dA ad)) A) #[.ref (ad 0 1000), .int (Int32.ofInt a1)] s 0 0 A = QQ at hret ⊢
  have j49 : ∀ (σ : ZS), ∀ (H : Heap) (locs : List Loc) (ls : Array Slot), va_P D vwC (zR dA ad σ) H → va_D A (zR dA ad σ) → va_S A s.heap H locs → lv_has ls 2 [] → wpX11_formSet_49 σ Q → W p l e (gR 3 0 0) s m #[.ref (ad 0 1000), .int (Int32.ofInt a1)] below meth c H locs 0 0 QQ (F0 m 49 ls []) := by
    intro σ H locs ls hP hD hS hl hw
    unfold wpX11_formSet_49 at hw
    exact hret σ _ _ _ _ hw hP hD hS dX11_formSet_49
  unfold wpX11_formSet at hw
  refine lv_aload_n hx hb dX11_formSet_0 rfl (lv_at hl 0 rfl) ?_
  refine zgR0_81 hx hb hg hown hK hP q1696 dX11_formSet_1 ?_
  refine lv_bipush (v := Int32.ofInt 6) hx hb dX11_formSet_4 (by decide) ?_
  obtain ⟨o1, hw⟩ := hw
  refine z_ishrK (M := 64) hx hb 6 (by decide) (by decide) (by decide) o1 dX11_formSet_6 ?_
  refine lv_iconst (v := Int32.ofInt 3) hx hb dX11_formSet_7 (by decide) ?_
  refine z_icmp_ne (tgt := 31) hx hb (by clear hw; omega) (by decide) dX11_formSet_8 (by decide) (fun k2 => ?_) (fun k2 => ?_)
  · replace hw := hw.1 k2
    refine lv_aload_n hx hb dX11_formSet_31 rfl (lv_at hl 0 rfl) ?_
    refine lv_aload_n hx hb dX11_formSet_32 rfl (lv_at hl 0 rfl) ?_
    refine zgR0_75 hx hb hg hown hK hP q1690 dX11_formSet_33 ?_
    refine lv_aload_n hx hb dX11_formSet_36 rfl (lv_at hl 0 rfl) ?_
    refine zgR0_83 hx hb hg hown hK hP q1698 dX11_formSet_37 ?_
    obtain ⟨o3, hw⟩ := hw
    refine zlR0_75 hx hb o3 hK hP dX11_formSet_40 ?_
    refine lv_aload_n hx hb dX11_formSet_41 rfl (lv_at hl 0 rfl) ?_
    refine zgR0_84 hx hb hg hown hK hP q1699 dX11_formSet_42 ?_
    refine lv_iload_n hx hb dX11_formSet_45 rfl (lv_at hl 1 rfl) ?_
    refine z_Vv (n := 3) (As := [.int (Int32.ofInt (zA σ 0 75 (zI σ 0 83))), .int (Int32.ofInt (zI σ 0 84)), .int (Int32.ofInt a1)]) (rest := []) hx hb hml hg hown hK hP hD hS hA (kX11_store l D dA ad (zA σ 0 75 (zI σ 0 83)) (zI σ 0 84) a1 σ _ _ hw) (zoR0) rfl q2176 q160 q2173 q2175 q140 (by decide +kernel) ⟨(Nat.le_of_ble_eq_true rfl), (Nat.le_of_ble_eq_true rfl)⟩ rfl hl.1 rfl (Nat.le_of_ble_eq_true rfl) dX11_formSet_46 ⟨(Nat.le_of_ble_eq_true rfl), (Nat.le_of_ble_eq_true rfl)⟩ (fun σ5 H locs hw hP hD hS => ?_)
    exact j49 σ5 _ _ _ hP hD hS (lv_sub hl [] rfl) hw
  · replace hw := hw.2 k2
    refine lv_aload_n hx hb dX11_formSet_11 rfl (lv_at hl 0 rfl) ?_
    refine zgR0_75 hx hb hg hown hK hP q1690 dX11_formSet_12 ?_
    refine lv_aload_n hx hb dX11_formSet_15 rfl (lv_at hl 0 rfl) ?_
    refine zgR0_81 hx hb hg hown hK hP q1696 dX11_formSet_16 ?_
    refine lv_bipush (v := Int32.ofInt 7) hx hb dX11_formSet_19 (by decide) ?_
    refine z_iandK (M := 8) hx hb 3 (by decide) (by decide) (by decide) dX11_formSet_21 ?_
    refine lv_iload_n hx hb dX11_formSet_22 rfl (lv_at hl 1 rfl) ?_
    refine lv_ldcw hx hb hown (hg _ q1907) dX11_formSet_23 ?_
    refine g_nrm (y := Int32.ofInt 65535) (by decide) ?_
    refine z_iandK (M := 65536) hx hb 16 (by decide) (by decide) (by decide) dX11_formSet_26 ?_
    refine zsR0_75 (v := (a1 % 65536)) hx hb (by clear hw; omega) hK hP hD hS dX11_formSet_27 (fun H locs hP hD hS => ?_)
    refine lv_goto (tgt := 49) hx hb dX11_formSet_28 (by decide) ?_
    exact j49 (zsA σ 0 75 ((zI σ 0 81) % 8) (a1 % 65536)) _ _ _ hP hD hS (lv_sub hl [] rfl) hw
def wpX11_flags_19 (v1 s2 s1 : Int) (σ : ZS) (Q : ZS → Prop) : Prop := (0 ≤ s1 ∧ s1 < 16) ∧ (-2147483648 ≤ v1 ∧ v1 ≤ 2147483647) ∧ Q (zsA (zsA σ 0 75 s1 s2) 0 75 15 ((v1 / 32768) % 2))
def wpX11_flags (a1 : Int) (σ : ZS) (Q : ZS → Prop) : Prop := (¬ (a1 % 65536) = 0 → wpX11_flags_19 a1 0 14 σ Q) ∧ ((a1 % 65536) = 0 → wpX11_flags_19 a1 1 14 σ Q)
set_option maxHeartbeats 4000000 in
set_option maxRecDepth 100000 in
theorem kX11_flags (l : Launch) (D : va_G) (dA : Nat → ClassId) (ad : Int → Nat → Nat) (a1 : Int) (σ : ZS) (Q : ZS → Prop) (sz : Nat) (hw : wpX11_flags a1 σ Q) : Met l yX11_flags (gws yX11_flags cX11_flags 2 none) (gR 1 0 0) (gPre D dA [.ref (ad 0 1000), .int (Int32.ofInt a1)] (zR dA ad σ) sz) (va_Qv Q (gAt D dA (va_A (zR dA ad σ) sz) (zR dA ad)) (va_A (zR dA ad σ) sz)) 0 0 (va_A (zR dA ad σ) sz) := by
  refine Met.ofW (cc := cX11_flags) (maxL := 2) (ret := none) (by decide) rfl ?_
  intro p e s m args below meth c s₁ B hml hv
  obtain ⟨rfl, hsz, hP, hK, hD0⟩ := hv
  have hx := B.exec
  have hb := B.bytes
  have hr := B.returns
  have hts := atoms_spec (ws := gws yX11_flags cX11_flags 2 none) B.pre
  have hg : ∀ w ∈ gw, w.before _ s = true := fun w h => hts w (List.mem_cons_of_mem _ h)
  have hown : s.vm.findClass RX11 = some m.cls := findClass_of_methodNamed B.named
  have hlocks := B.notSynchronized
  subst hsz
  have hD := hD0.self (sz := s.heap.size)
  generalize hAe : va_A (zR dA ad σ) s.heap.size = A at hD ⊢
  have hA : ∀ q : Nat, s.heap.size ≤ q → A q := fun q h => by rw [← hAe]; exact Or.inr h
  have hS : va_S A s.heap s.heap [] := va_S.rf
  have hl := lv_entry ([.ref (ad 0 1000), .int (Int32.ofInt a1)]) (n := 2) (Nat.le_of_ble_eq_true rfl)
  rw [lg_entry_eq]
  generalize (lg_sl ([.ref (ad 0 1000), .int (Int32.ofInt a1)]) ++ List.replicate (2 - (lg_sl ([.ref (ad 0 1000), .int (Int32.ofInt a1)])).length) Slot.unset).toArray = ls at hl ⊢
  have hl : lv_has ls 2 [(0, .ref (ad 0 1000)), (1, .int (Int32.ofInt a1))] := hl
  have hret : ∀ (σ : ZS) (H : Heap) (locs : List Loc) (ls : Array Slot) (pc : Nat), Q σ → va_P D vwC (zR dA ad σ) H → va_D A (zR dA ad σ) → va_S A s.heap H locs → decode cX11_flags pc = .ok (.return_, 1) → W p l e (gR 1 0 0) s m #[.ref (ad 0 1000), .int (Int32.ofInt a1)] below meth c H locs 0 0 (MQ below (va_Qv Q (gAt D dA A (zR dA ad)) A) #[.ref (ad 0 1000), .int (Int32.ofInt a1)] s 0 0 A) (F0 m pc ls []) := fun σ H locs ls pc hw hP hD hS hd => g_vret hx hb hr hlocks hK σ hP hD hS hw (Nat.le_of_ble_eq_true rfl) (Nat.le_of_ble_eq_true rfl) hd
  generalize MQ below (va_Qv Q (gAt D dA A (zR dA ad)) A) #[.ref (ad 0 1000), .int (Int32.ofInt a1)] s 0 0 A = QQ at hret ⊢
  have j19 : ∀ (v1 s2 s1 : Int) (σ : ZS), ∀ (H : Heap) (locs : List Loc) (ls : Array Slot), va_P D vwC (zR dA ad σ) H → va_D A (zR dA ad σ) → va_S A s.heap H locs → lv_has ls 2 [(0, .ref (ad 0 1000)), (1, .int (Int32.ofInt v1))] → wpX11_flags_19 v1 s2 s1 σ Q → W p l e (gR 1 0 0) s m #[.ref (ad 0 1000), .int (Int32.ofInt a1)] below meth c H locs 0 0 QQ (F0 m 19 ls [.int (Int32.ofInt s2), .int (Int32.ofInt s1), .ref (ad 0 75)]) := by
    intro v1 s2 s1 σ H locs ls hP hD hS hl hw
    unfold wpX11_flags_19 at hw
    obtain ⟨o1, hw⟩ := hw
    refine zsR0_75 (v := s2) hx hb o1 hK hP hD hS dX11_flags_19 (fun H locs hP hD hS => ?_)
    refine lv_aload_n hx hb dX11_flags_20 rfl (lv_at hl 0 rfl) ?_
    refine zgR0_75 hx hb hg hown hK hP q1690 dX11_flags_21 ?_
    refine lv_bipush (v := Int32.ofInt 15) hx hb dX11_flags_24 (by decide) ?_
    refine lv_iload_n hx hb dX11_flags_26 rfl (lv_at hl 1 rfl) ?_
    refine lv_bipush (v := Int32.ofInt 15) hx hb dX11_flags_27 (by decide) ?_
    obtain ⟨o2, hw⟩ := hw
    refine z_ishrK (M := 32768) hx hb 15 (by decide) (by decide) (by decide) o2 dX11_flags_29 ?_
    refine lv_iconst (v := Int32.ofInt 1) hx hb dX11_flags_30 (by decide) ?_
    refine z_iandK (M := 2) hx hb 1 (by decide) (by decide) (by decide) dX11_flags_31 ?_
    refine zsR0_75 (v := ((v1 / 32768) % 2)) hx hb (by decide) hK hP hD hS dX11_flags_32 (fun H locs hP hD hS => ?_)
    exact hret (zsA (zsA σ 0 75 s1 s2) 0 75 15 ((v1 / 32768) % 2)) _ _ _ _ hw hP hD hS dX11_flags_33
  unfold wpX11_flags at hw
  refine lv_aload_n hx hb dX11_flags_0 rfl (lv_at hl 0 rfl) ?_
  refine zgR0_75 hx hb hg hown hK hP q1690 dX11_flags_1 ?_
  refine lv_bipush (v := Int32.ofInt 14) hx hb dX11_flags_4 (by decide) ?_
  refine lv_iload_n hx hb dX11_flags_6 rfl (lv_at hl 1 rfl) ?_
  refine lv_ldcw hx hb hown (hg _ q1907) dX11_flags_7 ?_
  refine g_nrm (y := Int32.ofInt 65535) (by decide) ?_
  refine z_iandK (M := 65536) hx hb 16 (by decide) (by decide) (by decide) dX11_flags_10 ?_
  refine z_if_ne (tgt := 18) hx hb (by clear hw; omega) dX11_flags_11 (by decide) (fun k3 => ?_) (fun k3 => ?_)
  · replace hw := hw.1 k3
    refine lv_iconst (v := Int32.ofInt 0) hx hb dX11_flags_18 (by decide) ?_
    exact j19 a1 0 14 σ _ _ _ hP hD hS (lv_sub hl [0, 1] rfl) hw
  · replace hw := hw.2 k3
    refine lv_iconst (v := Int32.ofInt 1) hx hb dX11_flags_14 (by decide) ?_
    refine lv_goto (tgt := 19) hx hb dX11_flags_15 (by decide) ?_
    exact j19 a1 1 14 σ _ _ _ hP hD hS (lv_sub hl [0, 1] rfl) hw
def wpX11_reckoned_81 (v4 : Int) (σ : ZS) (Q : Int → ZS → Prop) : Prop := (-2147483648 ≤ v4 ∧ v4 ≤ 2147483647) ∧ wpX11_flags v4 (zsA σ 0 75 13 ((v4 / 65536) % 2)) (fun (σ3 : ZS) => Q (v4 % 65536) σ3)
def wpX11_reckoned_76 (v2 v3 : Int) (σ : ZS) (Q : Int → ZS → Prop) : Prop := wpX11_reckoned_81 (v2 - v3) σ Q
def wpX11_reckoned (a1 a2 a3 : Int) (σ : ZS) (Q : Int → ZS → Prop) : Prop := (-2147483648 ≤ a1 ∧ a1 ≤ 2147483647) ∧ (a1 = 0 → wpX11_reckoned_81 (a2 + a3) σ Q) ∧ (¬ a1 = 0 → (a1 = 1 → wpX11_reckoned_81 (zor a2 a3) σ Q) ∧ (¬ a1 = 1 → (a1 = 2 → wpX11_reckoned_76 a2 a3 σ Q) ∧ (¬ a1 = 2 → (a1 = 3 → wpX11_reckoned_76 a2 a3 σ Q) ∧ (¬ a1 = 3 → (a1 = 4 → wpX11_reckoned_81 (zand a2 a3) σ Q) ∧ (¬ a1 = 4 → (a1 = 5 → wpX11_reckoned_76 a2 a3 σ Q) ∧ (¬ a1 = 5 → (a1 = 6 → wpX11_reckoned_81 (zxor a2 a3) σ Q) ∧ (¬ a1 = 6 → wpX11_reckoned_76 a2 a3 σ Q)))))))
set_option maxHeartbeats 4000000 in
set_option maxRecDepth 100000 in
theorem kX11_reckoned (l : Launch) (D : va_G) (dA : Nat → ClassId) (ad : Int → Nat → Nat) (a1 a2 a3 : Int) (σ : ZS) (Q : Int → ZS → Prop) (sz : Nat) (hw : wpX11_reckoned a1 a2 a3 σ Q) : Met l yX11_reckoned (gws yX11_reckoned cX11_reckoned 5 (some .int)) (gR 2 0 0) (gPre D dA [.ref (ad 0 1000), .int (Int32.ofInt a1), .int (Int32.ofInt a2), .int (Int32.ofInt a3)] (zR dA ad σ) sz) (va_Qi (zQi Q) (gAt D dA (va_A (zR dA ad σ) sz) (zR dA ad)) (va_A (zR dA ad σ) sz)) 0 0 (va_A (zR dA ad σ) sz) := by
  refine Met.ofW (cc := cX11_reckoned) (maxL := 5) (ret := (some .int)) (by decide) rfl ?_
  intro p e s m args below meth c s₁ B hml hv
  obtain ⟨rfl, hsz, hP, hK, hD0⟩ := hv
  have hx := B.exec
  have hb := B.bytes
  have hr := B.returns
  have hts := atoms_spec (ws := gws yX11_reckoned cX11_reckoned 5 (some .int)) B.pre
  have hg : ∀ w ∈ gw, w.before _ s = true := fun w h => hts w (List.mem_cons_of_mem _ h)
  have hown : s.vm.findClass RX11 = some m.cls := findClass_of_methodNamed B.named
  have hlocks := B.notSynchronized
  subst hsz
  have hD := hD0.self (sz := s.heap.size)
  generalize hAe : va_A (zR dA ad σ) s.heap.size = A at hD ⊢
  have hA : ∀ q : Nat, s.heap.size ≤ q → A q := fun q h => by rw [← hAe]; exact Or.inr h
  have hS : va_S A s.heap s.heap [] := va_S.rf
  have hl := lv_entry ([.ref (ad 0 1000), .int (Int32.ofInt a1), .int (Int32.ofInt a2), .int (Int32.ofInt a3)]) (n := 5) (Nat.le_of_ble_eq_true rfl)
  rw [lg_entry_eq]
  generalize (lg_sl ([.ref (ad 0 1000), .int (Int32.ofInt a1), .int (Int32.ofInt a2), .int (Int32.ofInt a3)]) ++ List.replicate (5 - (lg_sl ([.ref (ad 0 1000), .int (Int32.ofInt a1), .int (Int32.ofInt a2), .int (Int32.ofInt a3)])).length) Slot.unset).toArray = ls at hl ⊢
  have hl : lv_has ls 5 [(0, .ref (ad 0 1000)), (1, .int (Int32.ofInt a1)), (2, .int (Int32.ofInt a2)), (3, .int (Int32.ofInt a3))] := hl
  have hret : ∀ (v : Int) (σ : ZS) (H : Heap) (locs : List Loc) (ls : Array Slot) (pc : Nat), Q v σ → va_P D vwC (zR dA ad σ) H → va_D A (zR dA ad σ) → va_S A s.heap H locs → decode cX11_reckoned pc = .ok (.ireturn, 1) → W p l e (gR 2 0 0) s m #[.ref (ad 0 1000), .int (Int32.ofInt a1), .int (Int32.ofInt a2), .int (Int32.ofInt a3)] below meth c H locs 0 0 (MQ below (va_Qi (zQi Q) (gAt D dA A (zR dA ad)) A) #[.ref (ad 0 1000), .int (Int32.ofInt a1), .int (Int32.ofInt a2), .int (Int32.ofInt a3)] s 0 0 A) (F0 m pc ls [.int (Int32.ofInt v)]) := fun v σ H locs ls pc hw hP hD hS hd => g_iret hx hb hr rfl hlocks hK σ hP hD hS ⟨v, rfl, hw⟩ (Nat.le_of_ble_eq_true rfl) (Nat.le_of_ble_eq_true rfl) hd
  generalize MQ below (va_Qi (zQi Q) (gAt D dA A (zR dA ad)) A) #[.ref (ad 0 1000), .int (Int32.ofInt a1), .int (Int32.ofInt a2), .int (Int32.ofInt a3)] s 0 0 A = QQ at hret ⊢
  have j81 : ∀ (v4 : Int) (σ : ZS), ∀ (H : Heap) (locs : List Loc) (ls : Array Slot), va_P D vwC (zR dA ad σ) H → va_D A (zR dA ad σ) → va_S A s.heap H locs → lv_has ls 5 [(0, .ref (ad 0 1000)), (4, .int (Int32.ofInt v4))] → wpX11_reckoned_81 v4 σ Q → W p l e (gR 2 0 0) s m #[.ref (ad 0 1000), .int (Int32.ofInt a1), .int (Int32.ofInt a2), .int (Int32.ofInt a3)] below meth c H locs 0 0 QQ (F0 m 81 ls []) := by
    intro v4 σ H locs ls hP hD hS hl hw
    unfold wpX11_reckoned_81 at hw
    refine lv_aload_n hx hb dX11_reckoned_81 rfl (lv_at hl 0 rfl) ?_
    refine zgR0_75 hx hb hg hown hK hP q1690 dX11_reckoned_82 ?_
    refine lv_bipush (v := Int32.ofInt 13) hx hb dX11_reckoned_85 (by decide) ?_
    refine lv_iload hx hb dX11_reckoned_87 (lv_at hl 1 rfl) ?_
    refine lv_bipush (v := Int32.ofInt 16) hx hb dX11_reckoned_89 (by decide) ?_
    obtain ⟨o1, hw⟩ := hw
    refine z_ishrK (M := 65536) hx hb 16 (by decide) (by decide) (by decide) o1 dX11_reckoned_91 ?_
    refine lv_iconst (v := Int32.ofInt 1) hx hb dX11_reckoned_92 (by decide) ?_
    refine z_iandK (M := 2) hx hb 1 (by decide) (by decide) (by decide) dX11_reckoned_93 ?_
    refine zsR0_75 (v := ((v4 / 65536) % 2)) hx hb (by decide) hK hP hD hS dX11_reckoned_94 (fun H locs hP hD hS => ?_)
    refine lv_aload_n hx hb dX11_reckoned_95 rfl (lv_at hl 0 rfl) ?_
    refine lv_iload hx hb dX11_reckoned_96 (lv_at hl 1 rfl) ?_
    refine z_Vv (n := 1) (As := [.int (Int32.ofInt v4)]) (rest := []) hx hb hml hg hown hK hP hD hS hA (kX11_flags l D dA ad v4 (zsA σ 0 75 13 ((v4 / 65536) % 2)) _ _ hw) (zoR0) rfl q2168 q160 q2165 q2167 q138 (by decide +kernel) ⟨(Nat.le_of_ble_eq_true rfl), (Nat.le_of_ble_eq_true rfl)⟩ rfl hl.1 rfl (Nat.le_of_ble_eq_true rfl) dX11_reckoned_98 ⟨(Nat.le_of_ble_eq_true rfl), (Nat.le_of_ble_eq_true rfl)⟩ (fun σ3 H locs hw hP hD hS => ?_)
    refine lv_iload hx hb dX11_reckoned_101 (lv_at hl 1 rfl) ?_
    refine lv_ldcw hx hb hown (hg _ q1907) dX11_reckoned_103 ?_
    refine g_nrm (y := Int32.ofInt 65535) (by decide) ?_
    refine z_iandK (M := 65536) hx hb 16 (by decide) (by decide) (by decide) dX11_reckoned_106 ?_
    exact hret (v4 % 65536) σ3 _ _ _ _ hw hP hD hS dX11_reckoned_107
  have j76 : ∀ (v2 v3 : Int) (σ : ZS), ∀ (H : Heap) (locs : List Loc) (ls : Array Slot), va_P D vwC (zR dA ad σ) H → va_D A (zR dA ad σ) → va_S A s.heap H locs → lv_has ls 5 [(0, .ref (ad 0 1000)), (2, .int (Int32.ofInt v2)), (3, .int (Int32.ofInt v3))] → wpX11_reckoned_76 v2 v3 σ Q → W p l e (gR 2 0 0) s m #[.ref (ad 0 1000), .int (Int32.ofInt a1), .int (Int32.ofInt a2), .int (Int32.ofInt a3)] below meth c H locs 0 0 QQ (F0 m 76 ls []) := by
    intro v2 v3 σ H locs ls hP hD hS hl hw
    unfold wpX11_reckoned_76 at hw
    refine lv_iload_n hx hb dX11_reckoned_76 rfl (lv_at hl 1 rfl) ?_
    refine lv_iload_n hx hb dX11_reckoned_77 rfl (lv_at hl 2 rfl) ?_
    refine z_isub hx hb dX11_reckoned_78 ?_
    refine lv_istore (lv' := [(4, .int (Int32.ofInt (v2 - v3))), (0, .ref (ad 0 1000)), (2, .int (Int32.ofInt v2)), (3, .int (Int32.ofInt v3))]) hx hb dX11_reckoned_79 hl (by decide) rfl (fun ls hl => ?_)
    exact j81 (v2 - v3) σ _ _ _ hP hD hS (lv_sub hl [1, 0] rfl) hw
  unfold wpX11_reckoned at hw
  refine lv_iload_n hx hb dX11_reckoned_0 rfl (lv_at hl 1 rfl) ?_
  obtain ⟨o4, hw⟩ := hw
  have t5 := z_ti o4
  by_cases s6 : a1 = 0
  · replace hw := hw.1 s6
    refine lv_tableIn (tgt := 44) hx hb dX11_reckoned_1 (by rw [t5, s6]; decide) (by rw [t5, s6]; decide) (by rw [t5, s6]; rfl) (by decide) ?_
    refine lv_iload_n hx hb dX11_reckoned_44 rfl (lv_at hl 2 rfl) ?_
    refine lv_iload_n hx hb dX11_reckoned_45 rfl (lv_at hl 3 rfl) ?_
    refine z_iadd hx hb dX11_reckoned_46 ?_
    refine lv_istore (lv' := [(4, .int (Int32.ofInt (a2 + a3))), (0, .ref (ad 0 1000)), (1, .int (Int32.ofInt a1)), (2, .int (Int32.ofInt a2)), (3, .int (Int32.ofInt a3))]) hx hb dX11_reckoned_47 hl (by decide) rfl (fun ls hl => ?_)
    refine lv_goto (tgt := 81) hx hb dX11_reckoned_49 (by decide) ?_
    exact j81 (a2 + a3) σ _ _ _ hP hD hS (lv_sub hl [1, 0] rfl) hw
  replace hw := hw.2 s6
  by_cases s7 : a1 = 1
  · replace hw := hw.1 s7
    refine lv_tableIn (tgt := 52) hx hb dX11_reckoned_1 (by rw [t5, s7]; decide) (by rw [t5, s7]; decide) (by rw [t5, s7]; rfl) (by decide) ?_
    refine lv_iload_n hx hb dX11_reckoned_52 rfl (lv_at hl 2 rfl) ?_
    refine lv_iload_n hx hb dX11_reckoned_53 rfl (lv_at hl 3 rfl) ?_
    refine z_ior hx hb dX11_reckoned_54 ?_
    refine lv_istore (lv' := [(4, .int (Int32.ofInt (zor a2 a3))), (0, .ref (ad 0 1000)), (1, .int (Int32.ofInt a1)), (2, .int (Int32.ofInt a2)), (3, .int (Int32.ofInt a3))]) hx hb dX11_reckoned_55 hl (by decide) rfl (fun ls hl => ?_)
    refine lv_goto (tgt := 81) hx hb dX11_reckoned_57 (by decide) ?_
    exact j81 (zor a2 a3) σ _ _ _ hP hD hS (lv_sub hl [1, 0] rfl) hw
  replace hw := hw.2 s7
  by_cases s8 : a1 = 2
  · replace hw := hw.1 s8
    refine lv_tableIn (tgt := 76) hx hb dX11_reckoned_1 (by rw [t5, s8]; decide) (by rw [t5, s8]; decide) (by rw [t5, s8]; rfl) (by decide) ?_
    exact j76 a2 a3 σ _ _ _ hP hD hS (lv_sub hl [0, 2, 3] rfl) hw
  replace hw := hw.2 s8
  by_cases s9 : a1 = 3
  · replace hw := hw.1 s9
    refine lv_tableIn (tgt := 76) hx hb dX11_reckoned_1 (by rw [t5, s9]; decide) (by rw [t5, s9]; decide) (by rw [t5, s9]; rfl) (by decide) ?_
    exact j76 a2 a3 σ _ _ _ hP hD hS (lv_sub hl [0, 2, 3] rfl) hw
  replace hw := hw.2 s9
  by_cases s10 : a1 = 4
  · replace hw := hw.1 s10
    refine lv_tableIn (tgt := 60) hx hb dX11_reckoned_1 (by rw [t5, s10]; decide) (by rw [t5, s10]; decide) (by rw [t5, s10]; rfl) (by decide) ?_
    refine lv_iload_n hx hb dX11_reckoned_60 rfl (lv_at hl 2 rfl) ?_
    refine lv_iload_n hx hb dX11_reckoned_61 rfl (lv_at hl 3 rfl) ?_
    refine z_iand hx hb dX11_reckoned_62 ?_
    refine lv_istore (lv' := [(4, .int (Int32.ofInt (zand a2 a3))), (0, .ref (ad 0 1000)), (1, .int (Int32.ofInt a1)), (2, .int (Int32.ofInt a2)), (3, .int (Int32.ofInt a3))]) hx hb dX11_reckoned_63 hl (by decide) rfl (fun ls hl => ?_)
    refine lv_goto (tgt := 81) hx hb dX11_reckoned_65 (by decide) ?_
    exact j81 (zand a2 a3) σ _ _ _ hP hD hS (lv_sub hl [1, 0] rfl) hw
  replace hw := hw.2 s10
  by_cases s11 : a1 = 5
  · replace hw := hw.1 s11
    refine lv_tableIn (tgt := 76) hx hb dX11_reckoned_1 (by rw [t5, s11]; decide) (by rw [t5, s11]; decide) (by rw [t5, s11]; rfl) (by decide) ?_
    exact j76 a2 a3 σ _ _ _ hP hD hS (lv_sub hl [0, 2, 3] rfl) hw
  replace hw := hw.2 s11
  by_cases s12 : a1 = 6
  · replace hw := hw.1 s12
    refine lv_tableIn (tgt := 68) hx hb dX11_reckoned_1 (by rw [t5, s12]; decide) (by rw [t5, s12]; decide) (by rw [t5, s12]; rfl) (by decide) ?_
    refine lv_iload_n hx hb dX11_reckoned_68 rfl (lv_at hl 2 rfl) ?_
    refine lv_iload_n hx hb dX11_reckoned_69 rfl (lv_at hl 3 rfl) ?_
    refine z_ixor hx hb dX11_reckoned_70 ?_
    refine lv_istore (lv' := [(4, .int (Int32.ofInt (zxor a2 a3))), (0, .ref (ad 0 1000)), (1, .int (Int32.ofInt a1)), (2, .int (Int32.ofInt a2)), (3, .int (Int32.ofInt a3))]) hx hb dX11_reckoned_71 hl (by decide) rfl (fun ls hl => ?_)
    refine lv_goto (tgt := 81) hx hb dX11_reckoned_73 (by decide) ?_
    exact j81 (zxor a2 a3) σ _ _ _ hP hD hS (lv_sub hl [1, 0] rfl) hw
  replace hw := hw.2 s12
  refine lv_tableOut (tgt := 76) hx hb dX11_reckoned_1 (by rw [t5]; clear hw; omega) (by decide) ?_
  exact j76 a2 a3 σ _ _ _ hP hD hS (lv_sub hl [0, 2, 3] rfl) hw
def wpX11_operation_25 (s0 : Int) (σ : ZS) (Q : Int → ZS → Prop) : Prop := (0 ≤ s0 ∧ s0 ≤ 1) ∧ Q s0 σ
def wpX11_operation_24 (σ : ZS) (Q : Int → ZS → Prop) : Prop := wpX11_operation_25 0 σ Q
def wpX11_operation_20 (σ : ZS) (Q : Int → ZS → Prop) : Prop := wpX11_operation_25 1 σ Q
def wpX11_operation (a0 : Int) (σ : ZS) (Q : Int → ZS → Prop) : Prop := (-2147483648 ≤ a0 ∧ a0 ≤ 2147483647) ∧ (a0 = 0 → wpX11_operation_20 σ Q) ∧ (¬ a0 = 0 → (a0 = 1 → wpX11_operation_20 σ Q) ∧ (¬ a0 = 1 → (a0 < 4 → wpX11_operation_24 σ Q) ∧ (¬ a0 < 4 → (7 < a0 → wpX11_operation_24 σ Q) ∧ (¬ 7 < a0 → wpX11_operation_20 σ Q))))
set_option maxHeartbeats 4000000 in
set_option maxRecDepth 100000 in
theorem kX11_operation (l : Launch) (D : va_G) (dA : Nat → ClassId) (ad : Int → Nat → Nat) (a0 : Int) (σ : ZS) (Q : Int → ZS → Prop) (sz : Nat) (hw : wpX11_operation a0 σ Q) : Met l yX11_operation (gws yX11_operation cX11_operation 1 (some .boolean)) (gR 1 0 0) (gPre D dA [.int (Int32.ofInt a0)] (zR dA ad σ) sz) (va_Qi (zQi Q) (gAt D dA (va_A (zR dA ad σ) sz) (zR dA ad)) (va_A (zR dA ad σ) sz)) 0 0 (va_A (zR dA ad σ) sz) := by
  refine Met.ofW (cc := cX11_operation) (maxL := 1) (ret := (some .boolean)) (by decide) rfl ?_
  intro p e s m args below meth c s₁ B hml hv
  obtain ⟨rfl, hsz, hP, hK, hD0⟩ := hv
  have hx := B.exec
  have hb := B.bytes
  have hr := B.returns
  have hts := atoms_spec (ws := gws yX11_operation cX11_operation 1 (some .boolean)) B.pre
  have hg : ∀ w ∈ gw, w.before _ s = true := fun w h => hts w (List.mem_cons_of_mem _ h)
  have hown : s.vm.findClass RX11 = some m.cls := findClass_of_methodNamed B.named
  have hlocks := B.notSynchronized
  subst hsz
  have hD := hD0.self (sz := s.heap.size)
  generalize hAe : va_A (zR dA ad σ) s.heap.size = A at hD ⊢
  have hA : ∀ q : Nat, s.heap.size ≤ q → A q := fun q h => by rw [← hAe]; exact Or.inr h
  have hS : va_S A s.heap s.heap [] := va_S.rf
  have hl := lv_entry ([.int (Int32.ofInt a0)]) (n := 1) (Nat.le_of_ble_eq_true rfl)
  rw [lg_entry_eq]
  generalize (lg_sl ([.int (Int32.ofInt a0)]) ++ List.replicate (1 - (lg_sl ([.int (Int32.ofInt a0)])).length) Slot.unset).toArray = ls at hl ⊢
  have hl : lv_has ls 1 [(0, .int (Int32.ofInt a0))] := hl
  have hret : ∀ (v : Int) (σ : ZS) (H : Heap) (locs : List Loc) (ls : Array Slot) (pc : Nat), (0 ≤ v ∧ v ≤ 1) → Q v σ → va_P D vwC (zR dA ad σ) H → va_D A (zR dA ad σ) → va_S A s.heap H locs → decode cX11_operation pc = .ok (.ireturn, 1) → W p l e (gR 1 0 0) s m #[.int (Int32.ofInt a0)] below meth c H locs 0 0 (MQ below (va_Qi (zQi Q) (gAt D dA A (zR dA ad)) A) #[.int (Int32.ofInt a0)] s 0 0 A) (F0 m pc ls [.int (Int32.ofInt v)]) := fun v σ H locs ls pc hv hw hP hD hS hd => g_iret hx hb hr (z_nb hv) hlocks hK σ hP hD hS ⟨v, rfl, hw⟩ (Nat.le_of_ble_eq_true rfl) (Nat.le_of_ble_eq_true rfl) hd
  generalize MQ below (va_Qi (zQi Q) (gAt D dA A (zR dA ad)) A) #[.int (Int32.ofInt a0)] s 0 0 A = QQ at hret ⊢
  have j25 : ∀ (s0 : Int) (σ : ZS), ∀ (H : Heap) (locs : List Loc) (ls : Array Slot), va_P D vwC (zR dA ad σ) H → va_D A (zR dA ad σ) → va_S A s.heap H locs → lv_has ls 1 [] → wpX11_operation_25 s0 σ Q → W p l e (gR 1 0 0) s m #[.int (Int32.ofInt a0)] below meth c H locs 0 0 QQ (F0 m 25 ls [.int (Int32.ofInt s0)]) := by
    intro s0 σ H locs ls hP hD hS hl hw
    unfold wpX11_operation_25 at hw
    obtain ⟨o1, hw⟩ := hw
    exact hret s0 σ _ _ _ _ o1 hw hP hD hS dX11_operation_25
  have j24 : ∀ (σ : ZS), ∀ (H : Heap) (locs : List Loc) (ls : Array Slot), va_P D vwC (zR dA ad σ) H → va_D A (zR dA ad σ) → va_S A s.heap H locs → lv_has ls 1 [] → wpX11_operation_24 σ Q → W p l e (gR 1 0 0) s m #[.int (Int32.ofInt a0)] below meth c H locs 0 0 QQ (F0 m 24 ls []) := by
    intro σ H locs ls hP hD hS hl hw
    unfold wpX11_operation_24 at hw
    refine lv_iconst (v := Int32.ofInt 0) hx hb dX11_operation_24 (by decide) ?_
    exact j25 0 σ _ _ _ hP hD hS (lv_sub hl [] rfl) hw
  have j20 : ∀ (σ : ZS), ∀ (H : Heap) (locs : List Loc) (ls : Array Slot), va_P D vwC (zR dA ad σ) H → va_D A (zR dA ad σ) → va_S A s.heap H locs → lv_has ls 1 [] → wpX11_operation_20 σ Q → W p l e (gR 1 0 0) s m #[.int (Int32.ofInt a0)] below meth c H locs 0 0 QQ (F0 m 20 ls []) := by
    intro σ H locs ls hP hD hS hl hw
    unfold wpX11_operation_20 at hw
    refine lv_iconst (v := Int32.ofInt 1) hx hb dX11_operation_20 (by decide) ?_
    refine lv_goto (tgt := 25) hx hb dX11_operation_21 (by decide) ?_
    exact j25 1 σ _ _ _ hP hD hS (lv_sub hl [] rfl) hw
  unfold wpX11_operation at hw
  refine lv_iload_n hx hb dX11_operation_0 rfl (lv_at hl 0 rfl) ?_
  obtain ⟨o2, hw⟩ := hw
  refine z_if_eq (tgt := 20) hx hb o2 dX11_operation_1 (by decide) (fun k3 => ?_) (fun k3 => ?_)
  · replace hw := hw.1 k3
    exact j20 σ _ _ _ hP hD hS (lv_sub hl [] rfl) hw
  · replace hw := hw.2 k3
    refine lv_iload_n hx hb dX11_operation_4 rfl (lv_at hl 0 rfl) ?_
    refine lv_iconst (v := Int32.ofInt 1) hx hb dX11_operation_5 (by decide) ?_
    refine z_icmp_eq (tgt := 20) hx hb o2 (by decide) dX11_operation_6 (by decide) (fun k4 => ?_) (fun k4 => ?_)
    · replace hw := hw.1 k4
      exact j20 σ _ _ _ hP hD hS (lv_sub hl [] rfl) hw
    · replace hw := hw.2 k4
      refine lv_iload_n hx hb dX11_operation_9 rfl (lv_at hl 0 rfl) ?_
      refine lv_iconst (v := Int32.ofInt 4) hx hb dX11_operation_10 (by decide) ?_
      refine z_icmp_lt (tgt := 24) hx hb o2 (by decide) dX11_operation_11 (by decide) (fun k5 => ?_) (fun k5 => ?_)
      · replace hw := hw.1 k5
        exact j24 σ _ _ _ hP hD hS (lv_sub hl [] rfl) hw
      · replace hw := hw.2 k5
        refine lv_iload_n hx hb dX11_operation_14 rfl (lv_at hl 0 rfl) ?_
        refine lv_bipush (v := Int32.ofInt 7) hx hb dX11_operation_15 (by decide) ?_
        refine z_icmp_gt (tgt := 24) hx hb o2 (by decide) dX11_operation_17 (by decide) (fun k6 => ?_) (fun k6 => ?_)
        · replace hw := hw.1 k6
          exact j24 σ _ _ _ hP hD hS (lv_sub hl [] rfl) hw
        · replace hw := hw.2 k6
          exact j20 σ _ _ _ hP hD hS (lv_sub hl [] rfl) hw
def wpX11_push (a1 : Int) (σ : ZS) (Q : ZS → Prop) : Prop := wpX11_store (zA (zsA σ 0 75 4 (((zA σ 0 75 4) - 2) % 65536)) 0 75 10) (zA (zsA σ 0 75 4 (((zA σ 0 75 4) - 2) % 65536)) 0 75 4) a1 (zsA σ 0 75 4 (((zA σ 0 75 4) - 2) % 65536)) (fun (σ2 : ZS) => Q σ2)
set_option maxHeartbeats 4000000 in
set_option maxRecDepth 100000 in
theorem kX11_push (l : Launch) (D : va_G) (dA : Nat → ClassId) (ad : Int → Nat → Nat) (a1 : Int) (σ : ZS) (Q : ZS → Prop) (sz : Nat) (hw : wpX11_push a1 σ Q) : Met l yX11_push (gws yX11_push cX11_push 2 none) (gR 3 0 0) (gPre D dA [.ref (ad 0 1000), .int (Int32.ofInt a1)] (zR dA ad σ) sz) (va_Qv Q (gAt D dA (va_A (zR dA ad σ) sz) (zR dA ad)) (va_A (zR dA ad σ) sz)) 0 0 (va_A (zR dA ad σ) sz) := by
  refine Met.ofW (cc := cX11_push) (maxL := 2) (ret := none) (by decide) rfl ?_
  intro p e s m args below meth c s₁ B hml hv
  obtain ⟨rfl, hsz, hP, hK, hD0⟩ := hv
  have hx := B.exec
  have hb := B.bytes
  have hr := B.returns
  have hts := atoms_spec (ws := gws yX11_push cX11_push 2 none) B.pre
  have hg : ∀ w ∈ gw, w.before _ s = true := fun w h => hts w (List.mem_cons_of_mem _ h)
  have hown : s.vm.findClass RX11 = some m.cls := findClass_of_methodNamed B.named
  have hlocks := B.notSynchronized
  subst hsz
  have hD := hD0.self (sz := s.heap.size)
  generalize hAe : va_A (zR dA ad σ) s.heap.size = A at hD ⊢
  have hA : ∀ q : Nat, s.heap.size ≤ q → A q := fun q h => by rw [← hAe]; exact Or.inr h
  have hS : va_S A s.heap s.heap [] := va_S.rf
  have hl := lv_entry ([.ref (ad 0 1000), .int (Int32.ofInt a1)]) (n := 2) (Nat.le_of_ble_eq_true rfl)
  rw [lg_entry_eq]
  generalize (lg_sl ([.ref (ad 0 1000), .int (Int32.ofInt a1)]) ++ List.replicate (2 - (lg_sl ([.ref (ad 0 1000), .int (Int32.ofInt a1)])).length) Slot.unset).toArray = ls at hl ⊢
  have hl : lv_has ls 2 [(0, .ref (ad 0 1000)), (1, .int (Int32.ofInt a1))] := hl
  have hret : ∀ (σ : ZS) (H : Heap) (locs : List Loc) (ls : Array Slot) (pc : Nat), Q σ → va_P D vwC (zR dA ad σ) H → va_D A (zR dA ad σ) → va_S A s.heap H locs → decode cX11_push pc = .ok (.return_, 1) → W p l e (gR 3 0 0) s m #[.ref (ad 0 1000), .int (Int32.ofInt a1)] below meth c H locs 0 0 (MQ below (va_Qv Q (gAt D dA A (zR dA ad)) A) #[.ref (ad 0 1000), .int (Int32.ofInt a1)] s 0 0 A) (F0 m pc ls []) := fun σ H locs ls pc hw hP hD hS hd => g_vret hx hb hr hlocks hK σ hP hD hS hw (Nat.le_of_ble_eq_true rfl) (Nat.le_of_ble_eq_true rfl) hd
  generalize MQ below (va_Qv Q (gAt D dA A (zR dA ad)) A) #[.ref (ad 0 1000), .int (Int32.ofInt a1)] s 0 0 A = QQ at hret ⊢
  unfold wpX11_push at hw
  refine lv_aload_n hx hb dX11_push_0 rfl (lv_at hl 0 rfl) ?_
  refine zgR0_75 hx hb hg hown hK hP q1690 dX11_push_1 ?_
  refine lv_iconst (v := Int32.ofInt 4) hx hb dX11_push_4 (by decide) ?_
  refine lv_aload_n hx hb dX11_push_5 rfl (lv_at hl 0 rfl) ?_
  refine zgR0_75 hx hb hg hown hK hP q1690 dX11_push_6 ?_
  refine lv_iconst (v := Int32.ofInt 4) hx hb dX11_push_9 (by decide) ?_
  refine zlR0_75 hx hb (by decide) hK hP dX11_push_10 ?_
  refine lv_iconst (v := Int32.ofInt 2) hx hb dX11_push_11 (by decide) ?_
  refine z_isub hx hb dX11_push_12 ?_
  refine lv_ldcw hx hb hown (hg _ q1907) dX11_push_13 ?_
  refine g_nrm (y := Int32.ofInt 65535) (by decide) ?_
  refine z_iandK (M := 65536) hx hb 16 (by decide) (by decide) (by decide) dX11_push_16 ?_
  refine zsR0_75 (v := (((zA σ 0 75 4) - 2) % 65536)) hx hb (by decide) hK hP hD hS dX11_push_17 (fun H locs hP hD hS => ?_)
  refine lv_aload_n hx hb dX11_push_18 rfl (lv_at hl 0 rfl) ?_
  refine lv_aload_n hx hb dX11_push_19 rfl (lv_at hl 0 rfl) ?_
  refine zgR0_75 hx hb hg hown hK hP q1690 dX11_push_20 ?_
  refine lv_bipush (v := Int32.ofInt 10) hx hb dX11_push_23 (by decide) ?_
  refine zlR0_75 hx hb (by decide) hK hP dX11_push_25 ?_
  refine lv_aload_n hx hb dX11_push_26 rfl (lv_at hl 0 rfl) ?_
  refine zgR0_75 hx hb hg hown hK hP q1690 dX11_push_27 ?_
  refine lv_iconst (v := Int32.ofInt 4) hx hb dX11_push_30 (by decide) ?_
  refine zlR0_75 hx hb (by decide) hK hP dX11_push_31 ?_
  refine lv_iload_n hx hb dX11_push_32 rfl (lv_at hl 1 rfl) ?_
  refine z_Vv (n := 3) (As := [.int (Int32.ofInt (zA (zsA σ 0 75 4 (((zA σ 0 75 4) - 2) % 65536)) 0 75 10)), .int (Int32.ofInt (zA (zsA σ 0 75 4 (((zA σ 0 75 4) - 2) % 65536)) 0 75 4)), .int (Int32.ofInt a1)]) (rest := []) hx hb hml hg hown hK hP hD hS hA (kX11_store l D dA ad (zA (zsA σ 0 75 4 (((zA σ 0 75 4) - 2) % 65536)) 0 75 10) (zA (zsA σ 0 75 4 (((zA σ 0 75 4) - 2) % 65536)) 0 75 4) a1 (zsA σ 0 75 4 (((zA σ 0 75 4) - 2) % 65536)) _ _ hw) (zoR0) rfl q2176 q160 q2173 q2175 q140 (by decide +kernel) ⟨(Nat.le_of_ble_eq_true rfl), (Nat.le_of_ble_eq_true rfl)⟩ rfl hl.1 rfl (Nat.le_of_ble_eq_true rfl) dX11_push_33 ⟨(Nat.le_of_ble_eq_true rfl), (Nat.le_of_ble_eq_true rfl)⟩ (fun σ2 H locs hw hP hD hS => ?_)
  exact hret σ2 _ _ _ _ hw hP hD hS dX11_push_36
def wpX11_pop (σ : ZS) (Q : Int → ZS → Prop) : Prop := wpX11_get (zA σ 0 75 10) (zA σ 0 75 4) σ (fun (x1 : Int) (σ2 : ZS) => Q x1 (zsA σ2 0 75 4 (((zA σ2 0 75 4) + 2) % 65536)))
set_option maxHeartbeats 4000000 in
set_option maxRecDepth 100000 in
theorem kX11_pop (l : Launch) (D : va_G) (dA : Nat → ClassId) (ad : Int → Nat → Nat) (σ : ZS) (Q : Int → ZS → Prop) (sz : Nat) (hw : wpX11_pop σ Q) : Met l yX11_pop (gws yX11_pop cX11_pop 2 (some .int)) (gR 3 0 0) (gPre D dA [.ref (ad 0 1000)] (zR dA ad σ) sz) (va_Qi (zQi Q) (gAt D dA (va_A (zR dA ad σ) sz) (zR dA ad)) (va_A (zR dA ad σ) sz)) 0 0 (va_A (zR dA ad σ) sz) := by
  refine Met.ofW (cc := cX11_pop) (maxL := 2) (ret := (some .int)) (by decide) rfl ?_
  intro p e s m args below meth c s₁ B hml hv
  obtain ⟨rfl, hsz, hP, hK, hD0⟩ := hv
  have hx := B.exec
  have hb := B.bytes
  have hr := B.returns
  have hts := atoms_spec (ws := gws yX11_pop cX11_pop 2 (some .int)) B.pre
  have hg : ∀ w ∈ gw, w.before _ s = true := fun w h => hts w (List.mem_cons_of_mem _ h)
  have hown : s.vm.findClass RX11 = some m.cls := findClass_of_methodNamed B.named
  have hlocks := B.notSynchronized
  subst hsz
  have hD := hD0.self (sz := s.heap.size)
  generalize hAe : va_A (zR dA ad σ) s.heap.size = A at hD ⊢
  have hA : ∀ q : Nat, s.heap.size ≤ q → A q := fun q h => by rw [← hAe]; exact Or.inr h
  have hS : va_S A s.heap s.heap [] := va_S.rf
  have hl := lv_entry ([.ref (ad 0 1000)]) (n := 2) (Nat.le_of_ble_eq_true rfl)
  rw [lg_entry_eq]
  generalize (lg_sl ([.ref (ad 0 1000)]) ++ List.replicate (2 - (lg_sl ([.ref (ad 0 1000)])).length) Slot.unset).toArray = ls at hl ⊢
  have hl : lv_has ls 2 [(0, .ref (ad 0 1000))] := hl
  have hret : ∀ (v : Int) (σ : ZS) (H : Heap) (locs : List Loc) (ls : Array Slot) (pc : Nat), Q v σ → va_P D vwC (zR dA ad σ) H → va_D A (zR dA ad σ) → va_S A s.heap H locs → decode cX11_pop pc = .ok (.ireturn, 1) → W p l e (gR 3 0 0) s m #[.ref (ad 0 1000)] below meth c H locs 0 0 (MQ below (va_Qi (zQi Q) (gAt D dA A (zR dA ad)) A) #[.ref (ad 0 1000)] s 0 0 A) (F0 m pc ls [.int (Int32.ofInt v)]) := fun v σ H locs ls pc hw hP hD hS hd => g_iret hx hb hr rfl hlocks hK σ hP hD hS ⟨v, rfl, hw⟩ (Nat.le_of_ble_eq_true rfl) (Nat.le_of_ble_eq_true rfl) hd
  generalize MQ below (va_Qi (zQi Q) (gAt D dA A (zR dA ad)) A) #[.ref (ad 0 1000)] s 0 0 A = QQ at hret ⊢
  unfold wpX11_pop at hw
  refine lv_aload_n hx hb dX11_pop_0 rfl (lv_at hl 0 rfl) ?_
  refine lv_aload_n hx hb dX11_pop_1 rfl (lv_at hl 0 rfl) ?_
  refine zgR0_75 hx hb hg hown hK hP q1690 dX11_pop_2 ?_
  refine lv_bipush (v := Int32.ofInt 10) hx hb dX11_pop_5 (by decide) ?_
  refine zlR0_75 hx hb (by decide) hK hP dX11_pop_7 ?_
  refine lv_aload_n hx hb dX11_pop_8 rfl (lv_at hl 0 rfl) ?_
  refine zgR0_75 hx hb hg hown hK hP q1690 dX11_pop_9 ?_
  refine lv_iconst (v := Int32.ofInt 4) hx hb dX11_pop_12 (by decide) ?_
  refine zlR0_75 hx hb (by decide) hK hP dX11_pop_13 ?_
  refine z_Vi (n := 2) (As := [.int (Int32.ofInt (zA σ 0 75 10)), .int (Int32.ofInt (zA σ 0 75 4))]) (rest := []) hx hb hml hg hown hK hP hD hS hA (kX11_get l D dA ad (zA σ 0 75 10) (zA σ 0 75 4) σ _ _ hw) (zoR0) rfl q2160 q160 q2157 q2159 q136 (by decide +kernel) ⟨(Nat.le_of_ble_eq_true rfl), (Nat.le_of_ble_eq_true rfl)⟩ rfl hl.1 rfl (Nat.le_of_ble_eq_true rfl) dX11_pop_14 ⟨(Nat.le_of_ble_eq_true rfl), (Nat.le_of_ble_eq_true rfl)⟩ (fun x1 σ2 H locs hw hP hD hS => ?_)
  refine lv_istore_n (lv' := [(1, .int (Int32.ofInt x1)), (0, .ref (ad 0 1000))]) hx hb dX11_pop_17 rfl hl (by decide) rfl (fun ls hl => ?_)
  refine lv_aload_n hx hb dX11_pop_18 rfl (lv_at hl 1 rfl) ?_
  refine zgR0_75 hx hb hg hown hK hP q1690 dX11_pop_19 ?_
  refine lv_iconst (v := Int32.ofInt 4) hx hb dX11_pop_22 (by decide) ?_
  refine lv_aload_n hx hb dX11_pop_23 rfl (lv_at hl 1 rfl) ?_
  refine zgR0_75 hx hb hg hown hK hP q1690 dX11_pop_24 ?_
  refine lv_iconst (v := Int32.ofInt 4) hx hb dX11_pop_27 (by decide) ?_
  refine zlR0_75 hx hb (by decide) hK hP dX11_pop_28 ?_
  refine lv_iconst (v := Int32.ofInt 2) hx hb dX11_pop_29 (by decide) ?_
  refine z_iadd hx hb dX11_pop_30 ?_
  refine lv_ldcw hx hb hown (hg _ q1907) dX11_pop_31 ?_
  refine g_nrm (y := Int32.ofInt 65535) (by decide) ?_
  refine z_iandK (M := 65536) hx hb 16 (by decide) (by decide) (by decide) dX11_pop_34 ?_
  refine zsR0_75 (v := (((zA σ2 0 75 4) + 2) % 65536)) hx hb (by decide) hK hP hD hS dX11_pop_35 (fun H locs hP hD hS => ?_)
  refine lv_iload_n hx hb dX11_pop_36 rfl (lv_at hl 0 rfl) ?_
  exact hret x1 (zsA σ2 0 75 4 (((zA σ2 0 75 4) + 2) % 65536)) _ _ _ _ hw hP hD hS dX11_pop_37
def wpX11_shift_65 (v2 s2 s1 : Int) (σ : ZS) (Q : Int → ZS → Prop) : Prop := (0 ≤ s1 ∧ s1 < 16) ∧ wpX11_flags v2 (zsA σ 0 75 s1 s2) (fun (σ3 : ZS) => wpX11_formSet v2 σ3 (fun (σ5 : ZS) => Q 0 σ5))
def wpX11_shift_40 (v1 s0 : Int) (σ : ZS) (Q : Int → ZS → Prop) : Prop := (-2147483648 ≤ (zI σ 0 82) ∧ (zI σ 0 82) ≤ 2147483647) ∧ (¬ (zI σ 0 82) = 4 → wpX11_shift_65 s0 (v1 % 2) 13 σ Q) ∧ ((zI σ 0 82) = 4 → (-2147483648 ≤ v1 ∧ v1 ≤ 2147483647) ∧ wpX11_shift_65 s0 (v1 / 32768) 13 σ Q)
def wpX11_shift_18 (σ : ZS) (Q : Int → ZS → Prop) : Prop := wpX11_formGet σ (fun (x9 : Int) (σ10 : ZS) => (-2147483648 ≤ (zI σ10 0 82) ∧ (zI σ10 0 82) ≤ 2147483647) ∧ (¬ (zI σ10 0 82) = 4 → (-2147483648 ≤ x9 ∧ x9 ≤ 2147483647) ∧ wpX11_shift_40 x9 (x9 / 2) σ10 Q) ∧ ((zI σ10 0 82) = 4 → wpX11_shift_40 x9 (x9 * 2) σ10 Q))
def wpX11_shift (σ : ZS) (Q : Int → ZS → Prop) : Prop := (-2147483648 ≤ (zI σ 0 82) ∧ (zI σ 0 82) ≤ 2147483647) ∧ ((zI σ 0 82) = 4 → wpX11_shift_18 σ Q) ∧ (¬ (zI σ 0 82) = 4 → ((zI σ 0 82) = 5 → wpX11_shift_18 σ Q) ∧ (¬ (zI σ 0 82) = 5 → Q 2 σ))
set_option maxHeartbeats 4000000 in
set_option maxRecDepth 100000 in
theorem kX11_shift (l : Launch) (D : va_G) (dA : Nat → ClassId) (ad : Int → Nat → Nat) (σ : ZS) (Q : Int → ZS → Prop) (sz : Nat) (hw : wpX11_shift σ Q) : Met l yX11_shift (gws yX11_shift cX11_shift 3 (some .int)) (gR 4 0 0) (gPre D dA [.ref (ad 0 1000)] (zR dA ad σ) sz) (va_Qi (zQi Q) (gAt D dA (va_A (zR dA ad σ) sz) (zR dA ad)) (va_A (zR dA ad σ) sz)) 0 0 (va_A (zR dA ad σ) sz) := by
  refine Met.ofW (cc := cX11_shift) (maxL := 3) (ret := (some .int)) (by decide) rfl ?_
  intro p e s m args below meth c s₁ B hml hv
  obtain ⟨rfl, hsz, hP, hK, hD0⟩ := hv
  have hx := B.exec
  have hb := B.bytes
  have hr := B.returns
  have hts := atoms_spec (ws := gws yX11_shift cX11_shift 3 (some .int)) B.pre
  have hg : ∀ w ∈ gw, w.before _ s = true := fun w h => hts w (List.mem_cons_of_mem _ h)
  have hown : s.vm.findClass RX11 = some m.cls := findClass_of_methodNamed B.named
  have hlocks := B.notSynchronized
  subst hsz
  have hD := hD0.self (sz := s.heap.size)
  generalize hAe : va_A (zR dA ad σ) s.heap.size = A at hD ⊢
  have hA : ∀ q : Nat, s.heap.size ≤ q → A q := fun q h => by rw [← hAe]; exact Or.inr h
  have hS : va_S A s.heap s.heap [] := va_S.rf
  have hl := lv_entry ([.ref (ad 0 1000)]) (n := 3) (Nat.le_of_ble_eq_true rfl)
  rw [lg_entry_eq]
  generalize (lg_sl ([.ref (ad 0 1000)]) ++ List.replicate (3 - (lg_sl ([.ref (ad 0 1000)])).length) Slot.unset).toArray = ls at hl ⊢
  have hl : lv_has ls 3 [(0, .ref (ad 0 1000))] := hl
  have hret : ∀ (v : Int) (σ : ZS) (H : Heap) (locs : List Loc) (ls : Array Slot) (pc : Nat), Q v σ → va_P D vwC (zR dA ad σ) H → va_D A (zR dA ad σ) → va_S A s.heap H locs → decode cX11_shift pc = .ok (.ireturn, 1) → W p l e (gR 4 0 0) s m #[.ref (ad 0 1000)] below meth c H locs 0 0 (MQ below (va_Qi (zQi Q) (gAt D dA A (zR dA ad)) A) #[.ref (ad 0 1000)] s 0 0 A) (F0 m pc ls [.int (Int32.ofInt v)]) := fun v σ H locs ls pc hw hP hD hS hd => g_iret hx hb hr rfl hlocks hK σ hP hD hS ⟨v, rfl, hw⟩ (Nat.le_of_ble_eq_true rfl) (Nat.le_of_ble_eq_true rfl) hd
  generalize MQ below (va_Qi (zQi Q) (gAt D dA A (zR dA ad)) A) #[.ref (ad 0 1000)] s 0 0 A = QQ at hret ⊢
  have j65 : ∀ (v2 s2 s1 : Int) (σ : ZS), ∀ (H : Heap) (locs : List Loc) (ls : Array Slot), va_P D vwC (zR dA ad σ) H → va_D A (zR dA ad σ) → va_S A s.heap H locs → lv_has ls 3 [(0, .ref (ad 0 1000)), (2, .int (Int32.ofInt v2))] → wpX11_shift_65 v2 s2 s1 σ Q → W p l e (gR 4 0 0) s m #[.ref (ad 0 1000)] below meth c H locs 0 0 QQ (F0 m 65 ls [.int (Int32.ofInt s2), .int (Int32.ofInt s1), .ref (ad 0 75)]) := by
    intro v2 s2 s1 σ H locs ls hP hD hS hl hw
    unfold wpX11_shift_65 at hw
    obtain ⟨o1, hw⟩ := hw
    refine zsR0_75 (v := s2) hx hb o1 hK hP hD hS dX11_shift_65 (fun H locs hP hD hS => ?_)
    refine lv_aload_n hx hb dX11_shift_66 rfl (lv_at hl 0 rfl) ?_
    refine lv_iload_n hx hb dX11_shift_67 rfl (lv_at hl 1 rfl) ?_
    refine z_Vv (n := 1) (As := [.int (Int32.ofInt v2)]) (rest := []) hx hb hml hg hown hK hP hD hS hA (kX11_flags l D dA ad v2 (zsA σ 0 75 s1 s2) _ _ hw) (zoR0) rfl q2168 q160 q2165 q2167 q138 (by decide +kernel) ⟨(Nat.le_of_ble_eq_true rfl), (Nat.le_of_ble_eq_true rfl)⟩ rfl hl.1 rfl (Nat.le_of_ble_eq_true rfl) dX11_shift_68 ⟨(Nat.le_of_ble_eq_true rfl), (Nat.le_of_ble_eq_true rfl)⟩ (fun σ3 H locs hw hP hD hS => ?_)
    refine lv_aload_n hx hb dX11_shift_71 rfl (lv_at hl 0 rfl) ?_
    refine lv_iload_n hx hb dX11_shift_72 rfl (lv_at hl 1 rfl) ?_
    refine z_Vv (n := 1) (As := [.int (Int32.ofInt v2)]) (rest := []) hx hb hml hg hown hK hP hD hS hA (kX11_formSet l D dA ad v2 σ3 _ _ hw) (zoR0) rfl q2172 q160 q2169 q2171 q139 (by decide +kernel) ⟨(Nat.le_of_ble_eq_true rfl), (Nat.le_of_ble_eq_true rfl)⟩ rfl hl.1 rfl (Nat.le_of_ble_eq_true rfl) dX11_shift_73 ⟨(Nat.le_of_ble_eq_true rfl), (Nat.le_of_ble_eq_true rfl)⟩ (fun σ5 H locs hw hP hD hS => ?_)
    refine lv_iconst (v := Int32.ofInt 0) hx hb dX11_shift_76 (by decide) ?_
    exact hret 0 σ5 _ _ _ _ hw hP hD hS dX11_shift_77
  have j40 : ∀ (v1 s0 : Int) (σ : ZS), ∀ (H : Heap) (locs : List Loc) (ls : Array Slot), va_P D vwC (zR dA ad σ) H → va_D A (zR dA ad σ) → va_S A s.heap H locs → lv_has ls 3 [(0, .ref (ad 0 1000)), (1, .int (Int32.ofInt v1))] → wpX11_shift_40 v1 s0 σ Q → W p l e (gR 4 0 0) s m #[.ref (ad 0 1000)] below meth c H locs 0 0 QQ (F0 m 40 ls [.int (Int32.ofInt s0)]) := by
    intro v1 s0 σ H locs ls hP hD hS hl hw
    unfold wpX11_shift_40 at hw
    refine lv_istore_n (lv' := [(2, .int (Int32.ofInt s0)), (0, .ref (ad 0 1000)), (1, .int (Int32.ofInt v1))]) hx hb dX11_shift_40 rfl hl (by decide) rfl (fun ls hl => ?_)
    refine lv_aload_n hx hb dX11_shift_41 rfl (lv_at hl 1 rfl) ?_
    refine zgR0_75 hx hb hg hown hK hP q1690 dX11_shift_42 ?_
    refine lv_bipush (v := Int32.ofInt 13) hx hb dX11_shift_45 (by decide) ?_
    refine lv_aload_n hx hb dX11_shift_47 rfl (lv_at hl 1 rfl) ?_
    refine zgR0_82 hx hb hg hown hK hP q1697 dX11_shift_48 ?_
    refine lv_iconst (v := Int32.ofInt 4) hx hb dX11_shift_51 (by decide) ?_
    obtain ⟨o6, hw⟩ := hw
    refine z_icmp_ne (tgt := 62) hx hb o6 (by decide) dX11_shift_52 (by decide) (fun k7 => ?_) (fun k7 => ?_)
    · replace hw := hw.1 k7
      refine lv_iload_n hx hb dX11_shift_62 rfl (lv_at hl 2 rfl) ?_
      refine lv_iconst (v := Int32.ofInt 1) hx hb dX11_shift_63 (by decide) ?_
      refine z_iandK (M := 2) hx hb 1 (by decide) (by decide) (by decide) dX11_shift_64 ?_
      exact j65 s0 (v1 % 2) 13 σ _ _ _ hP hD hS (lv_sub hl [1, 0] rfl) hw
    · replace hw := hw.2 k7
      refine lv_iload_n hx hb dX11_shift_55 rfl (lv_at hl 2 rfl) ?_
      refine lv_bipush (v := Int32.ofInt 15) hx hb dX11_shift_56 (by decide) ?_
      obtain ⟨o8, hw⟩ := hw
      refine z_ishrK (M := 32768) hx hb 15 (by decide) (by decide) (by decide) o8 dX11_shift_58 ?_
      refine lv_goto (tgt := 65) hx hb dX11_shift_59 (by decide) ?_
      exact j65 s0 (v1 / 32768) 13 σ _ _ _ hP hD hS (lv_sub hl [1, 0] rfl) hw
  have j18 : ∀ (σ : ZS), ∀ (H : Heap) (locs : List Loc) (ls : Array Slot), va_P D vwC (zR dA ad σ) H → va_D A (zR dA ad σ) → va_S A s.heap H locs → lv_has ls 3 [(0, .ref (ad 0 1000))] → wpX11_shift_18 σ Q → W p l e (gR 4 0 0) s m #[.ref (ad 0 1000)] below meth c H locs 0 0 QQ (F0 m 18 ls []) := by
    intro σ H locs ls hP hD hS hl hw
    unfold wpX11_shift_18 at hw
    refine lv_aload_n hx hb dX11_shift_18 rfl (lv_at hl 0 rfl) ?_
    refine z_Vi (n := 0) (As := []) (rest := []) hx hb hml hg hown hK hP hD hS hA (kX11_formGet l D dA ad σ _ _ hw) (zoR0) rfl q2156 q160 q2153 q2155 q135 (by decide +kernel) ⟨(Nat.le_of_ble_eq_true rfl), (Nat.le_of_ble_eq_true rfl)⟩ rfl hl.1 rfl (Nat.le_of_ble_eq_true rfl) dX11_shift_19 ⟨(Nat.le_of_ble_eq_true rfl), (Nat.le_of_ble_eq_true rfl)⟩ (fun x9 σ10 H locs hw hP hD hS => ?_)
    refine lv_istore_n (lv' := [(1, .int (Int32.ofInt x9)), (0, .ref (ad 0 1000))]) hx hb dX11_shift_22 rfl hl (by decide) rfl (fun ls hl => ?_)
    refine lv_aload_n hx hb dX11_shift_23 rfl (lv_at hl 1 rfl) ?_
    refine zgR0_82 hx hb hg hown hK hP q1697 dX11_shift_24 ?_
    refine lv_iconst (v := Int32.ofInt 4) hx hb dX11_shift_27 (by decide) ?_
    obtain ⟨o11, hw⟩ := hw
    refine z_icmp_ne (tgt := 37) hx hb o11 (by decide) dX11_shift_28 (by decide) (fun k12 => ?_) (fun k12 => ?_)
    · replace hw := hw.1 k12
      refine lv_iload_n hx hb dX11_shift_37 rfl (lv_at hl 0 rfl) ?_
      refine lv_iconst (v := Int32.ofInt 1) hx hb dX11_shift_38 (by decide) ?_
      obtain ⟨o13, hw⟩ := hw
      refine z_ishrK (M := 2) hx hb 1 (by decide) (by decide) (by decide) o13 dX11_shift_39 ?_
      exact j40 x9 (x9 / 2) σ10 _ _ _ hP hD hS (lv_sub hl [1, 0] rfl) hw
    · replace hw := hw.2 k12
      refine lv_iload_n hx hb dX11_shift_31 rfl (lv_at hl 0 rfl) ?_
      refine lv_iconst (v := Int32.ofInt 1) hx hb dX11_shift_32 (by decide) ?_
      refine z_ishlK (M := 2) hx hb 1 (by decide) (by decide) dX11_shift_33 ?_
      refine lv_goto (tgt := 40) hx hb dX11_shift_34 (by decide) ?_
      exact j40 x9 (x9 * 2) σ10 _ _ _ hP hD hS (lv_sub hl [1, 0] rfl) hw
  unfold wpX11_shift at hw
  refine lv_aload_n hx hb dX11_shift_0 rfl (lv_at hl 0 rfl) ?_
  refine zgR0_82 hx hb hg hown hK hP q1697 dX11_shift_1 ?_
  refine lv_iconst (v := Int32.ofInt 4) hx hb dX11_shift_4 (by decide) ?_
  obtain ⟨o14, hw⟩ := hw
  refine z_icmp_eq (tgt := 18) hx hb o14 (by decide) dX11_shift_5 (by decide) (fun k15 => ?_) (fun k15 => ?_)
  · replace hw := hw.1 k15
    exact j18 σ _ _ _ hP hD hS (lv_sub hl [0] rfl) hw
  · replace hw := hw.2 k15
    refine lv_aload_n hx hb dX11_shift_8 rfl (lv_at hl 0 rfl) ?_
    refine zgR0_82 hx hb hg hown hK hP q1697 dX11_shift_9 ?_
    refine lv_iconst (v := Int32.ofInt 5) hx hb dX11_shift_12 (by decide) ?_
    refine z_icmp_eq (tgt := 18) hx hb o14 (by decide) dX11_shift_13 (by decide) (fun k16 => ?_) (fun k16 => ?_)
    · replace hw := hw.1 k16
      exact j18 σ _ _ _ hP hD hS (lv_sub hl [0] rfl) hw
    · replace hw := hw.2 k16
      refine lv_iconst (v := Int32.ofInt 2) hx hb dX11_shift_16 (by decide) ?_
      exact hret 2 σ _ _ _ _ hw hP hD hS dX11_shift_17
def wpX11_group_157 (σ : ZS) (Q : Int → ZS → Prop) : Prop := Q 1 σ
def wpX11_group_109 (s2 s1 : Int) (σ : ZS) (Q : Int → ZS → Prop) : Prop := (0 ≤ s1 ∧ s1 < 16) ∧ Q 0 (zsA σ 0 75 s1 s2)
def wpX11_group_28 (v1 s2 s1 : Int) (σ : ZS) (Q : Int → ZS → Prop) : Prop := (0 ≤ s1 ∧ s1 < 16) ∧ wpX11_flags (-v1) (zsA σ 0 75 s1 s2) (fun (σ4 : ZS) => wpX11_formSet (-v1) σ4 (fun (σ6 : ZS) => Q 0 σ6))
def wpX11_group (σ : ZS) (Q : Int → ZS → Prop) : Prop := wpX11_formGet σ (fun (x7 : Int) (σ8 : ZS) => (-2147483648 ≤ (zI σ8 0 82) ∧ (zI σ8 0 82) ≤ 2147483647) ∧ (¬ (zI σ8 0 82) = 3 → (¬ (zI σ8 0 82) = 4 → ((zI σ8 0 82) = 6 → (-2147483648 ≤ (zA σ8 0 75 2) ∧ (zA σ8 0 75 2) ≤ 2147483647) ∧ (-2147483648 ≤ (zA σ8 0 75 0) ∧ (zA σ8 0 75 0) ≤ 2147483647) ∧ (-2147483648 ≤ x7 ∧ x7 ≤ 2147483647) ∧ (x7 = 0 → wpX11_group_157 σ8 Q) ∧ (¬ x7 = 0 → (0 ≤ (zlor ((zA σ8 0 75 2) * 65536) (zA σ8 0 75 0)) ∧ (zlor ((zA σ8 0 75 2) * 65536) (zA σ8 0 75 0)) ≤ 9223372036854775807) ∧ (0 < x7 ∧ x7 ≤ 9223372036854775807) ∧ (-9223372036854775808 ≤ ((zlor ((zA σ8 0 75 2) * 65536) (zA σ8 0 75 0)) / x7) ∧ ((zlor ((zA σ8 0 75 2) * 65536) (zA σ8 0 75 0)) / x7) ≤ 9223372036854775807) ∧ (((zlor ((zA σ8 0 75 2) * 65536) (zA σ8 0 75 0)) / x7) ≤ 65535 → Q 0 (zsA (zsA σ8 0 75 0 ((zlor ((zA σ8 0 75 2) * 65536) (zA σ8 0 75 0)) / x7)) 0 75 2 ((zlor ((zA σ8 0 75 2) * 65536) (zA σ8 0 75 0)) % x7))) ∧ (¬ ((zlor ((zA σ8 0 75 2) * 65536) (zA σ8 0 75 0)) / x7) ≤ 65535 → wpX11_group_157 σ8 Q))) ∧ (¬ (zI σ8 0 82) = 6 → Q 2 σ8)) ∧ ((zI σ8 0 82) = 4 → (-2147483648 ≤ (zA σ8 0 75 0) ∧ (zA σ8 0 75 0) ≤ 2147483647) ∧ (-2147483648 ≤ x7 ∧ x7 ≤ 2147483647) ∧ (-2147483648 ≤ (zA (zsA (zsA σ8 0 75 0 (((zA σ8 0 75 0) * x7) % 65536)) 0 75 2 ((zlshr ((zA σ8 0 75 0) * x7) 16) % 65536)) 0 75 2) ∧ (zA (zsA (zsA σ8 0 75 0 (((zA σ8 0 75 0) * x7) % 65536)) 0 75 2 ((zlshr ((zA σ8 0 75 0) * x7) 16) % 65536)) 0 75 2) ≤ 2147483647) ∧ ((zA (zsA (zsA σ8 0 75 0 (((zA σ8 0 75 0) * x7) % 65536)) 0 75 2 ((zlshr ((zA σ8 0 75 0) * x7) 16) % 65536)) 0 75 2) = 0 → wpX11_group_109 0 13 (zsA (zsA σ8 0 75 0 (((zA σ8 0 75 0) * x7) % 65536)) 0 75 2 ((zlshr ((zA σ8 0 75 0) * x7) 16) % 65536)) Q) ∧ (¬ (zA (zsA (zsA σ8 0 75 0 (((zA σ8 0 75 0) * x7) % 65536)) 0 75 2 ((zlshr ((zA σ8 0 75 0) * x7) 16) % 65536)) 0 75 2) = 0 → wpX11_group_109 1 13 (zsA (zsA σ8 0 75 0 (((zA σ8 0 75 0) * x7) % 65536)) 0 75 2 ((zlshr ((zA σ8 0 75 0) * x7) 16) % 65536)) Q))) ∧ ((zI σ8 0 82) = 3 → (-2147483648 ≤ x7 ∧ x7 ≤ 2147483647) ∧ (x7 = 0 → wpX11_group_28 x7 0 13 σ8 Q) ∧ (¬ x7 = 0 → wpX11_group_28 x7 1 13 σ8 Q)))
set_option maxHeartbeats 4000000 in
set_option maxRecDepth 100000 in
theorem kX11_group (l : Launch) (D : va_G) (dA : Nat → ClassId) (ad : Int → Nat → Nat) (σ : ZS) (Q : Int → ZS → Prop) (sz : Nat) (hw : wpX11_group σ Q) : Met l yX11_group (gws yX11_group cX11_group 4 (some .int)) (gR 4 0 0) (gPre D dA [.ref (ad 0 1000)] (zR dA ad σ) sz) (va_Qi (zQi Q) (gAt D dA (va_A (zR dA ad σ) sz) (zR dA ad)) (va_A (zR dA ad σ) sz)) 0 0 (va_A (zR dA ad σ) sz) := by
  refine Met.ofW (cc := cX11_group) (maxL := 4) (ret := (some .int)) (by decide) rfl ?_
  intro p e s m args below meth c s₁ B hml hv
  obtain ⟨rfl, hsz, hP, hK, hD0⟩ := hv
  have hx := B.exec
  have hb := B.bytes
  have hr := B.returns
  have hts := atoms_spec (ws := gws yX11_group cX11_group 4 (some .int)) B.pre
  have hg : ∀ w ∈ gw, w.before _ s = true := fun w h => hts w (List.mem_cons_of_mem _ h)
  have hown : s.vm.findClass RX11 = some m.cls := findClass_of_methodNamed B.named
  have hlocks := B.notSynchronized
  subst hsz
  have hD := hD0.self (sz := s.heap.size)
  generalize hAe : va_A (zR dA ad σ) s.heap.size = A at hD ⊢
  have hA : ∀ q : Nat, s.heap.size ≤ q → A q := fun q h => by rw [← hAe]; exact Or.inr h
  have hS : va_S A s.heap s.heap [] := va_S.rf
  have hl := lv_entry ([.ref (ad 0 1000)]) (n := 4) (Nat.le_of_ble_eq_true rfl)
  rw [lg_entry_eq]
  generalize (lg_sl ([.ref (ad 0 1000)]) ++ List.replicate (4 - (lg_sl ([.ref (ad 0 1000)])).length) Slot.unset).toArray = ls at hl ⊢
  have hl : lv_has ls 4 [(0, .ref (ad 0 1000))] := hl
  have hret : ∀ (v : Int) (σ : ZS) (H : Heap) (locs : List Loc) (ls : Array Slot) (pc : Nat), Q v σ → va_P D vwC (zR dA ad σ) H → va_D A (zR dA ad σ) → va_S A s.heap H locs → decode cX11_group pc = .ok (.ireturn, 1) → W p l e (gR 4 0 0) s m #[.ref (ad 0 1000)] below meth c H locs 0 0 (MQ below (va_Qi (zQi Q) (gAt D dA A (zR dA ad)) A) #[.ref (ad 0 1000)] s 0 0 A) (F0 m pc ls [.int (Int32.ofInt v)]) := fun v σ H locs ls pc hw hP hD hS hd => g_iret hx hb hr rfl hlocks hK σ hP hD hS ⟨v, rfl, hw⟩ (Nat.le_of_ble_eq_true rfl) (Nat.le_of_ble_eq_true rfl) hd
  generalize MQ below (va_Qi (zQi Q) (gAt D dA A (zR dA ad)) A) #[.ref (ad 0 1000)] s 0 0 A = QQ at hret ⊢
  have j157 : ∀ (σ : ZS), ∀ (H : Heap) (locs : List Loc) (ls : Array Slot), va_P D vwC (zR dA ad σ) H → va_D A (zR dA ad σ) → va_S A s.heap H locs → lv_has ls 4 [] → wpX11_group_157 σ Q → W p l e (gR 4 0 0) s m #[.ref (ad 0 1000)] below meth c H locs 0 0 QQ (F0 m 157 ls []) := by
    intro σ H locs ls hP hD hS hl hw
    unfold wpX11_group_157 at hw
    refine lv_iconst (v := Int32.ofInt 1) hx hb dX11_group_157 (by decide) ?_
    exact hret 1 σ _ _ _ _ hw hP hD hS dX11_group_158
  have j109 : ∀ (s2 s1 : Int) (σ : ZS), ∀ (H : Heap) (locs : List Loc) (ls : Array Slot), va_P D vwC (zR dA ad σ) H → va_D A (zR dA ad σ) → va_S A s.heap H locs → lv_has ls 4 [] → wpX11_group_109 s2 s1 σ Q → W p l e (gR 4 0 0) s m #[.ref (ad 0 1000)] below meth c H locs 0 0 QQ (F0 m 109 ls [.int (Int32.ofInt s2), .int (Int32.ofInt s1), .ref (ad 0 75)]) := by
    intro s2 s1 σ H locs ls hP hD hS hl hw
    unfold wpX11_group_109 at hw
    obtain ⟨o1, hw⟩ := hw
    refine zsR0_75 (v := s2) hx hb o1 hK hP hD hS dX11_group_109 (fun H locs hP hD hS => ?_)
    refine lv_iconst (v := Int32.ofInt 0) hx hb dX11_group_110 (by decide) ?_
    exact hret 0 (zsA σ 0 75 s1 s2) _ _ _ _ hw hP hD hS dX11_group_111
  have j28 : ∀ (v1 s2 s1 : Int) (σ : ZS), ∀ (H : Heap) (locs : List Loc) (ls : Array Slot), va_P D vwC (zR dA ad σ) H → va_D A (zR dA ad σ) → va_S A s.heap H locs → lv_has ls 4 [(0, .ref (ad 0 1000)), (1, .int (Int32.ofInt v1))] → wpX11_group_28 v1 s2 s1 σ Q → W p l e (gR 4 0 0) s m #[.ref (ad 0 1000)] below meth c H locs 0 0 QQ (F0 m 28 ls [.int (Int32.ofInt s2), .int (Int32.ofInt s1), .ref (ad 0 75)]) := by
    intro v1 s2 s1 σ H locs ls hP hD hS hl hw
    unfold wpX11_group_28 at hw
    obtain ⟨o2, hw⟩ := hw
    refine zsR0_75 (v := s2) hx hb o2 hK hP hD hS dX11_group_28 (fun H locs hP hD hS => ?_)
    refine lv_aload_n hx hb dX11_group_29 rfl (lv_at hl 0 rfl) ?_
    refine lv_iload_n hx hb dX11_group_30 rfl (lv_at hl 1 rfl) ?_
    refine z_ineg hx hb dX11_group_31 ?_
    refine z_Vv (n := 1) (As := [.int (Int32.ofInt (-v1))]) (rest := []) hx hb hml hg hown hK hP hD hS hA (kX11_flags l D dA ad (-v1) (zsA σ 0 75 s1 s2) _ _ hw) (zoR0) rfl q2168 q160 q2165 q2167 q138 (by decide +kernel) ⟨(Nat.le_of_ble_eq_true rfl), (Nat.le_of_ble_eq_true rfl)⟩ rfl hl.1 rfl (Nat.le_of_ble_eq_true rfl) dX11_group_32 ⟨(Nat.le_of_ble_eq_true rfl), (Nat.le_of_ble_eq_true rfl)⟩ (fun σ4 H locs hw hP hD hS => ?_)
    refine lv_aload_n hx hb dX11_group_35 rfl (lv_at hl 0 rfl) ?_
    refine lv_iload_n hx hb dX11_group_36 rfl (lv_at hl 1 rfl) ?_
    refine z_ineg hx hb dX11_group_37 ?_
    refine z_Vv (n := 1) (As := [.int (Int32.ofInt (-v1))]) (rest := []) hx hb hml hg hown hK hP hD hS hA (kX11_formSet l D dA ad (-v1) σ4 _ _ hw) (zoR0) rfl q2172 q160 q2169 q2171 q139 (by decide +kernel) ⟨(Nat.le_of_ble_eq_true rfl), (Nat.le_of_ble_eq_true rfl)⟩ rfl hl.1 rfl (Nat.le_of_ble_eq_true rfl) dX11_group_38 ⟨(Nat.le_of_ble_eq_true rfl), (Nat.le_of_ble_eq_true rfl)⟩ (fun σ6 H locs hw hP hD hS => ?_)
    refine lv_iconst (v := Int32.ofInt 0) hx hb dX11_group_41 (by decide) ?_
    exact hret 0 σ6 _ _ _ _ hw hP hD hS dX11_group_42
  unfold wpX11_group at hw
  refine lv_aload_n hx hb dX11_group_0 rfl (lv_at hl 0 rfl) ?_
  refine z_Vi (n := 0) (As := []) (rest := []) hx hb hml hg hown hK hP hD hS hA (kX11_formGet l D dA ad σ _ _ hw) (zoR0) rfl q2156 q160 q2153 q2155 q135 (by decide +kernel) ⟨(Nat.le_of_ble_eq_true rfl), (Nat.le_of_ble_eq_true rfl)⟩ rfl hl.1 rfl (Nat.le_of_ble_eq_true rfl) dX11_group_1 ⟨(Nat.le_of_ble_eq_true rfl), (Nat.le_of_ble_eq_true rfl)⟩ (fun x7 σ8 H locs hw hP hD hS => ?_)
  refine lv_istore_n (lv' := [(1, .int (Int32.ofInt x7)), (0, .ref (ad 0 1000))]) hx hb dX11_group_4 rfl hl (by decide) rfl (fun ls hl => ?_)
  refine lv_aload_n hx hb dX11_group_5 rfl (lv_at hl 1 rfl) ?_
  refine zgR0_82 hx hb hg hown hK hP q1697 dX11_group_6 ?_
  refine lv_iconst (v := Int32.ofInt 3) hx hb dX11_group_9 (by decide) ?_
  obtain ⟨o9, hw⟩ := hw
  refine z_icmp_ne (tgt := 43) hx hb o9 (by decide) dX11_group_10 (by decide) (fun k10 => ?_) (fun k10 => ?_)
  · replace hw := hw.1 k10
    refine lv_aload_n hx hb dX11_group_43 rfl (lv_at hl 1 rfl) ?_
    refine zgR0_82 hx hb hg hown hK hP q1697 dX11_group_44 ?_
    refine lv_iconst (v := Int32.ofInt 4) hx hb dX11_group_47 (by decide) ?_
    refine z_icmp_ne (tgt := 112) hx hb o9 (by decide) dX11_group_48 (by decide) (fun k11 => ?_) (fun k11 => ?_)
    · replace hw := hw.1 k11
      refine lv_aload_n hx hb dX11_group_112 rfl (lv_at hl 1 rfl) ?_
      refine zgR0_82 hx hb hg hown hK hP q1697 dX11_group_113 ?_
      refine lv_bipush (v := Int32.ofInt 6) hx hb dX11_group_116 (by decide) ?_
      refine z_icmp_eq (tgt := 123) hx hb o9 (by decide) dX11_group_118 (by decide) (fun k12 => ?_) (fun k12 => ?_)
      · replace hw := hw.1 k12
        refine lv_aload_n hx hb dX11_group_123 rfl (lv_at hl 1 rfl) ?_
        refine zgR0_75 hx hb hg hown hK hP q1690 dX11_group_124 ?_
        refine lv_iconst (v := Int32.ofInt 2) hx hb dX11_group_127 (by decide) ?_
        refine zlR0_75 hx hb (by decide) hK hP dX11_group_128 ?_
        obtain ⟨o13, hw⟩ := hw
        refine z_i2l hx hb o13 dX11_group_129 ?_
        refine lv_bipush (v := Int32.ofInt 16) hx hb dX11_group_130 (by decide) ?_
        refine z_lshlV (v := (zA σ8 0 75 2) * 65536) hx hb (zn_lshl 16 (by decide) (by decide)) dX11_group_132 ?_
        refine lv_aload_n hx hb dX11_group_133 rfl (lv_at hl 1 rfl) ?_
        refine zgR0_75 hx hb hg hown hK hP q1690 dX11_group_134 ?_
        refine lv_iconst (v := Int32.ofInt 0) hx hb dX11_group_137 (by decide) ?_
        refine zlR0_75 hx hb (by decide) hK hP dX11_group_138 ?_
        obtain ⟨o14, hw⟩ := hw
        refine z_i2l hx hb o14 dX11_group_139 ?_
        refine z_lor hx hb dX11_group_140 ?_
        refine lv_lstore_n (lv' := [(2, .long (Int64.ofInt (zlor ((zA σ8 0 75 2) * 65536) (zA σ8 0 75 0)))), (1, .int (Int32.ofInt x7)), (0, .ref (ad 0 1000))]) hx hb dX11_group_141 rfl hl (by decide) rfl (fun ls hl => ?_)
        refine lv_iload_n hx hb dX11_group_142 rfl (lv_at hl 1 rfl) ?_
        obtain ⟨o15, hw⟩ := hw
        refine z_if_eq (tgt := 157) hx hb o15 dX11_group_143 (by decide) (fun k16 => ?_) (fun k16 => ?_)
        · replace hw := hw.1 k16
          exact j157 σ8 _ _ _ hP hD hS (lv_sub hl [] rfl) hw
        · replace hw := hw.2 k16
          refine lv_lload_n hx hb dX11_group_146 rfl (lv_at hl 0 rfl) ?_
          refine lv_iload_n hx hb dX11_group_147 rfl (lv_at hl 1 rfl) ?_
          refine z_i2l hx hb o15 dX11_group_148 ?_
          obtain ⟨o17, hw⟩ := hw
          obtain ⟨o18, hw⟩ := hw
          refine z_ldiv hx hb o17 o18 dX11_group_149 ?_
          refine lv_ldc2 hx hb hown (hg _ q2185) dX11_group_150 ?_
          refine g_nrmL (y := Int64.ofInt 65535) (by decide) ?_
          obtain ⟨o19, hw⟩ := hw
          refine z_lc_le (tgt := 159) hx hb o19 (by decide) dX11_group_153 dX11_group_154 (by decide) (fun k20 => ?_) (fun k20 => ?_)
          · replace hw := hw.1 k20
            refine lv_aload_n hx hb dX11_group_159 rfl (lv_at hl 2 rfl) ?_
            refine zgR0_75 hx hb hg hown hK hP q1690 dX11_group_160 ?_
            refine lv_iconst (v := Int32.ofInt 0) hx hb dX11_group_163 (by decide) ?_
            refine lv_lload_n hx hb dX11_group_164 rfl (lv_at hl 0 rfl) ?_
            refine lv_iload_n hx hb dX11_group_165 rfl (lv_at hl 1 rfl) ?_
            refine z_i2l hx hb o15 dX11_group_166 ?_
            refine z_ldiv hx hb o17 o18 dX11_group_167 ?_
            refine z_l2i hx hb dX11_group_168 ?_
            refine zsR0_75 (v := ((zlor ((zA σ8 0 75 2) * 65536) (zA σ8 0 75 0)) / x7)) hx hb (by decide) hK hP hD hS dX11_group_169 (fun H locs hP hD hS => ?_)
            refine lv_aload_n hx hb dX11_group_170 rfl (lv_at hl 2 rfl) ?_
            refine zgR0_75 hx hb hg hown hK hP q1690 dX11_group_171 ?_
            refine lv_iconst (v := Int32.ofInt 2) hx hb dX11_group_174 (by decide) ?_
            refine lv_lload_n hx hb dX11_group_175 rfl (lv_at hl 0 rfl) ?_
            refine lv_iload_n hx hb dX11_group_176 rfl (lv_at hl 1 rfl) ?_
            refine z_i2l hx hb o15 dX11_group_177 ?_
            refine z_lrem hx hb o17 o18 dX11_group_178 ?_
            refine z_l2i hx hb dX11_group_179 ?_
            refine zsR0_75 (v := ((zlor ((zA σ8 0 75 2) * 65536) (zA σ8 0 75 0)) % x7)) hx hb (by decide) hK hP hD hS dX11_group_180 (fun H locs hP hD hS => ?_)
            refine lv_iconst (v := Int32.ofInt 0) hx hb dX11_group_181 (by decide) ?_
            exact hret 0 (zsA (zsA σ8 0 75 0 ((zlor ((zA σ8 0 75 2) * 65536) (zA σ8 0 75 0)) / x7)) 0 75 2 ((zlor ((zA σ8 0 75 2) * 65536) (zA σ8 0 75 0)) % x7)) _ _ _ _ hw hP hD hS dX11_group_182
          · replace hw := hw.2 k20
            exact j157 σ8 _ _ _ hP hD hS (lv_sub hl [] rfl) hw
      · replace hw := hw.2 k12
        refine lv_iconst (v := Int32.ofInt 2) hx hb dX11_group_121 (by decide) ?_
        exact hret 2 σ8 _ _ _ _ hw hP hD hS dX11_group_122
    · replace hw := hw.2 k11
      refine lv_aload_n hx hb dX11_group_51 rfl (lv_at hl 1 rfl) ?_
      refine zgR0_75 hx hb hg hown hK hP q1690 dX11_group_52 ?_
      refine lv_iconst (v := Int32.ofInt 0) hx hb dX11_group_55 (by decide) ?_
      refine zlR0_75 hx hb (by decide) hK hP dX11_group_56 ?_
      obtain ⟨o21, hw⟩ := hw
      refine z_i2l hx hb o21 dX11_group_57 ?_
      refine lv_iload_n hx hb dX11_group_58 rfl (lv_at hl 0 rfl) ?_
      obtain ⟨o22, hw⟩ := hw
      refine z_i2l hx hb o22 dX11_group_59 ?_
      refine z_lmul hx hb dX11_group_60 ?_
      refine lv_lstore_n (lv' := [(2, .long (Int64.ofInt ((zA σ8 0 75 0) * x7))), (1, .int (Int32.ofInt x7)), (0, .ref (ad 0 1000))]) hx hb dX11_group_61 rfl hl (by decide) rfl (fun ls hl => ?_)
      refine lv_aload_n hx hb dX11_group_62 rfl (lv_at hl 2 rfl) ?_
      refine zgR0_75 hx hb hg hown hK hP q1690 dX11_group_63 ?_
      refine lv_iconst (v := Int32.ofInt 0) hx hb dX11_group_66 (by decide) ?_
      refine lv_lload_n hx hb dX11_group_67 rfl (lv_at hl 0 rfl) ?_
      refine z_l2i hx hb dX11_group_68 ?_
      refine lv_ldcw hx hb hown (hg _ q1907) dX11_group_69 ?_
      refine g_nrm (y := Int32.ofInt 65535) (by decide) ?_
      refine z_iandK (M := 65536) hx hb 16 (by decide) (by decide) (by decide) dX11_group_72 ?_
      refine zsR0_75 (v := (((zA σ8 0 75 0) * x7) % 65536)) hx hb (by decide) hK hP hD hS dX11_group_73 (fun H locs hP hD hS => ?_)
      refine lv_aload_n hx hb dX11_group_74 rfl (lv_at hl 2 rfl) ?_
      refine zgR0_75 hx hb hg hown hK hP q1690 dX11_group_75 ?_
      refine lv_iconst (v := Int32.ofInt 2) hx hb dX11_group_78 (by decide) ?_
      refine lv_lload_n hx hb dX11_group_79 rfl (lv_at hl 0 rfl) ?_
      refine lv_bipush (v := Int32.ofInt 16) hx hb dX11_group_80 (by decide) ?_
      refine z_lshr hx hb dX11_group_82 ?_
      refine z_l2i hx hb dX11_group_83 ?_
      refine lv_ldcw hx hb hown (hg _ q1907) dX11_group_84 ?_
      refine g_nrm (y := Int32.ofInt 65535) (by decide) ?_
      refine z_iandK (M := 65536) hx hb 16 (by decide) (by decide) (by decide) dX11_group_87 ?_
      refine zsR0_75 (v := ((zlshr ((zA σ8 0 75 0) * x7) 16) % 65536)) hx hb (by decide) hK hP hD hS dX11_group_88 (fun H locs hP hD hS => ?_)
      refine lv_aload_n hx hb dX11_group_89 rfl (lv_at hl 2 rfl) ?_
      refine zgR0_75 hx hb hg hown hK hP q1690 dX11_group_90 ?_
      refine lv_bipush (v := Int32.ofInt 13) hx hb dX11_group_93 (by decide) ?_
      refine lv_aload_n hx hb dX11_group_95 rfl (lv_at hl 2 rfl) ?_
      refine zgR0_75 hx hb hg hown hK hP q1690 dX11_group_96 ?_
      refine lv_iconst (v := Int32.ofInt 2) hx hb dX11_group_99 (by decide) ?_
      refine zlR0_75 hx hb (by decide) hK hP dX11_group_100 ?_
      obtain ⟨o23, hw⟩ := hw
      refine z_if_eq (tgt := 108) hx hb o23 dX11_group_101 (by decide) (fun k24 => ?_) (fun k24 => ?_)
      · replace hw := hw.1 k24
        refine lv_iconst (v := Int32.ofInt 0) hx hb dX11_group_108 (by decide) ?_
        exact j109 0 13 (zsA (zsA σ8 0 75 0 (((zA σ8 0 75 0) * x7) % 65536)) 0 75 2 ((zlshr ((zA σ8 0 75 0) * x7) 16) % 65536)) _ _ _ hP hD hS (lv_sub hl [] rfl) hw
      · replace hw := hw.2 k24
        refine lv_iconst (v := Int32.ofInt 1) hx hb dX11_group_104 (by decide) ?_
        refine lv_goto (tgt := 109) hx hb dX11_group_105 (by decide) ?_
        exact j109 1 13 (zsA (zsA σ8 0 75 0 (((zA σ8 0 75 0) * x7) % 65536)) 0 75 2 ((zlshr ((zA σ8 0 75 0) * x7) 16) % 65536)) _ _ _ hP hD hS (lv_sub hl [] rfl) hw
  · replace hw := hw.2 k10
    refine lv_aload_n hx hb dX11_group_13 rfl (lv_at hl 1 rfl) ?_
    refine zgR0_75 hx hb hg hown hK hP q1690 dX11_group_14 ?_
    refine lv_bipush (v := Int32.ofInt 13) hx hb dX11_group_17 (by decide) ?_
    refine lv_iload_n hx hb dX11_group_19 rfl (lv_at hl 0 rfl) ?_
    obtain ⟨o25, hw⟩ := hw
    refine z_if_eq (tgt := 27) hx hb o25 dX11_group_20 (by decide) (fun k26 => ?_) (fun k26 => ?_)
    · replace hw := hw.1 k26
      refine lv_iconst (v := Int32.ofInt 0) hx hb dX11_group_27 (by decide) ?_
      exact j28 x7 0 13 σ8 _ _ _ hP hD hS (lv_sub hl [1, 0] rfl) hw
    · replace hw := hw.2 k26
      refine lv_iconst (v := Int32.ofInt 1) hx hb dX11_group_23 (by decide) ?_
      refine lv_goto (tgt := 28) hx hb dX11_group_24 (by decide) ?_
      exact j28 x7 1 13 σ8 _ _ _ hP hD hS (lv_sub hl [1, 0] rfl) hw
def wpX11_formed_352 (s0 : Int) (σ : ZS) (Q : Int → ZS → Prop) : Prop := Q s0 σ
def wpX11_formed_295 (σ : ZS) (Q : Int → ZS → Prop) : Prop := Q 2 σ
def wpX11_formed_219 (σ : ZS) (Q : Int → ZS → Prop) : Prop := Q 0 σ
def wpX11_formed_111 (σ : ZS) (Q : Int → ZS → Prop) : Prop := Q 0 σ
def wpX11_formed_63 (v1 v2 v3 s0 : Int) (σ : ZS) (Q : Int → ZS → Prop) : Prop := wpX11_reckoned v2 v3 s0 σ (fun (x1 : Int) (σ2 : ZS) => (-2147483648 ≤ v2 ∧ v2 ≤ 2147483647) ∧ (¬ v2 = 7 → (0 ≤ v1 ∧ v1 ≤ 2147483647) ∧ (¬ (v1 % 8) = 3 → wpX11_formSet x1 σ2 (fun (σ8 : ZS) => wpX11_formed_111 σ8 Q)) ∧ ((v1 % 8) = 3 → (0 ≤ (zI σ2 0 82) ∧ (zI σ2 0 82) < 16) ∧ wpX11_formed_111 (zsA σ2 0 75 (zI σ2 0 82) x1) Q)) ∧ (v2 = 7 → Q 0 σ2))
def wpX11_formed_38 (v1 v2 s0 : Int) (σ : ZS) (Q : Int → ZS → Prop) : Prop := (0 ≤ v1 ∧ v1 ≤ 2147483647) ∧ (¬ (v1 % 8) = 3 → (0 ≤ (zI σ 0 82) ∧ (zI σ 0 82) < 16) ∧ wpX11_formed_63 v1 v2 s0 (zA σ 0 75 (zI σ 0 82)) σ Q) ∧ ((v1 % 8) = 3 → wpX11_formGet σ (fun (x13 : Int) (σ14 : ZS) => wpX11_formed_63 v1 v2 s0 x13 σ14 Q))
def wpX11_formed (a1 : Int) (σ : ZS) (Q : Int → ZS → Prop) : Prop := wpX11_readForm σ (fun (σ16 : ZS) => (-2147483648 ≤ a1 ∧ a1 ≤ 2147483647) ∧ (64 ≤ a1 → (a1 = 129 → wpX11_operation (zI σ16 0 82) σ16 (fun (x21 : Int) (σ22 : ZS) => (-2147483648 ≤ x21 ∧ x21 ≤ 2147483647) ∧ (¬ x21 = 0 → wpX11_fetchTwo σ22 (fun (x25 : Int) (σ26 : ZS) => wpX11_formGet σ26 (fun (x27 : Int) (σ28 : ZS) => wpX11_reckoned (zI σ26 0 82) x27 x25 σ28 (fun (x29 : Int) (σ30 : ZS) => (-2147483648 ≤ (zI σ30 0 82) ∧ (zI σ30 0 82) ≤ 2147483647) ∧ ((zI σ30 0 82) = 7 → wpX11_formed_219 σ30 Q) ∧ (¬ (zI σ30 0 82) = 7 → wpX11_formSet x29 σ30 (fun (σ34 : ZS) => wpX11_formed_219 σ34 Q)))))) ∧ (x21 = 0 → Q 2 σ22))) ∧ (¬ a1 = 129 → (a1 = 137 → (0 ≤ (zI σ16 0 82) ∧ (zI σ16 0 82) < 16) ∧ wpX11_formSet (zA σ16 0 75 (zI σ16 0 82)) σ16 (fun (σ38 : ZS) => Q 0 σ38)) ∧ (¬ a1 = 137 → (a1 = 139 → wpX11_formGet σ16 (fun (x40 : Int) (σ41 : ZS) => (0 ≤ (zI σ16 0 82) ∧ (zI σ16 0 82) < 16) ∧ Q 0 (zsA σ41 0 75 (zI σ16 0 82) x40))) ∧ (¬ a1 = 139 → (a1 = 140 → (-2147483648 ≤ (zI σ16 0 82) ∧ (zI σ16 0 82) ≤ 2147483647) ∧ ((zI σ16 0 82) ≤ 3 → (0 ≤ (8 + (zI σ16 0 82)) ∧ (8 + (zI σ16 0 82)) < 16) ∧ wpX11_formSet (zA σ16 0 75 (8 + (zI σ16 0 82))) σ16 (fun (σ48 : ZS) => Q 0 σ48)) ∧ (¬ (zI σ16 0 82) ≤ 3 → Q 2 σ16)) ∧ (¬ a1 = 140 → (a1 = 142 → (-2147483648 ≤ (zI σ16 0 82) ∧ (zI σ16 0 82) ≤ 2147483647) ∧ (3 < (zI σ16 0 82) → wpX11_formed_295 σ16 Q) ∧ (¬ 3 < (zI σ16 0 82) → (¬ (zI σ16 0 82) = 1 → wpX11_formGet σ16 (fun (x53 : Int) (σ54 : ZS) => (0 ≤ (8 + (zI σ16 0 82)) ∧ (8 + (zI σ16 0 82)) < 16) ∧ Q 0 (zsA σ54 0 75 (8 + (zI σ16 0 82)) x53))) ∧ ((zI σ16 0 82) = 1 → wpX11_formed_295 σ16 Q))) ∧ (¬ a1 = 142 → (a1 = 199 → (-2147483648 ≤ (zI σ16 0 82) ∧ (zI σ16 0 82) ≤ 2147483647) ∧ ((zI σ16 0 82) = 0 → wpX11_fetchTwo σ16 (fun (x59 : Int) (σ60 : ZS) => wpX11_formSet x59 σ60 (fun (σ62 : ZS) => Q 0 σ62))) ∧ (¬ (zI σ16 0 82) = 0 → Q 2 σ16)) ∧ (¬ a1 = 199 → (¬ a1 = 209 → wpX11_group σ16 (fun (x64 : Int) (σ65 : ZS) => wpX11_formed_352 x64 σ65 Q)) ∧ (a1 = 209 → wpX11_shift σ16 (fun (x66 : Int) (σ67 : ZS) => wpX11_formed_352 x66 σ67 Q))))))))) ∧ (¬ 64 ≤ a1 → (0 ≤ a1 ∧ a1 ≤ 2147483647) ∧ (¬ (a1 % 8) = 3 → wpX11_formGet σ16 (fun (x70 : Int) (σ71 : ZS) => wpX11_formed_38 a1 (a1 / 8) x70 σ71 Q)) ∧ ((a1 % 8) = 3 → (0 ≤ (zI σ16 0 82) ∧ (zI σ16 0 82) < 16) ∧ wpX11_formed_38 a1 (a1 / 8) (zA σ16 0 75 (zI σ16 0 82)) σ16 Q)))
set_option maxHeartbeats 4000000 in
set_option maxRecDepth 100000 in
theorem kX11_formed (l : Launch) (D : va_G) (dA : Nat → ClassId) (ad : Int → Nat → Nat) (a1 : Int) (σ : ZS) (Q : Int → ZS → Prop) (sz : Nat) (hw : wpX11_formed a1 σ Q) : Met l yX11_formed (gws yX11_formed cX11_formed 6 (some .int)) (gR 5 0 0) (gPre D dA [.ref (ad 0 1000), .int (Int32.ofInt a1)] (zR dA ad σ) sz) (va_Qi (zQi Q) (gAt D dA (va_A (zR dA ad σ) sz) (zR dA ad)) (va_A (zR dA ad σ) sz)) 0 0 (va_A (zR dA ad σ) sz) := by
  refine Met.ofW (cc := cX11_formed) (maxL := 6) (ret := (some .int)) (by decide) rfl ?_
  intro p e s m args below meth c s₁ B hml hv
  obtain ⟨rfl, hsz, hP, hK, hD0⟩ := hv
  have hx := B.exec
  have hb := B.bytes
  have hr := B.returns
  have hts := atoms_spec (ws := gws yX11_formed cX11_formed 6 (some .int)) B.pre
  have hg : ∀ w ∈ gw, w.before _ s = true := fun w h => hts w (List.mem_cons_of_mem _ h)
  have hown : s.vm.findClass RX11 = some m.cls := findClass_of_methodNamed B.named
  have hlocks := B.notSynchronized
  subst hsz
  have hD := hD0.self (sz := s.heap.size)
  generalize hAe : va_A (zR dA ad σ) s.heap.size = A at hD ⊢
  have hA : ∀ q : Nat, s.heap.size ≤ q → A q := fun q h => by rw [← hAe]; exact Or.inr h
  have hS : va_S A s.heap s.heap [] := va_S.rf
  have hl := lv_entry ([.ref (ad 0 1000), .int (Int32.ofInt a1)]) (n := 6) (Nat.le_of_ble_eq_true rfl)
  rw [lg_entry_eq]
  generalize (lg_sl ([.ref (ad 0 1000), .int (Int32.ofInt a1)]) ++ List.replicate (6 - (lg_sl ([.ref (ad 0 1000), .int (Int32.ofInt a1)])).length) Slot.unset).toArray = ls at hl ⊢
  have hl : lv_has ls 6 [(0, .ref (ad 0 1000)), (1, .int (Int32.ofInt a1))] := hl
  have hret : ∀ (v : Int) (σ : ZS) (H : Heap) (locs : List Loc) (ls : Array Slot) (pc : Nat), Q v σ → va_P D vwC (zR dA ad σ) H → va_D A (zR dA ad σ) → va_S A s.heap H locs → decode cX11_formed pc = .ok (.ireturn, 1) → W p l e (gR 5 0 0) s m #[.ref (ad 0 1000), .int (Int32.ofInt a1)] below meth c H locs 0 0 (MQ below (va_Qi (zQi Q) (gAt D dA A (zR dA ad)) A) #[.ref (ad 0 1000), .int (Int32.ofInt a1)] s 0 0 A) (F0 m pc ls [.int (Int32.ofInt v)]) := fun v σ H locs ls pc hw hP hD hS hd => g_iret hx hb hr rfl hlocks hK σ hP hD hS ⟨v, rfl, hw⟩ (Nat.le_of_ble_eq_true rfl) (Nat.le_of_ble_eq_true rfl) hd
  generalize MQ below (va_Qi (zQi Q) (gAt D dA A (zR dA ad)) A) #[.ref (ad 0 1000), .int (Int32.ofInt a1)] s 0 0 A = QQ at hret ⊢
  have j352 : ∀ (s0 : Int) (σ : ZS), ∀ (H : Heap) (locs : List Loc) (ls : Array Slot), va_P D vwC (zR dA ad σ) H → va_D A (zR dA ad σ) → va_S A s.heap H locs → lv_has ls 6 [] → wpX11_formed_352 s0 σ Q → W p l e (gR 5 0 0) s m #[.ref (ad 0 1000), .int (Int32.ofInt a1)] below meth c H locs 0 0 QQ (F0 m 352 ls [.int (Int32.ofInt s0)]) := by
    intro s0 σ H locs ls hP hD hS hl hw
    unfold wpX11_formed_352 at hw
    exact hret s0 σ _ _ _ _ hw hP hD hS dX11_formed_352
  have j295 : ∀ (σ : ZS), ∀ (H : Heap) (locs : List Loc) (ls : Array Slot), va_P D vwC (zR dA ad σ) H → va_D A (zR dA ad σ) → va_S A s.heap H locs → lv_has ls 6 [] → wpX11_formed_295 σ Q → W p l e (gR 5 0 0) s m #[.ref (ad 0 1000), .int (Int32.ofInt a1)] below meth c H locs 0 0 QQ (F0 m 295 ls []) := by
    intro σ H locs ls hP hD hS hl hw
    unfold wpX11_formed_295 at hw
    refine lv_iconst (v := Int32.ofInt 2) hx hb dX11_formed_295 (by decide) ?_
    exact hret 2 σ _ _ _ _ hw hP hD hS dX11_formed_296
  have j219 : ∀ (σ : ZS), ∀ (H : Heap) (locs : List Loc) (ls : Array Slot), va_P D vwC (zR dA ad σ) H → va_D A (zR dA ad σ) → va_S A s.heap H locs → lv_has ls 6 [] → wpX11_formed_219 σ Q → W p l e (gR 5 0 0) s m #[.ref (ad 0 1000), .int (Int32.ofInt a1)] below meth c H locs 0 0 QQ (F0 m 219 ls []) := by
    intro σ H locs ls hP hD hS hl hw
    unfold wpX11_formed_219 at hw
    refine lv_iconst (v := Int32.ofInt 0) hx hb dX11_formed_219 (by decide) ?_
    exact hret 0 σ _ _ _ _ hw hP hD hS dX11_formed_220
  have j111 : ∀ (σ : ZS), ∀ (H : Heap) (locs : List Loc) (ls : Array Slot), va_P D vwC (zR dA ad σ) H → va_D A (zR dA ad σ) → va_S A s.heap H locs → lv_has ls 6 [] → wpX11_formed_111 σ Q → W p l e (gR 5 0 0) s m #[.ref (ad 0 1000), .int (Int32.ofInt a1)] below meth c H locs 0 0 QQ (F0 m 111 ls []) := by
    intro σ H locs ls hP hD hS hl hw
    unfold wpX11_formed_111 at hw
    refine lv_iconst (v := Int32.ofInt 0) hx hb dX11_formed_111 (by decide) ?_
    exact hret 0 σ _ _ _ _ hw hP hD hS dX11_formed_112
  have j63 : ∀ (v1 v2 v3 s0 : Int) (σ : ZS), ∀ (H : Heap) (locs : List Loc) (ls : Array Slot), va_P D vwC (zR dA ad σ) H → va_D A (zR dA ad σ) → va_S A s.heap H locs → lv_has ls 6 [(0, .ref (ad 0 1000)), (1, .int (Int32.ofInt v1)), (2, .int (Int32.ofInt v2)), (3, .int (Int32.ofInt v3))] → wpX11_formed_63 v1 v2 v3 s0 σ Q → W p l e (gR 5 0 0) s m #[.ref (ad 0 1000), .int (Int32.ofInt a1)] below meth c H locs 0 0 QQ (F0 m 63 ls [.int (Int32.ofInt s0)]) := by
    intro v1 v2 v3 s0 σ H locs ls hP hD hS hl hw
    unfold wpX11_formed_63 at hw
    refine lv_istore (lv' := [(4, .int (Int32.ofInt s0)), (0, .ref (ad 0 1000)), (1, .int (Int32.ofInt v1)), (2, .int (Int32.ofInt v2)), (3, .int (Int32.ofInt v3))]) hx hb dX11_formed_63 hl (by decide) rfl (fun ls hl => ?_)
    refine lv_aload_n hx hb dX11_formed_65 rfl (lv_at hl 1 rfl) ?_
    refine lv_iload_n hx hb dX11_formed_66 rfl (lv_at hl 3 rfl) ?_
    refine lv_iload_n hx hb dX11_formed_67 rfl (lv_at hl 4 rfl) ?_
    refine lv_iload hx hb dX11_formed_68 (lv_at hl 0 rfl) ?_
    refine z_Vi (n := 3) (As := [.int (Int32.ofInt v2), .int (Int32.ofInt v3), .int (Int32.ofInt s0)]) (rest := []) hx hb hml hg hown hK hP hD hS hA (kX11_reckoned l D dA ad v2 v3 s0 σ _ _ hw) (zoR0) rfl q2164 q160 q2161 q2163 q137 (by decide +kernel) ⟨(Nat.le_of_ble_eq_true rfl), (Nat.le_of_ble_eq_true rfl)⟩ rfl hl.1 rfl (Nat.le_of_ble_eq_true rfl) dX11_formed_70 ⟨(Nat.le_of_ble_eq_true rfl), (Nat.le_of_ble_eq_true rfl)⟩ (fun x1 σ2 H locs hw hP hD hS => ?_)
    refine lv_istore (lv' := [(5, .int (Int32.ofInt x1)), (4, .int (Int32.ofInt s0)), (0, .ref (ad 0 1000)), (1, .int (Int32.ofInt v1)), (2, .int (Int32.ofInt v2)), (3, .int (Int32.ofInt v3))]) hx hb dX11_formed_73 hl (by decide) rfl (fun ls hl => ?_)
    refine lv_iload_n hx hb dX11_formed_75 rfl (lv_at hl 4 rfl) ?_
    refine lv_bipush (v := Int32.ofInt 7) hx hb dX11_formed_76 (by decide) ?_
    obtain ⟨o3, hw⟩ := hw
    refine z_icmp_ne (tgt := 83) hx hb o3 (by decide) dX11_formed_78 (by decide) (fun k4 => ?_) (fun k4 => ?_)
    · replace hw := hw.1 k4
      refine lv_iload_n hx hb dX11_formed_83 rfl (lv_at hl 3 rfl) ?_
      refine lv_bipush (v := Int32.ofInt 8) hx hb dX11_formed_84 (by decide) ?_
      obtain ⟨o5, hw⟩ := hw
      refine z_irem hx hb o5 (by decide) dX11_formed_86 ?_
      refine lv_iconst (v := Int32.ofInt 3) hx hb dX11_formed_87 (by decide) ?_
      refine z_icmp_ne (tgt := 105) hx hb (by clear hw; omega) (by decide) dX11_formed_88 (by decide) (fun k6 => ?_) (fun k6 => ?_)
      · replace hw := hw.1 k6
        refine lv_aload_n hx hb dX11_formed_105 rfl (lv_at hl 2 rfl) ?_
        refine lv_iload hx hb dX11_formed_106 (lv_at hl 0 rfl) ?_
        refine z_Vv (n := 1) (As := [.int (Int32.ofInt x1)]) (rest := []) hx hb hml hg hown hK hP hD hS hA (kX11_formSet l D dA ad x1 σ2 _ _ hw) (zoR0) rfl q2172 q160 q2169 q2171 q139 (by decide +kernel) ⟨(Nat.le_of_ble_eq_true rfl), (Nat.le_of_ble_eq_true rfl)⟩ rfl hl.1 rfl (Nat.le_of_ble_eq_true rfl) dX11_formed_108 ⟨(Nat.le_of_ble_eq_true rfl), (Nat.le_of_ble_eq_true rfl)⟩ (fun σ8 H locs hw hP hD hS => ?_)
        exact j111 σ8 _ _ _ hP hD hS (lv_sub hl [] rfl) hw
      · replace hw := hw.2 k6
        refine lv_aload_n hx hb dX11_formed_91 rfl (lv_at hl 2 rfl) ?_
        refine zgR0_75 hx hb hg hown hK hP q1690 dX11_formed_92 ?_
        refine lv_aload_n hx hb dX11_formed_95 rfl (lv_at hl 2 rfl) ?_
        refine zgR0_82 hx hb hg hown hK hP q1697 dX11_formed_96 ?_
        refine lv_iload hx hb dX11_formed_99 (lv_at hl 0 rfl) ?_
        obtain ⟨o9, hw⟩ := hw
        refine zsR0_75 (v := x1) hx hb o9 hK hP hD hS dX11_formed_101 (fun H locs hP hD hS => ?_)
        refine lv_goto (tgt := 111) hx hb dX11_formed_102 (by decide) ?_
        exact j111 (zsA σ2 0 75 (zI σ2 0 82) x1) _ _ _ hP hD hS (lv_sub hl [] rfl) hw
    · replace hw := hw.2 k4
      refine lv_iconst (v := Int32.ofInt 0) hx hb dX11_formed_81 (by decide) ?_
      exact hret 0 σ2 _ _ _ _ hw hP hD hS dX11_formed_82
  have j38 : ∀ (v1 v2 s0 : Int) (σ : ZS), ∀ (H : Heap) (locs : List Loc) (ls : Array Slot), va_P D vwC (zR dA ad σ) H → va_D A (zR dA ad σ) → va_S A s.heap H locs → lv_has ls 6 [(0, .ref (ad 0 1000)), (1, .int (Int32.ofInt v1)), (2, .int (Int32.ofInt v2))] → wpX11_formed_38 v1 v2 s0 σ Q → W p l e (gR 5 0 0) s m #[.ref (ad 0 1000), .int (Int32.ofInt a1)] below meth c H locs 0 0 QQ (F0 m 38 ls [.int (Int32.ofInt s0)]) := by
    intro v1 v2 s0 σ H locs ls hP hD hS hl hw
    unfold wpX11_formed_38 at hw
    refine lv_istore_n (lv' := [(3, .int (Int32.ofInt s0)), (0, .ref (ad 0 1000)), (1, .int (Int32.ofInt v1)), (2, .int (Int32.ofInt v2))]) hx hb dX11_formed_38 rfl hl (by decide) rfl (fun ls hl => ?_)
    refine lv_iload_n hx hb dX11_formed_39 rfl (lv_at hl 2 rfl) ?_
    refine lv_bipush (v := Int32.ofInt 8) hx hb dX11_formed_40 (by decide) ?_
    obtain ⟨o10, hw⟩ := hw
    refine z_irem hx hb o10 (by decide) dX11_formed_42 ?_
    refine lv_iconst (v := Int32.ofInt 3) hx hb dX11_formed_43 (by decide) ?_
    refine z_icmp_ne (tgt := 54) hx hb (by clear hw; omega) (by decide) dX11_formed_44 (by decide) (fun k11 => ?_) (fun k11 => ?_)
    · replace hw := hw.1 k11
      refine lv_aload_n hx hb dX11_formed_54 rfl (lv_at hl 1 rfl) ?_
      refine zgR0_75 hx hb hg hown hK hP q1690 dX11_formed_55 ?_
      refine lv_aload_n hx hb dX11_formed_58 rfl (lv_at hl 1 rfl) ?_
      refine zgR0_82 hx hb hg hown hK hP q1697 dX11_formed_59 ?_
      obtain ⟨o12, hw⟩ := hw
      refine zlR0_75 hx hb o12 hK hP dX11_formed_62 ?_
      exact j63 v1 v2 s0 (zA σ 0 75 (zI σ 0 82)) σ _ _ _ hP hD hS (lv_sub hl [1, 2, 3, 0] rfl) hw
    · replace hw := hw.2 k11
      refine lv_aload_n hx hb dX11_formed_47 rfl (lv_at hl 1 rfl) ?_
      refine z_Vi (n := 0) (As := []) (rest := []) hx hb hml hg hown hK hP hD hS hA (kX11_formGet l D dA ad σ _ _ hw) (zoR0) rfl q2156 q160 q2153 q2155 q135 (by decide +kernel) ⟨(Nat.le_of_ble_eq_true rfl), (Nat.le_of_ble_eq_true rfl)⟩ rfl hl.1 rfl (Nat.le_of_ble_eq_true rfl) dX11_formed_48 ⟨(Nat.le_of_ble_eq_true rfl), (Nat.le_of_ble_eq_true rfl)⟩ (fun x13 σ14 H locs hw hP hD hS => ?_)
      refine lv_goto (tgt := 63) hx hb dX11_formed_51 (by decide) ?_
      exact j63 v1 v2 s0 x13 σ14 _ _ _ hP hD hS (lv_sub hl [1, 2, 3, 0] rfl) hw
  unfold wpX11_formed at hw
  refine lv_aload_n hx hb dX11_formed_0 rfl (lv_at hl 0 rfl) ?_
  refine z_Vv (n := 0) (As := []) (rest := []) hx hb hml hg hown hK hP hD hS hA (kX11_readForm l D dA ad σ _ _ hw) (zoR0) rfl q2144 q160 q2141 q2143 q132 (by decide +kernel) ⟨(Nat.le_of_ble_eq_true rfl), (Nat.le_of_ble_eq_true rfl)⟩ rfl hl.1 rfl (Nat.le_of_ble_eq_true rfl) dX11_formed_1 ⟨(Nat.le_of_ble_eq_true rfl), (Nat.le_of_ble_eq_true rfl)⟩ (fun σ16 H locs hw hP hD hS => ?_)
  refine lv_iload_n hx hb dX11_formed_4 rfl (lv_at hl 1 rfl) ?_
  refine lv_iconst (v := Int32.ofInt 3) hx hb dX11_formed_5 (by decide) ?_
  obtain ⟨o17, hw⟩ := hw
  refine z_ishrK (M := 8) hx hb 3 (by decide) (by decide) (by decide) o17 dX11_formed_6 ?_
  refine lv_istore_n (lv' := [(2, .int (Int32.ofInt (a1 / 8))), (0, .ref (ad 0 1000)), (1, .int (Int32.ofInt a1))]) hx hb dX11_formed_7 rfl hl (by decide) rfl (fun ls hl => ?_)
  refine lv_iload_n hx hb dX11_formed_8 rfl (lv_at hl 2 rfl) ?_
  refine lv_bipush (v := Int32.ofInt 64) hx hb dX11_formed_9 (by decide) ?_
  refine z_icmp_ge (tgt := 113) hx hb o17 (by decide) dX11_formed_11 (by decide) (fun k18 => ?_) (fun k18 => ?_)
  · replace hw := hw.1 k18
    refine lv_iload_n hx hb dX11_formed_113 rfl (lv_at hl 2 rfl) ?_
    have t19 := z_ti o17
    by_cases s20 : a1 = 129
    · replace hw := hw.1 s20
      refine lv_lookup (off := 58) (tgt := 172) hx hb dX11_formed_114 (by decide) (by rw [t19, s20]; rfl) (by decide) ?_
      refine lv_aload_n hx hb dX11_formed_172 rfl (lv_at hl 1 rfl) ?_
      refine zgR0_82 hx hb hg hown hK hP q1697 dX11_formed_173 ?_
      refine z_Si (n := 1) (As := [.int (Int32.ofInt (zI σ16 0 82))]) (rest := []) hx hb hml hg hown hK hP hD hS hA (kX11_operation l D dA ad (zI σ16 0 82) σ16 _ _ hw) q2136 q160 q2134 q2135 (by decide +kernel) ⟨(Nat.le_of_ble_eq_true rfl), (Nat.le_of_ble_eq_true rfl)⟩ rfl hl.1 rfl (Nat.le_of_ble_eq_true rfl) dX11_formed_176 ⟨(Nat.le_of_ble_eq_true rfl), (Nat.le_of_ble_eq_true rfl)⟩ (fun x21 σ22 H locs hw hP hD hS => ?_)
      obtain ⟨o23, hw⟩ := hw
      refine z_if_ne (tgt := 184) hx hb o23 dX11_formed_179 (by decide) (fun k24 => ?_) (fun k24 => ?_)
      · replace hw := hw.1 k24
        refine lv_aload_n hx hb dX11_formed_184 rfl (lv_at hl 1 rfl) ?_
        refine z_Vi (n := 0) (As := []) (rest := []) hx hb hml hg hown hK hP hD hS hA (kX11_fetchTwo l D dA ad σ22 _ _ hw) (zoR0) rfl q2148 q160 q2145 q2147 q133 (by decide +kernel) ⟨(Nat.le_of_ble_eq_true rfl), (Nat.le_of_ble_eq_true rfl)⟩ rfl hl.1 rfl (Nat.le_of_ble_eq_true rfl) dX11_formed_185 ⟨(Nat.le_of_ble_eq_true rfl), (Nat.le_of_ble_eq_true rfl)⟩ (fun x25 σ26 H locs hw hP hD hS => ?_)
        refine lv_istore_n (lv' := [(3, .int (Int32.ofInt x25)), (2, .int (Int32.ofInt (a1 / 8))), (0, .ref (ad 0 1000)), (1, .int (Int32.ofInt a1))]) hx hb dX11_formed_188 rfl hl (by decide) rfl (fun ls hl => ?_)
        refine lv_aload_n hx hb dX11_formed_189 rfl (lv_at hl 2 rfl) ?_
        refine lv_aload_n hx hb dX11_formed_190 rfl (lv_at hl 2 rfl) ?_
        refine zgR0_82 hx hb hg hown hK hP q1697 dX11_formed_191 ?_
        refine lv_aload_n hx hb dX11_formed_194 rfl (lv_at hl 2 rfl) ?_
        refine z_Vi (n := 0) (As := []) (rest := [.int (Int32.ofInt (zI σ26 0 82)), .ref (ad 0 1000)]) hx hb hml hg hown hK hP hD hS hA (kX11_formGet l D dA ad σ26 _ _ hw) (zoR0) rfl q2156 q160 q2153 q2155 q135 (by decide +kernel) ⟨(Nat.le_of_ble_eq_true rfl), (Nat.le_of_ble_eq_true rfl)⟩ rfl hl.1 rfl (Nat.le_of_ble_eq_true rfl) dX11_formed_195 ⟨(Nat.le_of_ble_eq_true rfl), (Nat.le_of_ble_eq_true rfl)⟩ (fun x27 σ28 H locs hw hP hD hS => ?_)
        refine lv_iload_n hx hb dX11_formed_198 rfl (lv_at hl 0 rfl) ?_
        refine z_Vi (n := 3) (As := [.int (Int32.ofInt (zI σ26 0 82)), .int (Int32.ofInt x27), .int (Int32.ofInt x25)]) (rest := []) hx hb hml hg hown hK hP hD hS hA (kX11_reckoned l D dA ad (zI σ26 0 82) x27 x25 σ28 _ _ hw) (zoR0) rfl q2164 q160 q2161 q2163 q137 (by decide +kernel) ⟨(Nat.le_of_ble_eq_true rfl), (Nat.le_of_ble_eq_true rfl)⟩ rfl hl.1 rfl (Nat.le_of_ble_eq_true rfl) dX11_formed_199 ⟨(Nat.le_of_ble_eq_true rfl), (Nat.le_of_ble_eq_true rfl)⟩ (fun x29 σ30 H locs hw hP hD hS => ?_)
        refine lv_istore (lv' := [(4, .int (Int32.ofInt x29)), (3, .int (Int32.ofInt x25)), (2, .int (Int32.ofInt (a1 / 8))), (0, .ref (ad 0 1000)), (1, .int (Int32.ofInt a1))]) hx hb dX11_formed_202 hl (by decide) rfl (fun ls hl => ?_)
        refine lv_aload_n hx hb dX11_formed_204 rfl (lv_at hl 3 rfl) ?_
        refine zgR0_82 hx hb hg hown hK hP q1697 dX11_formed_205 ?_
        refine lv_bipush (v := Int32.ofInt 7) hx hb dX11_formed_208 (by decide) ?_
        obtain ⟨o31, hw⟩ := hw
        refine z_icmp_eq (tgt := 219) hx hb o31 (by decide) dX11_formed_210 (by decide) (fun k32 => ?_) (fun k32 => ?_)
        · replace hw := hw.1 k32
          exact j219 σ30 _ _ _ hP hD hS (lv_sub hl [] rfl) hw
        · replace hw := hw.2 k32
          refine lv_aload_n hx hb dX11_formed_213 rfl (lv_at hl 3 rfl) ?_
          refine lv_iload hx hb dX11_formed_214 (lv_at hl 0 rfl) ?_
          refine z_Vv (n := 1) (As := [.int (Int32.ofInt x29)]) (rest := []) hx hb hml hg hown hK hP hD hS hA (kX11_formSet l D dA ad x29 σ30 _ _ hw) (zoR0) rfl q2172 q160 q2169 q2171 q139 (by decide +kernel) ⟨(Nat.le_of_ble_eq_true rfl), (Nat.le_of_ble_eq_true rfl)⟩ rfl hl.1 rfl (Nat.le_of_ble_eq_true rfl) dX11_formed_216 ⟨(Nat.le_of_ble_eq_true rfl), (Nat.le_of_ble_eq_true rfl)⟩ (fun σ34 H locs hw hP hD hS => ?_)
          exact j219 σ34 _ _ _ hP hD hS (lv_sub hl [] rfl) hw
      · replace hw := hw.2 k24
        refine lv_iconst (v := Int32.ofInt 2) hx hb dX11_formed_182 (by decide) ?_
        exact hret 2 σ22 _ _ _ _ hw hP hD hS dX11_formed_183
    replace hw := hw.2 s20
    by_cases s35 : a1 = 137
    · replace hw := hw.1 s35
      refine lv_lookup (off := 107) (tgt := 221) hx hb dX11_formed_114 (by decide) (by rw [t19, s35]; rfl) (by decide) ?_
      refine lv_aload_n hx hb dX11_formed_221 rfl (lv_at hl 1 rfl) ?_
      refine lv_aload_n hx hb dX11_formed_222 rfl (lv_at hl 1 rfl) ?_
      refine zgR0_75 hx hb hg hown hK hP q1690 dX11_formed_223 ?_
      refine lv_aload_n hx hb dX11_formed_226 rfl (lv_at hl 1 rfl) ?_
      refine zgR0_82 hx hb hg hown hK hP q1697 dX11_formed_227 ?_
      obtain ⟨o36, hw⟩ := hw
      refine zlR0_75 hx hb o36 hK hP dX11_formed_230 ?_
      refine z_Vv (n := 1) (As := [.int (Int32.ofInt (zA σ16 0 75 (zI σ16 0 82)))]) (rest := []) hx hb hml hg hown hK hP hD hS hA (kX11_formSet l D dA ad (zA σ16 0 75 (zI σ16 0 82)) σ16 _ _ hw) (zoR0) rfl q2172 q160 q2169 q2171 q139 (by decide +kernel) ⟨(Nat.le_of_ble_eq_true rfl), (Nat.le_of_ble_eq_true rfl)⟩ rfl hl.1 rfl (Nat.le_of_ble_eq_true rfl) dX11_formed_231 ⟨(Nat.le_of_ble_eq_true rfl), (Nat.le_of_ble_eq_true rfl)⟩ (fun σ38 H locs hw hP hD hS => ?_)
      refine lv_iconst (v := Int32.ofInt 0) hx hb dX11_formed_234 (by decide) ?_
      exact hret 0 σ38 _ _ _ _ hw hP hD hS dX11_formed_235
    replace hw := hw.2 s35
    by_cases s39 : a1 = 139
    · replace hw := hw.1 s39
      refine lv_lookup (off := 122) (tgt := 236) hx hb dX11_formed_114 (by decide) (by rw [t19, s39]; rfl) (by decide) ?_
      refine lv_aload_n hx hb dX11_formed_236 rfl (lv_at hl 1 rfl) ?_
      refine zgR0_75 hx hb hg hown hK hP q1690 dX11_formed_237 ?_
      refine lv_aload_n hx hb dX11_formed_240 rfl (lv_at hl 1 rfl) ?_
      refine zgR0_82 hx hb hg hown hK hP q1697 dX11_formed_241 ?_
      refine lv_aload_n hx hb dX11_formed_244 rfl (lv_at hl 1 rfl) ?_
      refine z_Vi (n := 0) (As := []) (rest := [.int (Int32.ofInt (zI σ16 0 82)), .ref (ad 0 75)]) hx hb hml hg hown hK hP hD hS hA (kX11_formGet l D dA ad σ16 _ _ hw) (zoR0) rfl q2156 q160 q2153 q2155 q135 (by decide +kernel) ⟨(Nat.le_of_ble_eq_true rfl), (Nat.le_of_ble_eq_true rfl)⟩ rfl hl.1 rfl (Nat.le_of_ble_eq_true rfl) dX11_formed_245 ⟨(Nat.le_of_ble_eq_true rfl), (Nat.le_of_ble_eq_true rfl)⟩ (fun x40 σ41 H locs hw hP hD hS => ?_)
      obtain ⟨o42, hw⟩ := hw
      refine zsR0_75 (v := x40) hx hb o42 hK hP hD hS dX11_formed_248 (fun H locs hP hD hS => ?_)
      refine lv_iconst (v := Int32.ofInt 0) hx hb dX11_formed_249 (by decide) ?_
      exact hret 0 (zsA σ41 0 75 (zI σ16 0 82) x40) _ _ _ _ hw hP hD hS dX11_formed_250
    replace hw := hw.2 s39
    by_cases s43 : a1 = 140
    · replace hw := hw.1 s43
      refine lv_lookup (off := 137) (tgt := 251) hx hb dX11_formed_114 (by decide) (by rw [t19, s43]; rfl) (by decide) ?_
      refine lv_aload_n hx hb dX11_formed_251 rfl (lv_at hl 1 rfl) ?_
      refine zgR0_82 hx hb hg hown hK hP q1697 dX11_formed_252 ?_
      refine lv_iconst (v := Int32.ofInt 3) hx hb dX11_formed_255 (by decide) ?_
      obtain ⟨o44, hw⟩ := hw
      refine z_icmp_le (tgt := 261) hx hb o44 (by decide) dX11_formed_256 (by decide) (fun k45 => ?_) (fun k45 => ?_)
      · replace hw := hw.1 k45
        refine lv_aload_n hx hb dX11_formed_261 rfl (lv_at hl 1 rfl) ?_
        refine lv_aload_n hx hb dX11_formed_262 rfl (lv_at hl 1 rfl) ?_
        refine zgR0_75 hx hb hg hown hK hP q1690 dX11_formed_263 ?_
        refine lv_bipush (v := Int32.ofInt 8) hx hb dX11_formed_266 (by decide) ?_
        refine lv_aload_n hx hb dX11_formed_268 rfl (lv_at hl 1 rfl) ?_
        refine zgR0_82 hx hb hg hown hK hP q1697 dX11_formed_269 ?_
        refine z_iadd hx hb dX11_formed_272 ?_
        obtain ⟨o46, hw⟩ := hw
        refine zlR0_75 hx hb o46 hK hP dX11_formed_273 ?_
        refine z_Vv (n := 1) (As := [.int (Int32.ofInt (zA σ16 0 75 (8 + (zI σ16 0 82))))]) (rest := []) hx hb hml hg hown hK hP hD hS hA (kX11_formSet l D dA ad (zA σ16 0 75 (8 + (zI σ16 0 82))) σ16 _ _ hw) (zoR0) rfl q2172 q160 q2169 q2171 q139 (by decide +kernel) ⟨(Nat.le_of_ble_eq_true rfl), (Nat.le_of_ble_eq_true rfl)⟩ rfl hl.1 rfl (Nat.le_of_ble_eq_true rfl) dX11_formed_274 ⟨(Nat.le_of_ble_eq_true rfl), (Nat.le_of_ble_eq_true rfl)⟩ (fun σ48 H locs hw hP hD hS => ?_)
        refine lv_iconst (v := Int32.ofInt 0) hx hb dX11_formed_277 (by decide) ?_
        exact hret 0 σ48 _ _ _ _ hw hP hD hS dX11_formed_278
      · replace hw := hw.2 k45
        refine lv_iconst (v := Int32.ofInt 2) hx hb dX11_formed_259 (by decide) ?_
        exact hret 2 σ16 _ _ _ _ hw hP hD hS dX11_formed_260
    replace hw := hw.2 s43
    by_cases s49 : a1 = 142
    · replace hw := hw.1 s49
      refine lv_lookup (off := 165) (tgt := 279) hx hb dX11_formed_114 (by decide) (by rw [t19, s49]; rfl) (by decide) ?_
      refine lv_aload_n hx hb dX11_formed_279 rfl (lv_at hl 1 rfl) ?_
      refine zgR0_82 hx hb hg hown hK hP q1697 dX11_formed_280 ?_
      refine lv_iconst (v := Int32.ofInt 3) hx hb dX11_formed_283 (by decide) ?_
      obtain ⟨o50, hw⟩ := hw
      refine z_icmp_gt (tgt := 295) hx hb o50 (by decide) dX11_formed_284 (by decide) (fun k51 => ?_) (fun k51 => ?_)
      · replace hw := hw.1 k51
        exact j295 σ16 _ _ _ hP hD hS (lv_sub hl [] rfl) hw
      · replace hw := hw.2 k51
        refine lv_aload_n hx hb dX11_formed_287 rfl (lv_at hl 1 rfl) ?_
        refine zgR0_82 hx hb hg hown hK hP q1697 dX11_formed_288 ?_
        refine lv_iconst (v := Int32.ofInt 1) hx hb dX11_formed_291 (by decide) ?_
        refine z_icmp_ne (tgt := 297) hx hb o50 (by decide) dX11_formed_292 (by decide) (fun k52 => ?_) (fun k52 => ?_)
        · replace hw := hw.1 k52
          refine lv_aload_n hx hb dX11_formed_297 rfl (lv_at hl 1 rfl) ?_
          refine zgR0_75 hx hb hg hown hK hP q1690 dX11_formed_298 ?_
          refine lv_bipush (v := Int32.ofInt 8) hx hb dX11_formed_301 (by decide) ?_
          refine lv_aload_n hx hb dX11_formed_303 rfl (lv_at hl 1 rfl) ?_
          refine zgR0_82 hx hb hg hown hK hP q1697 dX11_formed_304 ?_
          refine z_iadd hx hb dX11_formed_307 ?_
          refine lv_aload_n hx hb dX11_formed_308 rfl (lv_at hl 1 rfl) ?_
          refine z_Vi (n := 0) (As := []) (rest := [.int (Int32.ofInt (8 + (zI σ16 0 82))), .ref (ad 0 75)]) hx hb hml hg hown hK hP hD hS hA (kX11_formGet l D dA ad σ16 _ _ hw) (zoR0) rfl q2156 q160 q2153 q2155 q135 (by decide +kernel) ⟨(Nat.le_of_ble_eq_true rfl), (Nat.le_of_ble_eq_true rfl)⟩ rfl hl.1 rfl (Nat.le_of_ble_eq_true rfl) dX11_formed_309 ⟨(Nat.le_of_ble_eq_true rfl), (Nat.le_of_ble_eq_true rfl)⟩ (fun x53 σ54 H locs hw hP hD hS => ?_)
          obtain ⟨o55, hw⟩ := hw
          refine zsR0_75 (v := x53) hx hb o55 hK hP hD hS dX11_formed_312 (fun H locs hP hD hS => ?_)
          refine lv_iconst (v := Int32.ofInt 0) hx hb dX11_formed_313 (by decide) ?_
          exact hret 0 (zsA σ54 0 75 (8 + (zI σ16 0 82)) x53) _ _ _ _ hw hP hD hS dX11_formed_314
        · replace hw := hw.2 k52
          exact j295 σ16 _ _ _ hP hD hS (lv_sub hl [] rfl) hw
    replace hw := hw.2 s49
    by_cases s56 : a1 = 199
    · replace hw := hw.1 s56
      refine lv_lookup (off := 201) (tgt := 315) hx hb dX11_formed_114 (by decide) (by rw [t19, s56]; rfl) (by decide) ?_
      refine lv_aload_n hx hb dX11_formed_315 rfl (lv_at hl 1 rfl) ?_
      refine zgR0_82 hx hb hg hown hK hP q1697 dX11_formed_316 ?_
      obtain ⟨o57, hw⟩ := hw
      refine z_if_eq (tgt := 324) hx hb o57 dX11_formed_319 (by decide) (fun k58 => ?_) (fun k58 => ?_)
      · replace hw := hw.1 k58
        refine lv_aload_n hx hb dX11_formed_324 rfl (lv_at hl 1 rfl) ?_
        refine lv_aload_n hx hb dX11_formed_325 rfl (lv_at hl 1 rfl) ?_
        refine z_Vi (n := 0) (As := []) (rest := [.ref (ad 0 1000)]) hx hb hml hg hown hK hP hD hS hA (kX11_fetchTwo l D dA ad σ16 _ _ hw) (zoR0) rfl q2148 q160 q2145 q2147 q133 (by decide +kernel) ⟨(Nat.le_of_ble_eq_true rfl), (Nat.le_of_ble_eq_true rfl)⟩ rfl hl.1 rfl (Nat.le_of_ble_eq_true rfl) dX11_formed_326 ⟨(Nat.le_of_ble_eq_true rfl), (Nat.le_of_ble_eq_true rfl)⟩ (fun x59 σ60 H locs hw hP hD hS => ?_)
        refine z_Vv (n := 1) (As := [.int (Int32.ofInt x59)]) (rest := []) hx hb hml hg hown hK hP hD hS hA (kX11_formSet l D dA ad x59 σ60 _ _ hw) (zoR0) rfl q2172 q160 q2169 q2171 q139 (by decide +kernel) ⟨(Nat.le_of_ble_eq_true rfl), (Nat.le_of_ble_eq_true rfl)⟩ rfl hl.1 rfl (Nat.le_of_ble_eq_true rfl) dX11_formed_329 ⟨(Nat.le_of_ble_eq_true rfl), (Nat.le_of_ble_eq_true rfl)⟩ (fun σ62 H locs hw hP hD hS => ?_)
        refine lv_iconst (v := Int32.ofInt 0) hx hb dX11_formed_332 (by decide) ?_
        exact hret 0 σ62 _ _ _ _ hw hP hD hS dX11_formed_333
      · replace hw := hw.2 k58
        refine lv_iconst (v := Int32.ofInt 2) hx hb dX11_formed_322 (by decide) ?_
        exact hret 2 σ16 _ _ _ _ hw hP hD hS dX11_formed_323
    replace hw := hw.2 s56
    refine lv_lookup (off := 220) (tgt := 334) hx hb dX11_formed_114 (by decide) (by rw [t19]; exact (z_osw s20).trans ((z_osw s35).trans ((z_osw s39).trans ((z_osw s43).trans ((z_osw s49).trans ((z_osw s56).trans (rfl))))))) (by decide) ?_
    refine lv_iload_n hx hb dX11_formed_334 rfl (lv_at hl 2 rfl) ?_
    refine lv_sipush (v := Int32.ofInt 209) hx hb dX11_formed_335 (by decide) ?_
    refine z_icmp_ne (tgt := 348) hx hb o17 (by decide) dX11_formed_338 (by decide) (fun k63 => ?_) (fun k63 => ?_)
    · replace hw := hw.1 k63
      refine lv_aload_n hx hb dX11_formed_348 rfl (lv_at hl 1 rfl) ?_
      refine z_Vi (n := 0) (As := []) (rest := []) hx hb hml hg hown hK hP hD hS hA (kX11_group l D dA ad σ16 _ _ hw) (zoR0) rfl q2184 q160 q2181 q2183 q142 (by decide +kernel) ⟨(Nat.le_of_ble_eq_true rfl), (Nat.le_of_ble_eq_true rfl)⟩ rfl hl.1 rfl (Nat.le_of_ble_eq_true rfl) dX11_formed_349 ⟨(Nat.le_of_ble_eq_true rfl), (Nat.le_of_ble_eq_true rfl)⟩ (fun x64 σ65 H locs hw hP hD hS => ?_)
      exact j352 x64 σ65 _ _ _ hP hD hS (lv_sub hl [] rfl) hw
    · replace hw := hw.2 k63
      refine lv_aload_n hx hb dX11_formed_341 rfl (lv_at hl 1 rfl) ?_
      refine z_Vi (n := 0) (As := []) (rest := []) hx hb hml hg hown hK hP hD hS hA (kX11_shift l D dA ad σ16 _ _ hw) (zoR0) rfl q2180 q160 q2177 q2179 q141 (by decide +kernel) ⟨(Nat.le_of_ble_eq_true rfl), (Nat.le_of_ble_eq_true rfl)⟩ rfl hl.1 rfl (Nat.le_of_ble_eq_true rfl) dX11_formed_342 ⟨(Nat.le_of_ble_eq_true rfl), (Nat.le_of_ble_eq_true rfl)⟩ (fun x66 σ67 H locs hw hP hD hS => ?_)
      refine lv_goto (tgt := 352) hx hb dX11_formed_345 (by decide) ?_
      exact j352 x66 σ67 _ _ _ hP hD hS (lv_sub hl [] rfl) hw
  · replace hw := hw.2 k18
    refine lv_iload_n hx hb dX11_formed_14 rfl (lv_at hl 2 rfl) ?_
    refine lv_bipush (v := Int32.ofInt 8) hx hb dX11_formed_15 (by decide) ?_
    obtain ⟨o68, hw⟩ := hw
    refine z_irem hx hb o68 (by decide) dX11_formed_17 ?_
    refine lv_iconst (v := Int32.ofInt 3) hx hb dX11_formed_18 (by decide) ?_
    refine z_icmp_ne (tgt := 34) hx hb (by clear hw; omega) (by decide) dX11_formed_19 (by decide) (fun k69 => ?_) (fun k69 => ?_)
    · replace hw := hw.1 k69
      refine lv_aload_n hx hb dX11_formed_34 rfl (lv_at hl 1 rfl) ?_
      refine z_Vi (n := 0) (As := []) (rest := []) hx hb hml hg hown hK hP hD hS hA (kX11_formGet l D dA ad σ16 _ _ hw) (zoR0) rfl q2156 q160 q2153 q2155 q135 (by decide +kernel) ⟨(Nat.le_of_ble_eq_true rfl), (Nat.le_of_ble_eq_true rfl)⟩ rfl hl.1 rfl (Nat.le_of_ble_eq_true rfl) dX11_formed_35 ⟨(Nat.le_of_ble_eq_true rfl), (Nat.le_of_ble_eq_true rfl)⟩ (fun x70 σ71 H locs hw hP hD hS => ?_)
      exact j38 a1 (a1 / 8) x70 σ71 _ _ _ hP hD hS (lv_sub hl [1, 2, 0] rfl) hw
    · replace hw := hw.2 k69
      refine lv_aload_n hx hb dX11_formed_22 rfl (lv_at hl 1 rfl) ?_
      refine zgR0_75 hx hb hg hown hK hP q1690 dX11_formed_23 ?_
      refine lv_aload_n hx hb dX11_formed_26 rfl (lv_at hl 1 rfl) ?_
      refine zgR0_82 hx hb hg hown hK hP q1697 dX11_formed_27 ?_
      obtain ⟨o72, hw⟩ := hw
      refine zlR0_75 hx hb o72 hK hP dX11_formed_30 ?_
      refine lv_goto (tgt := 38) hx hb dX11_formed_31 (by decide) ?_
      exact j38 a1 (a1 / 8) (zA σ16 0 75 (zI σ16 0 82)) σ16 _ _ _ hP hD hS (lv_sub hl [1, 2, 0] rfl) hw
