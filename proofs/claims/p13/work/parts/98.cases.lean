theorem q148 : Cond.initialized RL ∈ gw := gw_in (i := 148) (by decide +kernel) rfl
theorem q643 : Cond.methodLink RL 71 yL_append ∈ gw := gw_in (i := 643) (by decide +kernel) rfl
theorem q644 : Cond.static yL_append ∈ gw := gw_in (i := 644) (by decide +kernel) rfl
theorem q645 : Cond.codeWith yL_append cL_append 6 (some .int) [(0, 11, 14, 13), (0, 11, 18, 15)] ∈ gw := gw_in (i := 645) (by decide +kernel) rfl
theorem q764 : Cond.methodLink RL 77 yL_assemble ∈ gw := gw_in (i := 764) (by decide +kernel) rfl
theorem q765 : Cond.static yL_assemble ∈ gw := gw_in (i := 765) (by decide +kernel) rfl
theorem q766 : Cond.codeWith yL_assemble cL_assemble 4 (some .int) [(0, 9, 12, 13), (0, 9, 15, 21), (0, 9, 18, 23), (0, 9, 21, 15), (0, 9, 24, 25)] ∈ gw := gw_in (i := 766) (by decide +kernel) rfl
theorem q1244 : Cond.methodLink RL 81 yL_drop ∈ gw := gw_in (i := 1244) (by decide +kernel) rfl
theorem q1245 : Cond.static yL_drop ∈ gw := gw_in (i := 1245) (by decide +kernel) rfl
theorem q1246 : Cond.codeWith yL_drop cL_drop 4 (some .int) [(0, 16, 19, 13)] ∈ gw := gw_in (i := 1246) (by decide +kernel) rfl
theorem q1252 : Cond.methodLink RL 84 yL_link ∈ gw := gw_in (i := 1252) (by decide +kernel) rfl
theorem q1253 : Cond.static yL_link ∈ gw := gw_in (i := 1253) (by decide +kernel) rfl
theorem q1254 : Cond.codeWith yL_link cL_link 3 (some .int) [(0, 8, 11, 35), (0, 8, 14, 21), (0, 8, 17, 23), (0, 8, 20, 15), (0, 8, 23, 25)] ∈ gw := gw_in (i := 1254) (by decide +kernel) rfl
theorem q1361 : Cond.methodLink RL 88 yL_load ∈ gw := gw_in (i := 1361) (by decide +kernel) rfl
theorem q1362 : Cond.static yL_load ∈ gw := gw_in (i := 1362) (by decide +kernel) rfl
theorem q1363 : Cond.codeWith yL_load cL_load 4 (some .int) [(0, 9, 12, 13), (0, 9, 15, 35)] ∈ gw := gw_in (i := 1363) (by decide +kernel) rfl
theorem q1383 : Cond.methodLink RL 91 yL_run ∈ gw := gw_in (i := 1383) (by decide +kernel) rfl
theorem q1384 : Cond.static yL_run ∈ gw := gw_in (i := 1384) (by decide +kernel) rfl
theorem q1385 : Cond.codeWith yL_run cL_run 4 (some .int) [(0, 9, 12, 13), (0, 9, 15, 35)] ∈ gw := gw_in (i := 1385) (by decide +kernel) rfl
theorem q1503 : Cond.methodLink RL 94 yL_code ∈ gw := gw_in (i := 1503) (by decide +kernel) rfl
theorem q1504 : Cond.static yL_code ∈ gw := gw_in (i := 1504) (by decide +kernel) rfl
theorem q1505 : Cond.codeWith yL_code cL_code 6 (some .int) [(0, 12, 15, 15)] ∈ gw := gw_in (i := 1505) (by decide +kernel) rfl
theorem q1513 : Cond.methodLink RL 98 yL_fixup ∈ gw := gw_in (i := 1513) (by decide +kernel) rfl
theorem q1514 : Cond.static yL_fixup ∈ gw := gw_in (i := 1514) (by decide +kernel) rfl
theorem q1515 : Cond.codeWith yL_fixup cL_fixup 6 (some .int) [(0, 12, 15, 13), (0, 12, 19, 15)] ∈ gw := gw_in (i := 1515) (by decide +kernel) rfl
theorem q1522 : Cond.methodLink RL 101 yL_image ∈ gw := gw_in (i := 1522) (by decide +kernel) rfl
theorem q1523 : Cond.static yL_image ∈ gw := gw_in (i := 1523) (by decide +kernel) rfl
theorem q1524 : Cond.codeWith yL_image cL_image 4 (some .int) [(0, 9, 12, 15)] ∈ gw := gw_in (i := 1524) (by decide +kernel) rfl
theorem q1529 : Cond.methodLink RL 104 yL_memory ∈ gw := gw_in (i := 1529) (by decide +kernel) rfl
theorem q1530 : Cond.static yL_memory ∈ gw := gw_in (i := 1530) (by decide +kernel) rfl
theorem q1531 : Cond.codeWith yL_memory cL_memory 4 (some .int) [(0, 9, 12, 13)] ∈ gw := gw_in (i := 1531) (by decide +kernel) rfl
theorem q1537 : Cond.methodLink RL 107 yL_register ∈ gw := gw_in (i := 1537) (by decide +kernel) rfl
theorem q1538 : Cond.static yL_register ∈ gw := gw_in (i := 1538) (by decide +kernel) rfl
theorem q1539 : Cond.codeWith yL_register cL_register 4 (some .int) [(0, 9, 12, 13)] ∈ gw := gw_in (i := 1539) (by decide +kernel) rfl
theorem q1545 : Cond.methodLink RL 110 yL_trace ∈ gw := gw_in (i := 1545) (by decide +kernel) rfl
theorem q1546 : Cond.static yL_trace ∈ gw := gw_in (i := 1546) (by decide +kernel) rfl
theorem q1547 : Cond.codeWith yL_trace cL_trace 4 (some .int) [(0, 9, 12, 15)] ∈ gw := gw_in (i := 1547) (by decide +kernel) rfl
theorem q1553 : Cond.methodLink RL 116 yL_count ∈ gw := gw_in (i := 1553) (by decide +kernel) rfl
theorem q1554 : Cond.static yL_count ∈ gw := gw_in (i := 1554) (by decide +kernel) rfl
theorem q1555 : Cond.codeWith yL_count cL_count 4 (some .int) [(0, 9, 12, 13)] ∈ gw := gw_in (i := 1555) (by decide +kernel) rfl
theorem q1872 : Cond.methodLink RL 113 yX11_thrown ∈ gw := gw_in (i := 1872) (by decide +kernel) rfl
theorem q1873 : Cond.instanceMethod yX11_thrown ∈ gw := gw_in (i := 1873) (by decide +kernel) rfl
theorem q1874 : Cond.selects RX11 yX11_thrown yX11_thrown ∈ gw := gw_in (i := 1874) (by decide +kernel) rfl
theorem q1875 : Cond.code yX11_thrown cX11_thrown 1 (some .int) ∈ gw := gw_in (i := 1875) (by decide +kernel) rfl
theorem q1876 : Cond.methodLink RL 76 yX11_append ∈ gw := gw_in (i := 1876) (by decide +kernel) rfl
theorem q1877 : Cond.instanceMethod yX11_append ∈ gw := gw_in (i := 1877) (by decide +kernel) rfl
theorem q1878 : Cond.selects RX11 yX11_append yX11_append ∈ gw := gw_in (i := 1878) (by decide +kernel) rfl
theorem q1879 : Cond.code yX11_append cX11_append 6 (some .int) ∈ gw := gw_in (i := 1879) (by decide +kernel) rfl
theorem q1884 : Cond.methodLink RL 80 yX11_assemble ∈ gw := gw_in (i := 1884) (by decide +kernel) rfl
theorem q1885 : Cond.instanceMethod yX11_assemble ∈ gw := gw_in (i := 1885) (by decide +kernel) rfl
theorem q1886 : Cond.selects RX11 yX11_assemble yX11_assemble ∈ gw := gw_in (i := 1886) (by decide +kernel) rfl
theorem q1887 : Cond.code yX11_assemble cX11_assemble 5 (some .int) ∈ gw := gw_in (i := 1887) (by decide +kernel) rfl
theorem q2066 : Cond.methodLink RL 83 yX11_drop ∈ gw := gw_in (i := 2066) (by decide +kernel) rfl
theorem q2067 : Cond.instanceMethod yX11_drop ∈ gw := gw_in (i := 2067) (by decide +kernel) rfl
theorem q2068 : Cond.selects RX11 yX11_drop yX11_drop ∈ gw := gw_in (i := 2068) (by decide +kernel) rfl
theorem q2069 : Cond.code yX11_drop cX11_drop 3 (some .boolean) ∈ gw := gw_in (i := 2069) (by decide +kernel) rfl
theorem q2070 : Cond.methodLink RL 87 yX11_link ∈ gw := gw_in (i := 2070) (by decide +kernel) rfl
theorem q2071 : Cond.instanceMethod yX11_link ∈ gw := gw_in (i := 2071) (by decide +kernel) rfl
theorem q2072 : Cond.selects RX11 yX11_link yX11_link ∈ gw := gw_in (i := 2072) (by decide +kernel) rfl
theorem q2073 : Cond.code yX11_link cX11_link 7 (some .int) ∈ gw := gw_in (i := 2073) (by decide +kernel) rfl
theorem q2111 : Cond.methodLink RL 90 yX11_load ∈ gw := gw_in (i := 2111) (by decide +kernel) rfl
theorem q2112 : Cond.instanceMethod yX11_load ∈ gw := gw_in (i := 2112) (by decide +kernel) rfl
theorem q2113 : Cond.selects RX11 yX11_load yX11_load ∈ gw := gw_in (i := 2113) (by decide +kernel) rfl
theorem q2114 : Cond.code yX11_load cX11_load 5 (some .int) ∈ gw := gw_in (i := 2114) (by decide +kernel) rfl
theorem q2115 : Cond.methodLink RL 93 yX11_run ∈ gw := gw_in (i := 2115) (by decide +kernel) rfl
theorem q2116 : Cond.instanceMethod yX11_run ∈ gw := gw_in (i := 2116) (by decide +kernel) rfl
theorem q2117 : Cond.selects RX11 yX11_run yX11_run ∈ gw := gw_in (i := 2117) (by decide +kernel) rfl
theorem q2118 : Cond.code yX11_run cX11_run 4 (some .int) ∈ gw := gw_in (i := 2118) (by decide +kernel) rfl
theorem q2206 : Cond.methodLink RL 97 yX11_code ∈ gw := gw_in (i := 2206) (by decide +kernel) rfl
theorem q2207 : Cond.instanceMethod yX11_code ∈ gw := gw_in (i := 2207) (by decide +kernel) rfl
theorem q2208 : Cond.selects RX11 yX11_code yX11_code ∈ gw := gw_in (i := 2208) (by decide +kernel) rfl
theorem q2209 : Cond.code yX11_code cX11_code 5 (some .int) ∈ gw := gw_in (i := 2209) (by decide +kernel) rfl
theorem q2210 : Cond.methodLink RL 100 yX11_fixup ∈ gw := gw_in (i := 2210) (by decide +kernel) rfl
theorem q2211 : Cond.instanceMethod yX11_fixup ∈ gw := gw_in (i := 2211) (by decide +kernel) rfl
theorem q2212 : Cond.selects RX11 yX11_fixup yX11_fixup ∈ gw := gw_in (i := 2212) (by decide +kernel) rfl
theorem q2213 : Cond.code yX11_fixup cX11_fixup 5 (some .int) ∈ gw := gw_in (i := 2213) (by decide +kernel) rfl
theorem q2214 : Cond.methodLink RL 103 yX11_image ∈ gw := gw_in (i := 2214) (by decide +kernel) rfl
theorem q2215 : Cond.instanceMethod yX11_image ∈ gw := gw_in (i := 2215) (by decide +kernel) rfl
theorem q2216 : Cond.selects RX11 yX11_image yX11_image ∈ gw := gw_in (i := 2216) (by decide +kernel) rfl
theorem q2217 : Cond.code yX11_image cX11_image 2 (some .int) ∈ gw := gw_in (i := 2217) (by decide +kernel) rfl
theorem q2218 : Cond.methodLink RL 106 yX11_memory ∈ gw := gw_in (i := 2218) (by decide +kernel) rfl
theorem q2219 : Cond.instanceMethod yX11_memory ∈ gw := gw_in (i := 2219) (by decide +kernel) rfl
theorem q2220 : Cond.selects RX11 yX11_memory yX11_memory ∈ gw := gw_in (i := 2220) (by decide +kernel) rfl
theorem q2221 : Cond.code yX11_memory cX11_memory 2 (some .int) ∈ gw := gw_in (i := 2221) (by decide +kernel) rfl
theorem q2222 : Cond.methodLink RL 109 yX11_register ∈ gw := gw_in (i := 2222) (by decide +kernel) rfl
theorem q2223 : Cond.instanceMethod yX11_register ∈ gw := gw_in (i := 2223) (by decide +kernel) rfl
theorem q2224 : Cond.selects RX11 yX11_register yX11_register ∈ gw := gw_in (i := 2224) (by decide +kernel) rfl
theorem q2225 : Cond.code yX11_register cX11_register 2 (some .int) ∈ gw := gw_in (i := 2225) (by decide +kernel) rfl
theorem q2226 : Cond.methodLink RL 112 yX11_trace ∈ gw := gw_in (i := 2226) (by decide +kernel) rfl
theorem q2227 : Cond.instanceMethod yX11_trace ∈ gw := gw_in (i := 2227) (by decide +kernel) rfl
theorem q2228 : Cond.selects RX11 yX11_trace yX11_trace ∈ gw := gw_in (i := 2228) (by decide +kernel) rfl
theorem q2229 : Cond.code yX11_trace cX11_trace 2 (some .int) ∈ gw := gw_in (i := 2229) (by decide +kernel) rfl
theorem q2230 : Cond.methodLink RL 118 yX11_count ∈ gw := gw_in (i := 2230) (by decide +kernel) rfl
theorem q2231 : Cond.instanceMethod yX11_count ∈ gw := gw_in (i := 2231) (by decide +kernel) rfl
theorem q2232 : Cond.selects RX11 yX11_count yX11_count ∈ gw := gw_in (i := 2232) (by decide +kernel) rfl
theorem q2233 : Cond.code yX11_count cX11_count 2 (some .int) ∈ gw := gw_in (i := 2233) (by decide +kernel) rfl
theorem q2234 : Cond.constantLong RL 69 (4294967295) ∈ gw := gw_in (i := 2234) (by decide +kernel) rfl
theorem dL_law_104 : decode cL_law 104 = .ok (.aload_n 1, 1) := by decide +kernel
theorem dL_law_105 : decode cL_law 105 = .ok (.aload_n 0, 1) := by decide +kernel
theorem dL_law_106 : decode cL_law 106 = .ok (.iload 4, 2) := by decide +kernel
theorem dL_law_108 : decode cL_law 108 = .ok (.iconst 1, 1) := by decide +kernel
theorem dL_law_109 : decode cL_law 109 = .ok (.iadd, 1) := by decide +kernel
theorem dL_law_110 : decode cL_law 110 = .ok (.iaload, 1) := by decide +kernel
theorem dL_law_111 : decode cL_law 111 = .ok (.i2l, 1) := by decide +kernel
theorem dL_law_112 : decode cL_law 112 = .ok (.bipush 32, 2) := by decide +kernel
theorem dL_law_114 : decode cL_law 114 = .ok (.lshl, 1) := by decide +kernel
theorem dL_law_115 : decode cL_law 115 = .ok (.aload_n 0, 1) := by decide +kernel
theorem dL_law_116 : decode cL_law 116 = .ok (.iload 4, 2) := by decide +kernel
theorem dL_law_118 : decode cL_law 118 = .ok (.iconst 2, 1) := by decide +kernel
theorem dL_law_119 : decode cL_law 119 = .ok (.iadd, 1) := by decide +kernel
theorem dL_law_120 : decode cL_law 120 = .ok (.iaload, 1) := by decide +kernel
theorem dL_law_121 : decode cL_law 121 = .ok (.i2l, 1) := by decide +kernel
theorem dL_law_122 : decode cL_law 122 = .ok (.ldc2_w 69, 3) := by decide +kernel
theorem dL_law_125 : decode cL_law 125 = .ok (.land, 1) := by decide +kernel
theorem dL_law_126 : decode cL_law 126 = .ok (.lor, 1) := by decide +kernel
theorem dL_law_127 : decode cL_law 127 = .ok (.aload_n 0, 1) := by decide +kernel
theorem dL_law_128 : decode cL_law 128 = .ok (.iload 4, 2) := by decide +kernel
theorem dL_law_130 : decode cL_law 130 = .ok (.iconst 3, 1) := by decide +kernel
theorem dL_law_131 : decode cL_law 131 = .ok (.iadd, 1) := by decide +kernel
theorem dL_law_132 : decode cL_law 132 = .ok (.iaload, 1) := by decide +kernel
theorem dL_law_133 : decode cL_law 133 = .ok (.aload_n 3, 1) := by decide +kernel
theorem dL_law_134 : decode cL_law 134 = .ok (.invokestatic 71, 3) := by decide +kernel
theorem dL_law_137 : decode cL_law 137 = .ok (.istore 5, 2) := by decide +kernel
theorem dL_law_139 : decode cL_law 139 = .ok (.aload_n 2, 1) := by decide +kernel
theorem dL_law_140 : decode cL_law 140 = .ok (.aload_n 0, 1) := by decide +kernel
theorem dL_law_141 : decode cL_law 141 = .ok (.iload 4, 2) := by decide +kernel
theorem dL_law_143 : decode cL_law 143 = .ok (.iconst 1, 1) := by decide +kernel
theorem dL_law_144 : decode cL_law 144 = .ok (.iadd, 1) := by decide +kernel
theorem dL_law_145 : decode cL_law 145 = .ok (.iaload, 1) := by decide +kernel
theorem dL_law_146 : decode cL_law 146 = .ok (.i2l, 1) := by decide +kernel
theorem dL_law_147 : decode cL_law 147 = .ok (.bipush 32, 2) := by decide +kernel
theorem dL_law_149 : decode cL_law 149 = .ok (.lshl, 1) := by decide +kernel
theorem dL_law_150 : decode cL_law 150 = .ok (.aload_n 0, 1) := by decide +kernel
theorem dL_law_151 : decode cL_law 151 = .ok (.iload 4, 2) := by decide +kernel
theorem dL_law_153 : decode cL_law 153 = .ok (.iconst 2, 1) := by decide +kernel
theorem dL_law_154 : decode cL_law 154 = .ok (.iadd, 1) := by decide +kernel
theorem dL_law_155 : decode cL_law 155 = .ok (.iaload, 1) := by decide +kernel
theorem dL_law_156 : decode cL_law 156 = .ok (.i2l, 1) := by decide +kernel
theorem dL_law_157 : decode cL_law 157 = .ok (.ldc2_w 69, 3) := by decide +kernel
theorem dL_law_160 : decode cL_law 160 = .ok (.land, 1) := by decide +kernel
theorem dL_law_161 : decode cL_law 161 = .ok (.lor, 1) := by decide +kernel
theorem dL_law_162 : decode cL_law 162 = .ok (.aload_n 0, 1) := by decide +kernel
theorem dL_law_163 : decode cL_law 163 = .ok (.iload 4, 2) := by decide +kernel
theorem dL_law_165 : decode cL_law 165 = .ok (.iconst 3, 1) := by decide +kernel
theorem dL_law_166 : decode cL_law 166 = .ok (.iadd, 1) := by decide +kernel
theorem dL_law_167 : decode cL_law 167 = .ok (.iaload, 1) := by decide +kernel
theorem dL_law_168 : decode cL_law 168 = .ok (.invokevirtual 76, 3) := by decide +kernel
theorem dL_law_171 : decode cL_law 171 = .ok (.istore 6, 2) := by decide +kernel
theorem dL_law_173 : decode cL_law 173 = .ok (.goto 403, 3) := by decide +kernel
theorem dL_law_176 : decode cL_law 176 = .ok (.aload_n 1, 1) := by decide +kernel
theorem dL_law_177 : decode cL_law 177 = .ok (.aload_n 0, 1) := by decide +kernel
theorem dL_law_178 : decode cL_law 178 = .ok (.iload 4, 2) := by decide +kernel
theorem dL_law_180 : decode cL_law 180 = .ok (.iconst 1, 1) := by decide +kernel
theorem dL_law_181 : decode cL_law 181 = .ok (.iadd, 1) := by decide +kernel
theorem dL_law_182 : decode cL_law 182 = .ok (.iaload, 1) := by decide +kernel
theorem dL_law_183 : decode cL_law 183 = .ok (.aload_n 3, 1) := by decide +kernel
theorem dL_law_184 : decode cL_law 184 = .ok (.invokestatic 77, 3) := by decide +kernel
theorem dL_law_187 : decode cL_law 187 = .ok (.istore 5, 2) := by decide +kernel
theorem dL_law_189 : decode cL_law 189 = .ok (.aload_n 2, 1) := by decide +kernel
theorem dL_law_190 : decode cL_law 190 = .ok (.aload_n 0, 1) := by decide +kernel
theorem dL_law_191 : decode cL_law 191 = .ok (.iload 4, 2) := by decide +kernel
theorem dL_law_193 : decode cL_law 193 = .ok (.iconst 1, 1) := by decide +kernel
theorem dL_law_194 : decode cL_law 194 = .ok (.iadd, 1) := by decide +kernel
theorem dL_law_195 : decode cL_law 195 = .ok (.iaload, 1) := by decide +kernel
theorem dL_law_196 : decode cL_law 196 = .ok (.invokevirtual 80, 3) := by decide +kernel
theorem dL_law_199 : decode cL_law 199 = .ok (.istore 6, 2) := by decide +kernel
theorem dL_law_201 : decode cL_law 201 = .ok (.goto 375, 3) := by decide +kernel
theorem dL_law_204 : decode cL_law 204 = .ok (.aload_n 1, 1) := by decide +kernel
theorem dL_law_205 : decode cL_law 205 = .ok (.aload_n 0, 1) := by decide +kernel
theorem dL_law_206 : decode cL_law 206 = .ok (.iload 4, 2) := by decide +kernel
theorem dL_law_208 : decode cL_law 208 = .ok (.iconst 1, 1) := by decide +kernel
theorem dL_law_209 : decode cL_law 209 = .ok (.iadd, 1) := by decide +kernel
theorem dL_law_210 : decode cL_law 210 = .ok (.iaload, 1) := by decide +kernel
theorem dL_law_211 : decode cL_law 211 = .ok (.aload_n 3, 1) := by decide +kernel
theorem dL_law_212 : decode cL_law 212 = .ok (.invokestatic 81, 3) := by decide +kernel
theorem dL_law_215 : decode cL_law 215 = .ok (.istore 5, 2) := by decide +kernel
theorem dL_law_217 : decode cL_law 217 = .ok (.aload_n 2, 1) := by decide +kernel
theorem dL_law_218 : decode cL_law 218 = .ok (.aload_n 0, 1) := by decide +kernel
theorem dL_law_219 : decode cL_law 219 = .ok (.iload 4, 2) := by decide +kernel
theorem dL_law_221 : decode cL_law 221 = .ok (.iconst 1, 1) := by decide +kernel
theorem dL_law_222 : decode cL_law 222 = .ok (.iadd, 1) := by decide +kernel
theorem dL_law_223 : decode cL_law 223 = .ok (.iaload, 1) := by decide +kernel
theorem dL_law_224 : decode cL_law 224 = .ok (.invokevirtual 83, 3) := by decide +kernel
theorem dL_law_227 : decode cL_law 227 = .ok (.istore 6, 2) := by decide +kernel
theorem dL_law_229 : decode cL_law 229 = .ok (.goto 347, 3) := by decide +kernel
theorem dL_law_232 : decode cL_law 232 = .ok (.aload_n 1, 1) := by decide +kernel
theorem dL_law_233 : decode cL_law 233 = .ok (.aload_n 3, 1) := by decide +kernel
theorem dL_law_234 : decode cL_law 234 = .ok (.invokestatic 84, 3) := by decide +kernel
theorem dL_law_237 : decode cL_law 237 = .ok (.istore 5, 2) := by decide +kernel
theorem dL_law_239 : decode cL_law 239 = .ok (.aload_n 2, 1) := by decide +kernel
theorem dL_law_240 : decode cL_law 240 = .ok (.invokevirtual 87, 3) := by decide +kernel
theorem dL_law_243 : decode cL_law 243 = .ok (.istore 6, 2) := by decide +kernel
theorem dL_law_245 : decode cL_law 245 = .ok (.goto 331, 3) := by decide +kernel
theorem dL_law_248 : decode cL_law 248 = .ok (.aload_n 1, 1) := by decide +kernel
theorem dL_law_249 : decode cL_law 249 = .ok (.aload_n 0, 1) := by decide +kernel
theorem dL_law_250 : decode cL_law 250 = .ok (.iload 4, 2) := by decide +kernel
theorem dL_law_252 : decode cL_law 252 = .ok (.iconst 1, 1) := by decide +kernel
theorem dL_law_253 : decode cL_law 253 = .ok (.iadd, 1) := by decide +kernel
theorem dL_law_254 : decode cL_law 254 = .ok (.iaload, 1) := by decide +kernel
theorem dL_law_255 : decode cL_law 255 = .ok (.aload_n 3, 1) := by decide +kernel
theorem dL_law_256 : decode cL_law 256 = .ok (.invokestatic 88, 3) := by decide +kernel
theorem dL_law_259 : decode cL_law 259 = .ok (.istore 5, 2) := by decide +kernel
theorem dL_law_261 : decode cL_law 261 = .ok (.aload_n 2, 1) := by decide +kernel
theorem dL_law_262 : decode cL_law 262 = .ok (.aload_n 0, 1) := by decide +kernel
theorem dL_law_263 : decode cL_law 263 = .ok (.iload 4, 2) := by decide +kernel
theorem dL_law_265 : decode cL_law 265 = .ok (.iconst 1, 1) := by decide +kernel
theorem dL_law_266 : decode cL_law 266 = .ok (.iadd, 1) := by decide +kernel
theorem dL_law_267 : decode cL_law 267 = .ok (.iaload, 1) := by decide +kernel
theorem dL_law_268 : decode cL_law 268 = .ok (.invokevirtual 90, 3) := by decide +kernel
theorem dL_law_271 : decode cL_law 271 = .ok (.istore 6, 2) := by decide +kernel
theorem dL_law_273 : decode cL_law 273 = .ok (.goto 303, 3) := by decide +kernel
theorem dL_law_276 : decode cL_law 276 = .ok (.aload_n 1, 1) := by decide +kernel
theorem dL_law_277 : decode cL_law 277 = .ok (.aload_n 0, 1) := by decide +kernel
theorem dL_law_278 : decode cL_law 278 = .ok (.iload 4, 2) := by decide +kernel
theorem dL_law_280 : decode cL_law 280 = .ok (.iconst 1, 1) := by decide +kernel
theorem dL_law_281 : decode cL_law 281 = .ok (.iadd, 1) := by decide +kernel
theorem dL_law_282 : decode cL_law 282 = .ok (.iaload, 1) := by decide +kernel
theorem dL_law_283 : decode cL_law 283 = .ok (.aload_n 3, 1) := by decide +kernel
theorem dL_law_284 : decode cL_law 284 = .ok (.invokestatic 91, 3) := by decide +kernel
theorem dL_law_287 : decode cL_law 287 = .ok (.istore 5, 2) := by decide +kernel
theorem dL_law_289 : decode cL_law 289 = .ok (.aload_n 2, 1) := by decide +kernel
theorem dL_law_290 : decode cL_law 290 = .ok (.aload_n 0, 1) := by decide +kernel
theorem dL_law_291 : decode cL_law 291 = .ok (.iload 4, 2) := by decide +kernel
theorem dL_law_293 : decode cL_law 293 = .ok (.iconst 1, 1) := by decide +kernel
theorem dL_law_294 : decode cL_law 294 = .ok (.iadd, 1) := by decide +kernel
theorem dL_law_295 : decode cL_law 295 = .ok (.iaload, 1) := by decide +kernel
theorem dL_law_296 : decode cL_law 296 = .ok (.invokevirtual 93, 3) := by decide +kernel
theorem dL_law_299 : decode cL_law 299 = .ok (.istore 6, 2) := by decide +kernel
theorem dL_law_301 : decode cL_law 301 = .ok (.goto 275, 3) := by decide +kernel
theorem dL_law_304 : decode cL_law 304 = .ok (.aload_n 1, 1) := by decide +kernel
theorem dL_law_305 : decode cL_law 305 = .ok (.aload_n 0, 1) := by decide +kernel
theorem dL_law_306 : decode cL_law 306 = .ok (.iload 4, 2) := by decide +kernel
theorem dL_law_308 : decode cL_law 308 = .ok (.iconst 1, 1) := by decide +kernel
theorem dL_law_309 : decode cL_law 309 = .ok (.iadd, 1) := by decide +kernel
theorem dL_law_310 : decode cL_law 310 = .ok (.iaload, 1) := by decide +kernel
theorem dL_law_311 : decode cL_law 311 = .ok (.aload_n 0, 1) := by decide +kernel
theorem dL_law_312 : decode cL_law 312 = .ok (.iload 4, 2) := by decide +kernel
theorem dL_law_314 : decode cL_law 314 = .ok (.iconst 2, 1) := by decide +kernel
theorem dL_law_315 : decode cL_law 315 = .ok (.iadd, 1) := by decide +kernel
theorem dL_law_316 : decode cL_law 316 = .ok (.iaload, 1) := by decide +kernel
theorem dL_law_317 : decode cL_law 317 = .ok (.aload_n 0, 1) := by decide +kernel
theorem dL_law_318 : decode cL_law 318 = .ok (.iload 4, 2) := by decide +kernel
theorem dL_law_320 : decode cL_law 320 = .ok (.iconst 3, 1) := by decide +kernel
theorem dL_law_321 : decode cL_law 321 = .ok (.iadd, 1) := by decide +kernel
theorem dL_law_322 : decode cL_law 322 = .ok (.iaload, 1) := by decide +kernel
theorem dL_law_323 : decode cL_law 323 = .ok (.aload_n 3, 1) := by decide +kernel
theorem dL_law_324 : decode cL_law 324 = .ok (.invokestatic 94, 3) := by decide +kernel
theorem dL_law_327 : decode cL_law 327 = .ok (.istore 5, 2) := by decide +kernel
theorem dL_law_329 : decode cL_law 329 = .ok (.aload_n 2, 1) := by decide +kernel
theorem dL_law_330 : decode cL_law 330 = .ok (.aload_n 0, 1) := by decide +kernel
theorem dL_law_331 : decode cL_law 331 = .ok (.iload 4, 2) := by decide +kernel
theorem dL_law_333 : decode cL_law 333 = .ok (.iconst 1, 1) := by decide +kernel
theorem dL_law_334 : decode cL_law 334 = .ok (.iadd, 1) := by decide +kernel
theorem dL_law_335 : decode cL_law 335 = .ok (.iaload, 1) := by decide +kernel
theorem dL_law_336 : decode cL_law 336 = .ok (.aload_n 0, 1) := by decide +kernel
theorem dL_law_337 : decode cL_law 337 = .ok (.iload 4, 2) := by decide +kernel
theorem dL_law_339 : decode cL_law 339 = .ok (.iconst 2, 1) := by decide +kernel
theorem dL_law_340 : decode cL_law 340 = .ok (.iadd, 1) := by decide +kernel
theorem dL_law_341 : decode cL_law 341 = .ok (.iaload, 1) := by decide +kernel
theorem dL_law_342 : decode cL_law 342 = .ok (.aload_n 0, 1) := by decide +kernel
theorem dL_law_343 : decode cL_law 343 = .ok (.iload 4, 2) := by decide +kernel
theorem dL_law_345 : decode cL_law 345 = .ok (.iconst 3, 1) := by decide +kernel
theorem dL_law_346 : decode cL_law 346 = .ok (.iadd, 1) := by decide +kernel
theorem dL_law_347 : decode cL_law 347 = .ok (.iaload, 1) := by decide +kernel
theorem dL_law_348 : decode cL_law 348 = .ok (.invokevirtual 97, 3) := by decide +kernel
theorem dL_law_351 : decode cL_law 351 = .ok (.istore 6, 2) := by decide +kernel
theorem dL_law_353 : decode cL_law 353 = .ok (.goto 223, 3) := by decide +kernel
theorem dL_law_356 : decode cL_law 356 = .ok (.aload_n 1, 1) := by decide +kernel
theorem dL_law_357 : decode cL_law 357 = .ok (.aload_n 0, 1) := by decide +kernel
theorem dL_law_358 : decode cL_law 358 = .ok (.iload 4, 2) := by decide +kernel
theorem dL_law_360 : decode cL_law 360 = .ok (.iconst 1, 1) := by decide +kernel
theorem dL_law_361 : decode cL_law 361 = .ok (.iadd, 1) := by decide +kernel
theorem dL_law_362 : decode cL_law 362 = .ok (.iaload, 1) := by decide +kernel
theorem dL_law_363 : decode cL_law 363 = .ok (.aload_n 0, 1) := by decide +kernel
theorem dL_law_364 : decode cL_law 364 = .ok (.iload 4, 2) := by decide +kernel
theorem dL_law_366 : decode cL_law 366 = .ok (.iconst 2, 1) := by decide +kernel
theorem dL_law_367 : decode cL_law 367 = .ok (.iadd, 1) := by decide +kernel
theorem dL_law_368 : decode cL_law 368 = .ok (.iaload, 1) := by decide +kernel
theorem dL_law_369 : decode cL_law 369 = .ok (.aload_n 0, 1) := by decide +kernel
theorem dL_law_370 : decode cL_law 370 = .ok (.iload 4, 2) := by decide +kernel
theorem dL_law_372 : decode cL_law 372 = .ok (.iconst 3, 1) := by decide +kernel
theorem dL_law_373 : decode cL_law 373 = .ok (.iadd, 1) := by decide +kernel
theorem dL_law_374 : decode cL_law 374 = .ok (.iaload, 1) := by decide +kernel
theorem dL_law_375 : decode cL_law 375 = .ok (.aload_n 3, 1) := by decide +kernel
theorem dL_law_376 : decode cL_law 376 = .ok (.invokestatic 98, 3) := by decide +kernel
theorem dL_law_379 : decode cL_law 379 = .ok (.istore 5, 2) := by decide +kernel
theorem dL_law_381 : decode cL_law 381 = .ok (.aload_n 2, 1) := by decide +kernel
theorem dL_law_382 : decode cL_law 382 = .ok (.aload_n 0, 1) := by decide +kernel
theorem dL_law_383 : decode cL_law 383 = .ok (.iload 4, 2) := by decide +kernel
theorem dL_law_385 : decode cL_law 385 = .ok (.iconst 1, 1) := by decide +kernel
theorem dL_law_386 : decode cL_law 386 = .ok (.iadd, 1) := by decide +kernel
theorem dL_law_387 : decode cL_law 387 = .ok (.iaload, 1) := by decide +kernel
theorem dL_law_388 : decode cL_law 388 = .ok (.aload_n 0, 1) := by decide +kernel
theorem dL_law_389 : decode cL_law 389 = .ok (.iload 4, 2) := by decide +kernel
theorem dL_law_391 : decode cL_law 391 = .ok (.iconst 2, 1) := by decide +kernel
theorem dL_law_392 : decode cL_law 392 = .ok (.iadd, 1) := by decide +kernel
theorem dL_law_393 : decode cL_law 393 = .ok (.iaload, 1) := by decide +kernel
theorem dL_law_394 : decode cL_law 394 = .ok (.aload_n 0, 1) := by decide +kernel
theorem dL_law_395 : decode cL_law 395 = .ok (.iload 4, 2) := by decide +kernel
theorem dL_law_397 : decode cL_law 397 = .ok (.iconst 3, 1) := by decide +kernel
theorem dL_law_398 : decode cL_law 398 = .ok (.iadd, 1) := by decide +kernel
theorem dL_law_399 : decode cL_law 399 = .ok (.iaload, 1) := by decide +kernel
theorem dL_law_400 : decode cL_law 400 = .ok (.invokevirtual 100, 3) := by decide +kernel
theorem dL_law_403 : decode cL_law 403 = .ok (.istore 6, 2) := by decide +kernel
theorem dL_law_405 : decode cL_law 405 = .ok (.goto 171, 3) := by decide +kernel
theorem dL_law_408 : decode cL_law 408 = .ok (.aload_n 1, 1) := by decide +kernel
theorem dL_law_409 : decode cL_law 409 = .ok (.aload_n 0, 1) := by decide +kernel
theorem dL_law_410 : decode cL_law 410 = .ok (.iload 4, 2) := by decide +kernel
theorem dL_law_412 : decode cL_law 412 = .ok (.iconst 1, 1) := by decide +kernel
theorem dL_law_413 : decode cL_law 413 = .ok (.iadd, 1) := by decide +kernel
theorem dL_law_414 : decode cL_law 414 = .ok (.iaload, 1) := by decide +kernel
theorem dL_law_415 : decode cL_law 415 = .ok (.aload_n 3, 1) := by decide +kernel
theorem dL_law_416 : decode cL_law 416 = .ok (.invokestatic 101, 3) := by decide +kernel
theorem dL_law_419 : decode cL_law 419 = .ok (.istore 5, 2) := by decide +kernel
theorem dL_law_421 : decode cL_law 421 = .ok (.aload_n 2, 1) := by decide +kernel
theorem dL_law_422 : decode cL_law 422 = .ok (.aload_n 0, 1) := by decide +kernel
theorem dL_law_423 : decode cL_law 423 = .ok (.iload 4, 2) := by decide +kernel
theorem dL_law_425 : decode cL_law 425 = .ok (.iconst 1, 1) := by decide +kernel
theorem dL_law_426 : decode cL_law 426 = .ok (.iadd, 1) := by decide +kernel
theorem dL_law_427 : decode cL_law 427 = .ok (.iaload, 1) := by decide +kernel
theorem dL_law_428 : decode cL_law 428 = .ok (.invokevirtual 103, 3) := by decide +kernel
theorem dL_law_431 : decode cL_law 431 = .ok (.istore 6, 2) := by decide +kernel
theorem dL_law_433 : decode cL_law 433 = .ok (.goto 143, 3) := by decide +kernel
theorem dL_law_436 : decode cL_law 436 = .ok (.aload_n 1, 1) := by decide +kernel
theorem dL_law_437 : decode cL_law 437 = .ok (.aload_n 0, 1) := by decide +kernel
theorem dL_law_438 : decode cL_law 438 = .ok (.iload 4, 2) := by decide +kernel
theorem dL_law_440 : decode cL_law 440 = .ok (.iconst 1, 1) := by decide +kernel
theorem dL_law_441 : decode cL_law 441 = .ok (.iadd, 1) := by decide +kernel
theorem dL_law_442 : decode cL_law 442 = .ok (.iaload, 1) := by decide +kernel
theorem dL_law_443 : decode cL_law 443 = .ok (.aload_n 3, 1) := by decide +kernel
theorem dL_law_444 : decode cL_law 444 = .ok (.invokestatic 104, 3) := by decide +kernel
theorem dL_law_447 : decode cL_law 447 = .ok (.istore 5, 2) := by decide +kernel
theorem dL_law_449 : decode cL_law 449 = .ok (.aload_n 2, 1) := by decide +kernel
theorem dL_law_450 : decode cL_law 450 = .ok (.aload_n 0, 1) := by decide +kernel
theorem dL_law_451 : decode cL_law 451 = .ok (.iload 4, 2) := by decide +kernel
theorem dL_law_453 : decode cL_law 453 = .ok (.iconst 1, 1) := by decide +kernel
theorem dL_law_454 : decode cL_law 454 = .ok (.iadd, 1) := by decide +kernel
theorem dL_law_455 : decode cL_law 455 = .ok (.iaload, 1) := by decide +kernel
theorem dL_law_456 : decode cL_law 456 = .ok (.invokevirtual 106, 3) := by decide +kernel
theorem dL_law_459 : decode cL_law 459 = .ok (.istore 6, 2) := by decide +kernel
theorem dL_law_461 : decode cL_law 461 = .ok (.goto 115, 3) := by decide +kernel
theorem dL_law_464 : decode cL_law 464 = .ok (.aload_n 1, 1) := by decide +kernel
theorem dL_law_465 : decode cL_law 465 = .ok (.aload_n 0, 1) := by decide +kernel
theorem dL_law_466 : decode cL_law 466 = .ok (.iload 4, 2) := by decide +kernel
theorem dL_law_468 : decode cL_law 468 = .ok (.iconst 1, 1) := by decide +kernel
theorem dL_law_469 : decode cL_law 469 = .ok (.iadd, 1) := by decide +kernel
theorem dL_law_470 : decode cL_law 470 = .ok (.iaload, 1) := by decide +kernel
theorem dL_law_471 : decode cL_law 471 = .ok (.aload_n 3, 1) := by decide +kernel
theorem dL_law_472 : decode cL_law 472 = .ok (.invokestatic 107, 3) := by decide +kernel
theorem dL_law_475 : decode cL_law 475 = .ok (.istore 5, 2) := by decide +kernel
theorem dL_law_477 : decode cL_law 477 = .ok (.aload_n 2, 1) := by decide +kernel
theorem dL_law_478 : decode cL_law 478 = .ok (.aload_n 0, 1) := by decide +kernel
theorem dL_law_479 : decode cL_law 479 = .ok (.iload 4, 2) := by decide +kernel
theorem dL_law_481 : decode cL_law 481 = .ok (.iconst 1, 1) := by decide +kernel
theorem dL_law_482 : decode cL_law 482 = .ok (.iadd, 1) := by decide +kernel
theorem dL_law_483 : decode cL_law 483 = .ok (.iaload, 1) := by decide +kernel
theorem dL_law_484 : decode cL_law 484 = .ok (.invokevirtual 109, 3) := by decide +kernel
theorem dL_law_487 : decode cL_law 487 = .ok (.istore 6, 2) := by decide +kernel
theorem dL_law_489 : decode cL_law 489 = .ok (.goto 87, 3) := by decide +kernel
theorem dL_law_492 : decode cL_law 492 = .ok (.aload_n 1, 1) := by decide +kernel
theorem dL_law_493 : decode cL_law 493 = .ok (.aload_n 0, 1) := by decide +kernel
theorem dL_law_494 : decode cL_law 494 = .ok (.iload 4, 2) := by decide +kernel
theorem dL_law_496 : decode cL_law 496 = .ok (.iconst 1, 1) := by decide +kernel
theorem dL_law_497 : decode cL_law 497 = .ok (.iadd, 1) := by decide +kernel
theorem dL_law_498 : decode cL_law 498 = .ok (.iaload, 1) := by decide +kernel
theorem dL_law_499 : decode cL_law 499 = .ok (.aload_n 3, 1) := by decide +kernel
theorem dL_law_500 : decode cL_law 500 = .ok (.invokestatic 110, 3) := by decide +kernel
theorem dL_law_503 : decode cL_law 503 = .ok (.istore 5, 2) := by decide +kernel
theorem dL_law_505 : decode cL_law 505 = .ok (.aload_n 2, 1) := by decide +kernel
theorem dL_law_506 : decode cL_law 506 = .ok (.aload_n 0, 1) := by decide +kernel
theorem dL_law_507 : decode cL_law 507 = .ok (.iload 4, 2) := by decide +kernel
theorem dL_law_509 : decode cL_law 509 = .ok (.iconst 1, 1) := by decide +kernel
theorem dL_law_510 : decode cL_law 510 = .ok (.iadd, 1) := by decide +kernel
theorem dL_law_511 : decode cL_law 511 = .ok (.iaload, 1) := by decide +kernel
theorem dL_law_512 : decode cL_law 512 = .ok (.invokevirtual 112, 3) := by decide +kernel
theorem dL_law_515 : decode cL_law 515 = .ok (.istore 6, 2) := by decide +kernel
theorem dL_law_517 : decode cL_law 517 = .ok (.aload_n 2, 1) := by decide +kernel
theorem dL_law_518 : decode cL_law 518 = .ok (.invokevirtual 113, 3) := by decide +kernel
theorem dL_law_521 : decode cL_law 521 = .ok (.iload 5, 2) := by decide +kernel
theorem dL_law_523 : decode cL_law 523 = .ok (.if_icmp .eq 5, 3) := by decide +kernel
theorem dL_law_528 : decode cL_law 528 = .ok (.iload 5, 2) := by decide +kernel
theorem dL_law_530 : decode cL_law 530 = .ok (.ifCond .ne 15, 3) := by decide +kernel
theorem dL_law_533 : decode cL_law 533 = .ok (.aload_n 3, 1) := by decide +kernel
theorem dL_law_534 : decode cL_law 534 = .ok (.iconst 0, 1) := by decide +kernel
theorem dL_law_535 : decode cL_law 535 = .ok (.laload, 1) := by decide +kernel
theorem dL_law_536 : decode cL_law 536 = .ok (.iload 6, 2) := by decide +kernel
theorem dL_law_538 : decode cL_law 538 = .ok (.i2l, 1) := by decide +kernel
theorem dL_law_539 : decode cL_law 539 = .ok (.lcmp, 1) := by decide +kernel
theorem dL_law_540 : decode cL_law 540 = .ok (.ifCond .eq 5, 3) := by decide +kernel
theorem dL_law_545 : decode cL_law 545 = .ok (.goto 31, 3) := by decide +kernel
theorem dL_law_548 : decode cL_law 548 = .ok (.aload_n 1, 1) := by decide +kernel
theorem dL_law_549 : decode cL_law 549 = .ok (.aload_n 0, 1) := by decide +kernel
theorem dL_law_550 : decode cL_law 550 = .ok (.iload 4, 2) := by decide +kernel
theorem dL_law_552 : decode cL_law 552 = .ok (.iconst 1, 1) := by decide +kernel
theorem dL_law_553 : decode cL_law 553 = .ok (.iadd, 1) := by decide +kernel
theorem dL_law_554 : decode cL_law 554 = .ok (.iaload, 1) := by decide +kernel
theorem dL_law_555 : decode cL_law 555 = .ok (.aload_n 3, 1) := by decide +kernel
theorem dL_law_556 : decode cL_law 556 = .ok (.invokestatic 116, 3) := by decide +kernel
theorem dL_law_559 : decode cL_law 559 = .ok (.istore 5, 2) := by decide +kernel
theorem dL_law_561 : decode cL_law 561 = .ok (.aload_n 2, 1) := by decide +kernel
theorem dL_law_562 : decode cL_law 562 = .ok (.aload_n 0, 1) := by decide +kernel
theorem dL_law_563 : decode cL_law 563 = .ok (.iload 4, 2) := by decide +kernel
theorem dL_law_565 : decode cL_law 565 = .ok (.iconst 1, 1) := by decide +kernel
theorem dL_law_566 : decode cL_law 566 = .ok (.iadd, 1) := by decide +kernel
theorem dL_law_567 : decode cL_law 567 = .ok (.iaload, 1) := by decide +kernel
theorem dL_law_568 : decode cL_law 568 = .ok (.invokevirtual 118, 3) := by decide +kernel
theorem dL_law_571 : decode cL_law 571 = .ok (.istore 6, 2) := by decide +kernel
theorem dL_law_573 : decode cL_law 573 = .ok (.goto 3, 3) := by decide +kernel
/-! THE CLAIM OUT OF ONE WALK OF THE LAW'S BODY. Your part is whole_start (and what it stands on); all else here is the same for every law, but numbers. -/
def R_law : String := "SegmentBenchLaw"
def lw_P (b : Addr) (xs : List Int32) (args : Array Value) (s : State) : Prop := args = #[.ref b] ∧ s.IntsAt b xs ∧ xs.length ≤ 256 ∧ (Jvm.Cond.and given_1 narrow_1).before args s = true
def lw_Q (_ : Array Value) (s : State) (o : Outcome) (t : State) : Prop := o = .returned (some (.int 1)) ∧ Framed s o t [] 600384 7287786
def lw_Z (below : List Frame) (a : Array Value) (s : State) : State → Prop := fun t => ∃ o, t.status = .running ∧ Ended t below o ∧ lw_Q a s o t
/-- the law's own end, with 1 on the stack, nothing written that was there before, its room as the claim has it -/
theorem lw_ret {p : Program} {l : Launch} {e : Env} {s : State} {m : MethodId} {below : List Frame} {meth : Method} {c : Code} {b : Nat} (hx : p.tables.exec = Jvm.exec) (hb : c.code = code) (hr : meth.sig.returnType = ret) (hlocks : meth.locks = false) {pc : Nat} {H : Heap} {ls : Array Slot} (hdg : decode code pc = .ok (.ireturn, 1)) : W p l e room_1 s m #[Value.ref b] below meth c H [] 600384 7287786 (lw_Z below #[Value.ref b] s) (F0 m pc ls [.int 1]) := by
  intro T hT X
  obtain ⟨fs, hret, hrun, hended, hW, hframe⟩ := X.leave (v := some (.int 1)) (hlocks := hlocks) (fun h => by rw [hr] at h; cases h)
  have hmeth' : T.vm.method? m = some meth := X.method'
  refine ⟨T.setFrames fs, ?_, .returned (some (.int 1)), hrun, hended, rfl, ⟨_, rfl⟩, hW, hframe⟩
  jvm_step X.here [X.here.top, hx, hb, hdg, hmeth', hr, ret, narrow_b1]
  (try refine ⟨rfl, ?_⟩); (try refine ⟨rfl, ?_⟩)
  first | (intro acts; rw [hret _ acts rfl rfl rfl]) | rw [hret _ _ rfl rfl rfl]
  exact Steps.refl _
/-- what holds at the law's entry: the machine, the code, the tables' words (any of lw_tbl by 'hts w (by decide +kernel)'), the script of L ints xs at the cell b, what the Statement gives of the start (any of its parts by flat_of_before) -/
def lw_At (p : Program) (s : State) (m : MethodId) (meth : Method) (c : Code) (b L : Nat) (xs : Nat → Int32) : Prop :=
  p.tables.exec = Jvm.exec ∧ c.code = code ∧ meth.sig.returnType = ret ∧ c.maxLocals = 7 ∧ s.vm.findClass R_law = some m.cls ∧ (∀ w ∈ lw_tbl, w.before #[Value.ref b] s = true) ∧ va_X b L xs s s.heap ∧ b < s.heap.size ∧ meth.locks = false ∧ (Jvm.Cond.and given_1 narrow_1).before #[Value.ref b] s = true
/-- both sides between calls -/
def zIn (σ τ : ZS) (N : Int) : Prop := CI σ N ∧ RI τ N ∧ Alk7 σ τ
theorem z_sc (x : Int32) : ∃ y : Int, x = Int32.ofInt y ∧ (-2147483648 ≤ y ∧ y ≤ 2147483647) := ⟨x.toInt, (z_oi x).symm, Int32.le_toInt x, by have := Int32.toInt_lt x; omega⟩
theorem z_i1 (i : Int) : Int32.ofInt i + 1 = Int32.ofInt (i + 1) := by rw [Int32.ofInt_add]; rfl
theorem z_i2 (i : Int) : Int32.ofInt i + 2 = Int32.ofInt (i + 2) := by rw [Int32.ofInt_add]; rfl
theorem z_i3 (i : Int) : Int32.ofInt i + 3 = Int32.ofInt (i + 3) := by rw [Int32.ofInt_add]; rfl
theorem z_app {f : Int → Int64} {Q : Int → ZS → Prop} {σ : ZS} {V n l : Int} {k : Int32} {u : ZS × (Nat → Int64)} (h : zWa f Q (fun E τ => ((E = xIAE ∧ ¬ apok V n) ∨ (E = xIOB ∧ apok V n ∧ 480 < l + n)) ∧ τ = σ) [xIAE, xIOB] k u) : (k = 0 ∧ ∃ v : Int, u.2 0 = f v ∧ Q v u.1) ∨ (k = 1 ∧ ¬ apok V n ∧ u.1 = σ) ∨ (k = 2 ∧ (apok V n ∧ 480 < l + n) ∧ u.1 = σ) := by
  rcases h with h | ⟨i, E, h1, h2, h3, h4⟩
  · exact Or.inl h
  · match i, h1, h2 with
    | 0, h1, h2 =>
      have e : E = xIAE := (Option.some.inj h1).symm
      rcases h3 with ⟨_, q⟩ | ⟨q, _⟩
      · exact Or.inr (Or.inl ⟨h2.trans (by decide), q, h4⟩)
      · exact absurd (e.symm.trans q) (by decide)
    | 1, h1, h2 =>
      have e : E = xIOB := (Option.some.inj h1).symm
      rcases h3 with ⟨q, _⟩ | ⟨_, q⟩
      · exact absurd (e.symm.trans q) (by decide)
      · exact Or.inr (Or.inr ⟨h2.trans (by decide), q, h4⟩)
    | i + 2, h1, _ => simp at h1
theorem z_o_IAE_IOB {f : Int → Int64} {Q : Int → ZS → Prop} {W : (Int → ZS → Prop) → Prop} {M : Int} {c : Prop} {k : Int32} {u : ZS × (Nat → Int64)} (h : zWa f Q (fun E τ => ((E = xIAE ∧ OO7 W τ 1 0 M c) ∨ (E = xIOB ∧ OO7 W τ 2 0 M c)) ∧ CI τ M) [xIAE, xIOB] k u) : (k = 0 ∧ ∃ v : Int, u.2 0 = f v ∧ Q v u.1) ∨ (k = 1 ∧ OO7 W u.1 1 0 M c ∧ CI u.1 M) ∨ (k = 2 ∧ OO7 W u.1 2 0 M c ∧ CI u.1 M) := by
  rcases h with h | ⟨i, E, h1, h2, h3, h4⟩
  · exact Or.inl h
  · match i, h1, h2 with
    | 0, h1, h2 =>
      have e : E = xIAE := (Option.some.inj h1).symm
      rcases h3 with ⟨e2, q⟩ | ⟨e2, q⟩
      · exact Or.inr (Or.inl ⟨h2.trans (by decide), q, h4⟩)
      · exact absurd (e.symm.trans e2) (by decide)
    | 1, h1, h2 =>
      have e : E = xIOB := (Option.some.inj h1).symm
      rcases h3 with ⟨e2, q⟩ | ⟨e2, q⟩
      · exact absurd (e.symm.trans e2) (by decide)
      · exact Or.inr (Or.inr ⟨h2.trans (by decide), q, h4⟩)
    | i + 2, h1, _ => simp at h1
theorem z_o_IAE_UOE_NSE_IOB_ARI {f : Int → Int64} {Q : Int → ZS → Prop} {W : (Int → ZS → Prop) → Prop} {M : Int} {c : Prop} {k : Int32} {u : ZS × (Nat → Int64)} (h : zWa f Q (fun E τ => ((E = xIAE ∧ OO7 W τ 1 0 M c) ∨ (E = xUOE ∧ OO7 W τ 2 0 M c) ∨ (E = xNSE ∧ OO7 W τ 3 0 M c) ∨ (E = xIOB ∧ OO7 W τ 4 0 M c) ∨ (E = xARI ∧ OO7 W τ 5 0 M c)) ∧ CI τ M) [xIAE, xUOE, xNSE, xIOB, xARI] k u) : (k = 0 ∧ ∃ v : Int, u.2 0 = f v ∧ Q v u.1) ∨ (k = 1 ∧ OO7 W u.1 1 0 M c ∧ CI u.1 M) ∨ (k = 2 ∧ OO7 W u.1 2 0 M c ∧ CI u.1 M) ∨ (k = 3 ∧ OO7 W u.1 3 0 M c ∧ CI u.1 M) ∨ (k = 4 ∧ OO7 W u.1 4 0 M c ∧ CI u.1 M) ∨ (k = 5 ∧ OO7 W u.1 5 0 M c ∧ CI u.1 M) := by
  rcases h with h | ⟨i, E, h1, h2, h3, h4⟩
  · exact Or.inl h
  · match i, h1, h2 with
    | 0, h1, h2 =>
      have e : E = xIAE := (Option.some.inj h1).symm
      rcases h3 with ⟨e2, q⟩ | ⟨e2, q⟩ | ⟨e2, q⟩ | ⟨e2, q⟩ | ⟨e2, q⟩
      · exact Or.inr (Or.inl ⟨h2.trans (by decide), q, h4⟩)
      · exact absurd (e.symm.trans e2) (by decide)
      · exact absurd (e.symm.trans e2) (by decide)
      · exact absurd (e.symm.trans e2) (by decide)
      · exact absurd (e.symm.trans e2) (by decide)
    | 1, h1, h2 =>
      have e : E = xUOE := (Option.some.inj h1).symm
      rcases h3 with ⟨e2, q⟩ | ⟨e2, q⟩ | ⟨e2, q⟩ | ⟨e2, q⟩ | ⟨e2, q⟩
      · exact absurd (e.symm.trans e2) (by decide)
      · exact Or.inr (Or.inr (Or.inl ⟨h2.trans (by decide), q, h4⟩))
      · exact absurd (e.symm.trans e2) (by decide)
      · exact absurd (e.symm.trans e2) (by decide)
      · exact absurd (e.symm.trans e2) (by decide)
    | 2, h1, h2 =>
      have e : E = xNSE := (Option.some.inj h1).symm
      rcases h3 with ⟨e2, q⟩ | ⟨e2, q⟩ | ⟨e2, q⟩ | ⟨e2, q⟩ | ⟨e2, q⟩
      · exact absurd (e.symm.trans e2) (by decide)
      · exact absurd (e.symm.trans e2) (by decide)
      · exact Or.inr (Or.inr (Or.inr (Or.inl ⟨h2.trans (by decide), q, h4⟩)))
      · exact absurd (e.symm.trans e2) (by decide)
      · exact absurd (e.symm.trans e2) (by decide)
    | 3, h1, h2 =>
      have e : E = xIOB := (Option.some.inj h1).symm
      rcases h3 with ⟨e2, q⟩ | ⟨e2, q⟩ | ⟨e2, q⟩ | ⟨e2, q⟩ | ⟨e2, q⟩
      · exact absurd (e.symm.trans e2) (by decide)
      · exact absurd (e.symm.trans e2) (by decide)
      · exact absurd (e.symm.trans e2) (by decide)
      · exact Or.inr (Or.inr (Or.inr (Or.inr (Or.inl ⟨h2.trans (by decide), q, h4⟩))))
      · exact absurd (e.symm.trans e2) (by decide)
    | 4, h1, h2 =>
      have e : E = xARI := (Option.some.inj h1).symm
      rcases h3 with ⟨e2, q⟩ | ⟨e2, q⟩ | ⟨e2, q⟩ | ⟨e2, q⟩ | ⟨e2, q⟩
      · exact absurd (e.symm.trans e2) (by decide)
      · exact absurd (e.symm.trans e2) (by decide)
      · exact absurd (e.symm.trans e2) (by decide)
      · exact absurd (e.symm.trans e2) (by decide)
      · exact Or.inr (Or.inr (Or.inr (Or.inr (Or.inr ⟨h2.trans (by decide), q, h4⟩))))
    | i + 5, h1, _ => simp at h1
theorem z_o_IAE {f : Int → Int64} {Q : Int → ZS → Prop} {W : (Int → ZS → Prop) → Prop} {M : Int} {c : Prop} {k : Int32} {u : ZS × (Nat → Int64)} (h : zWa f Q (fun E τ => ((E = xIAE ∧ OO7 W τ 1 0 M c)) ∧ CI τ M) [xIAE] k u) : (k = 0 ∧ ∃ v : Int, u.2 0 = f v ∧ Q v u.1) ∨ (k = 1 ∧ OO7 W u.1 1 0 M c ∧ CI u.1 M) := by
  rcases h with h | ⟨i, E, h1, h2, h3, h4⟩
  · exact Or.inl h
  · match i, h1, h2 with
    | 0, h1, h2 =>
      have e : E = xIAE := (Option.some.inj h1).symm
      exact Or.inr ⟨h2.trans (by decide), h3.2, h4⟩
    | i + 1, h1, _ => simp at h1
theorem z_o_ISE_UOE_NSE_IOB_ARI {f : Int → Int64} {Q : Int → ZS → Prop} {W : (Int → ZS → Prop) → Prop} {M : Int} {c : Prop} {k : Int32} {u : ZS × (Nat → Int64)} (h : zWa f Q (fun E τ => ((E = xISE ∧ OO7 W τ 1 0 M c) ∨ (E = xUOE ∧ OO7 W τ 2 0 M c) ∨ (E = xNSE ∧ OO7 W τ 3 0 M c) ∨ (E = xIOB ∧ OO7 W τ 4 0 M c) ∨ (E = xARI ∧ OO7 W τ 5 0 M c)) ∧ CI τ M) [xISE, xUOE, xNSE, xIOB, xARI] k u) : (k = 0 ∧ ∃ v : Int, u.2 0 = f v ∧ Q v u.1) ∨ (k = 1 ∧ OO7 W u.1 1 0 M c ∧ CI u.1 M) ∨ (k = 2 ∧ OO7 W u.1 2 0 M c ∧ CI u.1 M) ∨ (k = 3 ∧ OO7 W u.1 3 0 M c ∧ CI u.1 M) ∨ (k = 4 ∧ OO7 W u.1 4 0 M c ∧ CI u.1 M) ∨ (k = 5 ∧ OO7 W u.1 5 0 M c ∧ CI u.1 M) := by
  rcases h with h | ⟨i, E, h1, h2, h3, h4⟩
  · exact Or.inl h
  · match i, h1, h2 with
    | 0, h1, h2 =>
      have e : E = xISE := (Option.some.inj h1).symm
      rcases h3 with ⟨e2, q⟩ | ⟨e2, q⟩ | ⟨e2, q⟩ | ⟨e2, q⟩ | ⟨e2, q⟩
      · exact Or.inr (Or.inl ⟨h2.trans (by decide), q, h4⟩)
      · exact absurd (e.symm.trans e2) (by decide)
      · exact absurd (e.symm.trans e2) (by decide)
      · exact absurd (e.symm.trans e2) (by decide)
      · exact absurd (e.symm.trans e2) (by decide)
    | 1, h1, h2 =>
      have e : E = xUOE := (Option.some.inj h1).symm
      rcases h3 with ⟨e2, q⟩ | ⟨e2, q⟩ | ⟨e2, q⟩ | ⟨e2, q⟩ | ⟨e2, q⟩
      · exact absurd (e.symm.trans e2) (by decide)
      · exact Or.inr (Or.inr (Or.inl ⟨h2.trans (by decide), q, h4⟩))
      · exact absurd (e.symm.trans e2) (by decide)
      · exact absurd (e.symm.trans e2) (by decide)
      · exact absurd (e.symm.trans e2) (by decide)
    | 2, h1, h2 =>
      have e : E = xNSE := (Option.some.inj h1).symm
      rcases h3 with ⟨e2, q⟩ | ⟨e2, q⟩ | ⟨e2, q⟩ | ⟨e2, q⟩ | ⟨e2, q⟩
      · exact absurd (e.symm.trans e2) (by decide)
      · exact absurd (e.symm.trans e2) (by decide)
      · exact Or.inr (Or.inr (Or.inr (Or.inl ⟨h2.trans (by decide), q, h4⟩)))
      · exact absurd (e.symm.trans e2) (by decide)
      · exact absurd (e.symm.trans e2) (by decide)
    | 3, h1, h2 =>
      have e : E = xIOB := (Option.some.inj h1).symm
      rcases h3 with ⟨e2, q⟩ | ⟨e2, q⟩ | ⟨e2, q⟩ | ⟨e2, q⟩ | ⟨e2, q⟩
      · exact absurd (e.symm.trans e2) (by decide)
      · exact absurd (e.symm.trans e2) (by decide)
      · exact absurd (e.symm.trans e2) (by decide)
      · exact Or.inr (Or.inr (Or.inr (Or.inr (Or.inl ⟨h2.trans (by decide), q, h4⟩))))
      · exact absurd (e.symm.trans e2) (by decide)
    | 4, h1, h2 =>
      have e : E = xARI := (Option.some.inj h1).symm
      rcases h3 with ⟨e2, q⟩ | ⟨e2, q⟩ | ⟨e2, q⟩ | ⟨e2, q⟩ | ⟨e2, q⟩
      · exact absurd (e.symm.trans e2) (by decide)
      · exact absurd (e.symm.trans e2) (by decide)
      · exact absurd (e.symm.trans e2) (by decide)
      · exact absurd (e.symm.trans e2) (by decide)
      · exact Or.inr (Or.inr (Or.inr (Or.inr (Or.inr ⟨h2.trans (by decide), q, h4⟩))))
    | i + 5, h1, _ => simp at h1
theorem z_o_IAE_ISE {f : Int → Int64} {Q : Int → ZS → Prop} {W : (Int → ZS → Prop) → Prop} {M : Int} {c : Prop} {k : Int32} {u : ZS × (Nat → Int64)} (h : zWa f Q (fun E τ => ((E = xIAE ∧ OO7 W τ 1 0 M c) ∨ (E = xISE ∧ OO7 W τ 2 0 M c)) ∧ CI τ M) [xIAE, xISE] k u) : (k = 0 ∧ ∃ v : Int, u.2 0 = f v ∧ Q v u.1) ∨ (k = 1 ∧ OO7 W u.1 1 0 M c ∧ CI u.1 M) ∨ (k = 2 ∧ OO7 W u.1 2 0 M c ∧ CI u.1 M) := by
  rcases h with h | ⟨i, E, h1, h2, h3, h4⟩
  · exact Or.inl h
  · match i, h1, h2 with
    | 0, h1, h2 =>
      have e : E = xIAE := (Option.some.inj h1).symm
      rcases h3 with ⟨e2, q⟩ | ⟨e2, q⟩
      · exact Or.inr (Or.inl ⟨h2.trans (by decide), q, h4⟩)
      · exact absurd (e.symm.trans e2) (by decide)
    | 1, h1, h2 =>
      have e : E = xISE := (Option.some.inj h1).symm
      rcases h3 with ⟨e2, q⟩ | ⟨e2, q⟩
      · exact absurd (e.symm.trans e2) (by decide)
      · exact Or.inr (Or.inr ⟨h2.trans (by decide), q, h4⟩)
    | i + 2, h1, _ => simp at h1
theorem z_o_IOB {f : Int → Int64} {Q : Int → ZS → Prop} {W : (Int → ZS → Prop) → Prop} {M : Int} {c : Prop} {k : Int32} {u : ZS × (Nat → Int64)} (h : zWa f Q (fun E τ => ((E = xIOB ∧ OO7 W τ 1 0 M c)) ∧ CI τ M) [xIOB] k u) : (k = 0 ∧ ∃ v : Int, u.2 0 = f v ∧ Q v u.1) ∨ (k = 1 ∧ OO7 W u.1 1 0 M c ∧ CI u.1 M) := by
  rcases h with h | ⟨i, E, h1, h2, h3, h4⟩
  · exact Or.inl h
  · match i, h1, h2 with
    | 0, h1, h2 =>
      have e : E = xIOB := (Option.some.inj h1).symm
      exact Or.inr ⟨h2.trans (by decide), h3.2, h4⟩
    | i + 1, h1, _ => simp at h1
set_option maxHeartbeats 4000000 in
set_option maxRecDepth 100000 in
theorem law_append {p : Program} {e : Env} {s : State} {m : MethodId} {below : List Frame} {meth : Method} {c : Code} {l : Launch} (htr : l.stackTraces = false) {b L : Nat} {xs : Nat → Int32} (hL : L ≤ 256) (hx : p.tables.exec = Jvm.exec) (hb : c.code = code) (hml : c.maxLocals = 7) (hown : s.vm.findClass RL = some m.cls) (hg : ∀ w ∈ gw, w.before #[Value.ref b] s = true) (hX : va_X b L xs s s.heap) (hbl : b < s.heap.size) {D : va_G} {dA : Nat → ClassId} {A : Nat → Prop} (hA : ∀ q : Nat, s.heap.size ≤ q → A q) (hbA : ¬ A b) {tf tc : Nat} {aK aV : Nat → Nat} (hE : zE tf tc aK aV A s) (hN : zNc s) (hK : gK D dA s) {ac am : Int → Nat → Nat} {o : Nat} {g : Nat → Int64} {i : Int} (hi : 0 ≤ i ∧ i + 4 ≤ (L : Int)) {σc σr : ZS} (hI : zIn σc σr (100 * i)) {H : Heap} {locs : List Loc} {ls : Array Slot} {cells slots : Nat} (hcs : cells + 1 ≤ 600000 ∧ slots + 6 ≤ 7000000) {Q : State → Prop} (hP : va_P D vwC (zR dA am σr ++ zO dA ac o (σc, g)) H) (hD : va_D A (zR dA am σr ++ zO dA ac o (σc, g))) (hS : va_S A s.heap H locs) (hl : lv_has ls 7 [(4, .int (Int32.ofInt i)), (3, .ref o), (2, .ref (am 0 1000)), (1, .ref (ac 10 1000)), (0, .ref b)]) (K : ∀ (τc τr : ZS) (g1 : Nat → Int64) (H1 : Heap) (locs1 : List Loc) (ls1 : Array Slot), zIn τc τr (100 * i + 400) → va_P D vwC (zR dA am τr ++ zO dA ac o (τc, g1)) H1 → va_D A (zR dA am τr ++ zO dA ac o (τc, g1)) → va_S A s.heap H1 locs1 → lv_has ls1 7 [(4, .int (Int32.ofInt i)), (3, .ref o), (2, .ref (am 0 1000)), (1, .ref (ac 10 1000)), (0, .ref b)] → W p l e room_1 s m #[Value.ref b] below meth c H1 locs1 (cells + 1) (slots + 6) Q (F0 m 576 ls1 [])) : W p l e room_1 s m #[Value.ref b] below meth c H locs cells slots Q (F0 m 104 ls []) := by
  obtain ⟨y1, e1, r1⟩ := z_sc (xs (Int32.ofInt (i + 1)).toNatClampNeg)
  obtain ⟨y2, e2, r2⟩ := z_sc (xs (Int32.ofInt (i + 2)).toNatClampNeg)
  obtain ⟨y3, e3, r3⟩ := z_sc (xs (Int32.ofInt (i + 3)).toNatClampNeg)
  obtain ⟨V, eV⟩ : ∃ V : Int, ((Int32.ofInt y1).toInt64 <<< ((32 : Int32).toInt64 &&& 63)) ||| ((Int32.ofInt y2).toInt64 &&& 4294967295) = Int64.ofInt V := ⟨_, (z_ol _).symm⟩
  refine lv_aload_n hx hb dL_law_104 rfl (lv_at hl 3 rfl) ?_
  refine lv_aload_n hx hb dL_law_105 rfl (lv_at hl 4 rfl) ?_
  refine lv_iload hx hb dL_law_106 (lv_at hl 0 rfl) ?_
  refine lv_iconst (v := 1) hx hb dL_law_108 (by decide) ?_
  refine lv_iadd hx hb dL_law_109 ?_
  refine g_nrm (z_i1 i) ?_
  refine va_sld hx hb hX hbl hbA hS (z_in ⟨by omega, by omega⟩ (by omega)) dL_law_110 ?_
  refine g_nrm e1 ?_
  refine lv_i2l (v := (Int32.ofInt y1).toInt64) hx hb dL_law_111 rfl ?_
  refine lv_bipush (v := 32) hx hb dL_law_112 (by decide) ?_
  refine lv_lshl (v := (Int32.ofInt y1).toInt64 <<< ((32 : Int32).toInt64 &&& 63)) hx hb dL_law_114 rfl ?_
  refine lv_aload_n hx hb dL_law_115 rfl (lv_at hl 4 rfl) ?_
  refine lv_iload hx hb dL_law_116 (lv_at hl 0 rfl) ?_
  refine lv_iconst (v := 2) hx hb dL_law_118 (by decide) ?_
  refine lv_iadd hx hb dL_law_119 ?_
  refine g_nrm (z_i2 i) ?_
  refine va_sld hx hb hX hbl hbA hS (z_in ⟨by omega, by omega⟩ (by omega)) dL_law_120 ?_
  refine g_nrm e2 ?_
  refine lv_i2l (v := (Int32.ofInt y2).toInt64) hx hb dL_law_121 rfl ?_
  refine lv_ldc2 hx hb hown (hg _ q2234) dL_law_122 ?_
  refine lv_land hx hb dL_law_125 ?_
  refine lv_lor hx hb dL_law_126 ?_
  refine g_nrmL eV ?_
  refine lv_aload_n hx hb dL_law_127 rfl (lv_at hl 4 rfl) ?_
  refine lv_iload hx hb dL_law_128 (lv_at hl 0 rfl) ?_
  refine lv_iconst (v := 3) hx hb dL_law_130 (by decide) ?_
  refine lv_iadd hx hb dL_law_131 ?_
  refine g_nrm (z_i3 i) ?_
  refine va_sld hx hb hX hbl hbA hS (z_in ⟨by omega, by omega⟩ (by omega)) dL_law_132 ?_
  refine g_nrm e3 ?_
  refine lv_aload_n hx hb dL_law_133 rfl (lv_at hl 1 rfl) ?_
  refine wl_SW (n := 4) (hh := [(0, 11, 14, 13), (0, 11, 18, 15)]) (As := [.ref (ac 10 1000), .long (Int64.ofInt V), .int (Int32.ofInt y3), .ref o]) (rest := []) (wr := zR dA am σr) (w2 := zO dA ac o) (u0 := (σc, g)) hx hb hml hg hown hE hN hK hP hD hS hA (w_append l htr D dA ac tf tc aK aV o g V y3 σc (fun v τ => CI τ (100 * i + 400) ∧ OO7 (wpX11_append V y3 σr) τ 0 v (100 * i + 400) True) (fun E τ => ((E = xIAE ∧ OO7 (wpX11_append V y3 σr) τ 1 0 (100 * i + 400) True) ∨ (E = xIOB ∧ OO7 (wpX11_append V y3 σr) τ 2 0 (100 * i + 400) True)) ∧ CI τ (100 * i + 400)) _ (k7_append hI.1 hI.2.1 hI.2.2 (by omega) r3) (fun E u h => by rcases h.1 with h | h <;> simp [h.1])) q645 q148 q643 q644 (by decide +kernel) ⟨(Nat.le_of_ble_eq_true rfl), (Nat.le_of_ble_eq_true rfl)⟩ rfl hl.1 rfl (Nat.le_of_ble_eq_true rfl) dL_law_134 ⟨Nat.le_trans hcs.1 (Nat.le_of_ble_eq_true rfl), Nat.le_trans hcs.2 (Nat.le_of_ble_eq_true rfl)⟩ (fun k u H locs hk hP hD hS => ?_)
  obtain ⟨hP, hD⟩ := w_swap hP hD
  have hu : CI u.1 (100 * i + 400) ∧ ∃ cd w : Int, OO7 (wpX11_append V y3 σr) u.1 cd w (100 * i + 400) True := by
    rcases z_o_IAE_IOB hk with ⟨_, v, _, h⟩ | ⟨_, q, h⟩ | ⟨_, q, h⟩
    · exact ⟨h.1, _, _, h.2⟩
    · exact ⟨h, _, _, q⟩
    · exact ⟨h, _, _, q⟩
  obtain ⟨hC, cd, w, hO⟩ := hu
  refine lv_istore (lv' := [(5, .int k), (4, .int (Int32.ofInt i)), (3, .ref o), (2, .ref (am 0 1000)), (1, .ref (ac 10 1000)), (0, .ref b)]) hx hb dL_law_137 hl (by decide) rfl (fun ls hl => ?_)
  refine lv_aload_n hx hb dL_law_139 rfl (lv_at hl 3 rfl) ?_
  refine lv_aload_n hx hb dL_law_140 rfl (lv_at hl 5 rfl) ?_
  refine lv_iload hx hb dL_law_141 (lv_at hl 1 rfl) ?_
  refine lv_iconst (v := 1) hx hb dL_law_143 (by decide) ?_
  refine lv_iadd hx hb dL_law_144 ?_
  refine g_nrm (z_i1 i) ?_
  refine va_sld hx hb hX hbl hbA hS (z_in ⟨by omega, by omega⟩ (by omega)) dL_law_145 ?_
  refine g_nrm e1 ?_
  refine lv_i2l (v := (Int32.ofInt y1).toInt64) hx hb dL_law_146 rfl ?_
  refine lv_bipush (v := 32) hx hb dL_law_147 (by decide) ?_
  refine lv_lshl (v := (Int32.ofInt y1).toInt64 <<< ((32 : Int32).toInt64 &&& 63)) hx hb dL_law_149 rfl ?_
  refine lv_aload_n hx hb dL_law_150 rfl (lv_at hl 5 rfl) ?_
  refine lv_iload hx hb dL_law_151 (lv_at hl 1 rfl) ?_
  refine lv_iconst (v := 2) hx hb dL_law_153 (by decide) ?_
  refine lv_iadd hx hb dL_law_154 ?_
  refine g_nrm (z_i2 i) ?_
  refine va_sld hx hb hX hbl hbA hS (z_in ⟨by omega, by omega⟩ (by omega)) dL_law_155 ?_
  refine g_nrm e2 ?_
  refine lv_i2l (v := (Int32.ofInt y2).toInt64) hx hb dL_law_156 rfl ?_
  refine lv_ldc2 hx hb hown (hg _ q2234) dL_law_157 ?_
  refine lv_land hx hb dL_law_160 ?_
  refine lv_lor hx hb dL_law_161 ?_
  refine g_nrmL eV ?_
  refine lv_aload_n hx hb dL_law_162 rfl (lv_at hl 5 rfl) ?_
  refine lv_iload hx hb dL_law_163 (lv_at hl 1 rfl) ?_
  refine lv_iconst (v := 3) hx hb dL_law_165 (by decide) ?_
  refine lv_iadd hx hb dL_law_166 ?_
  refine g_nrm (z_i3 i) ?_
  refine va_sld hx hb hX hbl hbA hS (z_in ⟨by omega, by omega⟩ (by omega)) dL_law_167 ?_
  refine g_nrm e3 ?_
  refine wl_Vi (n := 2) (As := [.long (Int64.ofInt V), .int (Int32.ofInt y3)]) (rest := []) (wr := zO dA ac o u) (w1 := zR dA am) (σ := σr) (Q1 := (fun _ τ => RI τ (100 * i + 400) ∧ Alk7 u.1 τ)) hx hb hml hg hown hK hP hD hS hA (kX11_append l D dA am V y3 σr _ _ (hO _ (fun r ρ h1 h2 _ => ⟨h1, h2⟩))) rfl rfl q1879 q160 q1876 q1877 q1878 (by decide +kernel) ⟨(Nat.le_of_ble_eq_true rfl), (Nat.le_of_ble_eq_true rfl)⟩ rfl hl.1 rfl (Nat.le_of_ble_eq_true rfl) dL_law_168 ⟨Nat.le_trans hcs.1 (Nat.le_of_ble_eq_true rfl), Nat.le_trans hcs.2 (Nat.le_of_ble_eq_true rfl)⟩ (fun r τ H locs hq hP hD hS => ?_)
  refine lv_istore (lv' := [(6, .int (Int32.ofInt r)), (5, .int k), (4, .int (Int32.ofInt i)), (3, .ref o), (2, .ref (am 0 1000)), (1, .ref (ac 10 1000)), (0, .ref b)]) hx hb dL_law_171 hl (by decide) rfl (fun ls hl => ?_)
  refine lv_goto (tgt := 576) hx hb dL_law_173 (by decide) ?_
  obtain ⟨hP, hD⟩ := w_swap hP hD
  exact K u.1 τ u.2 H locs _ ⟨hC, hq.1, hq.2⟩ hP hD hS (lv_sub hl [2, 3, 4, 5, 6] rfl)
set_option maxHeartbeats 4000000 in
set_option maxRecDepth 100000 in
theorem law_assemble {p : Program} {e : Env} {s : State} {m : MethodId} {below : List Frame} {meth : Method} {c : Code} {l : Launch} (htr : l.stackTraces = false) {b L : Nat} {xs : Nat → Int32} (hL : L ≤ 256) (hx : p.tables.exec = Jvm.exec) (hb : c.code = code) (hml : c.maxLocals = 7) (hown : s.vm.findClass RL = some m.cls) (hg : ∀ w ∈ gw, w.before #[Value.ref b] s = true) (hX : va_X b L xs s s.heap) (hbl : b < s.heap.size) {D : va_G} {dA : Nat → ClassId} {A : Nat → Prop} (hA : ∀ q : Nat, s.heap.size ≤ q → A q) (hbA : ¬ A b) {tf tc : Nat} {aK aV : Nat → Nat} (hE : zE tf tc aK aV A s) (hN : zNc s) (hK : gK D dA s) {ac am : Int → Nat → Nat} {o : Nat} {g : Nat → Int64} {i : Int} (hi : 0 ≤ i ∧ i + 4 ≤ (L : Int)) {σc σr : ZS} (hI : zIn σc σr (100 * i)) {H : Heap} {locs : List Loc} {ls : Array Slot} {cells slots : Nat} (hcs : cells + 1 ≤ 600000 ∧ slots + 6 ≤ 7000000) {Q : State → Prop} (hP : va_P D vwC (zR dA am σr ++ zO dA ac o (σc, g)) H) (hD : va_D A (zR dA am σr ++ zO dA ac o (σc, g))) (hS : va_S A s.heap H locs) (hl : lv_has ls 7 [(4, .int (Int32.ofInt i)), (3, .ref o), (2, .ref (am 0 1000)), (1, .ref (ac 10 1000)), (0, .ref b)]) (K : ∀ (τc τr : ZS) (g1 : Nat → Int64) (H1 : Heap) (locs1 : List Loc) (ls1 : Array Slot), zIn τc τr (100 * i + 400) → va_P D vwC (zR dA am τr ++ zO dA ac o (τc, g1)) H1 → va_D A (zR dA am τr ++ zO dA ac o (τc, g1)) → va_S A s.heap H1 locs1 → lv_has ls1 7 [(4, .int (Int32.ofInt i)), (3, .ref o), (2, .ref (am 0 1000)), (1, .ref (ac 10 1000)), (0, .ref b)] → W p l e room_1 s m #[Value.ref b] below meth c H1 locs1 (cells + 1) (slots + 6) Q (F0 m 576 ls1 [])) : W p l e room_1 s m #[Value.ref b] below meth c H locs cells slots Q (F0 m 176 ls []) := by
  obtain ⟨y1, e1, r1⟩ := z_sc (xs (Int32.ofInt (i + 1)).toNatClampNeg)
  refine lv_aload_n hx hb dL_law_176 rfl (lv_at hl 3 rfl) ?_
  refine lv_aload_n hx hb dL_law_177 rfl (lv_at hl 4 rfl) ?_
  refine lv_iload hx hb dL_law_178 (lv_at hl 0 rfl) ?_
  refine lv_iconst (v := 1) hx hb dL_law_180 (by decide) ?_
  refine lv_iadd hx hb dL_law_181 ?_
  refine g_nrm (z_i1 i) ?_
  refine va_sld hx hb hX hbl hbA hS (z_in ⟨by omega, by omega⟩ (by omega)) dL_law_182 ?_
  refine g_nrm e1 ?_
  refine lv_aload_n hx hb dL_law_183 rfl (lv_at hl 1 rfl) ?_
  refine wl_SW (n := 3) (hh := [(0, 9, 12, 13), (0, 9, 15, 21), (0, 9, 18, 23), (0, 9, 21, 15), (0, 9, 24, 25)]) (As := [.ref (ac 10 1000), .int (Int32.ofInt y1), .ref o]) (rest := []) (wr := zR dA am σr) (w2 := zO dA ac o) (u0 := (σc, g)) hx hb hml hg hown hE hN hK hP hD hS hA (w_assemble l htr D dA ac tf tc aK aV o g y1 σc (fun v τ => CI τ (100 * i + 400) ∧ OO7 (wpX11_assemble y1 σr) τ 0 v (100 * i + 400) True) (fun E τ => ((E = xIAE ∧ OO7 (wpX11_assemble y1 σr) τ 1 0 (100 * i + 400) True) ∨ (E = xUOE ∧ OO7 (wpX11_assemble y1 σr) τ 2 0 (100 * i + 400) True) ∨ (E = xNSE ∧ OO7 (wpX11_assemble y1 σr) τ 3 0 (100 * i + 400) True) ∨ (E = xIOB ∧ OO7 (wpX11_assemble y1 σr) τ 4 0 (100 * i + 400) True) ∨ (E = xARI ∧ OO7 (wpX11_assemble y1 σr) τ 5 0 (100 * i + 400) True)) ∧ CI τ (100 * i + 400)) _ (k7_assemble hI.1 hI.2.1 hI.2.2 (by omega) r1) (fun E u h => by rcases h.1 with h | h | h | h | h <;> simp [h.1])) q766 q148 q764 q765 (by decide +kernel) ⟨(Nat.le_of_ble_eq_true rfl), (Nat.le_of_ble_eq_true rfl)⟩ rfl hl.1 rfl (Nat.le_of_ble_eq_true rfl) dL_law_184 ⟨Nat.le_trans hcs.1 (Nat.le_of_ble_eq_true rfl), Nat.le_trans hcs.2 (Nat.le_of_ble_eq_true rfl)⟩ (fun k u H locs hk hP hD hS => ?_)
  obtain ⟨hP, hD⟩ := w_swap hP hD
  have hu : CI u.1 (100 * i + 400) ∧ ∃ cd w : Int, OO7 (wpX11_assemble y1 σr) u.1 cd w (100 * i + 400) True := by
    rcases z_o_IAE_UOE_NSE_IOB_ARI hk with ⟨_, v, _, h⟩ | ⟨_, q, h⟩ | ⟨_, q, h⟩ | ⟨_, q, h⟩ | ⟨_, q, h⟩ | ⟨_, q, h⟩
    · exact ⟨h.1, _, _, h.2⟩
    · exact ⟨h, _, _, q⟩
    · exact ⟨h, _, _, q⟩
    · exact ⟨h, _, _, q⟩
    · exact ⟨h, _, _, q⟩
    · exact ⟨h, _, _, q⟩
  obtain ⟨hC, cd, w, hO⟩ := hu
  refine lv_istore (lv' := [(5, .int k), (4, .int (Int32.ofInt i)), (3, .ref o), (2, .ref (am 0 1000)), (1, .ref (ac 10 1000)), (0, .ref b)]) hx hb dL_law_187 hl (by decide) rfl (fun ls hl => ?_)
  refine lv_aload_n hx hb dL_law_189 rfl (lv_at hl 3 rfl) ?_
  refine lv_aload_n hx hb dL_law_190 rfl (lv_at hl 5 rfl) ?_
  refine lv_iload hx hb dL_law_191 (lv_at hl 1 rfl) ?_
  refine lv_iconst (v := 1) hx hb dL_law_193 (by decide) ?_
  refine lv_iadd hx hb dL_law_194 ?_
  refine g_nrm (z_i1 i) ?_
  refine va_sld hx hb hX hbl hbA hS (z_in ⟨by omega, by omega⟩ (by omega)) dL_law_195 ?_
  refine g_nrm e1 ?_
  refine wl_Vi (n := 1) (As := [.int (Int32.ofInt y1)]) (rest := []) (wr := zO dA ac o u) (w1 := zR dA am) (σ := σr) (Q1 := (fun _ τ => RI τ (100 * i + 400) ∧ Alk7 u.1 τ)) hx hb hml hg hown hK hP hD hS hA (kX11_assemble l D dA am y1 σr _ _ (hO _ (fun r ρ h1 h2 _ => ⟨h1, h2⟩))) rfl rfl q1887 q160 q1884 q1885 q1886 (by decide +kernel) ⟨(Nat.le_of_ble_eq_true rfl), (Nat.le_of_ble_eq_true rfl)⟩ rfl hl.1 rfl (Nat.le_of_ble_eq_true rfl) dL_law_196 ⟨Nat.le_trans hcs.1 (Nat.le_of_ble_eq_true rfl), Nat.le_trans hcs.2 (Nat.le_of_ble_eq_true rfl)⟩ (fun r τ H locs hq hP hD hS => ?_)
  refine lv_istore (lv' := [(6, .int (Int32.ofInt r)), (5, .int k), (4, .int (Int32.ofInt i)), (3, .ref o), (2, .ref (am 0 1000)), (1, .ref (ac 10 1000)), (0, .ref b)]) hx hb dL_law_199 hl (by decide) rfl (fun ls hl => ?_)
  refine lv_goto (tgt := 576) hx hb dL_law_201 (by decide) ?_
  obtain ⟨hP, hD⟩ := w_swap hP hD
  exact K u.1 τ u.2 H locs _ ⟨hC, hq.1, hq.2⟩ hP hD hS (lv_sub hl [2, 3, 4, 5, 6] rfl)
set_option maxHeartbeats 4000000 in
set_option maxRecDepth 100000 in
theorem law_drop {p : Program} {e : Env} {s : State} {m : MethodId} {below : List Frame} {meth : Method} {c : Code} {l : Launch} (htr : l.stackTraces = false) {b L : Nat} {xs : Nat → Int32} (hL : L ≤ 256) (hx : p.tables.exec = Jvm.exec) (hb : c.code = code) (hml : c.maxLocals = 7) (hown : s.vm.findClass RL = some m.cls) (hg : ∀ w ∈ gw, w.before #[Value.ref b] s = true) (hX : va_X b L xs s s.heap) (hbl : b < s.heap.size) {D : va_G} {dA : Nat → ClassId} {A : Nat → Prop} (hA : ∀ q : Nat, s.heap.size ≤ q → A q) (hbA : ¬ A b) {tf tc : Nat} {aK aV : Nat → Nat} (hE : zE tf tc aK aV A s) (hN : zNc s) (hK : gK D dA s) {ac am : Int → Nat → Nat} {o : Nat} {g : Nat → Int64} {i : Int} (hi : 0 ≤ i ∧ i + 4 ≤ (L : Int)) {σc σr : ZS} (hI : zIn σc σr (100 * i)) {H : Heap} {locs : List Loc} {ls : Array Slot} {cells slots : Nat} (hcs : cells + 1 ≤ 600000 ∧ slots + 6 ≤ 7000000) {Q : State → Prop} (hP : va_P D vwC (zR dA am σr ++ zO dA ac o (σc, g)) H) (hD : va_D A (zR dA am σr ++ zO dA ac o (σc, g))) (hS : va_S A s.heap H locs) (hl : lv_has ls 7 [(4, .int (Int32.ofInt i)), (3, .ref o), (2, .ref (am 0 1000)), (1, .ref (ac 10 1000)), (0, .ref b)]) (K : ∀ (τc τr : ZS) (g1 : Nat → Int64) (H1 : Heap) (locs1 : List Loc) (ls1 : Array Slot), zIn τc τr (100 * i + 400) → va_P D vwC (zR dA am τr ++ zO dA ac o (τc, g1)) H1 → va_D A (zR dA am τr ++ zO dA ac o (τc, g1)) → va_S A s.heap H1 locs1 → lv_has ls1 7 [(4, .int (Int32.ofInt i)), (3, .ref o), (2, .ref (am 0 1000)), (1, .ref (ac 10 1000)), (0, .ref b)] → W p l e room_1 s m #[Value.ref b] below meth c H1 locs1 (cells + 1) (slots + 6) Q (F0 m 576 ls1 [])) : W p l e room_1 s m #[Value.ref b] below meth c H locs cells slots Q (F0 m 204 ls []) := by
  obtain ⟨y1, e1, r1⟩ := z_sc (xs (Int32.ofInt (i + 1)).toNatClampNeg)
  refine lv_aload_n hx hb dL_law_204 rfl (lv_at hl 3 rfl) ?_
  refine lv_aload_n hx hb dL_law_205 rfl (lv_at hl 4 rfl) ?_
  refine lv_iload hx hb dL_law_206 (lv_at hl 0 rfl) ?_
  refine lv_iconst (v := 1) hx hb dL_law_208 (by decide) ?_
  refine lv_iadd hx hb dL_law_209 ?_
  refine g_nrm (z_i1 i) ?_
  refine va_sld hx hb hX hbl hbA hS (z_in ⟨by omega, by omega⟩ (by omega)) dL_law_210 ?_
  refine g_nrm e1 ?_
  refine lv_aload_n hx hb dL_law_211 rfl (lv_at hl 1 rfl) ?_
  refine wl_SW (n := 3) (hh := [(0, 16, 19, 13)]) (As := [.ref (ac 10 1000), .int (Int32.ofInt y1), .ref o]) (rest := []) (wr := zR dA am σr) (w2 := zO dA ac o) (u0 := (σc, g)) hx hb hml hg hown hE hN hK hP hD hS hA (w_drop l htr D dA ac tf tc aK aV o g y1 σc (fun v τ => CI τ (100 * i + 400) ∧ OO7 (wpX11_drop y1 σr) τ 0 v (100 * i + 400) True ∧ (v = 0 ∨ v = 1)) (fun E τ => ((E = xIAE ∧ OO7 (wpX11_drop y1 σr) τ 1 0 (100 * i + 400) True)) ∧ CI τ (100 * i + 400)) _ (k7_drop hI.1 hI.2.1 hI.2.2 (by omega) r1) (fun E u h => h.1.1)) q1246 q148 q1244 q1245 (by decide +kernel) ⟨(Nat.le_of_ble_eq_true rfl), (Nat.le_of_ble_eq_true rfl)⟩ rfl hl.1 rfl (Nat.le_of_ble_eq_true rfl) dL_law_212 ⟨Nat.le_trans hcs.1 (Nat.le_of_ble_eq_true rfl), Nat.le_trans hcs.2 (Nat.le_of_ble_eq_true rfl)⟩ (fun k u H locs hk hP hD hS => ?_)
  obtain ⟨hP, hD⟩ := w_swap hP hD
  have hu : CI u.1 (100 * i + 400) ∧ ∃ cd w : Int, OO7 (wpX11_drop y1 σr) u.1 cd w (100 * i + 400) True := by
    rcases z_o_IAE hk with ⟨_, v, _, h⟩ | ⟨_, q, h⟩
    · exact ⟨h.1, _, _, h.2.1⟩
    · exact ⟨h, _, _, q⟩
  obtain ⟨hC, cd, w, hO⟩ := hu
  refine lv_istore (lv' := [(5, .int k), (4, .int (Int32.ofInt i)), (3, .ref o), (2, .ref (am 0 1000)), (1, .ref (ac 10 1000)), (0, .ref b)]) hx hb dL_law_215 hl (by decide) rfl (fun ls hl => ?_)
  refine lv_aload_n hx hb dL_law_217 rfl (lv_at hl 3 rfl) ?_
  refine lv_aload_n hx hb dL_law_218 rfl (lv_at hl 5 rfl) ?_
  refine lv_iload hx hb dL_law_219 (lv_at hl 1 rfl) ?_
  refine lv_iconst (v := 1) hx hb dL_law_221 (by decide) ?_
  refine lv_iadd hx hb dL_law_222 ?_
  refine g_nrm (z_i1 i) ?_
  refine va_sld hx hb hX hbl hbA hS (z_in ⟨by omega, by omega⟩ (by omega)) dL_law_223 ?_
  refine g_nrm e1 ?_
  refine wl_Vi (n := 1) (As := [.int (Int32.ofInt y1)]) (rest := []) (wr := zO dA ac o u) (w1 := zR dA am) (σ := σr) (Q1 := (fun _ τ => RI τ (100 * i + 400) ∧ Alk7 u.1 τ)) hx hb hml hg hown hK hP hD hS hA (kX11_drop l D dA am y1 σr _ _ (hO _ (fun r ρ h1 h2 _ => ⟨h1, h2⟩))) rfl rfl q2069 q160 q2066 q2067 q2068 (by decide +kernel) ⟨(Nat.le_of_ble_eq_true rfl), (Nat.le_of_ble_eq_true rfl)⟩ rfl hl.1 rfl (Nat.le_of_ble_eq_true rfl) dL_law_224 ⟨Nat.le_trans hcs.1 (Nat.le_of_ble_eq_true rfl), Nat.le_trans hcs.2 (Nat.le_of_ble_eq_true rfl)⟩ (fun r τ H locs hq hP hD hS => ?_)
  refine lv_istore (lv' := [(6, .int (Int32.ofInt r)), (5, .int k), (4, .int (Int32.ofInt i)), (3, .ref o), (2, .ref (am 0 1000)), (1, .ref (ac 10 1000)), (0, .ref b)]) hx hb dL_law_227 hl (by decide) rfl (fun ls hl => ?_)
  refine lv_goto (tgt := 576) hx hb dL_law_229 (by decide) ?_
  obtain ⟨hP, hD⟩ := w_swap hP hD
  exact K u.1 τ u.2 H locs _ ⟨hC, hq.1, hq.2⟩ hP hD hS (lv_sub hl [2, 3, 4, 5, 6] rfl)
set_option maxHeartbeats 4000000 in
set_option maxRecDepth 100000 in
theorem law_link {p : Program} {e : Env} {s : State} {m : MethodId} {below : List Frame} {meth : Method} {c : Code} {l : Launch} (htr : l.stackTraces = false) {b L : Nat} {xs : Nat → Int32} (hL : L ≤ 256) (hx : p.tables.exec = Jvm.exec) (hb : c.code = code) (hml : c.maxLocals = 7) (hown : s.vm.findClass RL = some m.cls) (hg : ∀ w ∈ gw, w.before #[Value.ref b] s = true) (hX : va_X b L xs s s.heap) (hbl : b < s.heap.size) {D : va_G} {dA : Nat → ClassId} {A : Nat → Prop} (hA : ∀ q : Nat, s.heap.size ≤ q → A q) (hbA : ¬ A b) {tf tc : Nat} {aK aV : Nat → Nat} (hE : zE tf tc aK aV A s) (hN : zNc s) (hK : gK D dA s) {ac am : Int → Nat → Nat} {o : Nat} {g : Nat → Int64} {i : Int} (hi : 0 ≤ i ∧ i + 4 ≤ (L : Int)) {σc σr : ZS} (hI : zIn σc σr (100 * i)) {H : Heap} {locs : List Loc} {ls : Array Slot} {cells slots : Nat} (hcs : cells + 1 ≤ 600000 ∧ slots + 6 ≤ 7000000) {Q : State → Prop} (hP : va_P D vwC (zR dA am σr ++ zO dA ac o (σc, g)) H) (hD : va_D A (zR dA am σr ++ zO dA ac o (σc, g))) (hS : va_S A s.heap H locs) (hl : lv_has ls 7 [(4, .int (Int32.ofInt i)), (3, .ref o), (2, .ref (am 0 1000)), (1, .ref (ac 10 1000)), (0, .ref b)]) (K : ∀ (τc τr : ZS) (g1 : Nat → Int64) (H1 : Heap) (locs1 : List Loc) (ls1 : Array Slot), zIn τc τr (100 * i + 400) → va_P D vwC (zR dA am τr ++ zO dA ac o (τc, g1)) H1 → va_D A (zR dA am τr ++ zO dA ac o (τc, g1)) → va_S A s.heap H1 locs1 → lv_has ls1 7 [(4, .int (Int32.ofInt i)), (3, .ref o), (2, .ref (am 0 1000)), (1, .ref (ac 10 1000)), (0, .ref b)] → W p l e room_1 s m #[Value.ref b] below meth c H1 locs1 (cells + 1) (slots + 6) Q (F0 m 576 ls1 [])) : W p l e room_1 s m #[Value.ref b] below meth c H locs cells slots Q (F0 m 232 ls []) := by
  refine lv_aload_n hx hb dL_law_232 rfl (lv_at hl 3 rfl) ?_
  refine lv_aload_n hx hb dL_law_233 rfl (lv_at hl 1 rfl) ?_
  refine wl_SW (n := 2) (hh := [(0, 8, 11, 35), (0, 8, 14, 21), (0, 8, 17, 23), (0, 8, 20, 15), (0, 8, 23, 25)]) (As := [.ref (ac 10 1000), .ref o]) (rest := []) (wr := zR dA am σr) (w2 := zO dA ac o) (u0 := (σc, g)) hx hb hml hg hown hE hN hK hP hD hS hA (w_link l htr D dA ac tf tc aK aV o g σc (fun v τ => CI τ (100 * i + 400) ∧ OO7 (wpX11_link σr) τ 0 v (100 * i + 400) True) (fun E τ => ((E = xISE ∧ OO7 (wpX11_link σr) τ 1 0 (100 * i + 400) True) ∨ (E = xUOE ∧ OO7 (wpX11_link σr) τ 2 0 (100 * i + 400) True) ∨ (E = xNSE ∧ OO7 (wpX11_link σr) τ 3 0 (100 * i + 400) True) ∨ (E = xIOB ∧ OO7 (wpX11_link σr) τ 4 0 (100 * i + 400) True) ∨ (E = xARI ∧ OO7 (wpX11_link σr) τ 5 0 (100 * i + 400) True)) ∧ CI τ (100 * i + 400)) _ (k7_link hI.1 hI.2.1 hI.2.2 (by omega)) (fun E u h => by rcases h.1 with h | h | h | h | h <;> simp [h.1])) q1254 q148 q1252 q1253 (by decide +kernel) ⟨(Nat.le_of_ble_eq_true rfl), (Nat.le_of_ble_eq_true rfl)⟩ rfl hl.1 rfl (Nat.le_of_ble_eq_true rfl) dL_law_234 ⟨Nat.le_trans hcs.1 (Nat.le_of_ble_eq_true rfl), Nat.le_trans hcs.2 (Nat.le_of_ble_eq_true rfl)⟩ (fun k u H locs hk hP hD hS => ?_)
  obtain ⟨hP, hD⟩ := w_swap hP hD
  have hu : CI u.1 (100 * i + 400) ∧ ∃ cd w : Int, OO7 (wpX11_link σr) u.1 cd w (100 * i + 400) True := by
    rcases z_o_ISE_UOE_NSE_IOB_ARI hk with ⟨_, v, _, h⟩ | ⟨_, q, h⟩ | ⟨_, q, h⟩ | ⟨_, q, h⟩ | ⟨_, q, h⟩ | ⟨_, q, h⟩
    · exact ⟨h.1, _, _, h.2⟩
    · exact ⟨h, _, _, q⟩
    · exact ⟨h, _, _, q⟩
    · exact ⟨h, _, _, q⟩
    · exact ⟨h, _, _, q⟩
    · exact ⟨h, _, _, q⟩
  obtain ⟨hC, cd, w, hO⟩ := hu
  refine lv_istore (lv' := [(5, .int k), (4, .int (Int32.ofInt i)), (3, .ref o), (2, .ref (am 0 1000)), (1, .ref (ac 10 1000)), (0, .ref b)]) hx hb dL_law_237 hl (by decide) rfl (fun ls hl => ?_)
  refine lv_aload_n hx hb dL_law_239 rfl (lv_at hl 3 rfl) ?_
  refine wl_Vi (n := 0) (As := []) (rest := []) (wr := zO dA ac o u) (w1 := zR dA am) (σ := σr) (Q1 := (fun _ τ => RI τ (100 * i + 400) ∧ Alk7 u.1 τ)) hx hb hml hg hown hK hP hD hS hA (kX11_link l D dA am σr _ _ (hO _ (fun r ρ h1 h2 _ => ⟨h1, h2⟩))) rfl rfl q2073 q160 q2070 q2071 q2072 (by decide +kernel) ⟨(Nat.le_of_ble_eq_true rfl), (Nat.le_of_ble_eq_true rfl)⟩ rfl hl.1 rfl (Nat.le_of_ble_eq_true rfl) dL_law_240 ⟨Nat.le_trans hcs.1 (Nat.le_of_ble_eq_true rfl), Nat.le_trans hcs.2 (Nat.le_of_ble_eq_true rfl)⟩ (fun r τ H locs hq hP hD hS => ?_)
  refine lv_istore (lv' := [(6, .int (Int32.ofInt r)), (5, .int k), (4, .int (Int32.ofInt i)), (3, .ref o), (2, .ref (am 0 1000)), (1, .ref (ac 10 1000)), (0, .ref b)]) hx hb dL_law_243 hl (by decide) rfl (fun ls hl => ?_)
  refine lv_goto (tgt := 576) hx hb dL_law_245 (by decide) ?_
  obtain ⟨hP, hD⟩ := w_swap hP hD
  exact K u.1 τ u.2 H locs _ ⟨hC, hq.1, hq.2⟩ hP hD hS (lv_sub hl [2, 3, 4, 5, 6] rfl)
set_option maxHeartbeats 4000000 in
set_option maxRecDepth 100000 in
theorem law_load {p : Program} {e : Env} {s : State} {m : MethodId} {below : List Frame} {meth : Method} {c : Code} {l : Launch} (htr : l.stackTraces = false) {b L : Nat} {xs : Nat → Int32} (hL : L ≤ 256) (hx : p.tables.exec = Jvm.exec) (hb : c.code = code) (hml : c.maxLocals = 7) (hown : s.vm.findClass RL = some m.cls) (hg : ∀ w ∈ gw, w.before #[Value.ref b] s = true) (hX : va_X b L xs s s.heap) (hbl : b < s.heap.size) {D : va_G} {dA : Nat → ClassId} {A : Nat → Prop} (hA : ∀ q : Nat, s.heap.size ≤ q → A q) (hbA : ¬ A b) {tf tc : Nat} {aK aV : Nat → Nat} (hE : zE tf tc aK aV A s) (hN : zNc s) (hK : gK D dA s) {ac am : Int → Nat → Nat} {o : Nat} {g : Nat → Int64} {i : Int} (hi : 0 ≤ i ∧ i + 4 ≤ (L : Int)) {σc σr : ZS} (hI : zIn σc σr (100 * i)) {H : Heap} {locs : List Loc} {ls : Array Slot} {cells slots : Nat} (hcs : cells + 1 ≤ 600000 ∧ slots + 6 ≤ 7000000) {Q : State → Prop} (hP : va_P D vwC (zR dA am σr ++ zO dA ac o (σc, g)) H) (hD : va_D A (zR dA am σr ++ zO dA ac o (σc, g))) (hS : va_S A s.heap H locs) (hl : lv_has ls 7 [(4, .int (Int32.ofInt i)), (3, .ref o), (2, .ref (am 0 1000)), (1, .ref (ac 10 1000)), (0, .ref b)]) (K : ∀ (τc τr : ZS) (g1 : Nat → Int64) (H1 : Heap) (locs1 : List Loc) (ls1 : Array Slot), zIn τc τr (100 * i + 400) → va_P D vwC (zR dA am τr ++ zO dA ac o (τc, g1)) H1 → va_D A (zR dA am τr ++ zO dA ac o (τc, g1)) → va_S A s.heap H1 locs1 → lv_has ls1 7 [(4, .int (Int32.ofInt i)), (3, .ref o), (2, .ref (am 0 1000)), (1, .ref (ac 10 1000)), (0, .ref b)] → W p l e room_1 s m #[Value.ref b] below meth c H1 locs1 (cells + 1) (slots + 6) Q (F0 m 576 ls1 [])) : W p l e room_1 s m #[Value.ref b] below meth c H locs cells slots Q (F0 m 248 ls []) := by
  obtain ⟨y1, e1, r1⟩ := z_sc (xs (Int32.ofInt (i + 1)).toNatClampNeg)
  refine lv_aload_n hx hb dL_law_248 rfl (lv_at hl 3 rfl) ?_
  refine lv_aload_n hx hb dL_law_249 rfl (lv_at hl 4 rfl) ?_
  refine lv_iload hx hb dL_law_250 (lv_at hl 0 rfl) ?_
  refine lv_iconst (v := 1) hx hb dL_law_252 (by decide) ?_
  refine lv_iadd hx hb dL_law_253 ?_
  refine g_nrm (z_i1 i) ?_
  refine va_sld hx hb hX hbl hbA hS (z_in ⟨by omega, by omega⟩ (by omega)) dL_law_254 ?_
  refine g_nrm e1 ?_
  refine lv_aload_n hx hb dL_law_255 rfl (lv_at hl 1 rfl) ?_
  refine wl_SW (n := 3) (hh := [(0, 9, 12, 13), (0, 9, 15, 35)]) (As := [.ref (ac 10 1000), .int (Int32.ofInt y1), .ref o]) (rest := []) (wr := zR dA am σr) (w2 := zO dA ac o) (u0 := (σc, g)) hx hb hml hg hown hE hN hK hP hD hS hA (w_load l htr D dA ac tf tc aK aV o g y1 σc (fun v τ => CI τ (100 * i + 400) ∧ OO7 (wpX11_load y1 σr) τ 0 v (100 * i + 400) True) (fun E τ => ((E = xIAE ∧ OO7 (wpX11_load y1 σr) τ 1 0 (100 * i + 400) True) ∨ (E = xISE ∧ OO7 (wpX11_load y1 σr) τ 2 0 (100 * i + 400) True)) ∧ CI τ (100 * i + 400)) _ (k7_load hI.1 hI.2.1 hI.2.2 (by omega) r1) (fun E u h => by rcases h.1 with h | h <;> simp [h.1])) q1363 q148 q1361 q1362 (by decide +kernel) ⟨(Nat.le_of_ble_eq_true rfl), (Nat.le_of_ble_eq_true rfl)⟩ rfl hl.1 rfl (Nat.le_of_ble_eq_true rfl) dL_law_256 ⟨Nat.le_trans hcs.1 (Nat.le_of_ble_eq_true rfl), Nat.le_trans hcs.2 (Nat.le_of_ble_eq_true rfl)⟩ (fun k u H locs hk hP hD hS => ?_)
  obtain ⟨hP, hD⟩ := w_swap hP hD
  have hu : CI u.1 (100 * i + 400) ∧ ∃ cd w : Int, OO7 (wpX11_load y1 σr) u.1 cd w (100 * i + 400) True := by
    rcases z_o_IAE_ISE hk with ⟨_, v, _, h⟩ | ⟨_, q, h⟩ | ⟨_, q, h⟩
    · exact ⟨h.1, _, _, h.2⟩
    · exact ⟨h, _, _, q⟩
    · exact ⟨h, _, _, q⟩
  obtain ⟨hC, cd, w, hO⟩ := hu
  refine lv_istore (lv' := [(5, .int k), (4, .int (Int32.ofInt i)), (3, .ref o), (2, .ref (am 0 1000)), (1, .ref (ac 10 1000)), (0, .ref b)]) hx hb dL_law_259 hl (by decide) rfl (fun ls hl => ?_)
  refine lv_aload_n hx hb dL_law_261 rfl (lv_at hl 3 rfl) ?_
  refine lv_aload_n hx hb dL_law_262 rfl (lv_at hl 5 rfl) ?_
  refine lv_iload hx hb dL_law_263 (lv_at hl 1 rfl) ?_
  refine lv_iconst (v := 1) hx hb dL_law_265 (by decide) ?_
  refine lv_iadd hx hb dL_law_266 ?_
  refine g_nrm (z_i1 i) ?_
  refine va_sld hx hb hX hbl hbA hS (z_in ⟨by omega, by omega⟩ (by omega)) dL_law_267 ?_
  refine g_nrm e1 ?_
  refine wl_Vi (n := 1) (As := [.int (Int32.ofInt y1)]) (rest := []) (wr := zO dA ac o u) (w1 := zR dA am) (σ := σr) (Q1 := (fun _ τ => RI τ (100 * i + 400) ∧ Alk7 u.1 τ)) hx hb hml hg hown hK hP hD hS hA (kX11_load l D dA am y1 σr _ _ (hO _ (fun r ρ h1 h2 _ => ⟨h1, h2⟩))) rfl rfl q2114 q160 q2111 q2112 q2113 (by decide +kernel) ⟨(Nat.le_of_ble_eq_true rfl), (Nat.le_of_ble_eq_true rfl)⟩ rfl hl.1 rfl (Nat.le_of_ble_eq_true rfl) dL_law_268 ⟨Nat.le_trans hcs.1 (Nat.le_of_ble_eq_true rfl), Nat.le_trans hcs.2 (Nat.le_of_ble_eq_true rfl)⟩ (fun r τ H locs hq hP hD hS => ?_)
  refine lv_istore (lv' := [(6, .int (Int32.ofInt r)), (5, .int k), (4, .int (Int32.ofInt i)), (3, .ref o), (2, .ref (am 0 1000)), (1, .ref (ac 10 1000)), (0, .ref b)]) hx hb dL_law_271 hl (by decide) rfl (fun ls hl => ?_)
  refine lv_goto (tgt := 576) hx hb dL_law_273 (by decide) ?_
  obtain ⟨hP, hD⟩ := w_swap hP hD
  exact K u.1 τ u.2 H locs _ ⟨hC, hq.1, hq.2⟩ hP hD hS (lv_sub hl [2, 3, 4, 5, 6] rfl)
set_option maxHeartbeats 4000000 in
set_option maxRecDepth 100000 in
theorem law_run {p : Program} {e : Env} {s : State} {m : MethodId} {below : List Frame} {meth : Method} {c : Code} {l : Launch} (htr : l.stackTraces = false) {b L : Nat} {xs : Nat → Int32} (hL : L ≤ 256) (hx : p.tables.exec = Jvm.exec) (hb : c.code = code) (hml : c.maxLocals = 7) (hown : s.vm.findClass RL = some m.cls) (hg : ∀ w ∈ gw, w.before #[Value.ref b] s = true) (hX : va_X b L xs s s.heap) (hbl : b < s.heap.size) {D : va_G} {dA : Nat → ClassId} {A : Nat → Prop} (hA : ∀ q : Nat, s.heap.size ≤ q → A q) (hbA : ¬ A b) {tf tc : Nat} {aK aV : Nat → Nat} (hE : zE tf tc aK aV A s) (hN : zNc s) (hK : gK D dA s) {ac am : Int → Nat → Nat} {o : Nat} {g : Nat → Int64} {i : Int} (hi : 0 ≤ i ∧ i + 4 ≤ (L : Int)) {σc σr : ZS} (hI : zIn σc σr (100 * i)) {H : Heap} {locs : List Loc} {ls : Array Slot} {cells slots : Nat} (hcs : cells + 1 ≤ 600000 ∧ slots + 6 ≤ 7000000) {Q : State → Prop} (hP : va_P D vwC (zR dA am σr ++ zO dA ac o (σc, g)) H) (hD : va_D A (zR dA am σr ++ zO dA ac o (σc, g))) (hS : va_S A s.heap H locs) (hl : lv_has ls 7 [(4, .int (Int32.ofInt i)), (3, .ref o), (2, .ref (am 0 1000)), (1, .ref (ac 10 1000)), (0, .ref b)]) (K : ∀ (τc τr : ZS) (g1 : Nat → Int64) (H1 : Heap) (locs1 : List Loc) (ls1 : Array Slot), zIn τc τr (100 * i + 400) → va_P D vwC (zR dA am τr ++ zO dA ac o (τc, g1)) H1 → va_D A (zR dA am τr ++ zO dA ac o (τc, g1)) → va_S A s.heap H1 locs1 → lv_has ls1 7 [(4, .int (Int32.ofInt i)), (3, .ref o), (2, .ref (am 0 1000)), (1, .ref (ac 10 1000)), (0, .ref b)] → W p l e room_1 s m #[Value.ref b] below meth c H1 locs1 (cells + 1) (slots + 6) Q (F0 m 576 ls1 [])) : W p l e room_1 s m #[Value.ref b] below meth c H locs cells slots Q (F0 m 276 ls []) := by
  obtain ⟨y1, e1, r1⟩ := z_sc (xs (Int32.ofInt (i + 1)).toNatClampNeg)
  refine lv_aload_n hx hb dL_law_276 rfl (lv_at hl 3 rfl) ?_
  refine lv_aload_n hx hb dL_law_277 rfl (lv_at hl 4 rfl) ?_
  refine lv_iload hx hb dL_law_278 (lv_at hl 0 rfl) ?_
  refine lv_iconst (v := 1) hx hb dL_law_280 (by decide) ?_
  refine lv_iadd hx hb dL_law_281 ?_
  refine g_nrm (z_i1 i) ?_
  refine va_sld hx hb hX hbl hbA hS (z_in ⟨by omega, by omega⟩ (by omega)) dL_law_282 ?_
  refine g_nrm e1 ?_
  refine lv_aload_n hx hb dL_law_283 rfl (lv_at hl 1 rfl) ?_
  refine wl_SW (n := 3) (hh := [(0, 9, 12, 13), (0, 9, 15, 35)]) (As := [.ref (ac 10 1000), .int (Int32.ofInt y1), .ref o]) (rest := []) (wr := zR dA am σr) (w2 := zO dA ac o) (u0 := (σc, g)) hx hb hml hg hown hE hN hK hP hD hS hA (w_run l htr D dA ac tf tc aK aV o g y1 σc (fun v τ => CI τ (100 * i + 400) ∧ OO7 (wpX11_run y1 σr) τ 0 v (100 * i + 400) True) (fun E τ => ((E = xIAE ∧ OO7 (wpX11_run y1 σr) τ 1 0 (100 * i + 400) True) ∨ (E = xISE ∧ OO7 (wpX11_run y1 σr) τ 2 0 (100 * i + 400) True)) ∧ CI τ (100 * i + 400)) _ (k7_run hI.1 hI.2.1 hI.2.2 (by omega) r1) (fun E u h => by rcases h.1 with h | h <;> simp [h.1])) q1385 q148 q1383 q1384 (by decide +kernel) ⟨(Nat.le_of_ble_eq_true rfl), (Nat.le_of_ble_eq_true rfl)⟩ rfl hl.1 rfl (Nat.le_of_ble_eq_true rfl) dL_law_284 ⟨Nat.le_trans hcs.1 (Nat.le_of_ble_eq_true rfl), Nat.le_trans hcs.2 (Nat.le_of_ble_eq_true rfl)⟩ (fun k u H locs hk hP hD hS => ?_)
  obtain ⟨hP, hD⟩ := w_swap hP hD
  have hu : CI u.1 (100 * i + 400) ∧ ∃ cd w : Int, OO7 (wpX11_run y1 σr) u.1 cd w (100 * i + 400) True := by
    rcases z_o_IAE_ISE hk with ⟨_, v, _, h⟩ | ⟨_, q, h⟩ | ⟨_, q, h⟩
    · exact ⟨h.1, _, _, h.2⟩
    · exact ⟨h, _, _, q⟩
    · exact ⟨h, _, _, q⟩
  obtain ⟨hC, cd, w, hO⟩ := hu
  refine lv_istore (lv' := [(5, .int k), (4, .int (Int32.ofInt i)), (3, .ref o), (2, .ref (am 0 1000)), (1, .ref (ac 10 1000)), (0, .ref b)]) hx hb dL_law_287 hl (by decide) rfl (fun ls hl => ?_)
  refine lv_aload_n hx hb dL_law_289 rfl (lv_at hl 3 rfl) ?_
  refine lv_aload_n hx hb dL_law_290 rfl (lv_at hl 5 rfl) ?_
  refine lv_iload hx hb dL_law_291 (lv_at hl 1 rfl) ?_
  refine lv_iconst (v := 1) hx hb dL_law_293 (by decide) ?_
  refine lv_iadd hx hb dL_law_294 ?_
  refine g_nrm (z_i1 i) ?_
  refine va_sld hx hb hX hbl hbA hS (z_in ⟨by omega, by omega⟩ (by omega)) dL_law_295 ?_
  refine g_nrm e1 ?_
  refine wl_Vi (n := 1) (As := [.int (Int32.ofInt y1)]) (rest := []) (wr := zO dA ac o u) (w1 := zR dA am) (σ := σr) (Q1 := (fun _ τ => RI τ (100 * i + 400) ∧ Alk7 u.1 τ)) hx hb hml hg hown hK hP hD hS hA (kX11_run l D dA am y1 σr _ _ (hO _ (fun r ρ h1 h2 _ => ⟨h1, h2⟩))) rfl rfl q2118 q160 q2115 q2116 q2117 (by decide +kernel) ⟨(Nat.le_of_ble_eq_true rfl), (Nat.le_of_ble_eq_true rfl)⟩ rfl hl.1 rfl (Nat.le_of_ble_eq_true rfl) dL_law_296 ⟨Nat.le_trans hcs.1 (Nat.le_of_ble_eq_true rfl), Nat.le_trans hcs.2 (Nat.le_of_ble_eq_true rfl)⟩ (fun r τ H locs hq hP hD hS => ?_)
  refine lv_istore (lv' := [(6, .int (Int32.ofInt r)), (5, .int k), (4, .int (Int32.ofInt i)), (3, .ref o), (2, .ref (am 0 1000)), (1, .ref (ac 10 1000)), (0, .ref b)]) hx hb dL_law_299 hl (by decide) rfl (fun ls hl => ?_)
  refine lv_goto (tgt := 576) hx hb dL_law_301 (by decide) ?_
  obtain ⟨hP, hD⟩ := w_swap hP hD
  exact K u.1 τ u.2 H locs _ ⟨hC, hq.1, hq.2⟩ hP hD hS (lv_sub hl [2, 3, 4, 5, 6] rfl)
set_option maxHeartbeats 4000000 in
set_option maxRecDepth 100000 in
theorem law_code {p : Program} {e : Env} {s : State} {m : MethodId} {below : List Frame} {meth : Method} {c : Code} {l : Launch} (htr : l.stackTraces = false) {b L : Nat} {xs : Nat → Int32} (hL : L ≤ 256) (hx : p.tables.exec = Jvm.exec) (hb : c.code = code) (hml : c.maxLocals = 7) (hown : s.vm.findClass RL = some m.cls) (hg : ∀ w ∈ gw, w.before #[Value.ref b] s = true) (hX : va_X b L xs s s.heap) (hbl : b < s.heap.size) {D : va_G} {dA : Nat → ClassId} {A : Nat → Prop} (hA : ∀ q : Nat, s.heap.size ≤ q → A q) (hbA : ¬ A b) {tf tc : Nat} {aK aV : Nat → Nat} (hE : zE tf tc aK aV A s) (hN : zNc s) (hK : gK D dA s) {ac am : Int → Nat → Nat} {o : Nat} {g : Nat → Int64} {i : Int} (hi : 0 ≤ i ∧ i + 4 ≤ (L : Int)) {σc σr : ZS} (hI : zIn σc σr (100 * i)) {H : Heap} {locs : List Loc} {ls : Array Slot} {cells slots : Nat} (hcs : cells + 1 ≤ 600000 ∧ slots + 6 ≤ 7000000) {Q : State → Prop} (hP : va_P D vwC (zR dA am σr ++ zO dA ac o (σc, g)) H) (hD : va_D A (zR dA am σr ++ zO dA ac o (σc, g))) (hS : va_S A s.heap H locs) (hl : lv_has ls 7 [(4, .int (Int32.ofInt i)), (3, .ref o), (2, .ref (am 0 1000)), (1, .ref (ac 10 1000)), (0, .ref b)]) (K : ∀ (τc τr : ZS) (g1 : Nat → Int64) (H1 : Heap) (locs1 : List Loc) (ls1 : Array Slot), zIn τc τr (100 * i + 400) → va_P D vwC (zR dA am τr ++ zO dA ac o (τc, g1)) H1 → va_D A (zR dA am τr ++ zO dA ac o (τc, g1)) → va_S A s.heap H1 locs1 → lv_has ls1 7 [(4, .int (Int32.ofInt i)), (3, .ref o), (2, .ref (am 0 1000)), (1, .ref (ac 10 1000)), (0, .ref b)] → W p l e room_1 s m #[Value.ref b] below meth c H1 locs1 (cells + 1) (slots + 6) Q (F0 m 576 ls1 [])) : W p l e room_1 s m #[Value.ref b] below meth c H locs cells slots Q (F0 m 304 ls []) := by
  obtain ⟨y1, e1, r1⟩ := z_sc (xs (Int32.ofInt (i + 1)).toNatClampNeg)
  obtain ⟨y2, e2, r2⟩ := z_sc (xs (Int32.ofInt (i + 2)).toNatClampNeg)
  obtain ⟨y3, e3, r3⟩ := z_sc (xs (Int32.ofInt (i + 3)).toNatClampNeg)
  refine lv_aload_n hx hb dL_law_304 rfl (lv_at hl 3 rfl) ?_
  refine lv_aload_n hx hb dL_law_305 rfl (lv_at hl 4 rfl) ?_
  refine lv_iload hx hb dL_law_306 (lv_at hl 0 rfl) ?_
  refine lv_iconst (v := 1) hx hb dL_law_308 (by decide) ?_
  refine lv_iadd hx hb dL_law_309 ?_
  refine g_nrm (z_i1 i) ?_
  refine va_sld hx hb hX hbl hbA hS (z_in ⟨by omega, by omega⟩ (by omega)) dL_law_310 ?_
  refine g_nrm e1 ?_
  refine lv_aload_n hx hb dL_law_311 rfl (lv_at hl 4 rfl) ?_
  refine lv_iload hx hb dL_law_312 (lv_at hl 0 rfl) ?_
  refine lv_iconst (v := 2) hx hb dL_law_314 (by decide) ?_
  refine lv_iadd hx hb dL_law_315 ?_
  refine g_nrm (z_i2 i) ?_
  refine va_sld hx hb hX hbl hbA hS (z_in ⟨by omega, by omega⟩ (by omega)) dL_law_316 ?_
  refine g_nrm e2 ?_
  refine lv_aload_n hx hb dL_law_317 rfl (lv_at hl 4 rfl) ?_
  refine lv_iload hx hb dL_law_318 (lv_at hl 0 rfl) ?_
  refine lv_iconst (v := 3) hx hb dL_law_320 (by decide) ?_
  refine lv_iadd hx hb dL_law_321 ?_
  refine g_nrm (z_i3 i) ?_
  refine va_sld hx hb hX hbl hbA hS (z_in ⟨by omega, by omega⟩ (by omega)) dL_law_322 ?_
  refine g_nrm e3 ?_
  refine lv_aload_n hx hb dL_law_323 rfl (lv_at hl 1 rfl) ?_
  refine wl_SW (n := 5) (hh := [(0, 12, 15, 15)]) (As := [.ref (ac 10 1000), .int (Int32.ofInt y1), .int (Int32.ofInt y2), .int (Int32.ofInt y3), .ref o]) (rest := []) (wr := zR dA am σr) (w2 := zO dA ac o) (u0 := (σc, g)) hx hb hml hg hown hE hN hK hP hD hS hA (w_code l htr D dA ac tf tc aK aV o g y1 y2 y3 σc (fun v τ => CI τ (100 * i + 400) ∧ OO7 (wpX11_code y1 y2 y3 σr) τ 0 v (100 * i + 400) True) (fun E τ => ((E = xIOB ∧ OO7 (wpX11_code y1 y2 y3 σr) τ 1 0 (100 * i + 400) True)) ∧ CI τ (100 * i + 400)) _ (k7_code hI.1 hI.2.1 hI.2.2 (by omega) r1 r2 r3) (fun E u h => h.1.1)) q1505 q148 q1503 q1504 (by decide +kernel) ⟨(Nat.le_of_ble_eq_true rfl), (Nat.le_of_ble_eq_true rfl)⟩ rfl hl.1 rfl (Nat.le_of_ble_eq_true rfl) dL_law_324 ⟨Nat.le_trans hcs.1 (Nat.le_of_ble_eq_true rfl), Nat.le_trans hcs.2 (Nat.le_of_ble_eq_true rfl)⟩ (fun k u H locs hk hP hD hS => ?_)
  obtain ⟨hP, hD⟩ := w_swap hP hD
  have hu : CI u.1 (100 * i + 400) ∧ ∃ cd w : Int, OO7 (wpX11_code y1 y2 y3 σr) u.1 cd w (100 * i + 400) True := by
    rcases z_o_IOB hk with ⟨_, v, _, h⟩ | ⟨_, q, h⟩
    · exact ⟨h.1, _, _, h.2⟩
    · exact ⟨h, _, _, q⟩
  obtain ⟨hC, cd, w, hO⟩ := hu
  refine lv_istore (lv' := [(5, .int k), (4, .int (Int32.ofInt i)), (3, .ref o), (2, .ref (am 0 1000)), (1, .ref (ac 10 1000)), (0, .ref b)]) hx hb dL_law_327 hl (by decide) rfl (fun ls hl => ?_)
  refine lv_aload_n hx hb dL_law_329 rfl (lv_at hl 3 rfl) ?_
  refine lv_aload_n hx hb dL_law_330 rfl (lv_at hl 5 rfl) ?_
  refine lv_iload hx hb dL_law_331 (lv_at hl 1 rfl) ?_
  refine lv_iconst (v := 1) hx hb dL_law_333 (by decide) ?_
  refine lv_iadd hx hb dL_law_334 ?_
  refine g_nrm (z_i1 i) ?_
  refine va_sld hx hb hX hbl hbA hS (z_in ⟨by omega, by omega⟩ (by omega)) dL_law_335 ?_
  refine g_nrm e1 ?_
  refine lv_aload_n hx hb dL_law_336 rfl (lv_at hl 5 rfl) ?_
  refine lv_iload hx hb dL_law_337 (lv_at hl 1 rfl) ?_
  refine lv_iconst (v := 2) hx hb dL_law_339 (by decide) ?_
  refine lv_iadd hx hb dL_law_340 ?_
  refine g_nrm (z_i2 i) ?_
  refine va_sld hx hb hX hbl hbA hS (z_in ⟨by omega, by omega⟩ (by omega)) dL_law_341 ?_
  refine g_nrm e2 ?_
  refine lv_aload_n hx hb dL_law_342 rfl (lv_at hl 5 rfl) ?_
  refine lv_iload hx hb dL_law_343 (lv_at hl 1 rfl) ?_
  refine lv_iconst (v := 3) hx hb dL_law_345 (by decide) ?_
  refine lv_iadd hx hb dL_law_346 ?_
  refine g_nrm (z_i3 i) ?_
  refine va_sld hx hb hX hbl hbA hS (z_in ⟨by omega, by omega⟩ (by omega)) dL_law_347 ?_
  refine g_nrm e3 ?_
  refine wl_Vi (n := 3) (As := [.int (Int32.ofInt y1), .int (Int32.ofInt y2), .int (Int32.ofInt y3)]) (rest := []) (wr := zO dA ac o u) (w1 := zR dA am) (σ := σr) (Q1 := (fun _ τ => RI τ (100 * i + 400) ∧ Alk7 u.1 τ)) hx hb hml hg hown hK hP hD hS hA (kX11_code l D dA am y1 y2 y3 σr _ _ (hO _ (fun r ρ h1 h2 _ => ⟨h1, h2⟩))) rfl rfl q2209 q160 q2206 q2207 q2208 (by decide +kernel) ⟨(Nat.le_of_ble_eq_true rfl), (Nat.le_of_ble_eq_true rfl)⟩ rfl hl.1 rfl (Nat.le_of_ble_eq_true rfl) dL_law_348 ⟨Nat.le_trans hcs.1 (Nat.le_of_ble_eq_true rfl), Nat.le_trans hcs.2 (Nat.le_of_ble_eq_true rfl)⟩ (fun r τ H locs hq hP hD hS => ?_)
  refine lv_istore (lv' := [(6, .int (Int32.ofInt r)), (5, .int k), (4, .int (Int32.ofInt i)), (3, .ref o), (2, .ref (am 0 1000)), (1, .ref (ac 10 1000)), (0, .ref b)]) hx hb dL_law_351 hl (by decide) rfl (fun ls hl => ?_)
  refine lv_goto (tgt := 576) hx hb dL_law_353 (by decide) ?_
  obtain ⟨hP, hD⟩ := w_swap hP hD
  exact K u.1 τ u.2 H locs _ ⟨hC, hq.1, hq.2⟩ hP hD hS (lv_sub hl [2, 3, 4, 5, 6] rfl)
set_option maxHeartbeats 4000000 in
set_option maxRecDepth 100000 in
theorem law_fixup {p : Program} {e : Env} {s : State} {m : MethodId} {below : List Frame} {meth : Method} {c : Code} {l : Launch} (htr : l.stackTraces = false) {b L : Nat} {xs : Nat → Int32} (hL : L ≤ 256) (hx : p.tables.exec = Jvm.exec) (hb : c.code = code) (hml : c.maxLocals = 7) (hown : s.vm.findClass RL = some m.cls) (hg : ∀ w ∈ gw, w.before #[Value.ref b] s = true) (hX : va_X b L xs s s.heap) (hbl : b < s.heap.size) {D : va_G} {dA : Nat → ClassId} {A : Nat → Prop} (hA : ∀ q : Nat, s.heap.size ≤ q → A q) (hbA : ¬ A b) {tf tc : Nat} {aK aV : Nat → Nat} (hE : zE tf tc aK aV A s) (hN : zNc s) (hK : gK D dA s) {ac am : Int → Nat → Nat} {o : Nat} {g : Nat → Int64} {i : Int} (hi : 0 ≤ i ∧ i + 4 ≤ (L : Int)) {σc σr : ZS} (hI : zIn σc σr (100 * i)) {H : Heap} {locs : List Loc} {ls : Array Slot} {cells slots : Nat} (hcs : cells + 1 ≤ 600000 ∧ slots + 6 ≤ 7000000) {Q : State → Prop} (hP : va_P D vwC (zR dA am σr ++ zO dA ac o (σc, g)) H) (hD : va_D A (zR dA am σr ++ zO dA ac o (σc, g))) (hS : va_S A s.heap H locs) (hl : lv_has ls 7 [(4, .int (Int32.ofInt i)), (3, .ref o), (2, .ref (am 0 1000)), (1, .ref (ac 10 1000)), (0, .ref b)]) (K : ∀ (τc τr : ZS) (g1 : Nat → Int64) (H1 : Heap) (locs1 : List Loc) (ls1 : Array Slot), zIn τc τr (100 * i + 400) → va_P D vwC (zR dA am τr ++ zO dA ac o (τc, g1)) H1 → va_D A (zR dA am τr ++ zO dA ac o (τc, g1)) → va_S A s.heap H1 locs1 → lv_has ls1 7 [(4, .int (Int32.ofInt i)), (3, .ref o), (2, .ref (am 0 1000)), (1, .ref (ac 10 1000)), (0, .ref b)] → W p l e room_1 s m #[Value.ref b] below meth c H1 locs1 (cells + 1) (slots + 6) Q (F0 m 576 ls1 [])) : W p l e room_1 s m #[Value.ref b] below meth c H locs cells slots Q (F0 m 356 ls []) := by
  obtain ⟨y1, e1, r1⟩ := z_sc (xs (Int32.ofInt (i + 1)).toNatClampNeg)
  obtain ⟨y2, e2, r2⟩ := z_sc (xs (Int32.ofInt (i + 2)).toNatClampNeg)
  obtain ⟨y3, e3, r3⟩ := z_sc (xs (Int32.ofInt (i + 3)).toNatClampNeg)
  refine lv_aload_n hx hb dL_law_356 rfl (lv_at hl 3 rfl) ?_
  refine lv_aload_n hx hb dL_law_357 rfl (lv_at hl 4 rfl) ?_
  refine lv_iload hx hb dL_law_358 (lv_at hl 0 rfl) ?_
  refine lv_iconst (v := 1) hx hb dL_law_360 (by decide) ?_
  refine lv_iadd hx hb dL_law_361 ?_
  refine g_nrm (z_i1 i) ?_
  refine va_sld hx hb hX hbl hbA hS (z_in ⟨by omega, by omega⟩ (by omega)) dL_law_362 ?_
  refine g_nrm e1 ?_
  refine lv_aload_n hx hb dL_law_363 rfl (lv_at hl 4 rfl) ?_
  refine lv_iload hx hb dL_law_364 (lv_at hl 0 rfl) ?_
  refine lv_iconst (v := 2) hx hb dL_law_366 (by decide) ?_
  refine lv_iadd hx hb dL_law_367 ?_
  refine g_nrm (z_i2 i) ?_
  refine va_sld hx hb hX hbl hbA hS (z_in ⟨by omega, by omega⟩ (by omega)) dL_law_368 ?_
  refine g_nrm e2 ?_
  refine lv_aload_n hx hb dL_law_369 rfl (lv_at hl 4 rfl) ?_
  refine lv_iload hx hb dL_law_370 (lv_at hl 0 rfl) ?_
  refine lv_iconst (v := 3) hx hb dL_law_372 (by decide) ?_
  refine lv_iadd hx hb dL_law_373 ?_
  refine g_nrm (z_i3 i) ?_
  refine va_sld hx hb hX hbl hbA hS (z_in ⟨by omega, by omega⟩ (by omega)) dL_law_374 ?_
  refine g_nrm e3 ?_
  refine lv_aload_n hx hb dL_law_375 rfl (lv_at hl 1 rfl) ?_
  refine wl_SW (n := 5) (hh := [(0, 12, 15, 13), (0, 12, 19, 15)]) (As := [.ref (ac 10 1000), .int (Int32.ofInt y1), .int (Int32.ofInt y2), .int (Int32.ofInt y3), .ref o]) (rest := []) (wr := zR dA am σr) (w2 := zO dA ac o) (u0 := (σc, g)) hx hb hml hg hown hE hN hK hP hD hS hA (w_fixup l htr D dA ac tf tc aK aV o g y1 y2 y3 σc (fun v τ => CI τ (100 * i + 400) ∧ OO7 (wpX11_fixup y1 y2 y3 σr) τ 0 v (100 * i + 400) True) (fun E τ => ((E = xIAE ∧ OO7 (wpX11_fixup y1 y2 y3 σr) τ 1 0 (100 * i + 400) True) ∨ (E = xIOB ∧ OO7 (wpX11_fixup y1 y2 y3 σr) τ 2 0 (100 * i + 400) True)) ∧ CI τ (100 * i + 400)) _ (k7_fixup hI.1 hI.2.1 hI.2.2 (by omega) r1 r2 r3) (fun E u h => by rcases h.1 with h | h <;> simp [h.1])) q1515 q148 q1513 q1514 (by decide +kernel) ⟨(Nat.le_of_ble_eq_true rfl), (Nat.le_of_ble_eq_true rfl)⟩ rfl hl.1 rfl (Nat.le_of_ble_eq_true rfl) dL_law_376 ⟨Nat.le_trans hcs.1 (Nat.le_of_ble_eq_true rfl), Nat.le_trans hcs.2 (Nat.le_of_ble_eq_true rfl)⟩ (fun k u H locs hk hP hD hS => ?_)
  obtain ⟨hP, hD⟩ := w_swap hP hD
  have hu : CI u.1 (100 * i + 400) ∧ ∃ cd w : Int, OO7 (wpX11_fixup y1 y2 y3 σr) u.1 cd w (100 * i + 400) True := by
    rcases z_o_IAE_IOB hk with ⟨_, v, _, h⟩ | ⟨_, q, h⟩ | ⟨_, q, h⟩
    · exact ⟨h.1, _, _, h.2⟩
    · exact ⟨h, _, _, q⟩
    · exact ⟨h, _, _, q⟩
  obtain ⟨hC, cd, w, hO⟩ := hu
  refine lv_istore (lv' := [(5, .int k), (4, .int (Int32.ofInt i)), (3, .ref o), (2, .ref (am 0 1000)), (1, .ref (ac 10 1000)), (0, .ref b)]) hx hb dL_law_379 hl (by decide) rfl (fun ls hl => ?_)
  refine lv_aload_n hx hb dL_law_381 rfl (lv_at hl 3 rfl) ?_
  refine lv_aload_n hx hb dL_law_382 rfl (lv_at hl 5 rfl) ?_
  refine lv_iload hx hb dL_law_383 (lv_at hl 1 rfl) ?_
  refine lv_iconst (v := 1) hx hb dL_law_385 (by decide) ?_
  refine lv_iadd hx hb dL_law_386 ?_
  refine g_nrm (z_i1 i) ?_
  refine va_sld hx hb hX hbl hbA hS (z_in ⟨by omega, by omega⟩ (by omega)) dL_law_387 ?_
  refine g_nrm e1 ?_
  refine lv_aload_n hx hb dL_law_388 rfl (lv_at hl 5 rfl) ?_
  refine lv_iload hx hb dL_law_389 (lv_at hl 1 rfl) ?_
  refine lv_iconst (v := 2) hx hb dL_law_391 (by decide) ?_
  refine lv_iadd hx hb dL_law_392 ?_
  refine g_nrm (z_i2 i) ?_
  refine va_sld hx hb hX hbl hbA hS (z_in ⟨by omega, by omega⟩ (by omega)) dL_law_393 ?_
  refine g_nrm e2 ?_
  refine lv_aload_n hx hb dL_law_394 rfl (lv_at hl 5 rfl) ?_
  refine lv_iload hx hb dL_law_395 (lv_at hl 1 rfl) ?_
  refine lv_iconst (v := 3) hx hb dL_law_397 (by decide) ?_
  refine lv_iadd hx hb dL_law_398 ?_
  refine g_nrm (z_i3 i) ?_
  refine va_sld hx hb hX hbl hbA hS (z_in ⟨by omega, by omega⟩ (by omega)) dL_law_399 ?_
  refine g_nrm e3 ?_
  refine wl_Vi (n := 3) (As := [.int (Int32.ofInt y1), .int (Int32.ofInt y2), .int (Int32.ofInt y3)]) (rest := []) (wr := zO dA ac o u) (w1 := zR dA am) (σ := σr) (Q1 := (fun _ τ => RI τ (100 * i + 400) ∧ Alk7 u.1 τ)) hx hb hml hg hown hK hP hD hS hA (kX11_fixup l D dA am y1 y2 y3 σr _ _ (hO _ (fun r ρ h1 h2 _ => ⟨h1, h2⟩))) rfl rfl q2213 q160 q2210 q2211 q2212 (by decide +kernel) ⟨(Nat.le_of_ble_eq_true rfl), (Nat.le_of_ble_eq_true rfl)⟩ rfl hl.1 rfl (Nat.le_of_ble_eq_true rfl) dL_law_400 ⟨Nat.le_trans hcs.1 (Nat.le_of_ble_eq_true rfl), Nat.le_trans hcs.2 (Nat.le_of_ble_eq_true rfl)⟩ (fun r τ H locs hq hP hD hS => ?_)
  refine lv_istore (lv' := [(6, .int (Int32.ofInt r)), (5, .int k), (4, .int (Int32.ofInt i)), (3, .ref o), (2, .ref (am 0 1000)), (1, .ref (ac 10 1000)), (0, .ref b)]) hx hb dL_law_403 hl (by decide) rfl (fun ls hl => ?_)
  refine lv_goto (tgt := 576) hx hb dL_law_405 (by decide) ?_
  obtain ⟨hP, hD⟩ := w_swap hP hD
  exact K u.1 τ u.2 H locs _ ⟨hC, hq.1, hq.2⟩ hP hD hS (lv_sub hl [2, 3, 4, 5, 6] rfl)
set_option maxHeartbeats 4000000 in
set_option maxRecDepth 100000 in
theorem law_image {p : Program} {e : Env} {s : State} {m : MethodId} {below : List Frame} {meth : Method} {c : Code} {l : Launch} (htr : l.stackTraces = false) {b L : Nat} {xs : Nat → Int32} (hL : L ≤ 256) (hx : p.tables.exec = Jvm.exec) (hb : c.code = code) (hml : c.maxLocals = 7) (hown : s.vm.findClass RL = some m.cls) (hg : ∀ w ∈ gw, w.before #[Value.ref b] s = true) (hX : va_X b L xs s s.heap) (hbl : b < s.heap.size) {D : va_G} {dA : Nat → ClassId} {A : Nat → Prop} (hA : ∀ q : Nat, s.heap.size ≤ q → A q) (hbA : ¬ A b) {tf tc : Nat} {aK aV : Nat → Nat} (hE : zE tf tc aK aV A s) (hN : zNc s) (hK : gK D dA s) {ac am : Int → Nat → Nat} {o : Nat} {g : Nat → Int64} {i : Int} (hi : 0 ≤ i ∧ i + 4 ≤ (L : Int)) {σc σr : ZS} (hI : zIn σc σr (100 * i)) {H : Heap} {locs : List Loc} {ls : Array Slot} {cells slots : Nat} (hcs : cells + 1 ≤ 600000 ∧ slots + 6 ≤ 7000000) {Q : State → Prop} (hP : va_P D vwC (zR dA am σr ++ zO dA ac o (σc, g)) H) (hD : va_D A (zR dA am σr ++ zO dA ac o (σc, g))) (hS : va_S A s.heap H locs) (hl : lv_has ls 7 [(4, .int (Int32.ofInt i)), (3, .ref o), (2, .ref (am 0 1000)), (1, .ref (ac 10 1000)), (0, .ref b)]) (K : ∀ (τc τr : ZS) (g1 : Nat → Int64) (H1 : Heap) (locs1 : List Loc) (ls1 : Array Slot), zIn τc τr (100 * i + 400) → va_P D vwC (zR dA am τr ++ zO dA ac o (τc, g1)) H1 → va_D A (zR dA am τr ++ zO dA ac o (τc, g1)) → va_S A s.heap H1 locs1 → lv_has ls1 7 [(4, .int (Int32.ofInt i)), (3, .ref o), (2, .ref (am 0 1000)), (1, .ref (ac 10 1000)), (0, .ref b)] → W p l e room_1 s m #[Value.ref b] below meth c H1 locs1 (cells + 1) (slots + 6) Q (F0 m 576 ls1 [])) : W p l e room_1 s m #[Value.ref b] below meth c H locs cells slots Q (F0 m 408 ls []) := by
  obtain ⟨y1, e1, r1⟩ := z_sc (xs (Int32.ofInt (i + 1)).toNatClampNeg)
  refine lv_aload_n hx hb dL_law_408 rfl (lv_at hl 3 rfl) ?_
  refine lv_aload_n hx hb dL_law_409 rfl (lv_at hl 4 rfl) ?_
  refine lv_iload hx hb dL_law_410 (lv_at hl 0 rfl) ?_
  refine lv_iconst (v := 1) hx hb dL_law_412 (by decide) ?_
  refine lv_iadd hx hb dL_law_413 ?_
  refine g_nrm (z_i1 i) ?_
  refine va_sld hx hb hX hbl hbA hS (z_in ⟨by omega, by omega⟩ (by omega)) dL_law_414 ?_
  refine g_nrm e1 ?_
  refine lv_aload_n hx hb dL_law_415 rfl (lv_at hl 1 rfl) ?_
  refine wl_SW (n := 3) (hh := [(0, 9, 12, 15)]) (As := [.ref (ac 10 1000), .int (Int32.ofInt y1), .ref o]) (rest := []) (wr := zR dA am σr) (w2 := zO dA ac o) (u0 := (σc, g)) hx hb hml hg hown hE hN hK hP hD hS hA (w_image l htr D dA ac tf tc aK aV o g y1 σc (fun v τ => CI τ (100 * i + 400) ∧ OO7 (wpX11_image y1 σr) τ 0 v (100 * i + 400) True) (fun E τ => ((E = xIOB ∧ OO7 (wpX11_image y1 σr) τ 1 0 (100 * i + 400) True)) ∧ CI τ (100 * i + 400)) _ (k7_image hI.1 hI.2.1 hI.2.2 (by omega) r1) (fun E u h => h.1.1)) q1524 q148 q1522 q1523 (by decide +kernel) ⟨(Nat.le_of_ble_eq_true rfl), (Nat.le_of_ble_eq_true rfl)⟩ rfl hl.1 rfl (Nat.le_of_ble_eq_true rfl) dL_law_416 ⟨Nat.le_trans hcs.1 (Nat.le_of_ble_eq_true rfl), Nat.le_trans hcs.2 (Nat.le_of_ble_eq_true rfl)⟩ (fun k u H locs hk hP hD hS => ?_)
  obtain ⟨hP, hD⟩ := w_swap hP hD
  have hu : CI u.1 (100 * i + 400) ∧ ∃ cd w : Int, OO7 (wpX11_image y1 σr) u.1 cd w (100 * i + 400) True := by
    rcases z_o_IOB hk with ⟨_, v, _, h⟩ | ⟨_, q, h⟩
    · exact ⟨h.1, _, _, h.2⟩
    · exact ⟨h, _, _, q⟩
  obtain ⟨hC, cd, w, hO⟩ := hu
  refine lv_istore (lv' := [(5, .int k), (4, .int (Int32.ofInt i)), (3, .ref o), (2, .ref (am 0 1000)), (1, .ref (ac 10 1000)), (0, .ref b)]) hx hb dL_law_419 hl (by decide) rfl (fun ls hl => ?_)
  refine lv_aload_n hx hb dL_law_421 rfl (lv_at hl 3 rfl) ?_
  refine lv_aload_n hx hb dL_law_422 rfl (lv_at hl 5 rfl) ?_
  refine lv_iload hx hb dL_law_423 (lv_at hl 1 rfl) ?_
  refine lv_iconst (v := 1) hx hb dL_law_425 (by decide) ?_
  refine lv_iadd hx hb dL_law_426 ?_
  refine g_nrm (z_i1 i) ?_
  refine va_sld hx hb hX hbl hbA hS (z_in ⟨by omega, by omega⟩ (by omega)) dL_law_427 ?_
  refine g_nrm e1 ?_
  refine wl_Vi (n := 1) (As := [.int (Int32.ofInt y1)]) (rest := []) (wr := zO dA ac o u) (w1 := zR dA am) (σ := σr) (Q1 := (fun _ τ => RI τ (100 * i + 400) ∧ Alk7 u.1 τ)) hx hb hml hg hown hK hP hD hS hA (kX11_image l D dA am y1 σr _ _ (hO _ (fun r ρ h1 h2 _ => ⟨h1, h2⟩))) rfl rfl q2217 q160 q2214 q2215 q2216 (by decide +kernel) ⟨(Nat.le_of_ble_eq_true rfl), (Nat.le_of_ble_eq_true rfl)⟩ rfl hl.1 rfl (Nat.le_of_ble_eq_true rfl) dL_law_428 ⟨Nat.le_trans hcs.1 (Nat.le_of_ble_eq_true rfl), Nat.le_trans hcs.2 (Nat.le_of_ble_eq_true rfl)⟩ (fun r τ H locs hq hP hD hS => ?_)
  refine lv_istore (lv' := [(6, .int (Int32.ofInt r)), (5, .int k), (4, .int (Int32.ofInt i)), (3, .ref o), (2, .ref (am 0 1000)), (1, .ref (ac 10 1000)), (0, .ref b)]) hx hb dL_law_431 hl (by decide) rfl (fun ls hl => ?_)
  refine lv_goto (tgt := 576) hx hb dL_law_433 (by decide) ?_
  obtain ⟨hP, hD⟩ := w_swap hP hD
  exact K u.1 τ u.2 H locs _ ⟨hC, hq.1, hq.2⟩ hP hD hS (lv_sub hl [2, 3, 4, 5, 6] rfl)
set_option maxHeartbeats 4000000 in
set_option maxRecDepth 100000 in
theorem law_memory {p : Program} {e : Env} {s : State} {m : MethodId} {below : List Frame} {meth : Method} {c : Code} {l : Launch} (htr : l.stackTraces = false) {b L : Nat} {xs : Nat → Int32} (hL : L ≤ 256) (hx : p.tables.exec = Jvm.exec) (hb : c.code = code) (hml : c.maxLocals = 7) (hown : s.vm.findClass RL = some m.cls) (hg : ∀ w ∈ gw, w.before #[Value.ref b] s = true) (hX : va_X b L xs s s.heap) (hbl : b < s.heap.size) {D : va_G} {dA : Nat → ClassId} {A : Nat → Prop} (hA : ∀ q : Nat, s.heap.size ≤ q → A q) (hbA : ¬ A b) {tf tc : Nat} {aK aV : Nat → Nat} (hE : zE tf tc aK aV A s) (hN : zNc s) (hK : gK D dA s) {ac am : Int → Nat → Nat} {o : Nat} {g : Nat → Int64} {i : Int} (hi : 0 ≤ i ∧ i + 4 ≤ (L : Int)) {σc σr : ZS} (hI : zIn σc σr (100 * i)) {H : Heap} {locs : List Loc} {ls : Array Slot} {cells slots : Nat} (hcs : cells + 1 ≤ 600000 ∧ slots + 6 ≤ 7000000) {Q : State → Prop} (hP : va_P D vwC (zR dA am σr ++ zO dA ac o (σc, g)) H) (hD : va_D A (zR dA am σr ++ zO dA ac o (σc, g))) (hS : va_S A s.heap H locs) (hl : lv_has ls 7 [(4, .int (Int32.ofInt i)), (3, .ref o), (2, .ref (am 0 1000)), (1, .ref (ac 10 1000)), (0, .ref b)]) (K : ∀ (τc τr : ZS) (g1 : Nat → Int64) (H1 : Heap) (locs1 : List Loc) (ls1 : Array Slot), zIn τc τr (100 * i + 400) → va_P D vwC (zR dA am τr ++ zO dA ac o (τc, g1)) H1 → va_D A (zR dA am τr ++ zO dA ac o (τc, g1)) → va_S A s.heap H1 locs1 → lv_has ls1 7 [(4, .int (Int32.ofInt i)), (3, .ref o), (2, .ref (am 0 1000)), (1, .ref (ac 10 1000)), (0, .ref b)] → W p l e room_1 s m #[Value.ref b] below meth c H1 locs1 (cells + 1) (slots + 6) Q (F0 m 576 ls1 [])) : W p l e room_1 s m #[Value.ref b] below meth c H locs cells slots Q (F0 m 436 ls []) := by
  obtain ⟨y1, e1, r1⟩ := z_sc (xs (Int32.ofInt (i + 1)).toNatClampNeg)
  refine lv_aload_n hx hb dL_law_436 rfl (lv_at hl 3 rfl) ?_
  refine lv_aload_n hx hb dL_law_437 rfl (lv_at hl 4 rfl) ?_
  refine lv_iload hx hb dL_law_438 (lv_at hl 0 rfl) ?_
  refine lv_iconst (v := 1) hx hb dL_law_440 (by decide) ?_
  refine lv_iadd hx hb dL_law_441 ?_
  refine g_nrm (z_i1 i) ?_
  refine va_sld hx hb hX hbl hbA hS (z_in ⟨by omega, by omega⟩ (by omega)) dL_law_442 ?_
  refine g_nrm e1 ?_
  refine lv_aload_n hx hb dL_law_443 rfl (lv_at hl 1 rfl) ?_
  refine wl_SW (n := 3) (hh := [(0, 9, 12, 13)]) (As := [.ref (ac 10 1000), .int (Int32.ofInt y1), .ref o]) (rest := []) (wr := zR dA am σr) (w2 := zO dA ac o) (u0 := (σc, g)) hx hb hml hg hown hE hN hK hP hD hS hA (w_memory l htr D dA ac tf tc aK aV o g y1 σc (fun v τ => CI τ (100 * i + 400) ∧ OO7 (wpX11_memory y1 σr) τ 0 v (100 * i + 400) True) (fun E τ => ((E = xIAE ∧ OO7 (wpX11_memory y1 σr) τ 1 0 (100 * i + 400) True)) ∧ CI τ (100 * i + 400)) _ (k7_memory hI.1 hI.2.1 hI.2.2 (by omega) r1) (fun E u h => h.1.1)) q1531 q148 q1529 q1530 (by decide +kernel) ⟨(Nat.le_of_ble_eq_true rfl), (Nat.le_of_ble_eq_true rfl)⟩ rfl hl.1 rfl (Nat.le_of_ble_eq_true rfl) dL_law_444 ⟨Nat.le_trans hcs.1 (Nat.le_of_ble_eq_true rfl), Nat.le_trans hcs.2 (Nat.le_of_ble_eq_true rfl)⟩ (fun k u H locs hk hP hD hS => ?_)
  obtain ⟨hP, hD⟩ := w_swap hP hD
  have hu : CI u.1 (100 * i + 400) ∧ ∃ cd w : Int, OO7 (wpX11_memory y1 σr) u.1 cd w (100 * i + 400) True := by
    rcases z_o_IAE hk with ⟨_, v, _, h⟩ | ⟨_, q, h⟩
    · exact ⟨h.1, _, _, h.2⟩
    · exact ⟨h, _, _, q⟩
  obtain ⟨hC, cd, w, hO⟩ := hu
  refine lv_istore (lv' := [(5, .int k), (4, .int (Int32.ofInt i)), (3, .ref o), (2, .ref (am 0 1000)), (1, .ref (ac 10 1000)), (0, .ref b)]) hx hb dL_law_447 hl (by decide) rfl (fun ls hl => ?_)
  refine lv_aload_n hx hb dL_law_449 rfl (lv_at hl 3 rfl) ?_
  refine lv_aload_n hx hb dL_law_450 rfl (lv_at hl 5 rfl) ?_
  refine lv_iload hx hb dL_law_451 (lv_at hl 1 rfl) ?_
  refine lv_iconst (v := 1) hx hb dL_law_453 (by decide) ?_
  refine lv_iadd hx hb dL_law_454 ?_
  refine g_nrm (z_i1 i) ?_
  refine va_sld hx hb hX hbl hbA hS (z_in ⟨by omega, by omega⟩ (by omega)) dL_law_455 ?_
  refine g_nrm e1 ?_
  refine wl_Vi (n := 1) (As := [.int (Int32.ofInt y1)]) (rest := []) (wr := zO dA ac o u) (w1 := zR dA am) (σ := σr) (Q1 := (fun _ τ => RI τ (100 * i + 400) ∧ Alk7 u.1 τ)) hx hb hml hg hown hK hP hD hS hA (kX11_memory l D dA am y1 σr _ _ (hO _ (fun r ρ h1 h2 _ => ⟨h1, h2⟩))) rfl rfl q2221 q160 q2218 q2219 q2220 (by decide +kernel) ⟨(Nat.le_of_ble_eq_true rfl), (Nat.le_of_ble_eq_true rfl)⟩ rfl hl.1 rfl (Nat.le_of_ble_eq_true rfl) dL_law_456 ⟨Nat.le_trans hcs.1 (Nat.le_of_ble_eq_true rfl), Nat.le_trans hcs.2 (Nat.le_of_ble_eq_true rfl)⟩ (fun r τ H locs hq hP hD hS => ?_)
  refine lv_istore (lv' := [(6, .int (Int32.ofInt r)), (5, .int k), (4, .int (Int32.ofInt i)), (3, .ref o), (2, .ref (am 0 1000)), (1, .ref (ac 10 1000)), (0, .ref b)]) hx hb dL_law_459 hl (by decide) rfl (fun ls hl => ?_)
  refine lv_goto (tgt := 576) hx hb dL_law_461 (by decide) ?_
  obtain ⟨hP, hD⟩ := w_swap hP hD
  exact K u.1 τ u.2 H locs _ ⟨hC, hq.1, hq.2⟩ hP hD hS (lv_sub hl [2, 3, 4, 5, 6] rfl)
set_option maxHeartbeats 4000000 in
set_option maxRecDepth 100000 in
theorem law_register {p : Program} {e : Env} {s : State} {m : MethodId} {below : List Frame} {meth : Method} {c : Code} {l : Launch} (htr : l.stackTraces = false) {b L : Nat} {xs : Nat → Int32} (hL : L ≤ 256) (hx : p.tables.exec = Jvm.exec) (hb : c.code = code) (hml : c.maxLocals = 7) (hown : s.vm.findClass RL = some m.cls) (hg : ∀ w ∈ gw, w.before #[Value.ref b] s = true) (hX : va_X b L xs s s.heap) (hbl : b < s.heap.size) {D : va_G} {dA : Nat → ClassId} {A : Nat → Prop} (hA : ∀ q : Nat, s.heap.size ≤ q → A q) (hbA : ¬ A b) {tf tc : Nat} {aK aV : Nat → Nat} (hE : zE tf tc aK aV A s) (hN : zNc s) (hK : gK D dA s) {ac am : Int → Nat → Nat} {o : Nat} {g : Nat → Int64} {i : Int} (hi : 0 ≤ i ∧ i + 4 ≤ (L : Int)) {σc σr : ZS} (hI : zIn σc σr (100 * i)) {H : Heap} {locs : List Loc} {ls : Array Slot} {cells slots : Nat} (hcs : cells + 1 ≤ 600000 ∧ slots + 6 ≤ 7000000) {Q : State → Prop} (hP : va_P D vwC (zR dA am σr ++ zO dA ac o (σc, g)) H) (hD : va_D A (zR dA am σr ++ zO dA ac o (σc, g))) (hS : va_S A s.heap H locs) (hl : lv_has ls 7 [(4, .int (Int32.ofInt i)), (3, .ref o), (2, .ref (am 0 1000)), (1, .ref (ac 10 1000)), (0, .ref b)]) (K : ∀ (τc τr : ZS) (g1 : Nat → Int64) (H1 : Heap) (locs1 : List Loc) (ls1 : Array Slot), zIn τc τr (100 * i + 400) → va_P D vwC (zR dA am τr ++ zO dA ac o (τc, g1)) H1 → va_D A (zR dA am τr ++ zO dA ac o (τc, g1)) → va_S A s.heap H1 locs1 → lv_has ls1 7 [(4, .int (Int32.ofInt i)), (3, .ref o), (2, .ref (am 0 1000)), (1, .ref (ac 10 1000)), (0, .ref b)] → W p l e room_1 s m #[Value.ref b] below meth c H1 locs1 (cells + 1) (slots + 6) Q (F0 m 576 ls1 [])) : W p l e room_1 s m #[Value.ref b] below meth c H locs cells slots Q (F0 m 464 ls []) := by
  obtain ⟨y1, e1, r1⟩ := z_sc (xs (Int32.ofInt (i + 1)).toNatClampNeg)
  refine lv_aload_n hx hb dL_law_464 rfl (lv_at hl 3 rfl) ?_
  refine lv_aload_n hx hb dL_law_465 rfl (lv_at hl 4 rfl) ?_
  refine lv_iload hx hb dL_law_466 (lv_at hl 0 rfl) ?_
  refine lv_iconst (v := 1) hx hb dL_law_468 (by decide) ?_
  refine lv_iadd hx hb dL_law_469 ?_
  refine g_nrm (z_i1 i) ?_
  refine va_sld hx hb hX hbl hbA hS (z_in ⟨by omega, by omega⟩ (by omega)) dL_law_470 ?_
  refine g_nrm e1 ?_
  refine lv_aload_n hx hb dL_law_471 rfl (lv_at hl 1 rfl) ?_
  refine wl_SW (n := 3) (hh := [(0, 9, 12, 13)]) (As := [.ref (ac 10 1000), .int (Int32.ofInt y1), .ref o]) (rest := []) (wr := zR dA am σr) (w2 := zO dA ac o) (u0 := (σc, g)) hx hb hml hg hown hE hN hK hP hD hS hA (w_register l htr D dA ac tf tc aK aV o g y1 σc (fun v τ => CI τ (100 * i + 400) ∧ OO7 (wpX11_register y1 σr) τ 0 v (100 * i + 400) True) (fun E τ => ((E = xIAE ∧ OO7 (wpX11_register y1 σr) τ 1 0 (100 * i + 400) True)) ∧ CI τ (100 * i + 400)) _ (k7_register hI.1 hI.2.1 hI.2.2 (by omega) r1) (fun E u h => h.1.1)) q1539 q148 q1537 q1538 (by decide +kernel) ⟨(Nat.le_of_ble_eq_true rfl), (Nat.le_of_ble_eq_true rfl)⟩ rfl hl.1 rfl (Nat.le_of_ble_eq_true rfl) dL_law_472 ⟨Nat.le_trans hcs.1 (Nat.le_of_ble_eq_true rfl), Nat.le_trans hcs.2 (Nat.le_of_ble_eq_true rfl)⟩ (fun k u H locs hk hP hD hS => ?_)
  obtain ⟨hP, hD⟩ := w_swap hP hD
  have hu : CI u.1 (100 * i + 400) ∧ ∃ cd w : Int, OO7 (wpX11_register y1 σr) u.1 cd w (100 * i + 400) True := by
    rcases z_o_IAE hk with ⟨_, v, _, h⟩ | ⟨_, q, h⟩
    · exact ⟨h.1, _, _, h.2⟩
    · exact ⟨h, _, _, q⟩
  obtain ⟨hC, cd, w, hO⟩ := hu
  refine lv_istore (lv' := [(5, .int k), (4, .int (Int32.ofInt i)), (3, .ref o), (2, .ref (am 0 1000)), (1, .ref (ac 10 1000)), (0, .ref b)]) hx hb dL_law_475 hl (by decide) rfl (fun ls hl => ?_)
  refine lv_aload_n hx hb dL_law_477 rfl (lv_at hl 3 rfl) ?_
  refine lv_aload_n hx hb dL_law_478 rfl (lv_at hl 5 rfl) ?_
  refine lv_iload hx hb dL_law_479 (lv_at hl 1 rfl) ?_
  refine lv_iconst (v := 1) hx hb dL_law_481 (by decide) ?_
  refine lv_iadd hx hb dL_law_482 ?_
  refine g_nrm (z_i1 i) ?_
  refine va_sld hx hb hX hbl hbA hS (z_in ⟨by omega, by omega⟩ (by omega)) dL_law_483 ?_
  refine g_nrm e1 ?_
  refine wl_Vi (n := 1) (As := [.int (Int32.ofInt y1)]) (rest := []) (wr := zO dA ac o u) (w1 := zR dA am) (σ := σr) (Q1 := (fun _ τ => RI τ (100 * i + 400) ∧ Alk7 u.1 τ)) hx hb hml hg hown hK hP hD hS hA (kX11_register l D dA am y1 σr _ _ (hO _ (fun r ρ h1 h2 _ => ⟨h1, h2⟩))) rfl rfl q2225 q160 q2222 q2223 q2224 (by decide +kernel) ⟨(Nat.le_of_ble_eq_true rfl), (Nat.le_of_ble_eq_true rfl)⟩ rfl hl.1 rfl (Nat.le_of_ble_eq_true rfl) dL_law_484 ⟨Nat.le_trans hcs.1 (Nat.le_of_ble_eq_true rfl), Nat.le_trans hcs.2 (Nat.le_of_ble_eq_true rfl)⟩ (fun r τ H locs hq hP hD hS => ?_)
  refine lv_istore (lv' := [(6, .int (Int32.ofInt r)), (5, .int k), (4, .int (Int32.ofInt i)), (3, .ref o), (2, .ref (am 0 1000)), (1, .ref (ac 10 1000)), (0, .ref b)]) hx hb dL_law_487 hl (by decide) rfl (fun ls hl => ?_)
  refine lv_goto (tgt := 576) hx hb dL_law_489 (by decide) ?_
  obtain ⟨hP, hD⟩ := w_swap hP hD
  exact K u.1 τ u.2 H locs _ ⟨hC, hq.1, hq.2⟩ hP hD hS (lv_sub hl [2, 3, 4, 5, 6] rfl)
set_option maxHeartbeats 4000000 in
set_option maxRecDepth 100000 in
theorem law_trace {p : Program} {e : Env} {s : State} {m : MethodId} {below : List Frame} {meth : Method} {c : Code} {l : Launch} (htr : l.stackTraces = false) {b L : Nat} {xs : Nat → Int32} (hL : L ≤ 256) (hx : p.tables.exec = Jvm.exec) (hb : c.code = code) (hml : c.maxLocals = 7) (hown : s.vm.findClass RL = some m.cls) (hg : ∀ w ∈ gw, w.before #[Value.ref b] s = true) (hX : va_X b L xs s s.heap) (hbl : b < s.heap.size) {D : va_G} {dA : Nat → ClassId} {A : Nat → Prop} (hA : ∀ q : Nat, s.heap.size ≤ q → A q) (hbA : ¬ A b) {tf tc : Nat} {aK aV : Nat → Nat} (hE : zE tf tc aK aV A s) (hN : zNc s) (hK : gK D dA s) {ac am : Int → Nat → Nat} {o : Nat} {g : Nat → Int64} {i : Int} (hi : 0 ≤ i ∧ i + 4 ≤ (L : Int)) {σc σr : ZS} (hI : zIn σc σr (100 * i)) {H : Heap} {locs : List Loc} {ls : Array Slot} {cells slots : Nat} (hcs : cells + 1 ≤ 600000 ∧ slots + 6 ≤ 7000000) {Q : State → Prop} (hP : va_P D vwC (zR dA am σr ++ zO dA ac o (σc, g)) H) (hD : va_D A (zR dA am σr ++ zO dA ac o (σc, g))) (hS : va_S A s.heap H locs) (hl : lv_has ls 7 [(4, .int (Int32.ofInt i)), (3, .ref o), (2, .ref (am 0 1000)), (1, .ref (ac 10 1000)), (0, .ref b)]) (K : ∀ (τc τr : ZS) (g1 : Nat → Int64) (H1 : Heap) (locs1 : List Loc) (ls1 : Array Slot), zIn τc τr (100 * i + 400) → va_P D vwC (zR dA am τr ++ zO dA ac o (τc, g1)) H1 → va_D A (zR dA am τr ++ zO dA ac o (τc, g1)) → va_S A s.heap H1 locs1 → lv_has ls1 7 [(4, .int (Int32.ofInt i)), (3, .ref o), (2, .ref (am 0 1000)), (1, .ref (ac 10 1000)), (0, .ref b)] → W p l e room_1 s m #[Value.ref b] below meth c H1 locs1 (cells + 1) (slots + 6) Q (F0 m 576 ls1 [])) : W p l e room_1 s m #[Value.ref b] below meth c H locs cells slots Q (F0 m 492 ls []) := by
  obtain ⟨y1, e1, r1⟩ := z_sc (xs (Int32.ofInt (i + 1)).toNatClampNeg)
  refine lv_aload_n hx hb dL_law_492 rfl (lv_at hl 3 rfl) ?_
  refine lv_aload_n hx hb dL_law_493 rfl (lv_at hl 4 rfl) ?_
  refine lv_iload hx hb dL_law_494 (lv_at hl 0 rfl) ?_
  refine lv_iconst (v := 1) hx hb dL_law_496 (by decide) ?_
  refine lv_iadd hx hb dL_law_497 ?_
  refine g_nrm (z_i1 i) ?_
  refine va_sld hx hb hX hbl hbA hS (z_in ⟨by omega, by omega⟩ (by omega)) dL_law_498 ?_
  refine g_nrm e1 ?_
  refine lv_aload_n hx hb dL_law_499 rfl (lv_at hl 1 rfl) ?_
  refine wl_SW (n := 3) (hh := [(0, 9, 12, 15)]) (As := [.ref (ac 10 1000), .int (Int32.ofInt y1), .ref o]) (rest := []) (wr := zR dA am σr) (w2 := zO dA ac o) (u0 := (σc, g)) hx hb hml hg hown hE hN hK hP hD hS hA (w_trace l htr D dA ac tf tc aK aV o g y1 σc (fun v τ => CI τ (100 * i + 400) ∧ OO7 (wpX11_trace y1 σr) τ 0 v (100 * i + 400) True) (fun E τ => ((E = xIOB ∧ OO7 (wpX11_trace y1 σr) τ 1 0 (100 * i + 400) True)) ∧ CI τ (100 * i + 400)) _ (k7_trace hI.1 hI.2.1 hI.2.2 (by omega) r1) (fun E u h => h.1.1)) q1547 q148 q1545 q1546 (by decide +kernel) ⟨(Nat.le_of_ble_eq_true rfl), (Nat.le_of_ble_eq_true rfl)⟩ rfl hl.1 rfl (Nat.le_of_ble_eq_true rfl) dL_law_500 ⟨Nat.le_trans hcs.1 (Nat.le_of_ble_eq_true rfl), Nat.le_trans hcs.2 (Nat.le_of_ble_eq_true rfl)⟩ (fun k u H locs hk hP hD hS => ?_)
  obtain ⟨hP, hD⟩ := w_swap hP hD
  rcases z_o_IOB hk with ⟨rfl, v, hv, hC, hO⟩ | ⟨rfl, hO, hC⟩
  · refine lv_istore (lv' := [(5, .int 0), (4, .int (Int32.ofInt i)), (3, .ref o), (2, .ref (am 0 1000)), (1, .ref (ac 10 1000)), (0, .ref b)]) hx hb dL_law_503 hl (by decide) rfl (fun ls hl => ?_)
    refine lv_aload_n hx hb dL_law_505 rfl (lv_at hl 3 rfl) ?_
    refine lv_aload_n hx hb dL_law_506 rfl (lv_at hl 5 rfl) ?_
    refine lv_iload hx hb dL_law_507 (lv_at hl 1 rfl) ?_
    refine lv_iconst (v := 1) hx hb dL_law_509 (by decide) ?_
    refine lv_iadd hx hb dL_law_510 ?_
    refine g_nrm (z_i1 i) ?_
    refine va_sld hx hb hX hbl hbA hS (z_in ⟨by omega, by omega⟩ (by omega)) dL_law_511 ?_
    refine g_nrm e1 ?_
    refine wl_Vi (n := 1) (As := [.int (Int32.ofInt y1)]) (rest := []) (wr := zO dA ac o u) (w1 := zR dA am) (σ := σr) (Q1 := (fun r τ => RI τ (100 * i + 400) ∧ Alk7 u.1 τ ∧ zI τ 0 0 = 0 ∧ ((0 : Int) = 0 → r = v))) hx hb hml hg hown hK hP hD hS hA (kX11_trace l D dA am y1 σr _ _ (hO _ (fun r ρ h1 h2 h3 => ⟨h1, h2, h3 trivial⟩))) rfl rfl q2229 q160 q2226 q2227 q2228 (by decide +kernel) ⟨(Nat.le_of_ble_eq_true rfl), (Nat.le_of_ble_eq_true rfl)⟩ rfl hl.1 rfl (Nat.le_of_ble_eq_true rfl) dL_law_512 ⟨Nat.le_trans hcs.1 (Nat.le_of_ble_eq_true rfl), Nat.le_trans hcs.2 (Nat.le_of_ble_eq_true rfl)⟩ (fun r τ H locs hq hP hD hS => ?_)
    refine lv_istore (lv' := [(6, .int (Int32.ofInt r)), (5, .int 0), (4, .int (Int32.ofInt i)), (3, .ref o), (2, .ref (am 0 1000)), (1, .ref (ac 10 1000)), (0, .ref b)]) hx hb dL_law_515 hl (by decide) rfl (fun ls hl => ?_)
    refine lv_aload_n hx hb dL_law_517 rfl (lv_at hl 4 rfl) ?_
    refine wl_Vi (n := 0) (As := []) (rest := []) (wr := zO dA ac o u) (w1 := zR dA am) (σ := τ) (Q1 := fun x υ => x = zI τ 0 0 ∧ υ = τ) hx hb hml hg hown hK hP hD hS hA (kX11_thrown l D dA am τ _ _ ⟨rfl, rfl⟩) rfl rfl q1875 q160 q1872 q1873 q1874 (by decide +kernel) ⟨(Nat.le_of_ble_eq_true rfl), (Nat.le_of_ble_eq_true rfl)⟩ rfl hl.1 rfl (Nat.le_of_ble_eq_true rfl) dL_law_518 ⟨Nat.le_trans hcs.1 (Nat.le_of_ble_eq_true rfl), Nat.le_trans hcs.2 (Nat.le_of_ble_eq_true rfl)⟩ (fun x υ H locs hxu hP hD hS => ?_)
    obtain ⟨ex, eu⟩ := hxu
    rw [eu] at hP hD
    rw [ex]
    obtain ⟨hqR, hqA, hq0, hqv⟩ := hq
    refine lv_iload hx hb dL_law_521 (lv_at hl 1 rfl) ?_
    refine lv_icmp_eq (tgt := 528) hx hb dL_law_523 (by decide) (fun _ => ?_) (fun h => absurd (by rw [hq0]; decide) h)
    refine lv_iload hx hb dL_law_528 (lv_at hl 1 rfl) ?_
    refine lv_if_ne (tgt := 545) hx hb dL_law_530 (by decide) (fun h => absurd rfl h) (fun _ => ?_)
    refine lv_aload_n hx hb dL_law_533 rfl (lv_at hl 3 rfl) ?_
    refine lv_iconst (v := 0) hx hb dL_law_534 (by decide) ?_
    refine va_lald (i := (0 : Int32)) hx hb hK hP 0 1 rfl rfl (by unfold vp_in; decide) dL_law_535 ?_
    refine lv_iload hx hb dL_law_536 (lv_at hl 0 rfl) ?_
    refine lv_i2l (v := (Int32.ofInt r).toInt64) hx hb dL_law_538 rfl ?_
    refine W.lcmp hx hb dL_law_539 ?_
    refine g_nrm (y := 0) (g_cmp0 (by rw [g_z0]; exact hv.trans (by rw [hqv rfl]))) ?_
    refine lv_if_eq (tgt := 545) hx hb dL_law_540 (by decide) (fun _ => ?_) (fun h => absurd rfl h)
    refine lv_goto (tgt := 576) hx hb dL_law_545 (by decide) ?_
    obtain ⟨hP, hD⟩ := w_swap hP hD
    exact K u.1 τ u.2 _ _ _ ⟨hC, hqR, hqA⟩ hP hD hS (lv_sub hl [2, 3, 4, 5, 6] rfl)
  · refine lv_istore (lv' := [(5, .int 1), (4, .int (Int32.ofInt i)), (3, .ref o), (2, .ref (am 0 1000)), (1, .ref (ac 10 1000)), (0, .ref b)]) hx hb dL_law_503 hl (by decide) rfl (fun ls hl => ?_)
    refine lv_aload_n hx hb dL_law_505 rfl (lv_at hl 3 rfl) ?_
    refine lv_aload_n hx hb dL_law_506 rfl (lv_at hl 5 rfl) ?_
    refine lv_iload hx hb dL_law_507 (lv_at hl 1 rfl) ?_
    refine lv_iconst (v := 1) hx hb dL_law_509 (by decide) ?_
    refine lv_iadd hx hb dL_law_510 ?_
    refine g_nrm (z_i1 i) ?_
    refine va_sld hx hb hX hbl hbA hS (z_in ⟨by omega, by omega⟩ (by omega)) dL_law_511 ?_
    refine g_nrm e1 ?_
    refine wl_Vi (n := 1) (As := [.int (Int32.ofInt y1)]) (rest := []) (wr := zO dA ac o u) (w1 := zR dA am) (σ := σr) (Q1 := (fun r τ => RI τ (100 * i + 400) ∧ Alk7 u.1 τ ∧ zI τ 0 0 = 1 ∧ ((1 : Int) = 0 → r = 0))) hx hb hml hg hown hK hP hD hS hA (kX11_trace l D dA am y1 σr _ _ (hO _ (fun r ρ h1 h2 h3 => ⟨h1, h2, h3 trivial⟩))) rfl rfl q2229 q160 q2226 q2227 q2228 (by decide +kernel) ⟨(Nat.le_of_ble_eq_true rfl), (Nat.le_of_ble_eq_true rfl)⟩ rfl hl.1 rfl (Nat.le_of_ble_eq_true rfl) dL_law_512 ⟨Nat.le_trans hcs.1 (Nat.le_of_ble_eq_true rfl), Nat.le_trans hcs.2 (Nat.le_of_ble_eq_true rfl)⟩ (fun r τ H locs hq hP hD hS => ?_)
    refine lv_istore (lv' := [(6, .int (Int32.ofInt r)), (5, .int 1), (4, .int (Int32.ofInt i)), (3, .ref o), (2, .ref (am 0 1000)), (1, .ref (ac 10 1000)), (0, .ref b)]) hx hb dL_law_515 hl (by decide) rfl (fun ls hl => ?_)
    refine lv_aload_n hx hb dL_law_517 rfl (lv_at hl 4 rfl) ?_
    refine wl_Vi (n := 0) (As := []) (rest := []) (wr := zO dA ac o u) (w1 := zR dA am) (σ := τ) (Q1 := fun x υ => x = zI τ 0 0 ∧ υ = τ) hx hb hml hg hown hK hP hD hS hA (kX11_thrown l D dA am τ _ _ ⟨rfl, rfl⟩) rfl rfl q1875 q160 q1872 q1873 q1874 (by decide +kernel) ⟨(Nat.le_of_ble_eq_true rfl), (Nat.le_of_ble_eq_true rfl)⟩ rfl hl.1 rfl (Nat.le_of_ble_eq_true rfl) dL_law_518 ⟨Nat.le_trans hcs.1 (Nat.le_of_ble_eq_true rfl), Nat.le_trans hcs.2 (Nat.le_of_ble_eq_true rfl)⟩ (fun x υ H locs hxu hP hD hS => ?_)
    obtain ⟨ex, eu⟩ := hxu
    rw [eu] at hP hD
    rw [ex]
    obtain ⟨hqR, hqA, hq0, hqv⟩ := hq
    refine lv_iload hx hb dL_law_521 (lv_at hl 1 rfl) ?_
    refine lv_icmp_eq (tgt := 528) hx hb dL_law_523 (by decide) (fun _ => ?_) (fun h => absurd (by rw [hq0]; decide) h)
    refine lv_iload hx hb dL_law_528 (lv_at hl 1 rfl) ?_
    refine lv_if_ne (tgt := 545) hx hb dL_law_530 (by decide) (fun _ => ?_) (fun h => absurd h (by decide))
    refine lv_goto (tgt := 576) hx hb dL_law_545 (by decide) ?_
    obtain ⟨hP, hD⟩ := w_swap hP hD
    exact K u.1 τ u.2 _ _ _ ⟨hC, hqR, hqA⟩ hP hD hS (lv_sub hl [2, 3, 4, 5, 6] rfl)
set_option maxHeartbeats 4000000 in
set_option maxRecDepth 100000 in
theorem law_count {p : Program} {e : Env} {s : State} {m : MethodId} {below : List Frame} {meth : Method} {c : Code} {l : Launch} (htr : l.stackTraces = false) {b L : Nat} {xs : Nat → Int32} (hL : L ≤ 256) (hx : p.tables.exec = Jvm.exec) (hb : c.code = code) (hml : c.maxLocals = 7) (hown : s.vm.findClass RL = some m.cls) (hg : ∀ w ∈ gw, w.before #[Value.ref b] s = true) (hX : va_X b L xs s s.heap) (hbl : b < s.heap.size) {D : va_G} {dA : Nat → ClassId} {A : Nat → Prop} (hA : ∀ q : Nat, s.heap.size ≤ q → A q) (hbA : ¬ A b) {tf tc : Nat} {aK aV : Nat → Nat} (hE : zE tf tc aK aV A s) (hN : zNc s) (hK : gK D dA s) {ac am : Int → Nat → Nat} {o : Nat} {g : Nat → Int64} {i : Int} (hi : 0 ≤ i ∧ i + 4 ≤ (L : Int)) {σc σr : ZS} (hI : zIn σc σr (100 * i)) {H : Heap} {locs : List Loc} {ls : Array Slot} {cells slots : Nat} (hcs : cells + 1 ≤ 600000 ∧ slots + 6 ≤ 7000000) {Q : State → Prop} (hP : va_P D vwC (zR dA am σr ++ zO dA ac o (σc, g)) H) (hD : va_D A (zR dA am σr ++ zO dA ac o (σc, g))) (hS : va_S A s.heap H locs) (hl : lv_has ls 7 [(4, .int (Int32.ofInt i)), (3, .ref o), (2, .ref (am 0 1000)), (1, .ref (ac 10 1000)), (0, .ref b)]) (K : ∀ (τc τr : ZS) (g1 : Nat → Int64) (H1 : Heap) (locs1 : List Loc) (ls1 : Array Slot), zIn τc τr (100 * i + 400) → va_P D vwC (zR dA am τr ++ zO dA ac o (τc, g1)) H1 → va_D A (zR dA am τr ++ zO dA ac o (τc, g1)) → va_S A s.heap H1 locs1 → lv_has ls1 7 [(4, .int (Int32.ofInt i)), (3, .ref o), (2, .ref (am 0 1000)), (1, .ref (ac 10 1000)), (0, .ref b)] → W p l e room_1 s m #[Value.ref b] below meth c H1 locs1 (cells + 1) (slots + 6) Q (F0 m 576 ls1 [])) : W p l e room_1 s m #[Value.ref b] below meth c H locs cells slots Q (F0 m 548 ls []) := by
  obtain ⟨y1, e1, r1⟩ := z_sc (xs (Int32.ofInt (i + 1)).toNatClampNeg)
  refine lv_aload_n hx hb dL_law_548 rfl (lv_at hl 3 rfl) ?_
  refine lv_aload_n hx hb dL_law_549 rfl (lv_at hl 4 rfl) ?_
  refine lv_iload hx hb dL_law_550 (lv_at hl 0 rfl) ?_
  refine lv_iconst (v := 1) hx hb dL_law_552 (by decide) ?_
  refine lv_iadd hx hb dL_law_553 ?_
  refine g_nrm (z_i1 i) ?_
  refine va_sld hx hb hX hbl hbA hS (z_in ⟨by omega, by omega⟩ (by omega)) dL_law_554 ?_
  refine g_nrm e1 ?_
  refine lv_aload_n hx hb dL_law_555 rfl (lv_at hl 1 rfl) ?_
  refine wl_SW (n := 3) (hh := [(0, 9, 12, 13)]) (As := [.ref (ac 10 1000), .int (Int32.ofInt y1), .ref o]) (rest := []) (wr := zR dA am σr) (w2 := zO dA ac o) (u0 := (σc, g)) hx hb hml hg hown hE hN hK hP hD hS hA (w_count l htr D dA ac tf tc aK aV o g y1 σc (fun v τ => CI τ (100 * i + 400) ∧ OO7 (wpX11_count y1 σr) τ 0 v (100 * i + 400) False) (fun E τ => ((E = xIAE ∧ OO7 (wpX11_count y1 σr) τ 1 0 (100 * i + 400) False)) ∧ CI τ (100 * i + 400)) _ (k7_count hI.1 hI.2.1 hI.2.2 (by omega) r1) (fun E u h => h.1.1)) q1555 q148 q1553 q1554 (by decide +kernel) ⟨(Nat.le_of_ble_eq_true rfl), (Nat.le_of_ble_eq_true rfl)⟩ rfl hl.1 rfl (Nat.le_of_ble_eq_true rfl) dL_law_556 ⟨Nat.le_trans hcs.1 (Nat.le_of_ble_eq_true rfl), Nat.le_trans hcs.2 (Nat.le_of_ble_eq_true rfl)⟩ (fun k u H locs hk hP hD hS => ?_)
  obtain ⟨hP, hD⟩ := w_swap hP hD
  have hu : CI u.1 (100 * i + 400) ∧ ∃ cd w : Int, OO7 (wpX11_count y1 σr) u.1 cd w (100 * i + 400) False := by
    rcases z_o_IAE hk with ⟨_, v, _, h⟩ | ⟨_, q, h⟩
    · exact ⟨h.1, _, _, h.2⟩
    · exact ⟨h, _, _, q⟩
  obtain ⟨hC, cd, w, hO⟩ := hu
  refine lv_istore (lv' := [(5, .int k), (4, .int (Int32.ofInt i)), (3, .ref o), (2, .ref (am 0 1000)), (1, .ref (ac 10 1000)), (0, .ref b)]) hx hb dL_law_559 hl (by decide) rfl (fun ls hl => ?_)
  refine lv_aload_n hx hb dL_law_561 rfl (lv_at hl 3 rfl) ?_
  refine lv_aload_n hx hb dL_law_562 rfl (lv_at hl 5 rfl) ?_
  refine lv_iload hx hb dL_law_563 (lv_at hl 1 rfl) ?_
  refine lv_iconst (v := 1) hx hb dL_law_565 (by decide) ?_
  refine lv_iadd hx hb dL_law_566 ?_
  refine g_nrm (z_i1 i) ?_
  refine va_sld hx hb hX hbl hbA hS (z_in ⟨by omega, by omega⟩ (by omega)) dL_law_567 ?_
  refine g_nrm e1 ?_
  refine wl_Vi (n := 1) (As := [.int (Int32.ofInt y1)]) (rest := []) (wr := zO dA ac o u) (w1 := zR dA am) (σ := σr) (Q1 := (fun _ τ => RI τ (100 * i + 400) ∧ Alk7 u.1 τ)) hx hb hml hg hown hK hP hD hS hA (kX11_count l D dA am y1 σr _ _ (hO _ (fun r ρ h1 h2 _ => ⟨h1, h2⟩))) rfl rfl q2233 q160 q2230 q2231 q2232 (by decide +kernel) ⟨(Nat.le_of_ble_eq_true rfl), (Nat.le_of_ble_eq_true rfl)⟩ rfl hl.1 rfl (Nat.le_of_ble_eq_true rfl) dL_law_568 ⟨Nat.le_trans hcs.1 (Nat.le_of_ble_eq_true rfl), Nat.le_trans hcs.2 (Nat.le_of_ble_eq_true rfl)⟩ (fun r τ H locs hq hP hD hS => ?_)
  refine lv_istore (lv' := [(6, .int (Int32.ofInt r)), (5, .int k), (4, .int (Int32.ofInt i)), (3, .ref o), (2, .ref (am 0 1000)), (1, .ref (ac 10 1000)), (0, .ref b)]) hx hb dL_law_571 hl (by decide) rfl (fun ls hl => ?_)
  refine lv_goto (tgt := 576) hx hb dL_law_573 (by decide) ?_
  obtain ⟨hP, hD⟩ := w_swap hP hD
  exact K u.1 τ u.2 H locs _ ⟨hC, hq.1, hq.2⟩ hP hD hS (lv_sub hl [2, 3, 4, 5, 6] rfl)
