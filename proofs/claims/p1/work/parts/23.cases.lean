theorem q148 : Cond.initialized RL ∈ gw := gw_in (i := 148) (by decide +kernel) rfl
theorem q643 : Cond.methodLink RL 71 yL_append ∈ gw := gw_in (i := 643) (by decide +kernel) rfl
theorem q644 : Cond.static yL_append ∈ gw := gw_in (i := 644) (by decide +kernel) rfl
theorem q645 : Cond.codeWith yL_append cL_append 6 (some .int) [(0, 11, 14, 13), (0, 11, 18, 15)] ∈ gw := gw_in (i := 645) (by decide +kernel) rfl
theorem q764 : Cond.methodLink RL 80 yL_assemble ∈ gw := gw_in (i := 764) (by decide +kernel) rfl
theorem q765 : Cond.static yL_assemble ∈ gw := gw_in (i := 765) (by decide +kernel) rfl
theorem q766 : Cond.codeWith yL_assemble cL_assemble 4 (some .int) [(0, 9, 12, 13), (0, 9, 15, 21), (0, 9, 18, 23), (0, 9, 21, 15), (0, 9, 24, 25)] ∈ gw := gw_in (i := 766) (by decide +kernel) rfl
theorem q1244 : Cond.methodLink RL 84 yL_drop ∈ gw := gw_in (i := 1244) (by decide +kernel) rfl
theorem q1245 : Cond.static yL_drop ∈ gw := gw_in (i := 1245) (by decide +kernel) rfl
theorem q1246 : Cond.codeWith yL_drop cL_drop 4 (some .int) [(0, 16, 19, 13)] ∈ gw := gw_in (i := 1246) (by decide +kernel) rfl
theorem q1252 : Cond.methodLink RL 87 yL_link ∈ gw := gw_in (i := 1252) (by decide +kernel) rfl
theorem q1253 : Cond.static yL_link ∈ gw := gw_in (i := 1253) (by decide +kernel) rfl
theorem q1254 : Cond.codeWith yL_link cL_link 3 (some .int) [(0, 8, 11, 35), (0, 8, 14, 21), (0, 8, 17, 23), (0, 8, 20, 15), (0, 8, 23, 25)] ∈ gw := gw_in (i := 1254) (by decide +kernel) rfl
theorem q1361 : Cond.methodLink RL 91 yL_load ∈ gw := gw_in (i := 1361) (by decide +kernel) rfl
theorem q1362 : Cond.static yL_load ∈ gw := gw_in (i := 1362) (by decide +kernel) rfl
theorem q1363 : Cond.codeWith yL_load cL_load 4 (some .int) [(0, 9, 12, 13), (0, 9, 15, 35)] ∈ gw := gw_in (i := 1363) (by decide +kernel) rfl
theorem q1383 : Cond.methodLink RL 94 yL_run ∈ gw := gw_in (i := 1383) (by decide +kernel) rfl
theorem q1384 : Cond.static yL_run ∈ gw := gw_in (i := 1384) (by decide +kernel) rfl
theorem q1385 : Cond.codeWith yL_run cL_run 4 (some .int) [(0, 9, 12, 13), (0, 9, 15, 35)] ∈ gw := gw_in (i := 1385) (by decide +kernel) rfl
theorem q1503 : Cond.methodLink RL 97 yL_code ∈ gw := gw_in (i := 1503) (by decide +kernel) rfl
theorem q1504 : Cond.static yL_code ∈ gw := gw_in (i := 1504) (by decide +kernel) rfl
theorem q1505 : Cond.codeWith yL_code cL_code 6 (some .int) [(0, 12, 15, 15)] ∈ gw := gw_in (i := 1505) (by decide +kernel) rfl
theorem q1513 : Cond.methodLink RL 101 yL_fixup ∈ gw := gw_in (i := 1513) (by decide +kernel) rfl
theorem q1514 : Cond.static yL_fixup ∈ gw := gw_in (i := 1514) (by decide +kernel) rfl
theorem q1515 : Cond.codeWith yL_fixup cL_fixup 6 (some .int) [(0, 12, 15, 13), (0, 12, 19, 15)] ∈ gw := gw_in (i := 1515) (by decide +kernel) rfl
theorem q1522 : Cond.methodLink RL 104 yL_image ∈ gw := gw_in (i := 1522) (by decide +kernel) rfl
theorem q1523 : Cond.static yL_image ∈ gw := gw_in (i := 1523) (by decide +kernel) rfl
theorem q1524 : Cond.codeWith yL_image cL_image 4 (some .int) [(0, 9, 12, 15)] ∈ gw := gw_in (i := 1524) (by decide +kernel) rfl
theorem q1529 : Cond.methodLink RL 107 yL_memory ∈ gw := gw_in (i := 1529) (by decide +kernel) rfl
theorem q1530 : Cond.static yL_memory ∈ gw := gw_in (i := 1530) (by decide +kernel) rfl
theorem q1531 : Cond.codeWith yL_memory cL_memory 4 (some .int) [(0, 9, 12, 13)] ∈ gw := gw_in (i := 1531) (by decide +kernel) rfl
theorem q1537 : Cond.methodLink RL 110 yL_register ∈ gw := gw_in (i := 1537) (by decide +kernel) rfl
theorem q1538 : Cond.static yL_register ∈ gw := gw_in (i := 1538) (by decide +kernel) rfl
theorem q1539 : Cond.codeWith yL_register cL_register 4 (some .int) [(0, 9, 12, 13)] ∈ gw := gw_in (i := 1539) (by decide +kernel) rfl
theorem q1545 : Cond.methodLink RL 113 yL_trace ∈ gw := gw_in (i := 1545) (by decide +kernel) rfl
theorem q1546 : Cond.static yL_trace ∈ gw := gw_in (i := 1546) (by decide +kernel) rfl
theorem q1547 : Cond.codeWith yL_trace cL_trace 4 (some .int) [(0, 9, 12, 15)] ∈ gw := gw_in (i := 1547) (by decide +kernel) rfl
theorem q1553 : Cond.methodLink RL 116 yL_count ∈ gw := gw_in (i := 1553) (by decide +kernel) rfl
theorem q1554 : Cond.static yL_count ∈ gw := gw_in (i := 1554) (by decide +kernel) rfl
theorem q1555 : Cond.codeWith yL_count cL_count 4 (some .int) [(0, 9, 12, 13)] ∈ gw := gw_in (i := 1555) (by decide +kernel) rfl
theorem q1872 : Cond.methodLink RL 77 yX11_thrown ∈ gw := gw_in (i := 1872) (by decide +kernel) rfl
theorem q1873 : Cond.instanceMethod yX11_thrown ∈ gw := gw_in (i := 1873) (by decide +kernel) rfl
theorem q1874 : Cond.selects RX11 yX11_thrown yX11_thrown ∈ gw := gw_in (i := 1874) (by decide +kernel) rfl
theorem q1875 : Cond.code yX11_thrown cX11_thrown 1 (some .int) ∈ gw := gw_in (i := 1875) (by decide +kernel) rfl
theorem q1876 : Cond.methodLink RL 76 yX11_append ∈ gw := gw_in (i := 1876) (by decide +kernel) rfl
theorem q1877 : Cond.instanceMethod yX11_append ∈ gw := gw_in (i := 1877) (by decide +kernel) rfl
theorem q1878 : Cond.selects RX11 yX11_append yX11_append ∈ gw := gw_in (i := 1878) (by decide +kernel) rfl
theorem q1879 : Cond.code yX11_append cX11_append 6 (some .int) ∈ gw := gw_in (i := 1879) (by decide +kernel) rfl
theorem q1884 : Cond.methodLink RL 83 yX11_assemble ∈ gw := gw_in (i := 1884) (by decide +kernel) rfl
theorem q1885 : Cond.instanceMethod yX11_assemble ∈ gw := gw_in (i := 1885) (by decide +kernel) rfl
theorem q1886 : Cond.selects RX11 yX11_assemble yX11_assemble ∈ gw := gw_in (i := 1886) (by decide +kernel) rfl
theorem q1887 : Cond.code yX11_assemble cX11_assemble 5 (some .int) ∈ gw := gw_in (i := 1887) (by decide +kernel) rfl
theorem q2066 : Cond.methodLink RL 86 yX11_drop ∈ gw := gw_in (i := 2066) (by decide +kernel) rfl
theorem q2067 : Cond.instanceMethod yX11_drop ∈ gw := gw_in (i := 2067) (by decide +kernel) rfl
theorem q2068 : Cond.selects RX11 yX11_drop yX11_drop ∈ gw := gw_in (i := 2068) (by decide +kernel) rfl
theorem q2069 : Cond.code yX11_drop cX11_drop 3 (some .boolean) ∈ gw := gw_in (i := 2069) (by decide +kernel) rfl
theorem q2070 : Cond.methodLink RL 90 yX11_link ∈ gw := gw_in (i := 2070) (by decide +kernel) rfl
theorem q2071 : Cond.instanceMethod yX11_link ∈ gw := gw_in (i := 2071) (by decide +kernel) rfl
theorem q2072 : Cond.selects RX11 yX11_link yX11_link ∈ gw := gw_in (i := 2072) (by decide +kernel) rfl
theorem q2073 : Cond.code yX11_link cX11_link 7 (some .int) ∈ gw := gw_in (i := 2073) (by decide +kernel) rfl
theorem q2111 : Cond.methodLink RL 93 yX11_load ∈ gw := gw_in (i := 2111) (by decide +kernel) rfl
theorem q2112 : Cond.instanceMethod yX11_load ∈ gw := gw_in (i := 2112) (by decide +kernel) rfl
theorem q2113 : Cond.selects RX11 yX11_load yX11_load ∈ gw := gw_in (i := 2113) (by decide +kernel) rfl
theorem q2114 : Cond.code yX11_load cX11_load 5 (some .int) ∈ gw := gw_in (i := 2114) (by decide +kernel) rfl
theorem q2115 : Cond.methodLink RL 96 yX11_run ∈ gw := gw_in (i := 2115) (by decide +kernel) rfl
theorem q2116 : Cond.instanceMethod yX11_run ∈ gw := gw_in (i := 2116) (by decide +kernel) rfl
theorem q2117 : Cond.selects RX11 yX11_run yX11_run ∈ gw := gw_in (i := 2117) (by decide +kernel) rfl
theorem q2118 : Cond.code yX11_run cX11_run 4 (some .int) ∈ gw := gw_in (i := 2118) (by decide +kernel) rfl
theorem q2206 : Cond.methodLink RL 100 yX11_code ∈ gw := gw_in (i := 2206) (by decide +kernel) rfl
theorem q2207 : Cond.instanceMethod yX11_code ∈ gw := gw_in (i := 2207) (by decide +kernel) rfl
theorem q2208 : Cond.selects RX11 yX11_code yX11_code ∈ gw := gw_in (i := 2208) (by decide +kernel) rfl
theorem q2209 : Cond.code yX11_code cX11_code 5 (some .int) ∈ gw := gw_in (i := 2209) (by decide +kernel) rfl
theorem q2210 : Cond.methodLink RL 103 yX11_fixup ∈ gw := gw_in (i := 2210) (by decide +kernel) rfl
theorem q2211 : Cond.instanceMethod yX11_fixup ∈ gw := gw_in (i := 2211) (by decide +kernel) rfl
theorem q2212 : Cond.selects RX11 yX11_fixup yX11_fixup ∈ gw := gw_in (i := 2212) (by decide +kernel) rfl
theorem q2213 : Cond.code yX11_fixup cX11_fixup 5 (some .int) ∈ gw := gw_in (i := 2213) (by decide +kernel) rfl
theorem q2214 : Cond.methodLink RL 106 yX11_image ∈ gw := gw_in (i := 2214) (by decide +kernel) rfl
theorem q2215 : Cond.instanceMethod yX11_image ∈ gw := gw_in (i := 2215) (by decide +kernel) rfl
theorem q2216 : Cond.selects RX11 yX11_image yX11_image ∈ gw := gw_in (i := 2216) (by decide +kernel) rfl
theorem q2217 : Cond.code yX11_image cX11_image 2 (some .int) ∈ gw := gw_in (i := 2217) (by decide +kernel) rfl
theorem q2218 : Cond.methodLink RL 109 yX11_memory ∈ gw := gw_in (i := 2218) (by decide +kernel) rfl
theorem q2219 : Cond.instanceMethod yX11_memory ∈ gw := gw_in (i := 2219) (by decide +kernel) rfl
theorem q2220 : Cond.selects RX11 yX11_memory yX11_memory ∈ gw := gw_in (i := 2220) (by decide +kernel) rfl
theorem q2221 : Cond.code yX11_memory cX11_memory 2 (some .int) ∈ gw := gw_in (i := 2221) (by decide +kernel) rfl
theorem q2222 : Cond.methodLink RL 112 yX11_register ∈ gw := gw_in (i := 2222) (by decide +kernel) rfl
theorem q2223 : Cond.instanceMethod yX11_register ∈ gw := gw_in (i := 2223) (by decide +kernel) rfl
theorem q2224 : Cond.selects RX11 yX11_register yX11_register ∈ gw := gw_in (i := 2224) (by decide +kernel) rfl
theorem q2225 : Cond.code yX11_register cX11_register 2 (some .int) ∈ gw := gw_in (i := 2225) (by decide +kernel) rfl
theorem q2226 : Cond.methodLink RL 115 yX11_trace ∈ gw := gw_in (i := 2226) (by decide +kernel) rfl
theorem q2227 : Cond.instanceMethod yX11_trace ∈ gw := gw_in (i := 2227) (by decide +kernel) rfl
theorem q2228 : Cond.selects RX11 yX11_trace yX11_trace ∈ gw := gw_in (i := 2228) (by decide +kernel) rfl
theorem q2229 : Cond.code yX11_trace cX11_trace 2 (some .int) ∈ gw := gw_in (i := 2229) (by decide +kernel) rfl
theorem q2230 : Cond.methodLink RL 118 yX11_count ∈ gw := gw_in (i := 2230) (by decide +kernel) rfl
theorem q2231 : Cond.instanceMethod yX11_count ∈ gw := gw_in (i := 2231) (by decide +kernel) rfl
theorem q2232 : Cond.selects RX11 yX11_count yX11_count ∈ gw := gw_in (i := 2232) (by decide +kernel) rfl
theorem q2233 : Cond.code yX11_count cX11_count 2 (some .int) ∈ gw := gw_in (i := 2233) (by decide +kernel) rfl
theorem q2234 : Cond.constantLong RL 69 (4294967295) ∈ gw := gw_in (i := 2234) (by decide +kernel) rfl
theorem dL_law_104 : decode cL_law 104 = .ok (.aload_n 1, 1) := by decide +kernel
theorem dL_law_105 : decode cL_law 105 = .ok (.aload_n 0, 1) := by decide +kernel
theorem dL_law_106 : decode cL_law 106 = .ok (.iload 4, 2) := by decide +kernel
theorem dL_law_108 : decode cL_law 108 = .ok (.iconst 1, 1) := by decide +kernel
theorem dL_law_109 : decode cL_law 109 = .ok (.iadd, 1) := by decide +kernel
theorem dL_law_110 : decode cL_law 110 = .ok (.iaload, 1) := by decide +kernel
theorem dL_law_111 : decode cL_law 111 = .ok (.i2l, 1) := by decide +kernel
theorem dL_law_112 : decode cL_law 112 = .ok (.bipush 32, 2) := by decide +kernel
theorem dL_law_114 : decode cL_law 114 = .ok (.lshl, 1) := by decide +kernel
theorem dL_law_115 : decode cL_law 115 = .ok (.aload_n 0, 1) := by decide +kernel
theorem dL_law_116 : decode cL_law 116 = .ok (.iload 4, 2) := by decide +kernel
theorem dL_law_118 : decode cL_law 118 = .ok (.iconst 2, 1) := by decide +kernel
theorem dL_law_119 : decode cL_law 119 = .ok (.iadd, 1) := by decide +kernel
theorem dL_law_120 : decode cL_law 120 = .ok (.iaload, 1) := by decide +kernel
theorem dL_law_121 : decode cL_law 121 = .ok (.i2l, 1) := by decide +kernel
theorem dL_law_122 : decode cL_law 122 = .ok (.ldc2_w 69, 3) := by decide +kernel
theorem dL_law_125 : decode cL_law 125 = .ok (.land, 1) := by decide +kernel
theorem dL_law_126 : decode cL_law 126 = .ok (.lor, 1) := by decide +kernel
theorem dL_law_127 : decode cL_law 127 = .ok (.aload_n 0, 1) := by decide +kernel
theorem dL_law_128 : decode cL_law 128 = .ok (.iload 4, 2) := by decide +kernel
theorem dL_law_130 : decode cL_law 130 = .ok (.iconst 3, 1) := by decide +kernel
theorem dL_law_131 : decode cL_law 131 = .ok (.iadd, 1) := by decide +kernel
theorem dL_law_132 : decode cL_law 132 = .ok (.iaload, 1) := by decide +kernel
theorem dL_law_133 : decode cL_law 133 = .ok (.aload_n 3, 1) := by decide +kernel
theorem dL_law_134 : decode cL_law 134 = .ok (.invokestatic 71, 3) := by decide +kernel
theorem dL_law_137 : decode cL_law 137 = .ok (.istore 5, 2) := by decide +kernel
theorem dL_law_139 : decode cL_law 139 = .ok (.aload_n 2, 1) := by decide +kernel
theorem dL_law_140 : decode cL_law 140 = .ok (.aload_n 0, 1) := by decide +kernel
theorem dL_law_141 : decode cL_law 141 = .ok (.iload 4, 2) := by decide +kernel
theorem dL_law_143 : decode cL_law 143 = .ok (.iconst 1, 1) := by decide +kernel
theorem dL_law_144 : decode cL_law 144 = .ok (.iadd, 1) := by decide +kernel
theorem dL_law_145 : decode cL_law 145 = .ok (.iaload, 1) := by decide +kernel
theorem dL_law_146 : decode cL_law 146 = .ok (.i2l, 1) := by decide +kernel
theorem dL_law_147 : decode cL_law 147 = .ok (.bipush 32, 2) := by decide +kernel
theorem dL_law_149 : decode cL_law 149 = .ok (.lshl, 1) := by decide +kernel
theorem dL_law_150 : decode cL_law 150 = .ok (.aload_n 0, 1) := by decide +kernel
theorem dL_law_151 : decode cL_law 151 = .ok (.iload 4, 2) := by decide +kernel
theorem dL_law_153 : decode cL_law 153 = .ok (.iconst 2, 1) := by decide +kernel
theorem dL_law_154 : decode cL_law 154 = .ok (.iadd, 1) := by decide +kernel
theorem dL_law_155 : decode cL_law 155 = .ok (.iaload, 1) := by decide +kernel
theorem dL_law_156 : decode cL_law 156 = .ok (.i2l, 1) := by decide +kernel
theorem dL_law_157 : decode cL_law 157 = .ok (.ldc2_w 69, 3) := by decide +kernel
theorem dL_law_160 : decode cL_law 160 = .ok (.land, 1) := by decide +kernel
theorem dL_law_161 : decode cL_law 161 = .ok (.lor, 1) := by decide +kernel
theorem dL_law_162 : decode cL_law 162 = .ok (.aload_n 0, 1) := by decide +kernel
theorem dL_law_163 : decode cL_law 163 = .ok (.iload 4, 2) := by decide +kernel
theorem dL_law_165 : decode cL_law 165 = .ok (.iconst 3, 1) := by decide +kernel
theorem dL_law_166 : decode cL_law 166 = .ok (.iadd, 1) := by decide +kernel
theorem dL_law_167 : decode cL_law 167 = .ok (.iaload, 1) := by decide +kernel
theorem dL_law_168 : decode cL_law 168 = .ok (.invokevirtual 76, 3) := by decide +kernel
theorem dL_law_171 : decode cL_law 171 = .ok (.istore 6, 2) := by decide +kernel
theorem dL_law_173 : decode cL_law 173 = .ok (.aload_n 2, 1) := by decide +kernel
theorem dL_law_174 : decode cL_law 174 = .ok (.invokevirtual 77, 3) := by decide +kernel
theorem dL_law_177 : decode cL_law 177 = .ok (.iload 5, 2) := by decide +kernel
theorem dL_law_179 : decode cL_law 179 = .ok (.if_icmp .eq 5, 3) := by decide +kernel
theorem dL_law_184 : decode cL_law 184 = .ok (.iload 5, 2) := by decide +kernel
theorem dL_law_186 : decode cL_law 186 = .ok (.ifCond .ne 15, 3) := by decide +kernel
theorem dL_law_189 : decode cL_law 189 = .ok (.aload_n 3, 1) := by decide +kernel
theorem dL_law_190 : decode cL_law 190 = .ok (.iconst 0, 1) := by decide +kernel
theorem dL_law_191 : decode cL_law 191 = .ok (.laload, 1) := by decide +kernel
theorem dL_law_192 : decode cL_law 192 = .ok (.iload 6, 2) := by decide +kernel
theorem dL_law_194 : decode cL_law 194 = .ok (.i2l, 1) := by decide +kernel
theorem dL_law_195 : decode cL_law 195 = .ok (.lcmp, 1) := by decide +kernel
theorem dL_law_196 : decode cL_law 196 = .ok (.ifCond .eq 5, 3) := by decide +kernel
theorem dL_law_201 : decode cL_law 201 = .ok (.goto 718, 3) := by decide +kernel
theorem dL_law_919 : decode cL_law 919 = .ok (.iinc 4 4, 3) := by decide +kernel
theorem dL_law_922 : decode cL_law 922 = .ok (.goto (-899), 3) := by decide +kernel
theorem dL_law_23 : decode cL_law 23 = .ok (.iload 4, 2) := by decide +kernel
theorem dL_law_25 : decode cL_law 25 = .ok (.aload_n 0, 1) := by decide +kernel
theorem dL_law_26 : decode cL_law 26 = .ok (.arraylength, 1) := by decide +kernel
theorem dL_law_27 : decode cL_law 27 = .ok (.iconst 4, 1) := by decide +kernel
theorem dL_law_28 : decode cL_law 28 = .ok (.isub, 1) := by decide +kernel
theorem dL_law_29 : decode cL_law 29 = .ok (.if_icmp .gt 896, 3) := by decide +kernel
theorem dL_law_925 : decode cL_law 925 = .ok (.iconst 1, 1) := by decide +kernel
theorem dL_law_926 : decode cL_law 926 = .ok (.ireturn, 1) := by decide +kernel
theorem dL_law_204 : decode cL_law 204 = .ok (.aload_n 1, 1) := by decide +kernel
theorem dL_law_205 : decode cL_law 205 = .ok (.aload_n 0, 1) := by decide +kernel
theorem dL_law_206 : decode cL_law 206 = .ok (.iload 4, 2) := by decide +kernel
theorem dL_law_208 : decode cL_law 208 = .ok (.iconst 1, 1) := by decide +kernel
theorem dL_law_209 : decode cL_law 209 = .ok (.iadd, 1) := by decide +kernel
theorem dL_law_210 : decode cL_law 210 = .ok (.iaload, 1) := by decide +kernel
theorem dL_law_211 : decode cL_law 211 = .ok (.aload_n 3, 1) := by decide +kernel
theorem dL_law_212 : decode cL_law 212 = .ok (.invokestatic 80, 3) := by decide +kernel
theorem dL_law_215 : decode cL_law 215 = .ok (.istore 5, 2) := by decide +kernel
theorem dL_law_217 : decode cL_law 217 = .ok (.aload_n 2, 1) := by decide +kernel
theorem dL_law_218 : decode cL_law 218 = .ok (.aload_n 0, 1) := by decide +kernel
theorem dL_law_219 : decode cL_law 219 = .ok (.iload 4, 2) := by decide +kernel
theorem dL_law_221 : decode cL_law 221 = .ok (.iconst 1, 1) := by decide +kernel
theorem dL_law_222 : decode cL_law 222 = .ok (.iadd, 1) := by decide +kernel
theorem dL_law_223 : decode cL_law 223 = .ok (.iaload, 1) := by decide +kernel
theorem dL_law_224 : decode cL_law 224 = .ok (.invokevirtual 83, 3) := by decide +kernel
theorem dL_law_227 : decode cL_law 227 = .ok (.istore 6, 2) := by decide +kernel
theorem dL_law_229 : decode cL_law 229 = .ok (.aload_n 2, 1) := by decide +kernel
theorem dL_law_230 : decode cL_law 230 = .ok (.invokevirtual 77, 3) := by decide +kernel
theorem dL_law_233 : decode cL_law 233 = .ok (.iload 5, 2) := by decide +kernel
theorem dL_law_235 : decode cL_law 235 = .ok (.if_icmp .eq 5, 3) := by decide +kernel
theorem dL_law_240 : decode cL_law 240 = .ok (.iload 5, 2) := by decide +kernel
theorem dL_law_242 : decode cL_law 242 = .ok (.ifCond .ne 15, 3) := by decide +kernel
theorem dL_law_245 : decode cL_law 245 = .ok (.aload_n 3, 1) := by decide +kernel
theorem dL_law_246 : decode cL_law 246 = .ok (.iconst 0, 1) := by decide +kernel
theorem dL_law_247 : decode cL_law 247 = .ok (.laload, 1) := by decide +kernel
theorem dL_law_248 : decode cL_law 248 = .ok (.iload 6, 2) := by decide +kernel
theorem dL_law_250 : decode cL_law 250 = .ok (.i2l, 1) := by decide +kernel
theorem dL_law_251 : decode cL_law 251 = .ok (.lcmp, 1) := by decide +kernel
theorem dL_law_252 : decode cL_law 252 = .ok (.ifCond .eq 5, 3) := by decide +kernel
theorem dL_law_257 : decode cL_law 257 = .ok (.goto 662, 3) := by decide +kernel
theorem dL_law_260 : decode cL_law 260 = .ok (.aload_n 1, 1) := by decide +kernel
theorem dL_law_261 : decode cL_law 261 = .ok (.aload_n 0, 1) := by decide +kernel
theorem dL_law_262 : decode cL_law 262 = .ok (.iload 4, 2) := by decide +kernel
theorem dL_law_264 : decode cL_law 264 = .ok (.iconst 1, 1) := by decide +kernel
theorem dL_law_265 : decode cL_law 265 = .ok (.iadd, 1) := by decide +kernel
theorem dL_law_266 : decode cL_law 266 = .ok (.iaload, 1) := by decide +kernel
theorem dL_law_267 : decode cL_law 267 = .ok (.aload_n 3, 1) := by decide +kernel
theorem dL_law_268 : decode cL_law 268 = .ok (.invokestatic 84, 3) := by decide +kernel
theorem dL_law_271 : decode cL_law 271 = .ok (.istore 5, 2) := by decide +kernel
theorem dL_law_273 : decode cL_law 273 = .ok (.aload_n 2, 1) := by decide +kernel
theorem dL_law_274 : decode cL_law 274 = .ok (.aload_n 0, 1) := by decide +kernel
theorem dL_law_275 : decode cL_law 275 = .ok (.iload 4, 2) := by decide +kernel
theorem dL_law_277 : decode cL_law 277 = .ok (.iconst 1, 1) := by decide +kernel
theorem dL_law_278 : decode cL_law 278 = .ok (.iadd, 1) := by decide +kernel
theorem dL_law_279 : decode cL_law 279 = .ok (.iaload, 1) := by decide +kernel
theorem dL_law_280 : decode cL_law 280 = .ok (.invokevirtual 86, 3) := by decide +kernel
theorem dL_law_283 : decode cL_law 283 = .ok (.istore 6, 2) := by decide +kernel
theorem dL_law_285 : decode cL_law 285 = .ok (.aload_n 2, 1) := by decide +kernel
theorem dL_law_286 : decode cL_law 286 = .ok (.invokevirtual 77, 3) := by decide +kernel
theorem dL_law_289 : decode cL_law 289 = .ok (.iload 5, 2) := by decide +kernel
theorem dL_law_291 : decode cL_law 291 = .ok (.if_icmp .eq 5, 3) := by decide +kernel
theorem dL_law_296 : decode cL_law 296 = .ok (.iload 5, 2) := by decide +kernel
theorem dL_law_298 : decode cL_law 298 = .ok (.ifCond .ne 22, 3) := by decide +kernel
theorem dL_law_301 : decode cL_law 301 = .ok (.aload_n 3, 1) := by decide +kernel
theorem dL_law_302 : decode cL_law 302 = .ok (.iconst 0, 1) := by decide +kernel
theorem dL_law_303 : decode cL_law 303 = .ok (.laload, 1) := by decide +kernel
theorem dL_law_304 : decode cL_law 304 = .ok (.iload 6, 2) := by decide +kernel
theorem dL_law_306 : decode cL_law 306 = .ok (.ifCond .eq 7, 3) := by decide +kernel
theorem dL_law_313 : decode cL_law 313 = .ok (.lconst 0, 1) := by decide +kernel
theorem dL_law_314 : decode cL_law 314 = .ok (.lcmp, 1) := by decide +kernel
theorem dL_law_315 : decode cL_law 315 = .ok (.ifCond .eq 5, 3) := by decide +kernel
theorem dL_law_320 : decode cL_law 320 = .ok (.goto 599, 3) := by decide +kernel
theorem dL_law_323 : decode cL_law 323 = .ok (.aload_n 1, 1) := by decide +kernel
theorem dL_law_324 : decode cL_law 324 = .ok (.aload_n 3, 1) := by decide +kernel
theorem dL_law_325 : decode cL_law 325 = .ok (.invokestatic 87, 3) := by decide +kernel
theorem dL_law_328 : decode cL_law 328 = .ok (.istore 5, 2) := by decide +kernel
theorem dL_law_330 : decode cL_law 330 = .ok (.aload_n 2, 1) := by decide +kernel
theorem dL_law_331 : decode cL_law 331 = .ok (.invokevirtual 90, 3) := by decide +kernel
theorem dL_law_334 : decode cL_law 334 = .ok (.istore 6, 2) := by decide +kernel
theorem dL_law_336 : decode cL_law 336 = .ok (.aload_n 2, 1) := by decide +kernel
theorem dL_law_337 : decode cL_law 337 = .ok (.invokevirtual 77, 3) := by decide +kernel
theorem dL_law_340 : decode cL_law 340 = .ok (.iload 5, 2) := by decide +kernel
theorem dL_law_342 : decode cL_law 342 = .ok (.if_icmp .eq 5, 3) := by decide +kernel
theorem dL_law_347 : decode cL_law 347 = .ok (.iload 5, 2) := by decide +kernel
theorem dL_law_349 : decode cL_law 349 = .ok (.ifCond .ne 15, 3) := by decide +kernel
theorem dL_law_364 : decode cL_law 364 = .ok (.goto 555, 3) := by decide +kernel
theorem dL_law_367 : decode cL_law 367 = .ok (.aload_n 1, 1) := by decide +kernel
theorem dL_law_368 : decode cL_law 368 = .ok (.aload_n 0, 1) := by decide +kernel
theorem dL_law_369 : decode cL_law 369 = .ok (.iload 4, 2) := by decide +kernel
theorem dL_law_371 : decode cL_law 371 = .ok (.iconst 1, 1) := by decide +kernel
theorem dL_law_372 : decode cL_law 372 = .ok (.iadd, 1) := by decide +kernel
theorem dL_law_373 : decode cL_law 373 = .ok (.iaload, 1) := by decide +kernel
theorem dL_law_374 : decode cL_law 374 = .ok (.aload_n 3, 1) := by decide +kernel
theorem dL_law_375 : decode cL_law 375 = .ok (.invokestatic 91, 3) := by decide +kernel
theorem dL_law_378 : decode cL_law 378 = .ok (.istore 5, 2) := by decide +kernel
theorem dL_law_380 : decode cL_law 380 = .ok (.aload_n 2, 1) := by decide +kernel
theorem dL_law_381 : decode cL_law 381 = .ok (.aload_n 0, 1) := by decide +kernel
theorem dL_law_382 : decode cL_law 382 = .ok (.iload 4, 2) := by decide +kernel
theorem dL_law_384 : decode cL_law 384 = .ok (.iconst 1, 1) := by decide +kernel
theorem dL_law_385 : decode cL_law 385 = .ok (.iadd, 1) := by decide +kernel
theorem dL_law_386 : decode cL_law 386 = .ok (.iaload, 1) := by decide +kernel
theorem dL_law_387 : decode cL_law 387 = .ok (.invokevirtual 93, 3) := by decide +kernel
theorem dL_law_390 : decode cL_law 390 = .ok (.istore 6, 2) := by decide +kernel
theorem dL_law_392 : decode cL_law 392 = .ok (.aload_n 2, 1) := by decide +kernel
theorem dL_law_393 : decode cL_law 393 = .ok (.invokevirtual 77, 3) := by decide +kernel
theorem dL_law_396 : decode cL_law 396 = .ok (.iload 5, 2) := by decide +kernel
theorem dL_law_398 : decode cL_law 398 = .ok (.if_icmp .eq 5, 3) := by decide +kernel
theorem dL_law_403 : decode cL_law 403 = .ok (.iload 5, 2) := by decide +kernel
theorem dL_law_405 : decode cL_law 405 = .ok (.ifCond .ne 15, 3) := by decide +kernel
theorem dL_law_420 : decode cL_law 420 = .ok (.goto 499, 3) := by decide +kernel
theorem dL_law_423 : decode cL_law 423 = .ok (.aload_n 1, 1) := by decide +kernel
theorem dL_law_424 : decode cL_law 424 = .ok (.aload_n 0, 1) := by decide +kernel
theorem dL_law_425 : decode cL_law 425 = .ok (.iload 4, 2) := by decide +kernel
theorem dL_law_427 : decode cL_law 427 = .ok (.iconst 1, 1) := by decide +kernel
theorem dL_law_428 : decode cL_law 428 = .ok (.iadd, 1) := by decide +kernel
theorem dL_law_429 : decode cL_law 429 = .ok (.iaload, 1) := by decide +kernel
theorem dL_law_430 : decode cL_law 430 = .ok (.aload_n 3, 1) := by decide +kernel
theorem dL_law_431 : decode cL_law 431 = .ok (.invokestatic 94, 3) := by decide +kernel
theorem dL_law_434 : decode cL_law 434 = .ok (.istore 5, 2) := by decide +kernel
theorem dL_law_436 : decode cL_law 436 = .ok (.aload_n 2, 1) := by decide +kernel
theorem dL_law_437 : decode cL_law 437 = .ok (.aload_n 0, 1) := by decide +kernel
theorem dL_law_438 : decode cL_law 438 = .ok (.iload 4, 2) := by decide +kernel
theorem dL_law_440 : decode cL_law 440 = .ok (.iconst 1, 1) := by decide +kernel
theorem dL_law_441 : decode cL_law 441 = .ok (.iadd, 1) := by decide +kernel
theorem dL_law_442 : decode cL_law 442 = .ok (.iaload, 1) := by decide +kernel
theorem dL_law_443 : decode cL_law 443 = .ok (.invokevirtual 96, 3) := by decide +kernel
theorem dL_law_446 : decode cL_law 446 = .ok (.istore 6, 2) := by decide +kernel
theorem dL_law_448 : decode cL_law 448 = .ok (.aload_n 2, 1) := by decide +kernel
theorem dL_law_449 : decode cL_law 449 = .ok (.invokevirtual 77, 3) := by decide +kernel
theorem dL_law_452 : decode cL_law 452 = .ok (.iload 5, 2) := by decide +kernel
theorem dL_law_454 : decode cL_law 454 = .ok (.if_icmp .eq 5, 3) := by decide +kernel
theorem dL_law_459 : decode cL_law 459 = .ok (.iload 5, 2) := by decide +kernel
theorem dL_law_461 : decode cL_law 461 = .ok (.ifCond .ne 15, 3) := by decide +kernel
theorem dL_law_476 : decode cL_law 476 = .ok (.goto 443, 3) := by decide +kernel
theorem dL_law_479 : decode cL_law 479 = .ok (.aload_n 1, 1) := by decide +kernel
theorem dL_law_480 : decode cL_law 480 = .ok (.aload_n 0, 1) := by decide +kernel
theorem dL_law_481 : decode cL_law 481 = .ok (.iload 4, 2) := by decide +kernel
theorem dL_law_483 : decode cL_law 483 = .ok (.iconst 1, 1) := by decide +kernel
theorem dL_law_484 : decode cL_law 484 = .ok (.iadd, 1) := by decide +kernel
theorem dL_law_485 : decode cL_law 485 = .ok (.iaload, 1) := by decide +kernel
theorem dL_law_486 : decode cL_law 486 = .ok (.aload_n 0, 1) := by decide +kernel
theorem dL_law_487 : decode cL_law 487 = .ok (.iload 4, 2) := by decide +kernel
theorem dL_law_489 : decode cL_law 489 = .ok (.iconst 2, 1) := by decide +kernel
theorem dL_law_490 : decode cL_law 490 = .ok (.iadd, 1) := by decide +kernel
theorem dL_law_491 : decode cL_law 491 = .ok (.iaload, 1) := by decide +kernel
theorem dL_law_492 : decode cL_law 492 = .ok (.aload_n 0, 1) := by decide +kernel
theorem dL_law_493 : decode cL_law 493 = .ok (.iload 4, 2) := by decide +kernel
theorem dL_law_495 : decode cL_law 495 = .ok (.iconst 3, 1) := by decide +kernel
theorem dL_law_496 : decode cL_law 496 = .ok (.iadd, 1) := by decide +kernel
theorem dL_law_497 : decode cL_law 497 = .ok (.iaload, 1) := by decide +kernel
theorem dL_law_498 : decode cL_law 498 = .ok (.aload_n 3, 1) := by decide +kernel
theorem dL_law_499 : decode cL_law 499 = .ok (.invokestatic 97, 3) := by decide +kernel
theorem dL_law_502 : decode cL_law 502 = .ok (.istore 5, 2) := by decide +kernel
theorem dL_law_504 : decode cL_law 504 = .ok (.aload_n 2, 1) := by decide +kernel
theorem dL_law_505 : decode cL_law 505 = .ok (.aload_n 0, 1) := by decide +kernel
theorem dL_law_506 : decode cL_law 506 = .ok (.iload 4, 2) := by decide +kernel
theorem dL_law_508 : decode cL_law 508 = .ok (.iconst 1, 1) := by decide +kernel
theorem dL_law_509 : decode cL_law 509 = .ok (.iadd, 1) := by decide +kernel
theorem dL_law_510 : decode cL_law 510 = .ok (.iaload, 1) := by decide +kernel
theorem dL_law_511 : decode cL_law 511 = .ok (.aload_n 0, 1) := by decide +kernel
theorem dL_law_512 : decode cL_law 512 = .ok (.iload 4, 2) := by decide +kernel
theorem dL_law_514 : decode cL_law 514 = .ok (.iconst 2, 1) := by decide +kernel
theorem dL_law_515 : decode cL_law 515 = .ok (.iadd, 1) := by decide +kernel
theorem dL_law_516 : decode cL_law 516 = .ok (.iaload, 1) := by decide +kernel
theorem dL_law_517 : decode cL_law 517 = .ok (.aload_n 0, 1) := by decide +kernel
theorem dL_law_518 : decode cL_law 518 = .ok (.iload 4, 2) := by decide +kernel
theorem dL_law_520 : decode cL_law 520 = .ok (.iconst 3, 1) := by decide +kernel
theorem dL_law_521 : decode cL_law 521 = .ok (.iadd, 1) := by decide +kernel
theorem dL_law_522 : decode cL_law 522 = .ok (.iaload, 1) := by decide +kernel
theorem dL_law_523 : decode cL_law 523 = .ok (.invokevirtual 100, 3) := by decide +kernel
theorem dL_law_526 : decode cL_law 526 = .ok (.istore 6, 2) := by decide +kernel
theorem dL_law_528 : decode cL_law 528 = .ok (.aload_n 2, 1) := by decide +kernel
theorem dL_law_529 : decode cL_law 529 = .ok (.invokevirtual 77, 3) := by decide +kernel
theorem dL_law_532 : decode cL_law 532 = .ok (.iload 5, 2) := by decide +kernel
theorem dL_law_534 : decode cL_law 534 = .ok (.if_icmp .eq 5, 3) := by decide +kernel
theorem dL_law_539 : decode cL_law 539 = .ok (.iload 5, 2) := by decide +kernel
theorem dL_law_541 : decode cL_law 541 = .ok (.ifCond .ne 15, 3) := by decide +kernel
theorem dL_law_556 : decode cL_law 556 = .ok (.goto 363, 3) := by decide +kernel
theorem dL_law_559 : decode cL_law 559 = .ok (.aload_n 1, 1) := by decide +kernel
theorem dL_law_560 : decode cL_law 560 = .ok (.aload_n 0, 1) := by decide +kernel
theorem dL_law_561 : decode cL_law 561 = .ok (.iload 4, 2) := by decide +kernel
theorem dL_law_563 : decode cL_law 563 = .ok (.iconst 1, 1) := by decide +kernel
theorem dL_law_564 : decode cL_law 564 = .ok (.iadd, 1) := by decide +kernel
theorem dL_law_565 : decode cL_law 565 = .ok (.iaload, 1) := by decide +kernel
theorem dL_law_566 : decode cL_law 566 = .ok (.aload_n 0, 1) := by decide +kernel
theorem dL_law_567 : decode cL_law 567 = .ok (.iload 4, 2) := by decide +kernel
theorem dL_law_569 : decode cL_law 569 = .ok (.iconst 2, 1) := by decide +kernel
theorem dL_law_570 : decode cL_law 570 = .ok (.iadd, 1) := by decide +kernel
theorem dL_law_571 : decode cL_law 571 = .ok (.iaload, 1) := by decide +kernel
theorem dL_law_572 : decode cL_law 572 = .ok (.aload_n 0, 1) := by decide +kernel
theorem dL_law_573 : decode cL_law 573 = .ok (.iload 4, 2) := by decide +kernel
theorem dL_law_575 : decode cL_law 575 = .ok (.iconst 3, 1) := by decide +kernel
theorem dL_law_576 : decode cL_law 576 = .ok (.iadd, 1) := by decide +kernel
theorem dL_law_577 : decode cL_law 577 = .ok (.iaload, 1) := by decide +kernel
theorem dL_law_578 : decode cL_law 578 = .ok (.aload_n 3, 1) := by decide +kernel
theorem dL_law_579 : decode cL_law 579 = .ok (.invokestatic 101, 3) := by decide +kernel
theorem dL_law_582 : decode cL_law 582 = .ok (.istore 5, 2) := by decide +kernel
theorem dL_law_584 : decode cL_law 584 = .ok (.aload_n 2, 1) := by decide +kernel
theorem dL_law_585 : decode cL_law 585 = .ok (.aload_n 0, 1) := by decide +kernel
theorem dL_law_586 : decode cL_law 586 = .ok (.iload 4, 2) := by decide +kernel
theorem dL_law_588 : decode cL_law 588 = .ok (.iconst 1, 1) := by decide +kernel
theorem dL_law_589 : decode cL_law 589 = .ok (.iadd, 1) := by decide +kernel
theorem dL_law_590 : decode cL_law 590 = .ok (.iaload, 1) := by decide +kernel
theorem dL_law_591 : decode cL_law 591 = .ok (.aload_n 0, 1) := by decide +kernel
theorem dL_law_592 : decode cL_law 592 = .ok (.iload 4, 2) := by decide +kernel
theorem dL_law_594 : decode cL_law 594 = .ok (.iconst 2, 1) := by decide +kernel
theorem dL_law_595 : decode cL_law 595 = .ok (.iadd, 1) := by decide +kernel
theorem dL_law_596 : decode cL_law 596 = .ok (.iaload, 1) := by decide +kernel
theorem dL_law_597 : decode cL_law 597 = .ok (.aload_n 0, 1) := by decide +kernel
theorem dL_law_598 : decode cL_law 598 = .ok (.iload 4, 2) := by decide +kernel
theorem dL_law_600 : decode cL_law 600 = .ok (.iconst 3, 1) := by decide +kernel
theorem dL_law_601 : decode cL_law 601 = .ok (.iadd, 1) := by decide +kernel
theorem dL_law_602 : decode cL_law 602 = .ok (.iaload, 1) := by decide +kernel
theorem dL_law_603 : decode cL_law 603 = .ok (.invokevirtual 103, 3) := by decide +kernel
theorem dL_law_606 : decode cL_law 606 = .ok (.istore 6, 2) := by decide +kernel
theorem dL_law_608 : decode cL_law 608 = .ok (.aload_n 2, 1) := by decide +kernel
theorem dL_law_609 : decode cL_law 609 = .ok (.invokevirtual 77, 3) := by decide +kernel
theorem dL_law_612 : decode cL_law 612 = .ok (.iload 5, 2) := by decide +kernel
theorem dL_law_614 : decode cL_law 614 = .ok (.if_icmp .eq 5, 3) := by decide +kernel
theorem dL_law_619 : decode cL_law 619 = .ok (.iload 5, 2) := by decide +kernel
theorem dL_law_621 : decode cL_law 621 = .ok (.ifCond .ne 15, 3) := by decide +kernel
theorem dL_law_636 : decode cL_law 636 = .ok (.goto 283, 3) := by decide +kernel
theorem dL_law_639 : decode cL_law 639 = .ok (.aload_n 1, 1) := by decide +kernel
theorem dL_law_640 : decode cL_law 640 = .ok (.aload_n 0, 1) := by decide +kernel
theorem dL_law_641 : decode cL_law 641 = .ok (.iload 4, 2) := by decide +kernel
theorem dL_law_643 : decode cL_law 643 = .ok (.iconst 1, 1) := by decide +kernel
theorem dL_law_644 : decode cL_law 644 = .ok (.iadd, 1) := by decide +kernel
theorem dL_law_645 : decode cL_law 645 = .ok (.iaload, 1) := by decide +kernel
theorem dL_law_646 : decode cL_law 646 = .ok (.aload_n 3, 1) := by decide +kernel
theorem dL_law_647 : decode cL_law 647 = .ok (.invokestatic 104, 3) := by decide +kernel
theorem dL_law_650 : decode cL_law 650 = .ok (.istore 5, 2) := by decide +kernel
theorem dL_law_652 : decode cL_law 652 = .ok (.aload_n 2, 1) := by decide +kernel
theorem dL_law_653 : decode cL_law 653 = .ok (.aload_n 0, 1) := by decide +kernel
theorem dL_law_654 : decode cL_law 654 = .ok (.iload 4, 2) := by decide +kernel
theorem dL_law_656 : decode cL_law 656 = .ok (.iconst 1, 1) := by decide +kernel
theorem dL_law_657 : decode cL_law 657 = .ok (.iadd, 1) := by decide +kernel
theorem dL_law_658 : decode cL_law 658 = .ok (.iaload, 1) := by decide +kernel
theorem dL_law_659 : decode cL_law 659 = .ok (.invokevirtual 106, 3) := by decide +kernel
theorem dL_law_662 : decode cL_law 662 = .ok (.istore 6, 2) := by decide +kernel
theorem dL_law_664 : decode cL_law 664 = .ok (.aload_n 2, 1) := by decide +kernel
theorem dL_law_665 : decode cL_law 665 = .ok (.invokevirtual 77, 3) := by decide +kernel
theorem dL_law_668 : decode cL_law 668 = .ok (.iload 5, 2) := by decide +kernel
theorem dL_law_670 : decode cL_law 670 = .ok (.if_icmp .eq 5, 3) := by decide +kernel
theorem dL_law_675 : decode cL_law 675 = .ok (.iload 5, 2) := by decide +kernel
theorem dL_law_677 : decode cL_law 677 = .ok (.ifCond .ne 15, 3) := by decide +kernel
theorem dL_law_692 : decode cL_law 692 = .ok (.goto 227, 3) := by decide +kernel
theorem dL_law_695 : decode cL_law 695 = .ok (.aload_n 1, 1) := by decide +kernel
theorem dL_law_696 : decode cL_law 696 = .ok (.aload_n 0, 1) := by decide +kernel
theorem dL_law_697 : decode cL_law 697 = .ok (.iload 4, 2) := by decide +kernel
theorem dL_law_699 : decode cL_law 699 = .ok (.iconst 1, 1) := by decide +kernel
theorem dL_law_700 : decode cL_law 700 = .ok (.iadd, 1) := by decide +kernel
theorem dL_law_701 : decode cL_law 701 = .ok (.iaload, 1) := by decide +kernel
theorem dL_law_702 : decode cL_law 702 = .ok (.aload_n 3, 1) := by decide +kernel
theorem dL_law_703 : decode cL_law 703 = .ok (.invokestatic 107, 3) := by decide +kernel
theorem dL_law_706 : decode cL_law 706 = .ok (.istore 5, 2) := by decide +kernel
theorem dL_law_708 : decode cL_law 708 = .ok (.aload_n 2, 1) := by decide +kernel
theorem dL_law_709 : decode cL_law 709 = .ok (.aload_n 0, 1) := by decide +kernel
theorem dL_law_710 : decode cL_law 710 = .ok (.iload 4, 2) := by decide +kernel
theorem dL_law_712 : decode cL_law 712 = .ok (.iconst 1, 1) := by decide +kernel
theorem dL_law_713 : decode cL_law 713 = .ok (.iadd, 1) := by decide +kernel
theorem dL_law_714 : decode cL_law 714 = .ok (.iaload, 1) := by decide +kernel
theorem dL_law_715 : decode cL_law 715 = .ok (.invokevirtual 109, 3) := by decide +kernel
theorem dL_law_718 : decode cL_law 718 = .ok (.istore 6, 2) := by decide +kernel
theorem dL_law_720 : decode cL_law 720 = .ok (.aload_n 2, 1) := by decide +kernel
theorem dL_law_721 : decode cL_law 721 = .ok (.invokevirtual 77, 3) := by decide +kernel
theorem dL_law_724 : decode cL_law 724 = .ok (.iload 5, 2) := by decide +kernel
theorem dL_law_726 : decode cL_law 726 = .ok (.if_icmp .eq 5, 3) := by decide +kernel
theorem dL_law_731 : decode cL_law 731 = .ok (.iload 5, 2) := by decide +kernel
theorem dL_law_733 : decode cL_law 733 = .ok (.ifCond .ne 15, 3) := by decide +kernel
theorem dL_law_736 : decode cL_law 736 = .ok (.aload_n 3, 1) := by decide +kernel
theorem dL_law_737 : decode cL_law 737 = .ok (.iconst 0, 1) := by decide +kernel
theorem dL_law_738 : decode cL_law 738 = .ok (.laload, 1) := by decide +kernel
theorem dL_law_739 : decode cL_law 739 = .ok (.iload 6, 2) := by decide +kernel
theorem dL_law_741 : decode cL_law 741 = .ok (.i2l, 1) := by decide +kernel
theorem dL_law_742 : decode cL_law 742 = .ok (.lcmp, 1) := by decide +kernel
theorem dL_law_743 : decode cL_law 743 = .ok (.ifCond .eq 5, 3) := by decide +kernel
theorem dL_law_748 : decode cL_law 748 = .ok (.goto 171, 3) := by decide +kernel
theorem dL_law_751 : decode cL_law 751 = .ok (.aload_n 1, 1) := by decide +kernel
theorem dL_law_752 : decode cL_law 752 = .ok (.aload_n 0, 1) := by decide +kernel
theorem dL_law_753 : decode cL_law 753 = .ok (.iload 4, 2) := by decide +kernel
theorem dL_law_755 : decode cL_law 755 = .ok (.iconst 1, 1) := by decide +kernel
theorem dL_law_756 : decode cL_law 756 = .ok (.iadd, 1) := by decide +kernel
theorem dL_law_757 : decode cL_law 757 = .ok (.iaload, 1) := by decide +kernel
theorem dL_law_758 : decode cL_law 758 = .ok (.aload_n 3, 1) := by decide +kernel
theorem dL_law_759 : decode cL_law 759 = .ok (.invokestatic 110, 3) := by decide +kernel
theorem dL_law_762 : decode cL_law 762 = .ok (.istore 5, 2) := by decide +kernel
theorem dL_law_764 : decode cL_law 764 = .ok (.aload_n 2, 1) := by decide +kernel
theorem dL_law_765 : decode cL_law 765 = .ok (.aload_n 0, 1) := by decide +kernel
theorem dL_law_766 : decode cL_law 766 = .ok (.iload 4, 2) := by decide +kernel
theorem dL_law_768 : decode cL_law 768 = .ok (.iconst 1, 1) := by decide +kernel
theorem dL_law_769 : decode cL_law 769 = .ok (.iadd, 1) := by decide +kernel
theorem dL_law_770 : decode cL_law 770 = .ok (.iaload, 1) := by decide +kernel
theorem dL_law_771 : decode cL_law 771 = .ok (.invokevirtual 112, 3) := by decide +kernel
theorem dL_law_774 : decode cL_law 774 = .ok (.istore 6, 2) := by decide +kernel
theorem dL_law_776 : decode cL_law 776 = .ok (.aload_n 2, 1) := by decide +kernel
theorem dL_law_777 : decode cL_law 777 = .ok (.invokevirtual 77, 3) := by decide +kernel
theorem dL_law_780 : decode cL_law 780 = .ok (.iload 5, 2) := by decide +kernel
theorem dL_law_782 : decode cL_law 782 = .ok (.if_icmp .eq 5, 3) := by decide +kernel
theorem dL_law_787 : decode cL_law 787 = .ok (.iload 5, 2) := by decide +kernel
theorem dL_law_789 : decode cL_law 789 = .ok (.ifCond .ne 15, 3) := by decide +kernel
theorem dL_law_792 : decode cL_law 792 = .ok (.aload_n 3, 1) := by decide +kernel
theorem dL_law_793 : decode cL_law 793 = .ok (.iconst 0, 1) := by decide +kernel
theorem dL_law_794 : decode cL_law 794 = .ok (.laload, 1) := by decide +kernel
theorem dL_law_795 : decode cL_law 795 = .ok (.iload 6, 2) := by decide +kernel
theorem dL_law_797 : decode cL_law 797 = .ok (.i2l, 1) := by decide +kernel
theorem dL_law_798 : decode cL_law 798 = .ok (.lcmp, 1) := by decide +kernel
theorem dL_law_799 : decode cL_law 799 = .ok (.ifCond .eq 5, 3) := by decide +kernel
theorem dL_law_804 : decode cL_law 804 = .ok (.goto 115, 3) := by decide +kernel
theorem dL_law_807 : decode cL_law 807 = .ok (.aload_n 1, 1) := by decide +kernel
theorem dL_law_808 : decode cL_law 808 = .ok (.aload_n 0, 1) := by decide +kernel
theorem dL_law_809 : decode cL_law 809 = .ok (.iload 4, 2) := by decide +kernel
theorem dL_law_811 : decode cL_law 811 = .ok (.iconst 1, 1) := by decide +kernel
theorem dL_law_812 : decode cL_law 812 = .ok (.iadd, 1) := by decide +kernel
theorem dL_law_813 : decode cL_law 813 = .ok (.iaload, 1) := by decide +kernel
theorem dL_law_814 : decode cL_law 814 = .ok (.aload_n 3, 1) := by decide +kernel
theorem dL_law_815 : decode cL_law 815 = .ok (.invokestatic 113, 3) := by decide +kernel
theorem dL_law_818 : decode cL_law 818 = .ok (.istore 5, 2) := by decide +kernel
theorem dL_law_820 : decode cL_law 820 = .ok (.aload_n 2, 1) := by decide +kernel
theorem dL_law_821 : decode cL_law 821 = .ok (.aload_n 0, 1) := by decide +kernel
theorem dL_law_822 : decode cL_law 822 = .ok (.iload 4, 2) := by decide +kernel
theorem dL_law_824 : decode cL_law 824 = .ok (.iconst 1, 1) := by decide +kernel
theorem dL_law_825 : decode cL_law 825 = .ok (.iadd, 1) := by decide +kernel
theorem dL_law_826 : decode cL_law 826 = .ok (.iaload, 1) := by decide +kernel
theorem dL_law_827 : decode cL_law 827 = .ok (.invokevirtual 115, 3) := by decide +kernel
theorem dL_law_830 : decode cL_law 830 = .ok (.istore 6, 2) := by decide +kernel
theorem dL_law_832 : decode cL_law 832 = .ok (.aload_n 2, 1) := by decide +kernel
theorem dL_law_833 : decode cL_law 833 = .ok (.invokevirtual 77, 3) := by decide +kernel
theorem dL_law_836 : decode cL_law 836 = .ok (.iload 5, 2) := by decide +kernel
theorem dL_law_838 : decode cL_law 838 = .ok (.if_icmp .eq 5, 3) := by decide +kernel
theorem dL_law_843 : decode cL_law 843 = .ok (.iload 5, 2) := by decide +kernel
theorem dL_law_845 : decode cL_law 845 = .ok (.ifCond .ne 15, 3) := by decide +kernel
theorem dL_law_860 : decode cL_law 860 = .ok (.goto 59, 3) := by decide +kernel
theorem dL_law_863 : decode cL_law 863 = .ok (.aload_n 1, 1) := by decide +kernel
theorem dL_law_864 : decode cL_law 864 = .ok (.aload_n 0, 1) := by decide +kernel
theorem dL_law_865 : decode cL_law 865 = .ok (.iload 4, 2) := by decide +kernel
theorem dL_law_867 : decode cL_law 867 = .ok (.iconst 1, 1) := by decide +kernel
theorem dL_law_868 : decode cL_law 868 = .ok (.iadd, 1) := by decide +kernel
theorem dL_law_869 : decode cL_law 869 = .ok (.iaload, 1) := by decide +kernel
theorem dL_law_870 : decode cL_law 870 = .ok (.aload_n 3, 1) := by decide +kernel
theorem dL_law_871 : decode cL_law 871 = .ok (.invokestatic 116, 3) := by decide +kernel
theorem dL_law_874 : decode cL_law 874 = .ok (.istore 5, 2) := by decide +kernel
theorem dL_law_876 : decode cL_law 876 = .ok (.aload_n 2, 1) := by decide +kernel
theorem dL_law_877 : decode cL_law 877 = .ok (.aload_n 0, 1) := by decide +kernel
theorem dL_law_878 : decode cL_law 878 = .ok (.iload 4, 2) := by decide +kernel
theorem dL_law_880 : decode cL_law 880 = .ok (.iconst 1, 1) := by decide +kernel
theorem dL_law_881 : decode cL_law 881 = .ok (.iadd, 1) := by decide +kernel
theorem dL_law_882 : decode cL_law 882 = .ok (.iaload, 1) := by decide +kernel
theorem dL_law_883 : decode cL_law 883 = .ok (.invokevirtual 118, 3) := by decide +kernel
theorem dL_law_886 : decode cL_law 886 = .ok (.istore 6, 2) := by decide +kernel
theorem dL_law_888 : decode cL_law 888 = .ok (.aload_n 2, 1) := by decide +kernel
theorem dL_law_889 : decode cL_law 889 = .ok (.invokevirtual 77, 3) := by decide +kernel
theorem dL_law_892 : decode cL_law 892 = .ok (.iload 5, 2) := by decide +kernel
theorem dL_law_894 : decode cL_law 894 = .ok (.if_icmp .eq 5, 3) := by decide +kernel
theorem dL_law_899 : decode cL_law 899 = .ok (.iload 5, 2) := by decide +kernel
theorem dL_law_901 : decode cL_law 901 = .ok (.ifCond .ne 15, 3) := by decide +kernel
theorem dL_law_904 : decode cL_law 904 = .ok (.aload_n 3, 1) := by decide +kernel
theorem dL_law_905 : decode cL_law 905 = .ok (.iconst 0, 1) := by decide +kernel
theorem dL_law_906 : decode cL_law 906 = .ok (.laload, 1) := by decide +kernel
theorem dL_law_907 : decode cL_law 907 = .ok (.iload 6, 2) := by decide +kernel
theorem dL_law_909 : decode cL_law 909 = .ok (.i2l, 1) := by decide +kernel
theorem dL_law_910 : decode cL_law 910 = .ok (.lcmp, 1) := by decide +kernel
theorem dL_law_911 : decode cL_law 911 = .ok (.ifCond .eq 5, 3) := by decide +kernel
theorem dL_law_916 : decode cL_law 916 = .ok (.goto 3, 3) := by decide +kernel
/-! THE CLAIM OUT OF ONE WALK OF THE LAW'S BODY. Your part is whole_start (and what it stands on); all else here is the same for every law, but numbers. -/
def R_law : String := "SegmentBenchLaw"
def lw_P (b : Addr) (xs : List Int32) (args : Array Value) (s : State) : Prop := args = #[.ref b] ∧ s.IntsAt b xs ∧ xs.length ≤ 4 ∧ (Jvm.Cond.and given_1 narrow_1).before args s = true
def lw_Q (_ : Array Value) (s : State) (o : Outcome) (t : State) : Prop := o = .returned (some (.int 1)) ∧ Framed s o t [] 600006 7302024
def lw_Z (below : List Frame) (a : Array Value) (s : State) : State → Prop := fun t => ∃ o, t.status = .running ∧ Ended t below o ∧ lw_Q a s o t
/-- the law's own end, with 1 on the stack, nothing written that was there before, its room as the claim has it -/
theorem lw_ret {p : Program} {l : Launch} {e : Env} {s : State} {m : MethodId} {below : List Frame} {meth : Method} {c : Code} {b : Nat} (hx : p.tables.exec = Jvm.exec) (hb : c.code = code) (hr : meth.sig.returnType = ret) (hlocks : meth.locks = false) {pc : Nat} {H : Heap} {ls : Array Slot} (hdg : decode code pc = .ok (.ireturn, 1)) : W p l e room_1 s m #[Value.ref b] below meth c H [] 600006 7302024 (lw_Z below #[Value.ref b] s) (F0 m pc ls [.int 1]) := by
  intro T hT X
  obtain ⟨fs, hret, hrun, hended, hW, hframe⟩ := X.leave (v := some (.int 1)) (hlocks := hlocks) (fun h => by rw [hr] at h; cases h)
  have hmeth' : T.vm.method? m = some meth := X.method'
  refine ⟨T.setFrames fs, ?_, .returned (some (.int 1)), hrun, hended, rfl, ⟨_, rfl⟩, hW, hframe⟩
  jvm_step X.here [X.here.top, hx, hb, hdg, hmeth', hr, ret, narrow_b1]
  (try refine ⟨rfl, ?_⟩); (try refine ⟨rfl, ?_⟩)
  first | (intro acts; rw [hret _ acts rfl rfl rfl]) | rw [hret _ _ rfl rfl rfl]
  exact Steps.refl _
/-- what holds at the law's entry: the machine, the code, the tables' words (any of lw_tbl by 'hts w (by decide +kernel)'), the script of L ints xs at the cell b, what the Statement gives of the start (any of its parts by flat_of_before) -/
def lw_At (p : Program) (s : State) (m : MethodId) (meth : Method) (c : Code) (b L : Nat) (xs : Nat → Int32) : Prop :=
  p.tables.exec = Jvm.exec ∧ c.code = code ∧ meth.sig.returnType = ret ∧ c.maxLocals = 7 ∧ s.vm.findClass R_law = some m.cls ∧ (∀ w ∈ lw_tbl, w.before #[Value.ref b] s = true) ∧ va_X b L xs s s.heap ∧ b < s.heap.size ∧ meth.locks = false ∧ (Jvm.Cond.and given_1 narrow_1).before #[Value.ref b] s = true
set_option maxHeartbeats 4000000 in
set_option maxRecDepth 100000 in
theorem law_append {p : Program} {e : Env} {s : State} {m : MethodId} {below : List Frame} {meth : Method} {c : Code} {l : Launch} (htr : l.stackTraces = false) {b : Nat} {xs : Nat → Int32} (hx : p.tables.exec = Jvm.exec) (hb : c.code = code) (hr : meth.sig.returnType = ret) (hml : c.maxLocals = 7) (hown : s.vm.findClass RL = some m.cls) (hg : ∀ w ∈ gw, w.before #[Value.ref b] s = true) (hX : va_X b 4 xs s s.heap) (hbl : b < s.heap.size) (hlocks : meth.locks = false) {D : va_G} {dA : Nat → ClassId} {A : Nat → Prop} (hA : ∀ q : Nat, s.heap.size ≤ q → A q) (hAf : ∀ q : Nat, A q → s.heap.size ≤ q) (hbA : ¬ A b) (hZ : gZ A s) (hN : gNc s) (hK : gK D dA s) {h0 : Nat} {ad : Nat → Nat} {h1 : Nat} {am : Nat → Nat} {o : Nat} {g0 : Nat → Int64} {H : Heap} {locs : List Loc} {ls : Array Slot} (hP : va_P D vwC [(h0, .inr (10, [.ref (ad 0), .int 0, .int (-1), .int (-1), .ref (ad 1), .ref (ad 2), .ref (ad 3), .ref (ad 4), .ref (ad 5), .ref (ad 6), .ref (ad 7), .ref (ad 8)])), (ad 0, .inl (dA 2, 480, .inl (fun _ => 0))), (h1, .inr (11, [.int 0, .ref (am 0), .int 0, .int (-1), .int (-1), .int 0, .int 0, .int 0, .long 0, .int 0, .int 0, .ref (am 1), .ref (am 2), .ref (am 3), .ref (am 4), .ref (am 5), .ref (am 6), .int 0, .int 0, .ref (am 7), .ref (am 8), .ref (am 9), .ref (am 10), .int 0, .ref (am 11), .ref (am 12), .ref (am 13), .ref (am 14), .ref (am 15), .ref (am 16), .ref (am 17), .int 0, .int 0, .int 0, .int 0, .ref (am 18), .ref (am 19), .int 0, .int 0, .int 0, .int 0, .int 0, .int 0, .ref (am 20), .ref (am 21), .ref (am 22), .ref (am 23), .ref (am 24), .ref (am 25), .ref (am 26), .ref (am 27), .ref (am 28), .ref (am 29), .ref (am 30), .ref (am 31), .ref (am 32), .ref (am 33), .ref (am 34), .ref (am 35), .ref (am 36), .int 0, .ref (am 37), .int 0, .ref (am 38), .int 0, .int 0, .int 0, .ref (am 39), .ref (am 40), .ref (am 41), .ref (am 42), .ref (am 43), .ref (am 44), .int 0, .ref (am 45), .ref (am 46), .int 1, .int 0, .int 0, .ref (am 47), .int 0, .int 0, .int 0, .int 0, .int 0])), (am 0, .inl (dA 0, 480, .inl (fun _ => 0))), (o, .inl (dA 1, 1, .inr (.inl g0)))] H) (hD : va_D A [(h0, .inr (10, [.ref (ad 0), .int 0, .int (-1), .int (-1), .ref (ad 1), .ref (ad 2), .ref (ad 3), .ref (ad 4), .ref (ad 5), .ref (ad 6), .ref (ad 7), .ref (ad 8)])), (ad 0, .inl (dA 2, 480, .inl (fun _ => 0))), (h1, .inr (11, [.int 0, .ref (am 0), .int 0, .int (-1), .int (-1), .int 0, .int 0, .int 0, .long 0, .int 0, .int 0, .ref (am 1), .ref (am 2), .ref (am 3), .ref (am 4), .ref (am 5), .ref (am 6), .int 0, .int 0, .ref (am 7), .ref (am 8), .ref (am 9), .ref (am 10), .int 0, .ref (am 11), .ref (am 12), .ref (am 13), .ref (am 14), .ref (am 15), .ref (am 16), .ref (am 17), .int 0, .int 0, .int 0, .int 0, .ref (am 18), .ref (am 19), .int 0, .int 0, .int 0, .int 0, .int 0, .int 0, .ref (am 20), .ref (am 21), .ref (am 22), .ref (am 23), .ref (am 24), .ref (am 25), .ref (am 26), .ref (am 27), .ref (am 28), .ref (am 29), .ref (am 30), .ref (am 31), .ref (am 32), .ref (am 33), .ref (am 34), .ref (am 35), .ref (am 36), .int 0, .ref (am 37), .int 0, .ref (am 38), .int 0, .int 0, .int 0, .ref (am 39), .ref (am 40), .ref (am 41), .ref (am 42), .ref (am 43), .ref (am 44), .int 0, .ref (am 45), .ref (am 46), .int 1, .int 0, .int 0, .ref (am 47), .int 0, .int 0, .int 0, .int 0, .int 0])), (am 0, .inl (dA 0, 480, .inl (fun _ => 0))), (o, .inl (dA 1, 1, .inr (.inl g0)))]) (hS : va_S A s.heap H locs) (hl : lv_has ls 7 [(4, .int 0), (3, .ref o), (2, .ref h1), (1, .ref h0), (0, .ref b)]) : W p l e room_1 s m #[Value.ref b] below meth c H locs 133 41139 (lw_Z below #[Value.ref b] s) (F0 m 104 ls []) := by
  refine lv_aload_n hx hb dL_law_104 rfl (lv_at hl 3 rfl) ?_
  refine lv_aload_n hx hb dL_law_105 rfl (lv_at hl 4 rfl) ?_
  refine lv_iload hx hb dL_law_106 (lv_at hl 0 rfl) ?_
  refine lv_iconst (v := 1) hx hb dL_law_108 (by decide) ?_
  refine lv_iadd hx hb dL_law_109 ?_
  refine g_nrm (y := 1) (by decide) ?_
  refine va_sld hx hb hX hbl hbA hS (by unfold vp_in; decide) dL_law_110 ?_
  refine lv_i2l (v := ((xs (1 : Int32).toNatClampNeg).toInt64)) hx hb dL_law_111 rfl ?_
  refine lv_bipush (v := 32) hx hb dL_law_112 (by decide) ?_
  refine lv_lshl (v := (((xs (1 : Int32).toNatClampNeg).toInt64) <<< ((32 : Int32).toInt64 &&& 63))) hx hb dL_law_114 rfl ?_
  refine lv_aload_n hx hb dL_law_115 rfl (lv_at hl 4 rfl) ?_
  refine lv_iload hx hb dL_law_116 (lv_at hl 0 rfl) ?_
  refine lv_iconst (v := 2) hx hb dL_law_118 (by decide) ?_
  refine lv_iadd hx hb dL_law_119 ?_
  refine g_nrm (y := 2) (by decide) ?_
  refine va_sld hx hb hX hbl hbA hS (by unfold vp_in; decide) dL_law_120 ?_
  refine lv_i2l (v := ((xs (2 : Int32).toNatClampNeg).toInt64)) hx hb dL_law_121 rfl ?_
  refine lv_ldc2 hx hb hown (hg _ q2234) dL_law_122 ?_
  refine lv_land hx hb dL_law_125 ?_
  refine lv_lor hx hb dL_law_126 ?_
  refine lv_aload_n hx hb dL_law_127 rfl (lv_at hl 4 rfl) ?_
  refine lv_iload hx hb dL_law_128 (lv_at hl 0 rfl) ?_
  refine lv_iconst (v := 3) hx hb dL_law_130 (by decide) ?_
  refine lv_iadd hx hb dL_law_131 ?_
  refine g_nrm (y := 3) (by decide) ?_
  refine va_sld hx hb hX hbl hbA hS (by unfold vp_in; decide) dL_law_132 ?_
  refine lv_aload_n hx hb dL_law_133 rfl (lv_at hl 1 rfl) ?_
  refine g_SW (n := 4) (hh := [(0, 11, 14, 13), (0, 11, 18, 15)]) (As := [.ref h0, .long ((((xs (1 : Int32).toNatClampNeg).toInt64) <<< ((32 : Int32).toInt64 &&& 63)) ||| (((xs (2 : Int32).toNatClampNeg).toInt64) &&& 4294967295)), .int (xs (3 : Int32).toNatClampNeg), .ref o]) (rest := []) (wr := [(h1, .inr (11, [.int 0, .ref (am 0), .int 0, .int (-1), .int (-1), .int 0, .int 0, .int 0, .long 0, .int 0, .int 0, .ref (am 1), .ref (am 2), .ref (am 3), .ref (am 4), .ref (am 5), .ref (am 6), .int 0, .int 0, .ref (am 7), .ref (am 8), .ref (am 9), .ref (am 10), .int 0, .ref (am 11), .ref (am 12), .ref (am 13), .ref (am 14), .ref (am 15), .ref (am 16), .ref (am 17), .int 0, .int 0, .int 0, .int 0, .ref (am 18), .ref (am 19), .int 0, .int 0, .int 0, .int 0, .int 0, .int 0, .ref (am 20), .ref (am 21), .ref (am 22), .ref (am 23), .ref (am 24), .ref (am 25), .ref (am 26), .ref (am 27), .ref (am 28), .ref (am 29), .ref (am 30), .ref (am 31), .ref (am 32), .ref (am 33), .ref (am 34), .ref (am 35), .ref (am 36), .int 0, .ref (am 37), .int 0, .ref (am 38), .int 0, .int 0, .int 0, .ref (am 39), .ref (am 40), .ref (am 41), .ref (am 42), .ref (am 43), .ref (am 44), .int 0, .ref (am 45), .ref (am 46), .int 1, .int 0, .int 0, .ref (am 47), .int 0, .int 0, .int 0, .int 0, .int 0])), (am 0, .inl (dA 0, 480, .inl (fun _ => 0)))]) hx hb hml hg hown hZ hN hK hP hD hS hA (w_append l htr D dA h0 ad o g0 ((((xs (1 : Int32).toNatClampNeg).toInt64) <<< ((32 : Int32).toInt64 &&& 63)) ||| (((xs (2 : Int32).toNatClampNeg).toInt64) &&& 4294967295)) (xs (3 : Int32).toNatClampNeg) _) [0, 1, 4] [2, 3] rfl (by decide) rfl (by decide) (by decide) q645 q148 q643 q644 (by decide +kernel) ⟨(Nat.le_of_ble_eq_true rfl), (Nat.le_of_ble_eq_true rfl)⟩ rfl hl.1 rfl (Nat.le_of_ble_eq_true rfl) dL_law_134 ⟨(Nat.le_of_ble_eq_true rfl), (Nat.le_of_ble_eq_true rfl)⟩ (fun k g H locs hw hP hD hS => ?_)
  refine W.widen (k := 134) (n := 41145) (Nat.le_of_ble_eq_true rfl) (Nat.le_of_ble_eq_true rfl) ?_
  have hP : va_P D vwC [(h1, .inr (11, [.int 0, .ref (am 0), .int 0, .int (-1), .int (-1), .int 0, .int 0, .int 0, .long 0, .int 0, .int 0, .ref (am 1), .ref (am 2), .ref (am 3), .ref (am 4), .ref (am 5), .ref (am 6), .int 0, .int 0, .ref (am 7), .ref (am 8), .ref (am 9), .ref (am 10), .int 0, .ref (am 11), .ref (am 12), .ref (am 13), .ref (am 14), .ref (am 15), .ref (am 16), .ref (am 17), .int 0, .int 0, .int 0, .int 0, .ref (am 18), .ref (am 19), .int 0, .int 0, .int 0, .int 0, .int 0, .int 0, .ref (am 20), .ref (am 21), .ref (am 22), .ref (am 23), .ref (am 24), .ref (am 25), .ref (am 26), .ref (am 27), .ref (am 28), .ref (am 29), .ref (am 30), .ref (am 31), .ref (am 32), .ref (am 33), .ref (am 34), .ref (am 35), .ref (am 36), .int 0, .ref (am 37), .int 0, .ref (am 38), .int 0, .int 0, .int 0, .ref (am 39), .ref (am 40), .ref (am 41), .ref (am 42), .ref (am 43), .ref (am 44), .int 0, .ref (am 45), .ref (am 46), .int 1, .int 0, .int 0, .ref (am 47), .int 0, .int 0, .int 0, .int 0, .int 0])), (am 0, .inl (dA 0, 480, .inl (fun _ => 0))), (o, .inl (dA 1, 1, .inr (.inl g)))] H := hP
  have hD : va_D A [(h1, .inr (11, [.int 0, .ref (am 0), .int 0, .int (-1), .int (-1), .int 0, .int 0, .int 0, .long 0, .int 0, .int 0, .ref (am 1), .ref (am 2), .ref (am 3), .ref (am 4), .ref (am 5), .ref (am 6), .int 0, .int 0, .ref (am 7), .ref (am 8), .ref (am 9), .ref (am 10), .int 0, .ref (am 11), .ref (am 12), .ref (am 13), .ref (am 14), .ref (am 15), .ref (am 16), .ref (am 17), .int 0, .int 0, .int 0, .int 0, .ref (am 18), .ref (am 19), .int 0, .int 0, .int 0, .int 0, .int 0, .int 0, .ref (am 20), .ref (am 21), .ref (am 22), .ref (am 23), .ref (am 24), .ref (am 25), .ref (am 26), .ref (am 27), .ref (am 28), .ref (am 29), .ref (am 30), .ref (am 31), .ref (am 32), .ref (am 33), .ref (am 34), .ref (am 35), .ref (am 36), .int 0, .ref (am 37), .int 0, .ref (am 38), .int 0, .int 0, .int 0, .ref (am 39), .ref (am 40), .ref (am 41), .ref (am 42), .ref (am 43), .ref (am 44), .int 0, .ref (am 45), .ref (am 46), .int 1, .int 0, .int 0, .ref (am 47), .int 0, .int 0, .int 0, .int 0, .int 0])), (am 0, .inl (dA 0, 480, .inl (fun _ => 0))), (o, .inl (dA 1, 1, .inr (.inl g)))] := hD
  rcases hw with ⟨rfl, r1, hg0, hpo⟩ | ⟨rfl, hq⟩
  · refine lv_istore (lv' := [(5, .int 0), (4, .int 0), (3, .ref o), (2, .ref h1), (1, .ref h0), (0, .ref b)]) hx hb dL_law_137 hl (by decide) rfl (fun ls hl => ?_)
    refine lv_aload_n hx hb dL_law_139 rfl (lv_at hl 3 rfl) ?_
    refine lv_aload_n hx hb dL_law_140 rfl (lv_at hl 5 rfl) ?_
    refine lv_iload hx hb dL_law_141 (lv_at hl 1 rfl) ?_
    refine lv_iconst (v := 1) hx hb dL_law_143 (by decide) ?_
    refine lv_iadd hx hb dL_law_144 ?_
    refine g_nrm (y := 1) (by decide) ?_
    refine va_sld hx hb hX hbl hbA hS (by unfold vp_in; decide) dL_law_145 ?_
    refine lv_i2l (v := ((xs (1 : Int32).toNatClampNeg).toInt64)) hx hb dL_law_146 rfl ?_
    refine lv_bipush (v := 32) hx hb dL_law_147 (by decide) ?_
    refine lv_lshl (v := (((xs (1 : Int32).toNatClampNeg).toInt64) <<< ((32 : Int32).toInt64 &&& 63))) hx hb dL_law_149 rfl ?_
    refine lv_aload_n hx hb dL_law_150 rfl (lv_at hl 5 rfl) ?_
    refine lv_iload hx hb dL_law_151 (lv_at hl 1 rfl) ?_
    refine lv_iconst (v := 2) hx hb dL_law_153 (by decide) ?_
    refine lv_iadd hx hb dL_law_154 ?_
    refine g_nrm (y := 2) (by decide) ?_
    refine va_sld hx hb hX hbl hbA hS (by unfold vp_in; decide) dL_law_155 ?_
    refine lv_i2l (v := ((xs (2 : Int32).toNatClampNeg).toInt64)) hx hb dL_law_156 rfl ?_
    refine lv_ldc2 hx hb hown (hg _ q2234) dL_law_157 ?_
    refine lv_land hx hb dL_law_160 ?_
    refine lv_lor hx hb dL_law_161 ?_
    refine lv_aload_n hx hb dL_law_162 rfl (lv_at hl 5 rfl) ?_
    refine lv_iload hx hb dL_law_163 (lv_at hl 1 rfl) ?_
    refine lv_iconst (v := 3) hx hb dL_law_165 (by decide) ?_
    refine lv_iadd hx hb dL_law_166 ?_
    refine g_nrm (y := 3) (by decide) ?_
    refine va_sld hx hb hX hbl hbA hS (by unfold vp_in; decide) dL_law_167 ?_
    refine g_Vi (n := 2) (As := [.long ((((xs (1 : Int32).toNatClampNeg).toInt64) <<< ((32 : Int32).toInt64 &&& 63)) ||| (((xs (2 : Int32).toNatClampNeg).toInt64) &&& 4294967295)), .int (xs (3 : Int32).toNatClampNeg)]) (rest := []) (wr := [(o, .inl (dA 1, 1, .inr (.inl g)))]) hx hb hml hg hown hK hP hD hS hA (c_X11_append l D dA h1 am ((((xs (1 : Int32).toNatClampNeg).toInt64) <<< ((32 : Int32).toInt64 &&& 63)) ||| (((xs (2 : Int32).toNatClampNeg).toInt64) &&& 4294967295)) (xs (3 : Int32).toNatClampNeg) _) [0, 1] [2] rfl (by decide) rfl (by decide) (by decide) 0 rfl rfl q1879 q160 q1876 q1877 q1878 (by decide +kernel) ⟨(Nat.le_of_ble_eq_true rfl), (Nat.le_of_ble_eq_true rfl)⟩ rfl hl.1 rfl (Nat.le_of_ble_eq_true rfl) dL_law_168 ⟨(Nat.le_of_ble_eq_true rfl), (Nat.le_of_ble_eq_true rfl)⟩ (fun r2 u H locs hw hP hD hS => ?_)
    refine W.widen (k := 134) (n := 41145) (Nat.le_of_ble_eq_true rfl) (Nat.le_of_ble_eq_true rfl) ?_
    have hP : va_P D vwC [(o, .inl (dA 1, 1, .inr (.inl g))), (h1, .inr (11, u))] H := hP
    have hD : va_D A [(o, .inl (dA 1, 1, .inr (.inl g))), (h1, .inr (11, u))] := hD
    obtain ⟨t, hf, hpm⟩ := hw
    rcases hpm with ⟨rfl, hr2, hp2⟩ | ⟨rfl, hp2⟩
    · refine lv_istore (lv' := [(6, .int r2), (5, .int 0), (4, .int 0), (3, .ref o), (2, .ref h1), (1, .ref h0), (0, .ref b)]) hx hb dL_law_171 hl (by decide) rfl (fun ls hl => ?_)
      refine lv_aload_n hx hb dL_law_173 rfl (lv_at hl 4 rfl) ?_
      refine g_Vi (n := 0) (As := []) (rest := []) (wr := [(o, .inl (dA 1, 1, .inr (.inl g)))]) hx hb hml hg hown hK hP hD hS hA (c_thrown l D dA h1 u 0 hf _) [1] [0] rfl (by decide) rfl (by decide) (by decide) 0 rfl rfl q1875 q160 q1872 q1873 q1874 (by decide +kernel) ⟨(Nat.le_of_ble_eq_true rfl), (Nat.le_of_ble_eq_true rfl)⟩ rfl hl.1 rfl (Nat.le_of_ble_eq_true rfl) dL_law_174 ⟨(Nat.le_of_ble_eq_true rfl), (Nat.le_of_ble_eq_true rfl)⟩ (fun r3 u2 H locs hw hP hD hS => ?_)
      refine W.widen (k := 134) (n := 41145) (Nat.le_of_ble_eq_true rfl) (Nat.le_of_ble_eq_true rfl) ?_
      have hP : va_P D vwC [(o, .inl (dA 1, 1, .inr (.inl g))), (h1, .inr (11, u))] H := hP
      have hD : va_D A [(o, .inl (dA 1, 1, .inr (.inl g))), (h1, .inr (11, u))] := hD
      obtain rfl : r3 = 0 := hw
      refine lv_iload hx hb dL_law_177 (lv_at hl 1 rfl) ?_
      refine lv_icmp_eq (tgt := 184) hx hb dL_law_179 (by decide) (fun _ => ?_) (fun h => absurd (by decide) h)
      refine lv_iload hx hb dL_law_184 (lv_at hl 1 rfl) ?_
      refine lv_if_ne (tgt := 201) hx hb dL_law_186 (by decide) (fun h => absurd (by decide) h) (fun _ => ?_)
      refine lv_aload_n hx hb dL_law_189 rfl (lv_at hl 3 rfl) ?_
      refine lv_iconst (v := 0) hx hb dL_law_190 (by decide) ?_
      refine va_lald hx hb hK hP 0 1 rfl rfl (by unfold vp_in; decide) dL_law_191 ?_
      refine lv_iload hx hb dL_law_192 (lv_at hl 0 rfl) ?_
      refine lv_i2l (v := r2.toInt64) hx hb dL_law_194 rfl ?_
      refine W.lcmp hx hb dL_law_195 ?_
      refine g_nrm (y := 0) (g_cmp0 (by rw [g_z0, hg0, hpo.1, hr2])) ?_
      refine lv_if_eq (tgt := 201) hx hb dL_law_196 (by decide) (fun _ => ?_) (fun h => absurd (by decide) h)
      refine lv_goto (tgt := 919) hx hb dL_law_201 (by decide) ?_
      refine lv_iinc (v := 4) (lv' := [(4, .int 4), (6, .int r2), (5, .int 0), (3, .ref o), (2, .ref h1), (1, .ref h0), (0, .ref b)]) hx hb dL_law_919 hl (k := 2) rfl (by decide) (by decide) rfl (fun ls hl => ?_)
      refine lv_goto (tgt := 23) hx hb dL_law_922 (by decide) ?_
      refine lv_iload hx hb dL_law_23 (lv_at hl 0 rfl) ?_
      refine lv_aload_n hx hb dL_law_25 rfl (lv_at hl 6 rfl) ?_
      refine va_slen hx hb hX hbl hbA hS dL_law_26 ?_
      refine g_nrm (y := 4) (by decide) ?_
      refine lv_iconst (v := 4) hx hb dL_law_27 (by decide) ?_
      refine lv_isub hx hb dL_law_28 ?_
      refine g_nrm (y := 0) (by decide) ?_
      refine lv_icmp_gt (tgt := 925) hx hb dL_law_29 (by decide) (fun _ => ?_) (fun h => absurd (by decide) h)
      refine lv_iconst (v := 1) hx hb dL_law_925 (by decide) ?_
      refine va_forget (fun q hq => hAf _ (hS.2.2 q hq)) ?_
      refine W.widen (k := 600006) (n := 7302024) (Nat.le_of_ble_eq_true rfl) (Nat.le_of_ble_eq_true rfl) ?_
      exact lw_ret hx hb hr hlocks dL_law_926
    · exact absurd hpo.2 hp2
  · refine lv_istore (lv' := [(5, .int 1), (4, .int 0), (3, .ref o), (2, .ref h1), (1, .ref h0), (0, .ref b)]) hx hb dL_law_137 hl (by decide) rfl (fun ls hl => ?_)
    refine lv_aload_n hx hb dL_law_139 rfl (lv_at hl 3 rfl) ?_
    refine lv_aload_n hx hb dL_law_140 rfl (lv_at hl 5 rfl) ?_
    refine lv_iload hx hb dL_law_141 (lv_at hl 1 rfl) ?_
    refine lv_iconst (v := 1) hx hb dL_law_143 (by decide) ?_
    refine lv_iadd hx hb dL_law_144 ?_
    refine g_nrm (y := 1) (by decide) ?_
    refine va_sld hx hb hX hbl hbA hS (by unfold vp_in; decide) dL_law_145 ?_
    refine lv_i2l (v := ((xs (1 : Int32).toNatClampNeg).toInt64)) hx hb dL_law_146 rfl ?_
    refine lv_bipush (v := 32) hx hb dL_law_147 (by decide) ?_
    refine lv_lshl (v := (((xs (1 : Int32).toNatClampNeg).toInt64) <<< ((32 : Int32).toInt64 &&& 63))) hx hb dL_law_149 rfl ?_
    refine lv_aload_n hx hb dL_law_150 rfl (lv_at hl 5 rfl) ?_
    refine lv_iload hx hb dL_law_151 (lv_at hl 1 rfl) ?_
    refine lv_iconst (v := 2) hx hb dL_law_153 (by decide) ?_
    refine lv_iadd hx hb dL_law_154 ?_
    refine g_nrm (y := 2) (by decide) ?_
    refine va_sld hx hb hX hbl hbA hS (by unfold vp_in; decide) dL_law_155 ?_
    refine lv_i2l (v := ((xs (2 : Int32).toNatClampNeg).toInt64)) hx hb dL_law_156 rfl ?_
    refine lv_ldc2 hx hb hown (hg _ q2234) dL_law_157 ?_
    refine lv_land hx hb dL_law_160 ?_
    refine lv_lor hx hb dL_law_161 ?_
    refine lv_aload_n hx hb dL_law_162 rfl (lv_at hl 5 rfl) ?_
    refine lv_iload hx hb dL_law_163 (lv_at hl 1 rfl) ?_
    refine lv_iconst (v := 3) hx hb dL_law_165 (by decide) ?_
    refine lv_iadd hx hb dL_law_166 ?_
    refine g_nrm (y := 3) (by decide) ?_
    refine va_sld hx hb hX hbl hbA hS (by unfold vp_in; decide) dL_law_167 ?_
    refine g_Vi (n := 2) (As := [.long ((((xs (1 : Int32).toNatClampNeg).toInt64) <<< ((32 : Int32).toInt64 &&& 63)) ||| (((xs (2 : Int32).toNatClampNeg).toInt64) &&& 4294967295)), .int (xs (3 : Int32).toNatClampNeg)]) (rest := []) (wr := [(o, .inl (dA 1, 1, .inr (.inl g)))]) hx hb hml hg hown hK hP hD hS hA (c_X11_append l D dA h1 am ((((xs (1 : Int32).toNatClampNeg).toInt64) <<< ((32 : Int32).toInt64 &&& 63)) ||| (((xs (2 : Int32).toNatClampNeg).toInt64) &&& 4294967295)) (xs (3 : Int32).toNatClampNeg) _) [0, 1] [2] rfl (by decide) rfl (by decide) (by decide) 0 rfl rfl q1879 q160 q1876 q1877 q1878 (by decide +kernel) ⟨(Nat.le_of_ble_eq_true rfl), (Nat.le_of_ble_eq_true rfl)⟩ rfl hl.1 rfl (Nat.le_of_ble_eq_true rfl) dL_law_168 ⟨(Nat.le_of_ble_eq_true rfl), (Nat.le_of_ble_eq_true rfl)⟩ (fun r2 u H locs hw hP hD hS => ?_)
    refine W.widen (k := 134) (n := 41145) (Nat.le_of_ble_eq_true rfl) (Nat.le_of_ble_eq_true rfl) ?_
    have hP : va_P D vwC [(o, .inl (dA 1, 1, .inr (.inl g))), (h1, .inr (11, u))] H := hP
    have hD : va_D A [(o, .inl (dA 1, 1, .inr (.inl g))), (h1, .inr (11, u))] := hD
    obtain ⟨t, hf, hpm⟩ := hw
    rcases hpm with ⟨rfl, hr2, hp2⟩ | ⟨rfl, hp2⟩
    · exact absurd hp2 hq
    · refine lv_istore (lv' := [(6, .int r2), (5, .int 1), (4, .int 0), (3, .ref o), (2, .ref h1), (1, .ref h0), (0, .ref b)]) hx hb dL_law_171 hl (by decide) rfl (fun ls hl => ?_)
      refine lv_aload_n hx hb dL_law_173 rfl (lv_at hl 4 rfl) ?_
      refine g_Vi (n := 0) (As := []) (rest := []) (wr := [(o, .inl (dA 1, 1, .inr (.inl g)))]) hx hb hml hg hown hK hP hD hS hA (c_thrown l D dA h1 u 1 hf _) [1] [0] rfl (by decide) rfl (by decide) (by decide) 0 rfl rfl q1875 q160 q1872 q1873 q1874 (by decide +kernel) ⟨(Nat.le_of_ble_eq_true rfl), (Nat.le_of_ble_eq_true rfl)⟩ rfl hl.1 rfl (Nat.le_of_ble_eq_true rfl) dL_law_174 ⟨(Nat.le_of_ble_eq_true rfl), (Nat.le_of_ble_eq_true rfl)⟩ (fun r3 u2 H locs hw hP hD hS => ?_)
      refine W.widen (k := 134) (n := 41145) (Nat.le_of_ble_eq_true rfl) (Nat.le_of_ble_eq_true rfl) ?_
      have hP : va_P D vwC [(o, .inl (dA 1, 1, .inr (.inl g))), (h1, .inr (11, u))] H := hP
      have hD : va_D A [(o, .inl (dA 1, 1, .inr (.inl g))), (h1, .inr (11, u))] := hD
      obtain rfl : r3 = 1 := hw
      refine lv_iload hx hb dL_law_177 (lv_at hl 1 rfl) ?_
      refine lv_icmp_eq (tgt := 184) hx hb dL_law_179 (by decide) (fun _ => ?_) (fun h => absurd (by decide) h)
      refine lv_iload hx hb dL_law_184 (lv_at hl 1 rfl) ?_
      refine lv_if_ne (tgt := 201) hx hb dL_law_186 (by decide) (fun _ => ?_) (fun h => absurd h (by decide))
      refine lv_goto (tgt := 919) hx hb dL_law_201 (by decide) ?_
      refine lv_iinc (v := 4) (lv' := [(4, .int 4), (6, .int r2), (5, .int 1), (3, .ref o), (2, .ref h1), (1, .ref h0), (0, .ref b)]) hx hb dL_law_919 hl (k := 2) rfl (by decide) (by decide) rfl (fun ls hl => ?_)
      refine lv_goto (tgt := 23) hx hb dL_law_922 (by decide) ?_
      refine lv_iload hx hb dL_law_23 (lv_at hl 0 rfl) ?_
      refine lv_aload_n hx hb dL_law_25 rfl (lv_at hl 6 rfl) ?_
      refine va_slen hx hb hX hbl hbA hS dL_law_26 ?_
      refine g_nrm (y := 4) (by decide) ?_
      refine lv_iconst (v := 4) hx hb dL_law_27 (by decide) ?_
      refine lv_isub hx hb dL_law_28 ?_
      refine g_nrm (y := 0) (by decide) ?_
      refine lv_icmp_gt (tgt := 925) hx hb dL_law_29 (by decide) (fun _ => ?_) (fun h => absurd (by decide) h)
      refine lv_iconst (v := 1) hx hb dL_law_925 (by decide) ?_
      refine va_forget (fun q hq => hAf _ (hS.2.2 q hq)) ?_
      refine W.widen (k := 600006) (n := 7302024) (Nat.le_of_ble_eq_true rfl) (Nat.le_of_ble_eq_true rfl) ?_
      exact lw_ret hx hb hr hlocks dL_law_926
set_option maxHeartbeats 4000000 in
set_option maxRecDepth 100000 in
theorem law_assemble {p : Program} {e : Env} {s : State} {m : MethodId} {below : List Frame} {meth : Method} {c : Code} {l : Launch} (htr : l.stackTraces = false) {b : Nat} {xs : Nat → Int32} (hx : p.tables.exec = Jvm.exec) (hb : c.code = code) (hr : meth.sig.returnType = ret) (hml : c.maxLocals = 7) (hown : s.vm.findClass RL = some m.cls) (hg : ∀ w ∈ gw, w.before #[Value.ref b] s = true) (hX : va_X b 4 xs s s.heap) (hbl : b < s.heap.size) (hlocks : meth.locks = false) {D : va_G} {dA : Nat → ClassId} {A : Nat → Prop} (hA : ∀ q : Nat, s.heap.size ≤ q → A q) (hAf : ∀ q : Nat, A q → s.heap.size ≤ q) (hbA : ¬ A b) (hZ : gZ A s) (hN : gNc s) (hK : gK D dA s) {h0 : Nat} {ad : Nat → Nat} {h1 : Nat} {am : Nat → Nat} {o : Nat} {g0 : Nat → Int64} {H : Heap} {locs : List Loc} {ls : Array Slot} (hP : va_P D vwC [(h0, .inr (10, [.ref (ad 0), .int 0, .int (-1), .int (-1), .ref (ad 1), .ref (ad 2), .ref (ad 3), .ref (ad 4), .ref (ad 5), .ref (ad 6), .ref (ad 7), .ref (ad 8)])), (ad 2, .inr (9, [.ref (ad 14), .ref (ad 15), .ref (ad 16), .int 0, .ref (ad 1)])), (ad 1, .inr (5, [.ref (ad 9), .ref (ad 10), .ref (ad 11), .ref (ad 12), .ref (ad 13), .int 0, .int (-1)])), (ad 14, .inl (dA 0, 481, .inl (fun _ => 0))), (ad 15, .inl (dA 0, 481, .inl (fun _ => 0))), (ad 16, .inl (dA 0, 481, .inl (fun _ => 0))), (ad 3, .inr (8, [.ref (ad 2), .ref (ad 17), .ref (ad 18), .ref (ad 19), .int 0, .int 0])), (ad 17, .inr (0, [.ref (ad 20), .ref (ad 21), .ref (ad 22), .ref (ad 23), .ref (ad 24), .ref (ad 25), .ref (ad 26), .int 0])), (ad 4, .inr (2, [.ref (ad 17), .ref (ad 1), .ref (ad 27), .ref (ad 28), .int 0, .int (-1)])), (ad 28, .inl (dA 0, 60, .inl (fun _ => 0))), (ad 5, .inl (dA 4, 3, .inr (.inr (.inr (.inr (gM (ad 29) (ad 30) (ad 31))))))), (ad 29, .inr (6, [.int 0, .int 0, .ref (ad 32), .ref (ad 33), .ref (ad 34), .ref (ad 35), .ref (ad 36), .int 0, .ref (ad 37), .ref (ad 38), .ref (ad 39), .ref (ad 40), .ref (ad 41), .int 0, .ref (ad 42), .ref (ad 43), .ref (ad 44)])), (ad 30, .inr (6, [.int 0, .int 0, .ref (ad 45), .ref (ad 46), .ref (ad 47), .ref (ad 48), .ref (ad 49), .int 0, .ref (ad 50), .ref (ad 51), .ref (ad 52), .ref (ad 53), .ref (ad 54), .int 0, .ref (ad 55), .ref (ad 56), .ref (ad 57)])), (ad 31, .inr (6, [.int 0, .int 0, .ref (ad 58), .ref (ad 59), .ref (ad 60), .ref (ad 61), .ref (ad 62), .int 0, .ref (ad 63), .ref (ad 64), .ref (ad 65), .ref (ad 66), .ref (ad 67), .int 0, .ref (ad 68), .ref (ad 69), .ref (ad 70)])), (ad 36, .inl (dA 0, 400, .inl (fun _ => 0))), (ad 49, .inl (dA 0, 400, .inl (fun _ => 0))), (ad 62, .inl (dA 0, 400, .inl (fun _ => 0))), (h1, .inr (11, [.int 0, .ref (am 0), .int 0, .int (-1), .int (-1), .int 0, .int 0, .int 0, .long 0, .int 0, .int 0, .ref (am 1), .ref (am 2), .ref (am 3), .ref (am 4), .ref (am 5), .ref (am 6), .int 0, .int 0, .ref (am 7), .ref (am 8), .ref (am 9), .ref (am 10), .int 0, .ref (am 11), .ref (am 12), .ref (am 13), .ref (am 14), .ref (am 15), .ref (am 16), .ref (am 17), .int 0, .int 0, .int 0, .int 0, .ref (am 18), .ref (am 19), .int 0, .int 0, .int 0, .int 0, .int 0, .int 0, .ref (am 20), .ref (am 21), .ref (am 22), .ref (am 23), .ref (am 24), .ref (am 25), .ref (am 26), .ref (am 27), .ref (am 28), .ref (am 29), .ref (am 30), .ref (am 31), .ref (am 32), .ref (am 33), .ref (am 34), .ref (am 35), .ref (am 36), .int 0, .ref (am 37), .int 0, .ref (am 38), .int 0, .int 0, .int 0, .ref (am 39), .ref (am 40), .ref (am 41), .ref (am 42), .ref (am 43), .ref (am 44), .int 0, .ref (am 45), .ref (am 46), .int 1, .int 0, .int 0, .ref (am 47), .int 0, .int 0, .int 0, .int 0, .int 0])), (am 20, .inl (dA 3, 3, .inl (fun _ => 0))), (am 21, .inl (dA 0, 3, .inl (fun _ => 0))), (am 27, .inl (dA 0, 3, .inl (fun _ => 0))), (am 33, .inl (dA 0, 3, .inl (fun _ => 0))), (am 26, .inl (dA 0, 1200, .inl (fun _ => 0))), (o, .inl (dA 1, 1, .inr (.inl g0)))] H) (hD : va_D A [(h0, .inr (10, [.ref (ad 0), .int 0, .int (-1), .int (-1), .ref (ad 1), .ref (ad 2), .ref (ad 3), .ref (ad 4), .ref (ad 5), .ref (ad 6), .ref (ad 7), .ref (ad 8)])), (ad 2, .inr (9, [.ref (ad 14), .ref (ad 15), .ref (ad 16), .int 0, .ref (ad 1)])), (ad 1, .inr (5, [.ref (ad 9), .ref (ad 10), .ref (ad 11), .ref (ad 12), .ref (ad 13), .int 0, .int (-1)])), (ad 14, .inl (dA 0, 481, .inl (fun _ => 0))), (ad 15, .inl (dA 0, 481, .inl (fun _ => 0))), (ad 16, .inl (dA 0, 481, .inl (fun _ => 0))), (ad 3, .inr (8, [.ref (ad 2), .ref (ad 17), .ref (ad 18), .ref (ad 19), .int 0, .int 0])), (ad 17, .inr (0, [.ref (ad 20), .ref (ad 21), .ref (ad 22), .ref (ad 23), .ref (ad 24), .ref (ad 25), .ref (ad 26), .int 0])), (ad 4, .inr (2, [.ref (ad 17), .ref (ad 1), .ref (ad 27), .ref (ad 28), .int 0, .int (-1)])), (ad 28, .inl (dA 0, 60, .inl (fun _ => 0))), (ad 5, .inl (dA 4, 3, .inr (.inr (.inr (.inr (gM (ad 29) (ad 30) (ad 31))))))), (ad 29, .inr (6, [.int 0, .int 0, .ref (ad 32), .ref (ad 33), .ref (ad 34), .ref (ad 35), .ref (ad 36), .int 0, .ref (ad 37), .ref (ad 38), .ref (ad 39), .ref (ad 40), .ref (ad 41), .int 0, .ref (ad 42), .ref (ad 43), .ref (ad 44)])), (ad 30, .inr (6, [.int 0, .int 0, .ref (ad 45), .ref (ad 46), .ref (ad 47), .ref (ad 48), .ref (ad 49), .int 0, .ref (ad 50), .ref (ad 51), .ref (ad 52), .ref (ad 53), .ref (ad 54), .int 0, .ref (ad 55), .ref (ad 56), .ref (ad 57)])), (ad 31, .inr (6, [.int 0, .int 0, .ref (ad 58), .ref (ad 59), .ref (ad 60), .ref (ad 61), .ref (ad 62), .int 0, .ref (ad 63), .ref (ad 64), .ref (ad 65), .ref (ad 66), .ref (ad 67), .int 0, .ref (ad 68), .ref (ad 69), .ref (ad 70)])), (ad 36, .inl (dA 0, 400, .inl (fun _ => 0))), (ad 49, .inl (dA 0, 400, .inl (fun _ => 0))), (ad 62, .inl (dA 0, 400, .inl (fun _ => 0))), (h1, .inr (11, [.int 0, .ref (am 0), .int 0, .int (-1), .int (-1), .int 0, .int 0, .int 0, .long 0, .int 0, .int 0, .ref (am 1), .ref (am 2), .ref (am 3), .ref (am 4), .ref (am 5), .ref (am 6), .int 0, .int 0, .ref (am 7), .ref (am 8), .ref (am 9), .ref (am 10), .int 0, .ref (am 11), .ref (am 12), .ref (am 13), .ref (am 14), .ref (am 15), .ref (am 16), .ref (am 17), .int 0, .int 0, .int 0, .int 0, .ref (am 18), .ref (am 19), .int 0, .int 0, .int 0, .int 0, .int 0, .int 0, .ref (am 20), .ref (am 21), .ref (am 22), .ref (am 23), .ref (am 24), .ref (am 25), .ref (am 26), .ref (am 27), .ref (am 28), .ref (am 29), .ref (am 30), .ref (am 31), .ref (am 32), .ref (am 33), .ref (am 34), .ref (am 35), .ref (am 36), .int 0, .ref (am 37), .int 0, .ref (am 38), .int 0, .int 0, .int 0, .ref (am 39), .ref (am 40), .ref (am 41), .ref (am 42), .ref (am 43), .ref (am 44), .int 0, .ref (am 45), .ref (am 46), .int 1, .int 0, .int 0, .ref (am 47), .int 0, .int 0, .int 0, .int 0, .int 0])), (am 20, .inl (dA 3, 3, .inl (fun _ => 0))), (am 21, .inl (dA 0, 3, .inl (fun _ => 0))), (am 27, .inl (dA 0, 3, .inl (fun _ => 0))), (am 33, .inl (dA 0, 3, .inl (fun _ => 0))), (am 26, .inl (dA 0, 1200, .inl (fun _ => 0))), (o, .inl (dA 1, 1, .inr (.inl g0)))]) (hS : va_S A s.heap H locs) (hl : lv_has ls 7 [(4, .int 0), (3, .ref o), (2, .ref h1), (1, .ref h0), (0, .ref b)]) : W p l e room_1 s m #[Value.ref b] below meth c H locs 133 41139 (lw_Z below #[Value.ref b] s) (F0 m 204 ls []) := by
  refine lv_aload_n hx hb dL_law_204 rfl (lv_at hl 3 rfl) ?_
  refine lv_aload_n hx hb dL_law_205 rfl (lv_at hl 4 rfl) ?_
  refine lv_iload hx hb dL_law_206 (lv_at hl 0 rfl) ?_
  refine lv_iconst (v := 1) hx hb dL_law_208 (by decide) ?_
  refine lv_iadd hx hb dL_law_209 ?_
  refine g_nrm (y := 1) (by decide) ?_
  refine va_sld hx hb hX hbl hbA hS (by unfold vp_in; decide) dL_law_210 ?_
  refine lv_aload_n hx hb dL_law_211 rfl (lv_at hl 1 rfl) ?_
  refine g_SW (n := 3) (hh := [(0, 9, 12, 13), (0, 9, 15, 21), (0, 9, 18, 23), (0, 9, 21, 15), (0, 9, 24, 25)]) (As := [.ref h0, .int (xs (1 : Int32).toNatClampNeg), .ref o]) (rest := []) (wr := [(h1, .inr (11, [.int 0, .ref (am 0), .int 0, .int (-1), .int (-1), .int 0, .int 0, .int 0, .long 0, .int 0, .int 0, .ref (am 1), .ref (am 2), .ref (am 3), .ref (am 4), .ref (am 5), .ref (am 6), .int 0, .int 0, .ref (am 7), .ref (am 8), .ref (am 9), .ref (am 10), .int 0, .ref (am 11), .ref (am 12), .ref (am 13), .ref (am 14), .ref (am 15), .ref (am 16), .ref (am 17), .int 0, .int 0, .int 0, .int 0, .ref (am 18), .ref (am 19), .int 0, .int 0, .int 0, .int 0, .int 0, .int 0, .ref (am 20), .ref (am 21), .ref (am 22), .ref (am 23), .ref (am 24), .ref (am 25), .ref (am 26), .ref (am 27), .ref (am 28), .ref (am 29), .ref (am 30), .ref (am 31), .ref (am 32), .ref (am 33), .ref (am 34), .ref (am 35), .ref (am 36), .int 0, .ref (am 37), .int 0, .ref (am 38), .int 0, .int 0, .int 0, .ref (am 39), .ref (am 40), .ref (am 41), .ref (am 42), .ref (am 43), .ref (am 44), .int 0, .ref (am 45), .ref (am 46), .int 1, .int 0, .int 0, .ref (am 47), .int 0, .int 0, .int 0, .int 0, .int 0])), (am 20, .inl (dA 3, 3, .inl (fun _ => 0))), (am 21, .inl (dA 0, 3, .inl (fun _ => 0))), (am 27, .inl (dA 0, 3, .inl (fun _ => 0))), (am 33, .inl (dA 0, 3, .inl (fun _ => 0))), (am 26, .inl (dA 0, 1200, .inl (fun _ => 0)))]) hx hb hml hg hown hZ hN hK hP hD hS hA (w_assemble l htr D dA h0 ad o g0 (xs (1 : Int32).toNatClampNeg) _) [0, 1, 2, 3, 4, 5, 6, 7, 8, 9, 10, 11, 12, 13, 14, 15, 16, 23] [17, 18, 19, 20, 21, 22] rfl (by decide) rfl (by decide) (by decide) q766 q148 q764 q765 (by decide +kernel) ⟨(Nat.le_of_ble_eq_true rfl), (Nat.le_of_ble_eq_true rfl)⟩ rfl hl.1 rfl (Nat.le_of_ble_eq_true rfl) dL_law_212 ⟨(Nat.le_of_ble_eq_true rfl), (Nat.le_of_ble_eq_true rfl)⟩ (fun k g H locs hw hP hD hS => ?_)
  refine W.widen (k := 134) (n := 41145) (Nat.le_of_ble_eq_true rfl) (Nat.le_of_ble_eq_true rfl) ?_
  have hP : va_P D vwC [(h1, .inr (11, [.int 0, .ref (am 0), .int 0, .int (-1), .int (-1), .int 0, .int 0, .int 0, .long 0, .int 0, .int 0, .ref (am 1), .ref (am 2), .ref (am 3), .ref (am 4), .ref (am 5), .ref (am 6), .int 0, .int 0, .ref (am 7), .ref (am 8), .ref (am 9), .ref (am 10), .int 0, .ref (am 11), .ref (am 12), .ref (am 13), .ref (am 14), .ref (am 15), .ref (am 16), .ref (am 17), .int 0, .int 0, .int 0, .int 0, .ref (am 18), .ref (am 19), .int 0, .int 0, .int 0, .int 0, .int 0, .int 0, .ref (am 20), .ref (am 21), .ref (am 22), .ref (am 23), .ref (am 24), .ref (am 25), .ref (am 26), .ref (am 27), .ref (am 28), .ref (am 29), .ref (am 30), .ref (am 31), .ref (am 32), .ref (am 33), .ref (am 34), .ref (am 35), .ref (am 36), .int 0, .ref (am 37), .int 0, .ref (am 38), .int 0, .int 0, .int 0, .ref (am 39), .ref (am 40), .ref (am 41), .ref (am 42), .ref (am 43), .ref (am 44), .int 0, .ref (am 45), .ref (am 46), .int 1, .int 0, .int 0, .ref (am 47), .int 0, .int 0, .int 0, .int 0, .int 0])), (am 20, .inl (dA 3, 3, .inl (fun _ => 0))), (am 21, .inl (dA 0, 3, .inl (fun _ => 0))), (am 27, .inl (dA 0, 3, .inl (fun _ => 0))), (am 33, .inl (dA 0, 3, .inl (fun _ => 0))), (am 26, .inl (dA 0, 1200, .inl (fun _ => 0))), (o, .inl (dA 1, 1, .inr (.inl g)))] H := hP
  have hD : va_D A [(h1, .inr (11, [.int 0, .ref (am 0), .int 0, .int (-1), .int (-1), .int 0, .int 0, .int 0, .long 0, .int 0, .int 0, .ref (am 1), .ref (am 2), .ref (am 3), .ref (am 4), .ref (am 5), .ref (am 6), .int 0, .int 0, .ref (am 7), .ref (am 8), .ref (am 9), .ref (am 10), .int 0, .ref (am 11), .ref (am 12), .ref (am 13), .ref (am 14), .ref (am 15), .ref (am 16), .ref (am 17), .int 0, .int 0, .int 0, .int 0, .ref (am 18), .ref (am 19), .int 0, .int 0, .int 0, .int 0, .int 0, .int 0, .ref (am 20), .ref (am 21), .ref (am 22), .ref (am 23), .ref (am 24), .ref (am 25), .ref (am 26), .ref (am 27), .ref (am 28), .ref (am 29), .ref (am 30), .ref (am 31), .ref (am 32), .ref (am 33), .ref (am 34), .ref (am 35), .ref (am 36), .int 0, .ref (am 37), .int 0, .ref (am 38), .int 0, .int 0, .int 0, .ref (am 39), .ref (am 40), .ref (am 41), .ref (am 42), .ref (am 43), .ref (am 44), .int 0, .ref (am 45), .ref (am 46), .int 1, .int 0, .int 0, .ref (am 47), .int 0, .int 0, .int 0, .int 0, .int 0])), (am 20, .inl (dA 3, 3, .inl (fun _ => 0))), (am 21, .inl (dA 0, 3, .inl (fun _ => 0))), (am 27, .inl (dA 0, 3, .inl (fun _ => 0))), (am 33, .inl (dA 0, 3, .inl (fun _ => 0))), (am 26, .inl (dA 0, 1200, .inl (fun _ => 0))), (o, .inl (dA 1, 1, .inr (.inl g)))] := hD
  rcases hw with ⟨rfl, r1, hg0, hpo⟩ | ⟨rfl, hq⟩
  · refine lv_istore (lv' := [(5, .int 0), (4, .int 0), (3, .ref o), (2, .ref h1), (1, .ref h0), (0, .ref b)]) hx hb dL_law_215 hl (by decide) rfl (fun ls hl => ?_)
    refine lv_aload_n hx hb dL_law_217 rfl (lv_at hl 3 rfl) ?_
    refine lv_aload_n hx hb dL_law_218 rfl (lv_at hl 5 rfl) ?_
    refine lv_iload hx hb dL_law_219 (lv_at hl 1 rfl) ?_
    refine lv_iconst (v := 1) hx hb dL_law_221 (by decide) ?_
    refine lv_iadd hx hb dL_law_222 ?_
    refine g_nrm (y := 1) (by decide) ?_
    refine va_sld hx hb hX hbl hbA hS (by unfold vp_in; decide) dL_law_223 ?_
    refine g_Vi (n := 1) (As := [.int (xs (1 : Int32).toNatClampNeg)]) (rest := []) (wr := [(o, .inl (dA 1, 1, .inr (.inl g)))]) hx hb hml hg hown hK hP hD hS hA (c_X11_assemble l D dA h1 am (xs (1 : Int32).toNatClampNeg) _) [0, 1, 2, 3, 4, 5] [6] rfl (by decide) rfl (by decide) (by decide) 0 rfl rfl q1887 q160 q1884 q1885 q1886 (by decide +kernel) ⟨(Nat.le_of_ble_eq_true rfl), (Nat.le_of_ble_eq_true rfl)⟩ rfl hl.1 rfl (Nat.le_of_ble_eq_true rfl) dL_law_224 ⟨(Nat.le_of_ble_eq_true rfl), (Nat.le_of_ble_eq_true rfl)⟩ (fun r2 u H locs hw hP hD hS => ?_)
    refine W.widen (k := 134) (n := 41145) (Nat.le_of_ble_eq_true rfl) (Nat.le_of_ble_eq_true rfl) ?_
    have hP : va_P D vwC [(o, .inl (dA 1, 1, .inr (.inl g))), (h1, .inr (11, u))] H := hP
    have hD : va_D A [(o, .inl (dA 1, 1, .inr (.inl g))), (h1, .inr (11, u))] := hD
    obtain ⟨t, hf, hpm⟩ := hw
    rcases hpm with ⟨rfl, hr2, hp2⟩ | ⟨rfl, hp2⟩
    · refine lv_istore (lv' := [(6, .int r2), (5, .int 0), (4, .int 0), (3, .ref o), (2, .ref h1), (1, .ref h0), (0, .ref b)]) hx hb dL_law_227 hl (by decide) rfl (fun ls hl => ?_)
      refine lv_aload_n hx hb dL_law_229 rfl (lv_at hl 4 rfl) ?_
      refine g_Vi (n := 0) (As := []) (rest := []) (wr := [(o, .inl (dA 1, 1, .inr (.inl g)))]) hx hb hml hg hown hK hP hD hS hA (c_thrown l D dA h1 u 0 hf _) [1] [0] rfl (by decide) rfl (by decide) (by decide) 0 rfl rfl q1875 q160 q1872 q1873 q1874 (by decide +kernel) ⟨(Nat.le_of_ble_eq_true rfl), (Nat.le_of_ble_eq_true rfl)⟩ rfl hl.1 rfl (Nat.le_of_ble_eq_true rfl) dL_law_230 ⟨(Nat.le_of_ble_eq_true rfl), (Nat.le_of_ble_eq_true rfl)⟩ (fun r3 u2 H locs hw hP hD hS => ?_)
      refine W.widen (k := 134) (n := 41145) (Nat.le_of_ble_eq_true rfl) (Nat.le_of_ble_eq_true rfl) ?_
      have hP : va_P D vwC [(o, .inl (dA 1, 1, .inr (.inl g))), (h1, .inr (11, u))] H := hP
      have hD : va_D A [(o, .inl (dA 1, 1, .inr (.inl g))), (h1, .inr (11, u))] := hD
      obtain rfl : r3 = 0 := hw
      refine lv_iload hx hb dL_law_233 (lv_at hl 1 rfl) ?_
      refine lv_icmp_eq (tgt := 240) hx hb dL_law_235 (by decide) (fun _ => ?_) (fun h => absurd (by decide) h)
      refine lv_iload hx hb dL_law_240 (lv_at hl 1 rfl) ?_
      refine lv_if_ne (tgt := 257) hx hb dL_law_242 (by decide) (fun h => absurd (by decide) h) (fun _ => ?_)
      refine lv_aload_n hx hb dL_law_245 rfl (lv_at hl 3 rfl) ?_
      refine lv_iconst (v := 0) hx hb dL_law_246 (by decide) ?_
      refine va_lald hx hb hK hP 0 1 rfl rfl (by unfold vp_in; decide) dL_law_247 ?_
      refine lv_iload hx hb dL_law_248 (lv_at hl 0 rfl) ?_
      refine lv_i2l (v := r2.toInt64) hx hb dL_law_250 rfl ?_
      refine W.lcmp hx hb dL_law_251 ?_
      refine g_nrm (y := 0) (g_cmp0 (by rw [g_z0, hg0, hpo.1, hr2])) ?_
      refine lv_if_eq (tgt := 257) hx hb dL_law_252 (by decide) (fun _ => ?_) (fun h => absurd (by decide) h)
      refine lv_goto (tgt := 919) hx hb dL_law_257 (by decide) ?_
      refine lv_iinc (v := 4) (lv' := [(4, .int 4), (6, .int r2), (5, .int 0), (3, .ref o), (2, .ref h1), (1, .ref h0), (0, .ref b)]) hx hb dL_law_919 hl (k := 2) rfl (by decide) (by decide) rfl (fun ls hl => ?_)
      refine lv_goto (tgt := 23) hx hb dL_law_922 (by decide) ?_
      refine lv_iload hx hb dL_law_23 (lv_at hl 0 rfl) ?_
      refine lv_aload_n hx hb dL_law_25 rfl (lv_at hl 6 rfl) ?_
      refine va_slen hx hb hX hbl hbA hS dL_law_26 ?_
      refine g_nrm (y := 4) (by decide) ?_
      refine lv_iconst (v := 4) hx hb dL_law_27 (by decide) ?_
      refine lv_isub hx hb dL_law_28 ?_
      refine g_nrm (y := 0) (by decide) ?_
      refine lv_icmp_gt (tgt := 925) hx hb dL_law_29 (by decide) (fun _ => ?_) (fun h => absurd (by decide) h)
      refine lv_iconst (v := 1) hx hb dL_law_925 (by decide) ?_
      refine va_forget (fun q hq => hAf _ (hS.2.2 q hq)) ?_
      refine W.widen (k := 600006) (n := 7302024) (Nat.le_of_ble_eq_true rfl) (Nat.le_of_ble_eq_true rfl) ?_
      exact lw_ret hx hb hr hlocks dL_law_926
    · exact absurd hpo.2 hp2
  · refine lv_istore (lv' := [(5, .int 1), (4, .int 0), (3, .ref o), (2, .ref h1), (1, .ref h0), (0, .ref b)]) hx hb dL_law_215 hl (by decide) rfl (fun ls hl => ?_)
    refine lv_aload_n hx hb dL_law_217 rfl (lv_at hl 3 rfl) ?_
    refine lv_aload_n hx hb dL_law_218 rfl (lv_at hl 5 rfl) ?_
    refine lv_iload hx hb dL_law_219 (lv_at hl 1 rfl) ?_
    refine lv_iconst (v := 1) hx hb dL_law_221 (by decide) ?_
    refine lv_iadd hx hb dL_law_222 ?_
    refine g_nrm (y := 1) (by decide) ?_
    refine va_sld hx hb hX hbl hbA hS (by unfold vp_in; decide) dL_law_223 ?_
    refine g_Vi (n := 1) (As := [.int (xs (1 : Int32).toNatClampNeg)]) (rest := []) (wr := [(o, .inl (dA 1, 1, .inr (.inl g)))]) hx hb hml hg hown hK hP hD hS hA (c_X11_assemble l D dA h1 am (xs (1 : Int32).toNatClampNeg) _) [0, 1, 2, 3, 4, 5] [6] rfl (by decide) rfl (by decide) (by decide) 0 rfl rfl q1887 q160 q1884 q1885 q1886 (by decide +kernel) ⟨(Nat.le_of_ble_eq_true rfl), (Nat.le_of_ble_eq_true rfl)⟩ rfl hl.1 rfl (Nat.le_of_ble_eq_true rfl) dL_law_224 ⟨(Nat.le_of_ble_eq_true rfl), (Nat.le_of_ble_eq_true rfl)⟩ (fun r2 u H locs hw hP hD hS => ?_)
    refine W.widen (k := 134) (n := 41145) (Nat.le_of_ble_eq_true rfl) (Nat.le_of_ble_eq_true rfl) ?_
    have hP : va_P D vwC [(o, .inl (dA 1, 1, .inr (.inl g))), (h1, .inr (11, u))] H := hP
    have hD : va_D A [(o, .inl (dA 1, 1, .inr (.inl g))), (h1, .inr (11, u))] := hD
    obtain ⟨t, hf, hpm⟩ := hw
    rcases hpm with ⟨rfl, hr2, hp2⟩ | ⟨rfl, hp2⟩
    · exact absurd hp2 hq
    · refine lv_istore (lv' := [(6, .int r2), (5, .int 1), (4, .int 0), (3, .ref o), (2, .ref h1), (1, .ref h0), (0, .ref b)]) hx hb dL_law_227 hl (by decide) rfl (fun ls hl => ?_)
      refine lv_aload_n hx hb dL_law_229 rfl (lv_at hl 4 rfl) ?_
      refine g_Vi (n := 0) (As := []) (rest := []) (wr := [(o, .inl (dA 1, 1, .inr (.inl g)))]) hx hb hml hg hown hK hP hD hS hA (c_thrown l D dA h1 u 1 hf _) [1] [0] rfl (by decide) rfl (by decide) (by decide) 0 rfl rfl q1875 q160 q1872 q1873 q1874 (by decide +kernel) ⟨(Nat.le_of_ble_eq_true rfl), (Nat.le_of_ble_eq_true rfl)⟩ rfl hl.1 rfl (Nat.le_of_ble_eq_true rfl) dL_law_230 ⟨(Nat.le_of_ble_eq_true rfl), (Nat.le_of_ble_eq_true rfl)⟩ (fun r3 u2 H locs hw hP hD hS => ?_)
      refine W.widen (k := 134) (n := 41145) (Nat.le_of_ble_eq_true rfl) (Nat.le_of_ble_eq_true rfl) ?_
      have hP : va_P D vwC [(o, .inl (dA 1, 1, .inr (.inl g))), (h1, .inr (11, u))] H := hP
      have hD : va_D A [(o, .inl (dA 1, 1, .inr (.inl g))), (h1, .inr (11, u))] := hD
      obtain rfl : r3 = 1 := hw
      refine lv_iload hx hb dL_law_233 (lv_at hl 1 rfl) ?_
      refine lv_icmp_eq (tgt := 240) hx hb dL_law_235 (by decide) (fun _ => ?_) (fun h => absurd (by decide) h)
      refine lv_iload hx hb dL_law_240 (lv_at hl 1 rfl) ?_
      refine lv_if_ne (tgt := 257) hx hb dL_law_242 (by decide) (fun _ => ?_) (fun h => absurd h (by decide))
      refine lv_goto (tgt := 919) hx hb dL_law_257 (by decide) ?_
      refine lv_iinc (v := 4) (lv' := [(4, .int 4), (6, .int r2), (5, .int 1), (3, .ref o), (2, .ref h1), (1, .ref h0), (0, .ref b)]) hx hb dL_law_919 hl (k := 2) rfl (by decide) (by decide) rfl (fun ls hl => ?_)
      refine lv_goto (tgt := 23) hx hb dL_law_922 (by decide) ?_
      refine lv_iload hx hb dL_law_23 (lv_at hl 0 rfl) ?_
      refine lv_aload_n hx hb dL_law_25 rfl (lv_at hl 6 rfl) ?_
      refine va_slen hx hb hX hbl hbA hS dL_law_26 ?_
      refine g_nrm (y := 4) (by decide) ?_
      refine lv_iconst (v := 4) hx hb dL_law_27 (by decide) ?_
      refine lv_isub hx hb dL_law_28 ?_
      refine g_nrm (y := 0) (by decide) ?_
      refine lv_icmp_gt (tgt := 925) hx hb dL_law_29 (by decide) (fun _ => ?_) (fun h => absurd (by decide) h)
      refine lv_iconst (v := 1) hx hb dL_law_925 (by decide) ?_
      refine va_forget (fun q hq => hAf _ (hS.2.2 q hq)) ?_
      refine W.widen (k := 600006) (n := 7302024) (Nat.le_of_ble_eq_true rfl) (Nat.le_of_ble_eq_true rfl) ?_
      exact lw_ret hx hb hr hlocks dL_law_926
set_option maxHeartbeats 4000000 in
set_option maxRecDepth 100000 in
theorem law_drop {p : Program} {e : Env} {s : State} {m : MethodId} {below : List Frame} {meth : Method} {c : Code} {l : Launch} (htr : l.stackTraces = false) {b : Nat} {xs : Nat → Int32} (hx : p.tables.exec = Jvm.exec) (hb : c.code = code) (hr : meth.sig.returnType = ret) (hml : c.maxLocals = 7) (hown : s.vm.findClass RL = some m.cls) (hg : ∀ w ∈ gw, w.before #[Value.ref b] s = true) (hX : va_X b 4 xs s s.heap) (hbl : b < s.heap.size) (hlocks : meth.locks = false) {D : va_G} {dA : Nat → ClassId} {A : Nat → Prop} (hA : ∀ q : Nat, s.heap.size ≤ q → A q) (hAf : ∀ q : Nat, A q → s.heap.size ≤ q) (hbA : ¬ A b) (hZ : gZ A s) (hN : gNc s) (hK : gK D dA s) {h0 : Nat} {ad : Nat → Nat} {h1 : Nat} {am : Nat → Nat} {o : Nat} {g0 : Nat → Int64} {H : Heap} {locs : List Loc} {ls : Array Slot} (hP : va_P D vwC [(h0, .inr (10, [.ref (ad 0), .int 0, .int (-1), .int (-1), .ref (ad 1), .ref (ad 2), .ref (ad 3), .ref (ad 4), .ref (ad 5), .ref (ad 6), .ref (ad 7), .ref (ad 8)])), (ad 5, .inl (dA 4, 3, .inr (.inr (.inr (.inr (gM (ad 29) (ad 30) (ad 31))))))), (ad 29, .inr (6, [.int 0, .int 0, .ref (ad 32), .ref (ad 33), .ref (ad 34), .ref (ad 35), .ref (ad 36), .int 0, .ref (ad 37), .ref (ad 38), .ref (ad 39), .ref (ad 40), .ref (ad 41), .int 0, .ref (ad 42), .ref (ad 43), .ref (ad 44)])), (ad 30, .inr (6, [.int 0, .int 0, .ref (ad 45), .ref (ad 46), .ref (ad 47), .ref (ad 48), .ref (ad 49), .int 0, .ref (ad 50), .ref (ad 51), .ref (ad 52), .ref (ad 53), .ref (ad 54), .int 0, .ref (ad 55), .ref (ad 56), .ref (ad 57)])), (ad 31, .inr (6, [.int 0, .int 0, .ref (ad 58), .ref (ad 59), .ref (ad 60), .ref (ad 61), .ref (ad 62), .int 0, .ref (ad 63), .ref (ad 64), .ref (ad 65), .ref (ad 66), .ref (ad 67), .int 0, .ref (ad 68), .ref (ad 69), .ref (ad 70)])), (ad 36, .inl (dA 0, 400, .inl (fun _ => 0))), (ad 49, .inl (dA 0, 400, .inl (fun _ => 0))), (ad 62, .inl (dA 0, 400, .inl (fun _ => 0))), (h1, .inr (11, [.int 0, .ref (am 0), .int 0, .int (-1), .int (-1), .int 0, .int 0, .int 0, .long 0, .int 0, .int 0, .ref (am 1), .ref (am 2), .ref (am 3), .ref (am 4), .ref (am 5), .ref (am 6), .int 0, .int 0, .ref (am 7), .ref (am 8), .ref (am 9), .ref (am 10), .int 0, .ref (am 11), .ref (am 12), .ref (am 13), .ref (am 14), .ref (am 15), .ref (am 16), .ref (am 17), .int 0, .int 0, .int 0, .int 0, .ref (am 18), .ref (am 19), .int 0, .int 0, .int 0, .int 0, .int 0, .int 0, .ref (am 20), .ref (am 21), .ref (am 22), .ref (am 23), .ref (am 24), .ref (am 25), .ref (am 26), .ref (am 27), .ref (am 28), .ref (am 29), .ref (am 30), .ref (am 31), .ref (am 32), .ref (am 33), .ref (am 34), .ref (am 35), .ref (am 36), .int 0, .ref (am 37), .int 0, .ref (am 38), .int 0, .int 0, .int 0, .ref (am 39), .ref (am 40), .ref (am 41), .ref (am 42), .ref (am 43), .ref (am 44), .int 0, .ref (am 45), .ref (am 46), .int 1, .int 0, .int 0, .ref (am 47), .int 0, .int 0, .int 0, .int 0, .int 0])), (am 20, .inl (dA 3, 3, .inl (fun _ => 0))), (o, .inl (dA 1, 1, .inr (.inl g0)))] H) (hD : va_D A [(h0, .inr (10, [.ref (ad 0), .int 0, .int (-1), .int (-1), .ref (ad 1), .ref (ad 2), .ref (ad 3), .ref (ad 4), .ref (ad 5), .ref (ad 6), .ref (ad 7), .ref (ad 8)])), (ad 5, .inl (dA 4, 3, .inr (.inr (.inr (.inr (gM (ad 29) (ad 30) (ad 31))))))), (ad 29, .inr (6, [.int 0, .int 0, .ref (ad 32), .ref (ad 33), .ref (ad 34), .ref (ad 35), .ref (ad 36), .int 0, .ref (ad 37), .ref (ad 38), .ref (ad 39), .ref (ad 40), .ref (ad 41), .int 0, .ref (ad 42), .ref (ad 43), .ref (ad 44)])), (ad 30, .inr (6, [.int 0, .int 0, .ref (ad 45), .ref (ad 46), .ref (ad 47), .ref (ad 48), .ref (ad 49), .int 0, .ref (ad 50), .ref (ad 51), .ref (ad 52), .ref (ad 53), .ref (ad 54), .int 0, .ref (ad 55), .ref (ad 56), .ref (ad 57)])), (ad 31, .inr (6, [.int 0, .int 0, .ref (ad 58), .ref (ad 59), .ref (ad 60), .ref (ad 61), .ref (ad 62), .int 0, .ref (ad 63), .ref (ad 64), .ref (ad 65), .ref (ad 66), .ref (ad 67), .int 0, .ref (ad 68), .ref (ad 69), .ref (ad 70)])), (ad 36, .inl (dA 0, 400, .inl (fun _ => 0))), (ad 49, .inl (dA 0, 400, .inl (fun _ => 0))), (ad 62, .inl (dA 0, 400, .inl (fun _ => 0))), (h1, .inr (11, [.int 0, .ref (am 0), .int 0, .int (-1), .int (-1), .int 0, .int 0, .int 0, .long 0, .int 0, .int 0, .ref (am 1), .ref (am 2), .ref (am 3), .ref (am 4), .ref (am 5), .ref (am 6), .int 0, .int 0, .ref (am 7), .ref (am 8), .ref (am 9), .ref (am 10), .int 0, .ref (am 11), .ref (am 12), .ref (am 13), .ref (am 14), .ref (am 15), .ref (am 16), .ref (am 17), .int 0, .int 0, .int 0, .int 0, .ref (am 18), .ref (am 19), .int 0, .int 0, .int 0, .int 0, .int 0, .int 0, .ref (am 20), .ref (am 21), .ref (am 22), .ref (am 23), .ref (am 24), .ref (am 25), .ref (am 26), .ref (am 27), .ref (am 28), .ref (am 29), .ref (am 30), .ref (am 31), .ref (am 32), .ref (am 33), .ref (am 34), .ref (am 35), .ref (am 36), .int 0, .ref (am 37), .int 0, .ref (am 38), .int 0, .int 0, .int 0, .ref (am 39), .ref (am 40), .ref (am 41), .ref (am 42), .ref (am 43), .ref (am 44), .int 0, .ref (am 45), .ref (am 46), .int 1, .int 0, .int 0, .ref (am 47), .int 0, .int 0, .int 0, .int 0, .int 0])), (am 20, .inl (dA 3, 3, .inl (fun _ => 0))), (o, .inl (dA 1, 1, .inr (.inl g0)))]) (hS : va_S A s.heap H locs) (hl : lv_has ls 7 [(4, .int 0), (3, .ref o), (2, .ref h1), (1, .ref h0), (0, .ref b)]) : W p l e room_1 s m #[Value.ref b] below meth c H locs 133 41139 (lw_Z below #[Value.ref b] s) (F0 m 260 ls []) := by
  refine lv_aload_n hx hb dL_law_260 rfl (lv_at hl 3 rfl) ?_
  refine lv_aload_n hx hb dL_law_261 rfl (lv_at hl 4 rfl) ?_
  refine lv_iload hx hb dL_law_262 (lv_at hl 0 rfl) ?_
  refine lv_iconst (v := 1) hx hb dL_law_264 (by decide) ?_
  refine lv_iadd hx hb dL_law_265 ?_
  refine g_nrm (y := 1) (by decide) ?_
  refine va_sld hx hb hX hbl hbA hS (by unfold vp_in; decide) dL_law_266 ?_
  refine lv_aload_n hx hb dL_law_267 rfl (lv_at hl 1 rfl) ?_
  refine g_SW (n := 3) (hh := [(0, 16, 19, 13)]) (As := [.ref h0, .int (xs (1 : Int32).toNatClampNeg), .ref o]) (rest := []) (wr := [(h1, .inr (11, [.int 0, .ref (am 0), .int 0, .int (-1), .int (-1), .int 0, .int 0, .int 0, .long 0, .int 0, .int 0, .ref (am 1), .ref (am 2), .ref (am 3), .ref (am 4), .ref (am 5), .ref (am 6), .int 0, .int 0, .ref (am 7), .ref (am 8), .ref (am 9), .ref (am 10), .int 0, .ref (am 11), .ref (am 12), .ref (am 13), .ref (am 14), .ref (am 15), .ref (am 16), .ref (am 17), .int 0, .int 0, .int 0, .int 0, .ref (am 18), .ref (am 19), .int 0, .int 0, .int 0, .int 0, .int 0, .int 0, .ref (am 20), .ref (am 21), .ref (am 22), .ref (am 23), .ref (am 24), .ref (am 25), .ref (am 26), .ref (am 27), .ref (am 28), .ref (am 29), .ref (am 30), .ref (am 31), .ref (am 32), .ref (am 33), .ref (am 34), .ref (am 35), .ref (am 36), .int 0, .ref (am 37), .int 0, .ref (am 38), .int 0, .int 0, .int 0, .ref (am 39), .ref (am 40), .ref (am 41), .ref (am 42), .ref (am 43), .ref (am 44), .int 0, .ref (am 45), .ref (am 46), .int 1, .int 0, .int 0, .ref (am 47), .int 0, .int 0, .int 0, .int 0, .int 0])), (am 20, .inl (dA 3, 3, .inl (fun _ => 0)))]) hx hb hml hg hown hZ hN hK hP hD hS hA (w_drop l htr D dA h0 ad o g0 (xs (1 : Int32).toNatClampNeg) _) [0, 1, 2, 3, 4, 5, 6, 7, 10] [8, 9] rfl (by decide) rfl (by decide) (by decide) q1246 q148 q1244 q1245 (by decide +kernel) ⟨(Nat.le_of_ble_eq_true rfl), (Nat.le_of_ble_eq_true rfl)⟩ rfl hl.1 rfl (Nat.le_of_ble_eq_true rfl) dL_law_268 ⟨(Nat.le_of_ble_eq_true rfl), (Nat.le_of_ble_eq_true rfl)⟩ (fun k g H locs hw hP hD hS => ?_)
  refine W.widen (k := 134) (n := 41145) (Nat.le_of_ble_eq_true rfl) (Nat.le_of_ble_eq_true rfl) ?_
  have hP : va_P D vwC [(h1, .inr (11, [.int 0, .ref (am 0), .int 0, .int (-1), .int (-1), .int 0, .int 0, .int 0, .long 0, .int 0, .int 0, .ref (am 1), .ref (am 2), .ref (am 3), .ref (am 4), .ref (am 5), .ref (am 6), .int 0, .int 0, .ref (am 7), .ref (am 8), .ref (am 9), .ref (am 10), .int 0, .ref (am 11), .ref (am 12), .ref (am 13), .ref (am 14), .ref (am 15), .ref (am 16), .ref (am 17), .int 0, .int 0, .int 0, .int 0, .ref (am 18), .ref (am 19), .int 0, .int 0, .int 0, .int 0, .int 0, .int 0, .ref (am 20), .ref (am 21), .ref (am 22), .ref (am 23), .ref (am 24), .ref (am 25), .ref (am 26), .ref (am 27), .ref (am 28), .ref (am 29), .ref (am 30), .ref (am 31), .ref (am 32), .ref (am 33), .ref (am 34), .ref (am 35), .ref (am 36), .int 0, .ref (am 37), .int 0, .ref (am 38), .int 0, .int 0, .int 0, .ref (am 39), .ref (am 40), .ref (am 41), .ref (am 42), .ref (am 43), .ref (am 44), .int 0, .ref (am 45), .ref (am 46), .int 1, .int 0, .int 0, .ref (am 47), .int 0, .int 0, .int 0, .int 0, .int 0])), (am 20, .inl (dA 3, 3, .inl (fun _ => 0))), (o, .inl (dA 1, 1, .inr (.inl g)))] H := hP
  have hD : va_D A [(h1, .inr (11, [.int 0, .ref (am 0), .int 0, .int (-1), .int (-1), .int 0, .int 0, .int 0, .long 0, .int 0, .int 0, .ref (am 1), .ref (am 2), .ref (am 3), .ref (am 4), .ref (am 5), .ref (am 6), .int 0, .int 0, .ref (am 7), .ref (am 8), .ref (am 9), .ref (am 10), .int 0, .ref (am 11), .ref (am 12), .ref (am 13), .ref (am 14), .ref (am 15), .ref (am 16), .ref (am 17), .int 0, .int 0, .int 0, .int 0, .ref (am 18), .ref (am 19), .int 0, .int 0, .int 0, .int 0, .int 0, .int 0, .ref (am 20), .ref (am 21), .ref (am 22), .ref (am 23), .ref (am 24), .ref (am 25), .ref (am 26), .ref (am 27), .ref (am 28), .ref (am 29), .ref (am 30), .ref (am 31), .ref (am 32), .ref (am 33), .ref (am 34), .ref (am 35), .ref (am 36), .int 0, .ref (am 37), .int 0, .ref (am 38), .int 0, .int 0, .int 0, .ref (am 39), .ref (am 40), .ref (am 41), .ref (am 42), .ref (am 43), .ref (am 44), .int 0, .ref (am 45), .ref (am 46), .int 1, .int 0, .int 0, .ref (am 47), .int 0, .int 0, .int 0, .int 0, .int 0])), (am 20, .inl (dA 3, 3, .inl (fun _ => 0))), (o, .inl (dA 1, 1, .inr (.inl g)))] := hD
  rcases hw with ⟨rfl, r1, hg0, hpo⟩ | ⟨rfl, hq⟩
  · refine lv_istore (lv' := [(5, .int 0), (4, .int 0), (3, .ref o), (2, .ref h1), (1, .ref h0), (0, .ref b)]) hx hb dL_law_271 hl (by decide) rfl (fun ls hl => ?_)
    refine lv_aload_n hx hb dL_law_273 rfl (lv_at hl 3 rfl) ?_
    refine lv_aload_n hx hb dL_law_274 rfl (lv_at hl 5 rfl) ?_
    refine lv_iload hx hb dL_law_275 (lv_at hl 1 rfl) ?_
    refine lv_iconst (v := 1) hx hb dL_law_277 (by decide) ?_
    refine lv_iadd hx hb dL_law_278 ?_
    refine g_nrm (y := 1) (by decide) ?_
    refine va_sld hx hb hX hbl hbA hS (by unfold vp_in; decide) dL_law_279 ?_
    refine g_Vi (n := 1) (As := [.int (xs (1 : Int32).toNatClampNeg)]) (rest := []) (wr := [(o, .inl (dA 1, 1, .inr (.inl g)))]) hx hb hml hg hown hK hP hD hS hA (c_X11_drop l D dA h1 am (xs (1 : Int32).toNatClampNeg) _) [0, 1] [2] rfl (by decide) rfl (by decide) (by decide) 0 rfl rfl q2069 q160 q2066 q2067 q2068 (by decide +kernel) ⟨(Nat.le_of_ble_eq_true rfl), (Nat.le_of_ble_eq_true rfl)⟩ rfl hl.1 rfl (Nat.le_of_ble_eq_true rfl) dL_law_280 ⟨(Nat.le_of_ble_eq_true rfl), (Nat.le_of_ble_eq_true rfl)⟩ (fun r2 u H locs hw hP hD hS => ?_)
    refine W.widen (k := 134) (n := 41145) (Nat.le_of_ble_eq_true rfl) (Nat.le_of_ble_eq_true rfl) ?_
    have hP : va_P D vwC [(o, .inl (dA 1, 1, .inr (.inl g))), (h1, .inr (11, u))] H := hP
    have hD : va_D A [(o, .inl (dA 1, 1, .inr (.inl g))), (h1, .inr (11, u))] := hD
    obtain ⟨t, hf, hpm⟩ := hw
    rcases hpm with ⟨rfl, rfl, hp2⟩ | ⟨rfl, hp2⟩
    · refine lv_istore (lv' := [(6, .int 0), (5, .int 0), (4, .int 0), (3, .ref o), (2, .ref h1), (1, .ref h0), (0, .ref b)]) hx hb dL_law_283 hl (by decide) rfl (fun ls hl => ?_)
      refine lv_aload_n hx hb dL_law_285 rfl (lv_at hl 4 rfl) ?_
      refine g_Vi (n := 0) (As := []) (rest := []) (wr := [(o, .inl (dA 1, 1, .inr (.inl g)))]) hx hb hml hg hown hK hP hD hS hA (c_thrown l D dA h1 u 0 hf _) [1] [0] rfl (by decide) rfl (by decide) (by decide) 0 rfl rfl q1875 q160 q1872 q1873 q1874 (by decide +kernel) ⟨(Nat.le_of_ble_eq_true rfl), (Nat.le_of_ble_eq_true rfl)⟩ rfl hl.1 rfl (Nat.le_of_ble_eq_true rfl) dL_law_286 ⟨(Nat.le_of_ble_eq_true rfl), (Nat.le_of_ble_eq_true rfl)⟩ (fun r3 u2 H locs hw hP hD hS => ?_)
      refine W.widen (k := 134) (n := 41145) (Nat.le_of_ble_eq_true rfl) (Nat.le_of_ble_eq_true rfl) ?_
      have hP : va_P D vwC [(o, .inl (dA 1, 1, .inr (.inl g))), (h1, .inr (11, u))] H := hP
      have hD : va_D A [(o, .inl (dA 1, 1, .inr (.inl g))), (h1, .inr (11, u))] := hD
      obtain rfl : r3 = 0 := hw
      refine lv_iload hx hb dL_law_289 (lv_at hl 1 rfl) ?_
      refine lv_icmp_eq (tgt := 296) hx hb dL_law_291 (by decide) (fun _ => ?_) (fun h => absurd (by decide) h)
      refine lv_iload hx hb dL_law_296 (lv_at hl 1 rfl) ?_
      refine lv_if_ne (tgt := 320) hx hb dL_law_298 (by decide) (fun h => absurd (by decide) h) (fun _ => ?_)
      refine lv_aload_n hx hb dL_law_301 rfl (lv_at hl 3 rfl) ?_
      refine lv_iconst (v := 0) hx hb dL_law_302 (by decide) ?_
      refine va_lald hx hb hK hP 0 1 rfl rfl (by unfold vp_in; decide) dL_law_303 ?_
      refine lv_iload hx hb dL_law_304 (lv_at hl 0 rfl) ?_
      refine lv_if_eq (tgt := 313) hx hb dL_law_306 (by decide) (fun _ => ?_) (fun h => absurd (by decide) h)
      refine lv_lconst (v := 0) hx hb dL_law_313 (by decide) ?_
      refine W.lcmp hx hb dL_law_314 ?_
      refine g_nrm (y := 0) (g_cmp0 (by rw [g_z0, hg0, hpo.1] <;> decide)) ?_
      refine lv_if_eq (tgt := 320) hx hb dL_law_315 (by decide) (fun _ => ?_) (fun h => absurd (by decide) h)
      refine lv_goto (tgt := 919) hx hb dL_law_320 (by decide) ?_
      refine lv_iinc (v := 4) (lv' := [(4, .int 4), (6, .int 0), (5, .int 0), (3, .ref o), (2, .ref h1), (1, .ref h0), (0, .ref b)]) hx hb dL_law_919 hl (k := 2) rfl (by decide) (by decide) rfl (fun ls hl => ?_)
      refine lv_goto (tgt := 23) hx hb dL_law_922 (by decide) ?_
      refine lv_iload hx hb dL_law_23 (lv_at hl 0 rfl) ?_
      refine lv_aload_n hx hb dL_law_25 rfl (lv_at hl 6 rfl) ?_
      refine va_slen hx hb hX hbl hbA hS dL_law_26 ?_
      refine g_nrm (y := 4) (by decide) ?_
      refine lv_iconst (v := 4) hx hb dL_law_27 (by decide) ?_
      refine lv_isub hx hb dL_law_28 ?_
      refine g_nrm (y := 0) (by decide) ?_
      refine lv_icmp_gt (tgt := 925) hx hb dL_law_29 (by decide) (fun _ => ?_) (fun h => absurd (by decide) h)
      refine lv_iconst (v := 1) hx hb dL_law_925 (by decide) ?_
      refine va_forget (fun q hq => hAf _ (hS.2.2 q hq)) ?_
      refine W.widen (k := 600006) (n := 7302024) (Nat.le_of_ble_eq_true rfl) (Nat.le_of_ble_eq_true rfl) ?_
      exact lw_ret hx hb hr hlocks dL_law_926
    · exact absurd hpo.2 hp2
  · refine lv_istore (lv' := [(5, .int 1), (4, .int 0), (3, .ref o), (2, .ref h1), (1, .ref h0), (0, .ref b)]) hx hb dL_law_271 hl (by decide) rfl (fun ls hl => ?_)
    refine lv_aload_n hx hb dL_law_273 rfl (lv_at hl 3 rfl) ?_
    refine lv_aload_n hx hb dL_law_274 rfl (lv_at hl 5 rfl) ?_
    refine lv_iload hx hb dL_law_275 (lv_at hl 1 rfl) ?_
    refine lv_iconst (v := 1) hx hb dL_law_277 (by decide) ?_
    refine lv_iadd hx hb dL_law_278 ?_
    refine g_nrm (y := 1) (by decide) ?_
    refine va_sld hx hb hX hbl hbA hS (by unfold vp_in; decide) dL_law_279 ?_
    refine g_Vi (n := 1) (As := [.int (xs (1 : Int32).toNatClampNeg)]) (rest := []) (wr := [(o, .inl (dA 1, 1, .inr (.inl g)))]) hx hb hml hg hown hK hP hD hS hA (c_X11_drop l D dA h1 am (xs (1 : Int32).toNatClampNeg) _) [0, 1] [2] rfl (by decide) rfl (by decide) (by decide) 0 rfl rfl q2069 q160 q2066 q2067 q2068 (by decide +kernel) ⟨(Nat.le_of_ble_eq_true rfl), (Nat.le_of_ble_eq_true rfl)⟩ rfl hl.1 rfl (Nat.le_of_ble_eq_true rfl) dL_law_280 ⟨(Nat.le_of_ble_eq_true rfl), (Nat.le_of_ble_eq_true rfl)⟩ (fun r2 u H locs hw hP hD hS => ?_)
    refine W.widen (k := 134) (n := 41145) (Nat.le_of_ble_eq_true rfl) (Nat.le_of_ble_eq_true rfl) ?_
    have hP : va_P D vwC [(o, .inl (dA 1, 1, .inr (.inl g))), (h1, .inr (11, u))] H := hP
    have hD : va_D A [(o, .inl (dA 1, 1, .inr (.inl g))), (h1, .inr (11, u))] := hD
    obtain ⟨t, hf, hpm⟩ := hw
    rcases hpm with ⟨rfl, rfl, hp2⟩ | ⟨rfl, hp2⟩
    · exact absurd hp2 hq
    · refine lv_istore (lv' := [(6, .int r2), (5, .int 1), (4, .int 0), (3, .ref o), (2, .ref h1), (1, .ref h0), (0, .ref b)]) hx hb dL_law_283 hl (by decide) rfl (fun ls hl => ?_)
      refine lv_aload_n hx hb dL_law_285 rfl (lv_at hl 4 rfl) ?_
      refine g_Vi (n := 0) (As := []) (rest := []) (wr := [(o, .inl (dA 1, 1, .inr (.inl g)))]) hx hb hml hg hown hK hP hD hS hA (c_thrown l D dA h1 u 1 hf _) [1] [0] rfl (by decide) rfl (by decide) (by decide) 0 rfl rfl q1875 q160 q1872 q1873 q1874 (by decide +kernel) ⟨(Nat.le_of_ble_eq_true rfl), (Nat.le_of_ble_eq_true rfl)⟩ rfl hl.1 rfl (Nat.le_of_ble_eq_true rfl) dL_law_286 ⟨(Nat.le_of_ble_eq_true rfl), (Nat.le_of_ble_eq_true rfl)⟩ (fun r3 u2 H locs hw hP hD hS => ?_)
      refine W.widen (k := 134) (n := 41145) (Nat.le_of_ble_eq_true rfl) (Nat.le_of_ble_eq_true rfl) ?_
      have hP : va_P D vwC [(o, .inl (dA 1, 1, .inr (.inl g))), (h1, .inr (11, u))] H := hP
      have hD : va_D A [(o, .inl (dA 1, 1, .inr (.inl g))), (h1, .inr (11, u))] := hD
      obtain rfl : r3 = 1 := hw
      refine lv_iload hx hb dL_law_289 (lv_at hl 1 rfl) ?_
      refine lv_icmp_eq (tgt := 296) hx hb dL_law_291 (by decide) (fun _ => ?_) (fun h => absurd (by decide) h)
      refine lv_iload hx hb dL_law_296 (lv_at hl 1 rfl) ?_
      refine lv_if_ne (tgt := 320) hx hb dL_law_298 (by decide) (fun _ => ?_) (fun h => absurd h (by decide))
      refine lv_goto (tgt := 919) hx hb dL_law_320 (by decide) ?_
      refine lv_iinc (v := 4) (lv' := [(4, .int 4), (6, .int r2), (5, .int 1), (3, .ref o), (2, .ref h1), (1, .ref h0), (0, .ref b)]) hx hb dL_law_919 hl (k := 2) rfl (by decide) (by decide) rfl (fun ls hl => ?_)
      refine lv_goto (tgt := 23) hx hb dL_law_922 (by decide) ?_
      refine lv_iload hx hb dL_law_23 (lv_at hl 0 rfl) ?_
      refine lv_aload_n hx hb dL_law_25 rfl (lv_at hl 6 rfl) ?_
      refine va_slen hx hb hX hbl hbA hS dL_law_26 ?_
      refine g_nrm (y := 4) (by decide) ?_
      refine lv_iconst (v := 4) hx hb dL_law_27 (by decide) ?_
      refine lv_isub hx hb dL_law_28 ?_
      refine g_nrm (y := 0) (by decide) ?_
      refine lv_icmp_gt (tgt := 925) hx hb dL_law_29 (by decide) (fun _ => ?_) (fun h => absurd (by decide) h)
      refine lv_iconst (v := 1) hx hb dL_law_925 (by decide) ?_
      refine va_forget (fun q hq => hAf _ (hS.2.2 q hq)) ?_
      refine W.widen (k := 600006) (n := 7302024) (Nat.le_of_ble_eq_true rfl) (Nat.le_of_ble_eq_true rfl) ?_
      exact lw_ret hx hb hr hlocks dL_law_926
set_option maxHeartbeats 4000000 in
set_option maxRecDepth 100000 in
theorem law_link {p : Program} {e : Env} {s : State} {m : MethodId} {below : List Frame} {meth : Method} {c : Code} {l : Launch} (htr : l.stackTraces = false) {b : Nat} {xs : Nat → Int32} (hx : p.tables.exec = Jvm.exec) (hb : c.code = code) (hr : meth.sig.returnType = ret) (hml : c.maxLocals = 7) (hown : s.vm.findClass RL = some m.cls) (hg : ∀ w ∈ gw, w.before #[Value.ref b] s = true) (hX : va_X b 4 xs s s.heap) (hbl : b < s.heap.size) (hlocks : meth.locks = false) {D : va_G} {dA : Nat → ClassId} {A : Nat → Prop} (hA : ∀ q : Nat, s.heap.size ≤ q → A q) (hAf : ∀ q : Nat, A q → s.heap.size ≤ q) (hbA : ¬ A b) (hZ : gZ A s) (hN : gNc s) (hK : gK D dA s) {h0 : Nat} {ad : Nat → Nat} {h1 : Nat} {am : Nat → Nat} {o : Nat} {g0 : Nat → Int64} {H : Heap} {locs : List Loc} {ls : Array Slot} (hP : va_P D vwC [(h0, .inr (10, [.ref (ad 0), .int 0, .int (-1), .int (-1), .ref (ad 1), .ref (ad 2), .ref (ad 3), .ref (ad 4), .ref (ad 5), .ref (ad 6), .ref (ad 7), .ref (ad 8)])), (ad 6, .inr (3, [.ref (ad 5), .ref (ad 71), .ref (ad 72), .ref (ad 73), .int 0, .ref (ad 74), .ref (ad 75)])), (ad 5, .inl (dA 4, 3, .inr (.inr (.inr (.inr (gM (ad 29) (ad 30) (ad 31))))))), (ad 29, .inr (6, [.int 0, .int 0, .ref (ad 32), .ref (ad 33), .ref (ad 34), .ref (ad 35), .ref (ad 36), .int 0, .ref (ad 37), .ref (ad 38), .ref (ad 39), .ref (ad 40), .ref (ad 41), .int 0, .ref (ad 42), .ref (ad 43), .ref (ad 44)])), (ad 30, .inr (6, [.int 0, .int 0, .ref (ad 45), .ref (ad 46), .ref (ad 47), .ref (ad 48), .ref (ad 49), .int 0, .ref (ad 50), .ref (ad 51), .ref (ad 52), .ref (ad 53), .ref (ad 54), .int 0, .ref (ad 55), .ref (ad 56), .ref (ad 57)])), (ad 31, .inr (6, [.int 0, .int 0, .ref (ad 58), .ref (ad 59), .ref (ad 60), .ref (ad 61), .ref (ad 62), .int 0, .ref (ad 63), .ref (ad 64), .ref (ad 65), .ref (ad 66), .ref (ad 67), .int 0, .ref (ad 68), .ref (ad 69), .ref (ad 70)])), (h1, .inr (11, [.int 0, .ref (am 0), .int 0, .int (-1), .int (-1), .int 0, .int 0, .int 0, .long 0, .int 0, .int 0, .ref (am 1), .ref (am 2), .ref (am 3), .ref (am 4), .ref (am 5), .ref (am 6), .int 0, .int 0, .ref (am 7), .ref (am 8), .ref (am 9), .ref (am 10), .int 0, .ref (am 11), .ref (am 12), .ref (am 13), .ref (am 14), .ref (am 15), .ref (am 16), .ref (am 17), .int 0, .int 0, .int 0, .int 0, .ref (am 18), .ref (am 19), .int 0, .int 0, .int 0, .int 0, .int 0, .int 0, .ref (am 20), .ref (am 21), .ref (am 22), .ref (am 23), .ref (am 24), .ref (am 25), .ref (am 26), .ref (am 27), .ref (am 28), .ref (am 29), .ref (am 30), .ref (am 31), .ref (am 32), .ref (am 33), .ref (am 34), .ref (am 35), .ref (am 36), .int 0, .ref (am 37), .int 0, .ref (am 38), .int 0, .int 0, .int 0, .ref (am 39), .ref (am 40), .ref (am 41), .ref (am 42), .ref (am 43), .ref (am 44), .int 0, .ref (am 45), .ref (am 46), .int 1, .int 0, .int 0, .ref (am 47), .int 0, .int 0, .int 0, .int 0, .int 0])), (am 20, .inl (dA 3, 3, .inl (fun _ => 0))), (o, .inl (dA 1, 1, .inr (.inl g0)))] H) (hD : va_D A [(h0, .inr (10, [.ref (ad 0), .int 0, .int (-1), .int (-1), .ref (ad 1), .ref (ad 2), .ref (ad 3), .ref (ad 4), .ref (ad 5), .ref (ad 6), .ref (ad 7), .ref (ad 8)])), (ad 6, .inr (3, [.ref (ad 5), .ref (ad 71), .ref (ad 72), .ref (ad 73), .int 0, .ref (ad 74), .ref (ad 75)])), (ad 5, .inl (dA 4, 3, .inr (.inr (.inr (.inr (gM (ad 29) (ad 30) (ad 31))))))), (ad 29, .inr (6, [.int 0, .int 0, .ref (ad 32), .ref (ad 33), .ref (ad 34), .ref (ad 35), .ref (ad 36), .int 0, .ref (ad 37), .ref (ad 38), .ref (ad 39), .ref (ad 40), .ref (ad 41), .int 0, .ref (ad 42), .ref (ad 43), .ref (ad 44)])), (ad 30, .inr (6, [.int 0, .int 0, .ref (ad 45), .ref (ad 46), .ref (ad 47), .ref (ad 48), .ref (ad 49), .int 0, .ref (ad 50), .ref (ad 51), .ref (ad 52), .ref (ad 53), .ref (ad 54), .int 0, .ref (ad 55), .ref (ad 56), .ref (ad 57)])), (ad 31, .inr (6, [.int 0, .int 0, .ref (ad 58), .ref (ad 59), .ref (ad 60), .ref (ad 61), .ref (ad 62), .int 0, .ref (ad 63), .ref (ad 64), .ref (ad 65), .ref (ad 66), .ref (ad 67), .int 0, .ref (ad 68), .ref (ad 69), .ref (ad 70)])), (h1, .inr (11, [.int 0, .ref (am 0), .int 0, .int (-1), .int (-1), .int 0, .int 0, .int 0, .long 0, .int 0, .int 0, .ref (am 1), .ref (am 2), .ref (am 3), .ref (am 4), .ref (am 5), .ref (am 6), .int 0, .int 0, .ref (am 7), .ref (am 8), .ref (am 9), .ref (am 10), .int 0, .ref (am 11), .ref (am 12), .ref (am 13), .ref (am 14), .ref (am 15), .ref (am 16), .ref (am 17), .int 0, .int 0, .int 0, .int 0, .ref (am 18), .ref (am 19), .int 0, .int 0, .int 0, .int 0, .int 0, .int 0, .ref (am 20), .ref (am 21), .ref (am 22), .ref (am 23), .ref (am 24), .ref (am 25), .ref (am 26), .ref (am 27), .ref (am 28), .ref (am 29), .ref (am 30), .ref (am 31), .ref (am 32), .ref (am 33), .ref (am 34), .ref (am 35), .ref (am 36), .int 0, .ref (am 37), .int 0, .ref (am 38), .int 0, .int 0, .int 0, .ref (am 39), .ref (am 40), .ref (am 41), .ref (am 42), .ref (am 43), .ref (am 44), .int 0, .ref (am 45), .ref (am 46), .int 1, .int 0, .int 0, .ref (am 47), .int 0, .int 0, .int 0, .int 0, .int 0])), (am 20, .inl (dA 3, 3, .inl (fun _ => 0))), (o, .inl (dA 1, 1, .inr (.inl g0)))]) (hS : va_S A s.heap H locs) (hl : lv_has ls 7 [(4, .int 0), (3, .ref o), (2, .ref h1), (1, .ref h0), (0, .ref b)]) : W p l e room_1 s m #[Value.ref b] below meth c H locs 133 41139 (lw_Z below #[Value.ref b] s) (F0 m 323 ls []) := by
  refine lv_aload_n hx hb dL_law_323 rfl (lv_at hl 3 rfl) ?_
  refine lv_aload_n hx hb dL_law_324 rfl (lv_at hl 1 rfl) ?_
  refine g_SW (n := 2) (hh := [(0, 8, 11, 35), (0, 8, 14, 21), (0, 8, 17, 23), (0, 8, 20, 15), (0, 8, 23, 25)]) (As := [.ref h0, .ref o]) (rest := []) (wr := [(h1, .inr (11, [.int 0, .ref (am 0), .int 0, .int (-1), .int (-1), .int 0, .int 0, .int 0, .long 0, .int 0, .int 0, .ref (am 1), .ref (am 2), .ref (am 3), .ref (am 4), .ref (am 5), .ref (am 6), .int 0, .int 0, .ref (am 7), .ref (am 8), .ref (am 9), .ref (am 10), .int 0, .ref (am 11), .ref (am 12), .ref (am 13), .ref (am 14), .ref (am 15), .ref (am 16), .ref (am 17), .int 0, .int 0, .int 0, .int 0, .ref (am 18), .ref (am 19), .int 0, .int 0, .int 0, .int 0, .int 0, .int 0, .ref (am 20), .ref (am 21), .ref (am 22), .ref (am 23), .ref (am 24), .ref (am 25), .ref (am 26), .ref (am 27), .ref (am 28), .ref (am 29), .ref (am 30), .ref (am 31), .ref (am 32), .ref (am 33), .ref (am 34), .ref (am 35), .ref (am 36), .int 0, .ref (am 37), .int 0, .ref (am 38), .int 0, .int 0, .int 0, .ref (am 39), .ref (am 40), .ref (am 41), .ref (am 42), .ref (am 43), .ref (am 44), .int 0, .ref (am 45), .ref (am 46), .int 1, .int 0, .int 0, .ref (am 47), .int 0, .int 0, .int 0, .int 0, .int 0])), (am 20, .inl (dA 3, 3, .inl (fun _ => 0)))]) hx hb hml hg hown hZ hN hK hP hD hS hA (w_link l htr D dA h0 ad o g0 _) [0, 1, 2, 3, 4, 5, 8] [6, 7] rfl (by decide) rfl (by decide) (by decide) q1254 q148 q1252 q1253 (by decide +kernel) ⟨(Nat.le_of_ble_eq_true rfl), (Nat.le_of_ble_eq_true rfl)⟩ rfl hl.1 rfl (Nat.le_of_ble_eq_true rfl) dL_law_325 ⟨(Nat.le_of_ble_eq_true rfl), (Nat.le_of_ble_eq_true rfl)⟩ (fun k g H locs hw hP hD hS => ?_)
  refine W.widen (k := 134) (n := 41145) (Nat.le_of_ble_eq_true rfl) (Nat.le_of_ble_eq_true rfl) ?_
  have hP : va_P D vwC [(h1, .inr (11, [.int 0, .ref (am 0), .int 0, .int (-1), .int (-1), .int 0, .int 0, .int 0, .long 0, .int 0, .int 0, .ref (am 1), .ref (am 2), .ref (am 3), .ref (am 4), .ref (am 5), .ref (am 6), .int 0, .int 0, .ref (am 7), .ref (am 8), .ref (am 9), .ref (am 10), .int 0, .ref (am 11), .ref (am 12), .ref (am 13), .ref (am 14), .ref (am 15), .ref (am 16), .ref (am 17), .int 0, .int 0, .int 0, .int 0, .ref (am 18), .ref (am 19), .int 0, .int 0, .int 0, .int 0, .int 0, .int 0, .ref (am 20), .ref (am 21), .ref (am 22), .ref (am 23), .ref (am 24), .ref (am 25), .ref (am 26), .ref (am 27), .ref (am 28), .ref (am 29), .ref (am 30), .ref (am 31), .ref (am 32), .ref (am 33), .ref (am 34), .ref (am 35), .ref (am 36), .int 0, .ref (am 37), .int 0, .ref (am 38), .int 0, .int 0, .int 0, .ref (am 39), .ref (am 40), .ref (am 41), .ref (am 42), .ref (am 43), .ref (am 44), .int 0, .ref (am 45), .ref (am 46), .int 1, .int 0, .int 0, .ref (am 47), .int 0, .int 0, .int 0, .int 0, .int 0])), (am 20, .inl (dA 3, 3, .inl (fun _ => 0))), (o, .inl (dA 1, 1, .inr (.inl g)))] H := hP
  have hD : va_D A [(h1, .inr (11, [.int 0, .ref (am 0), .int 0, .int (-1), .int (-1), .int 0, .int 0, .int 0, .long 0, .int 0, .int 0, .ref (am 1), .ref (am 2), .ref (am 3), .ref (am 4), .ref (am 5), .ref (am 6), .int 0, .int 0, .ref (am 7), .ref (am 8), .ref (am 9), .ref (am 10), .int 0, .ref (am 11), .ref (am 12), .ref (am 13), .ref (am 14), .ref (am 15), .ref (am 16), .ref (am 17), .int 0, .int 0, .int 0, .int 0, .ref (am 18), .ref (am 19), .int 0, .int 0, .int 0, .int 0, .int 0, .int 0, .ref (am 20), .ref (am 21), .ref (am 22), .ref (am 23), .ref (am 24), .ref (am 25), .ref (am 26), .ref (am 27), .ref (am 28), .ref (am 29), .ref (am 30), .ref (am 31), .ref (am 32), .ref (am 33), .ref (am 34), .ref (am 35), .ref (am 36), .int 0, .ref (am 37), .int 0, .ref (am 38), .int 0, .int 0, .int 0, .ref (am 39), .ref (am 40), .ref (am 41), .ref (am 42), .ref (am 43), .ref (am 44), .int 0, .ref (am 45), .ref (am 46), .int 1, .int 0, .int 0, .ref (am 47), .int 0, .int 0, .int 0, .int 0, .int 0])), (am 20, .inl (dA 3, 3, .inl (fun _ => 0))), (o, .inl (dA 1, 1, .inr (.inl g)))] := hD
  obtain rfl : k = 1 := hw
  refine lv_istore (lv' := [(5, .int 1), (4, .int 0), (3, .ref o), (2, .ref h1), (1, .ref h0), (0, .ref b)]) hx hb dL_law_328 hl (by decide) rfl (fun ls hl => ?_)
  refine lv_aload_n hx hb dL_law_330 rfl (lv_at hl 3 rfl) ?_
  refine g_Vi (n := 0) (As := []) (rest := []) (wr := [(o, .inl (dA 1, 1, .inr (.inl g)))]) hx hb hml hg hown hK hP hD hS hA (c_X11_link l D dA h1 am _) [0, 1] [2] rfl (by decide) rfl (by decide) (by decide) 0 rfl rfl q2073 q160 q2070 q2071 q2072 (by decide +kernel) ⟨(Nat.le_of_ble_eq_true rfl), (Nat.le_of_ble_eq_true rfl)⟩ rfl hl.1 rfl (Nat.le_of_ble_eq_true rfl) dL_law_331 ⟨(Nat.le_of_ble_eq_true rfl), (Nat.le_of_ble_eq_true rfl)⟩ (fun r2 u H locs hw hP hD hS => ?_)
  refine W.widen (k := 134) (n := 41145) (Nat.le_of_ble_eq_true rfl) (Nat.le_of_ble_eq_true rfl) ?_
  have hP : va_P D vwC [(o, .inl (dA 1, 1, .inr (.inl g))), (h1, .inr (11, u))] H := hP
  have hD : va_D A [(o, .inl (dA 1, 1, .inr (.inl g))), (h1, .inr (11, u))] := hD
  obtain ⟨t, hf, hpm⟩ := hw
  obtain rfl : t = 1 := hpm
  refine lv_istore (lv' := [(6, .int r2), (5, .int 1), (4, .int 0), (3, .ref o), (2, .ref h1), (1, .ref h0), (0, .ref b)]) hx hb dL_law_334 hl (by decide) rfl (fun ls hl => ?_)
  refine lv_aload_n hx hb dL_law_336 rfl (lv_at hl 4 rfl) ?_
  refine g_Vi (n := 0) (As := []) (rest := []) (wr := [(o, .inl (dA 1, 1, .inr (.inl g)))]) hx hb hml hg hown hK hP hD hS hA (c_thrown l D dA h1 u 1 hf _) [1] [0] rfl (by decide) rfl (by decide) (by decide) 0 rfl rfl q1875 q160 q1872 q1873 q1874 (by decide +kernel) ⟨(Nat.le_of_ble_eq_true rfl), (Nat.le_of_ble_eq_true rfl)⟩ rfl hl.1 rfl (Nat.le_of_ble_eq_true rfl) dL_law_337 ⟨(Nat.le_of_ble_eq_true rfl), (Nat.le_of_ble_eq_true rfl)⟩ (fun r3 u2 H locs hw hP hD hS => ?_)
  refine W.widen (k := 134) (n := 41145) (Nat.le_of_ble_eq_true rfl) (Nat.le_of_ble_eq_true rfl) ?_
  have hP : va_P D vwC [(o, .inl (dA 1, 1, .inr (.inl g))), (h1, .inr (11, u))] H := hP
  have hD : va_D A [(o, .inl (dA 1, 1, .inr (.inl g))), (h1, .inr (11, u))] := hD
  obtain rfl : r3 = 1 := hw
  refine lv_iload hx hb dL_law_340 (lv_at hl 1 rfl) ?_
  refine lv_icmp_eq (tgt := 347) hx hb dL_law_342 (by decide) (fun _ => ?_) (fun h => absurd (by decide) h)
  refine lv_iload hx hb dL_law_347 (lv_at hl 1 rfl) ?_
  refine lv_if_ne (tgt := 364) hx hb dL_law_349 (by decide) (fun _ => ?_) (fun h => absurd h (by decide))
  refine lv_goto (tgt := 919) hx hb dL_law_364 (by decide) ?_
  refine lv_iinc (v := 4) (lv' := [(4, .int 4), (6, .int r2), (5, .int 1), (3, .ref o), (2, .ref h1), (1, .ref h0), (0, .ref b)]) hx hb dL_law_919 hl (k := 2) rfl (by decide) (by decide) rfl (fun ls hl => ?_)
  refine lv_goto (tgt := 23) hx hb dL_law_922 (by decide) ?_
  refine lv_iload hx hb dL_law_23 (lv_at hl 0 rfl) ?_
  refine lv_aload_n hx hb dL_law_25 rfl (lv_at hl 6 rfl) ?_
  refine va_slen hx hb hX hbl hbA hS dL_law_26 ?_
  refine g_nrm (y := 4) (by decide) ?_
  refine lv_iconst (v := 4) hx hb dL_law_27 (by decide) ?_
  refine lv_isub hx hb dL_law_28 ?_
  refine g_nrm (y := 0) (by decide) ?_
  refine lv_icmp_gt (tgt := 925) hx hb dL_law_29 (by decide) (fun _ => ?_) (fun h => absurd (by decide) h)
  refine lv_iconst (v := 1) hx hb dL_law_925 (by decide) ?_
  refine va_forget (fun q hq => hAf _ (hS.2.2 q hq)) ?_
  refine W.widen (k := 600006) (n := 7302024) (Nat.le_of_ble_eq_true rfl) (Nat.le_of_ble_eq_true rfl) ?_
  exact lw_ret hx hb hr hlocks dL_law_926
set_option maxHeartbeats 4000000 in
set_option maxRecDepth 100000 in
theorem law_load {p : Program} {e : Env} {s : State} {m : MethodId} {below : List Frame} {meth : Method} {c : Code} {l : Launch} (htr : l.stackTraces = false) {b : Nat} {xs : Nat → Int32} (hx : p.tables.exec = Jvm.exec) (hb : c.code = code) (hr : meth.sig.returnType = ret) (hml : c.maxLocals = 7) (hown : s.vm.findClass RL = some m.cls) (hg : ∀ w ∈ gw, w.before #[Value.ref b] s = true) (hX : va_X b 4 xs s s.heap) (hbl : b < s.heap.size) (hlocks : meth.locks = false) {D : va_G} {dA : Nat → ClassId} {A : Nat → Prop} (hA : ∀ q : Nat, s.heap.size ≤ q → A q) (hAf : ∀ q : Nat, A q → s.heap.size ≤ q) (hbA : ¬ A b) (hZ : gZ A s) (hN : gNc s) (hK : gK D dA s) {h0 : Nat} {ad : Nat → Nat} {h1 : Nat} {am : Nat → Nat} {o : Nat} {g0 : Nat → Int64} {H : Heap} {locs : List Loc} {ls : Array Slot} (hP : va_P D vwC [(h0, .inr (10, [.ref (ad 0), .int 0, .int (-1), .int (-1), .ref (ad 1), .ref (ad 2), .ref (ad 3), .ref (ad 4), .ref (ad 5), .ref (ad 6), .ref (ad 7), .ref (ad 8)])), (ad 7, .inr (1, [.int 0, .int 0, .ref (ad 76), .int 0, .ref (ad 77), .int 0, .int 0])), (h1, .inr (11, [.int 0, .ref (am 0), .int 0, .int (-1), .int (-1), .int 0, .int 0, .int 0, .long 0, .int 0, .int 0, .ref (am 1), .ref (am 2), .ref (am 3), .ref (am 4), .ref (am 5), .ref (am 6), .int 0, .int 0, .ref (am 7), .ref (am 8), .ref (am 9), .ref (am 10), .int 0, .ref (am 11), .ref (am 12), .ref (am 13), .ref (am 14), .ref (am 15), .ref (am 16), .ref (am 17), .int 0, .int 0, .int 0, .int 0, .ref (am 18), .ref (am 19), .int 0, .int 0, .int 0, .int 0, .int 0, .int 0, .ref (am 20), .ref (am 21), .ref (am 22), .ref (am 23), .ref (am 24), .ref (am 25), .ref (am 26), .ref (am 27), .ref (am 28), .ref (am 29), .ref (am 30), .ref (am 31), .ref (am 32), .ref (am 33), .ref (am 34), .ref (am 35), .ref (am 36), .int 0, .ref (am 37), .int 0, .ref (am 38), .int 0, .int 0, .int 0, .ref (am 39), .ref (am 40), .ref (am 41), .ref (am 42), .ref (am 43), .ref (am 44), .int 0, .ref (am 45), .ref (am 46), .int 1, .int 0, .int 0, .ref (am 47), .int 0, .int 0, .int 0, .int 0, .int 0])), (o, .inl (dA 1, 1, .inr (.inl g0)))] H) (hD : va_D A [(h0, .inr (10, [.ref (ad 0), .int 0, .int (-1), .int (-1), .ref (ad 1), .ref (ad 2), .ref (ad 3), .ref (ad 4), .ref (ad 5), .ref (ad 6), .ref (ad 7), .ref (ad 8)])), (ad 7, .inr (1, [.int 0, .int 0, .ref (ad 76), .int 0, .ref (ad 77), .int 0, .int 0])), (h1, .inr (11, [.int 0, .ref (am 0), .int 0, .int (-1), .int (-1), .int 0, .int 0, .int 0, .long 0, .int 0, .int 0, .ref (am 1), .ref (am 2), .ref (am 3), .ref (am 4), .ref (am 5), .ref (am 6), .int 0, .int 0, .ref (am 7), .ref (am 8), .ref (am 9), .ref (am 10), .int 0, .ref (am 11), .ref (am 12), .ref (am 13), .ref (am 14), .ref (am 15), .ref (am 16), .ref (am 17), .int 0, .int 0, .int 0, .int 0, .ref (am 18), .ref (am 19), .int 0, .int 0, .int 0, .int 0, .int 0, .int 0, .ref (am 20), .ref (am 21), .ref (am 22), .ref (am 23), .ref (am 24), .ref (am 25), .ref (am 26), .ref (am 27), .ref (am 28), .ref (am 29), .ref (am 30), .ref (am 31), .ref (am 32), .ref (am 33), .ref (am 34), .ref (am 35), .ref (am 36), .int 0, .ref (am 37), .int 0, .ref (am 38), .int 0, .int 0, .int 0, .ref (am 39), .ref (am 40), .ref (am 41), .ref (am 42), .ref (am 43), .ref (am 44), .int 0, .ref (am 45), .ref (am 46), .int 1, .int 0, .int 0, .ref (am 47), .int 0, .int 0, .int 0, .int 0, .int 0])), (o, .inl (dA 1, 1, .inr (.inl g0)))]) (hS : va_S A s.heap H locs) (hl : lv_has ls 7 [(4, .int 0), (3, .ref o), (2, .ref h1), (1, .ref h0), (0, .ref b)]) : W p l e room_1 s m #[Value.ref b] below meth c H locs 133 41139 (lw_Z below #[Value.ref b] s) (F0 m 367 ls []) := by
  refine lv_aload_n hx hb dL_law_367 rfl (lv_at hl 3 rfl) ?_
  refine lv_aload_n hx hb dL_law_368 rfl (lv_at hl 4 rfl) ?_
  refine lv_iload hx hb dL_law_369 (lv_at hl 0 rfl) ?_
  refine lv_iconst (v := 1) hx hb dL_law_371 (by decide) ?_
  refine lv_iadd hx hb dL_law_372 ?_
  refine g_nrm (y := 1) (by decide) ?_
  refine va_sld hx hb hX hbl hbA hS (by unfold vp_in; decide) dL_law_373 ?_
  refine lv_aload_n hx hb dL_law_374 rfl (lv_at hl 1 rfl) ?_
  refine g_SW (n := 3) (hh := [(0, 9, 12, 13), (0, 9, 15, 35)]) (As := [.ref h0, .int (xs (1 : Int32).toNatClampNeg), .ref o]) (rest := []) (wr := [(h1, .inr (11, [.int 0, .ref (am 0), .int 0, .int (-1), .int (-1), .int 0, .int 0, .int 0, .long 0, .int 0, .int 0, .ref (am 1), .ref (am 2), .ref (am 3), .ref (am 4), .ref (am 5), .ref (am 6), .int 0, .int 0, .ref (am 7), .ref (am 8), .ref (am 9), .ref (am 10), .int 0, .ref (am 11), .ref (am 12), .ref (am 13), .ref (am 14), .ref (am 15), .ref (am 16), .ref (am 17), .int 0, .int 0, .int 0, .int 0, .ref (am 18), .ref (am 19), .int 0, .int 0, .int 0, .int 0, .int 0, .int 0, .ref (am 20), .ref (am 21), .ref (am 22), .ref (am 23), .ref (am 24), .ref (am 25), .ref (am 26), .ref (am 27), .ref (am 28), .ref (am 29), .ref (am 30), .ref (am 31), .ref (am 32), .ref (am 33), .ref (am 34), .ref (am 35), .ref (am 36), .int 0, .ref (am 37), .int 0, .ref (am 38), .int 0, .int 0, .int 0, .ref (am 39), .ref (am 40), .ref (am 41), .ref (am 42), .ref (am 43), .ref (am 44), .int 0, .ref (am 45), .ref (am 46), .int 1, .int 0, .int 0, .ref (am 47), .int 0, .int 0, .int 0, .int 0, .int 0]))]) hx hb hml hg hown hZ hN hK hP hD hS hA (w_load l htr D dA h0 ad o g0 (xs (1 : Int32).toNatClampNeg) _) [0, 1, 3] [2] rfl (by decide) rfl (by decide) (by decide) q1363 q148 q1361 q1362 (by decide +kernel) ⟨(Nat.le_of_ble_eq_true rfl), (Nat.le_of_ble_eq_true rfl)⟩ rfl hl.1 rfl (Nat.le_of_ble_eq_true rfl) dL_law_375 ⟨(Nat.le_of_ble_eq_true rfl), (Nat.le_of_ble_eq_true rfl)⟩ (fun k g H locs hw hP hD hS => ?_)
  refine W.widen (k := 134) (n := 41145) (Nat.le_of_ble_eq_true rfl) (Nat.le_of_ble_eq_true rfl) ?_
  have hP : va_P D vwC [(h1, .inr (11, [.int 0, .ref (am 0), .int 0, .int (-1), .int (-1), .int 0, .int 0, .int 0, .long 0, .int 0, .int 0, .ref (am 1), .ref (am 2), .ref (am 3), .ref (am 4), .ref (am 5), .ref (am 6), .int 0, .int 0, .ref (am 7), .ref (am 8), .ref (am 9), .ref (am 10), .int 0, .ref (am 11), .ref (am 12), .ref (am 13), .ref (am 14), .ref (am 15), .ref (am 16), .ref (am 17), .int 0, .int 0, .int 0, .int 0, .ref (am 18), .ref (am 19), .int 0, .int 0, .int 0, .int 0, .int 0, .int 0, .ref (am 20), .ref (am 21), .ref (am 22), .ref (am 23), .ref (am 24), .ref (am 25), .ref (am 26), .ref (am 27), .ref (am 28), .ref (am 29), .ref (am 30), .ref (am 31), .ref (am 32), .ref (am 33), .ref (am 34), .ref (am 35), .ref (am 36), .int 0, .ref (am 37), .int 0, .ref (am 38), .int 0, .int 0, .int 0, .ref (am 39), .ref (am 40), .ref (am 41), .ref (am 42), .ref (am 43), .ref (am 44), .int 0, .ref (am 45), .ref (am 46), .int 1, .int 0, .int 0, .ref (am 47), .int 0, .int 0, .int 0, .int 0, .int 0])), (o, .inl (dA 1, 1, .inr (.inl g)))] H := hP
  have hD : va_D A [(h1, .inr (11, [.int 0, .ref (am 0), .int 0, .int (-1), .int (-1), .int 0, .int 0, .int 0, .long 0, .int 0, .int 0, .ref (am 1), .ref (am 2), .ref (am 3), .ref (am 4), .ref (am 5), .ref (am 6), .int 0, .int 0, .ref (am 7), .ref (am 8), .ref (am 9), .ref (am 10), .int 0, .ref (am 11), .ref (am 12), .ref (am 13), .ref (am 14), .ref (am 15), .ref (am 16), .ref (am 17), .int 0, .int 0, .int 0, .int 0, .ref (am 18), .ref (am 19), .int 0, .int 0, .int 0, .int 0, .int 0, .int 0, .ref (am 20), .ref (am 21), .ref (am 22), .ref (am 23), .ref (am 24), .ref (am 25), .ref (am 26), .ref (am 27), .ref (am 28), .ref (am 29), .ref (am 30), .ref (am 31), .ref (am 32), .ref (am 33), .ref (am 34), .ref (am 35), .ref (am 36), .int 0, .ref (am 37), .int 0, .ref (am 38), .int 0, .int 0, .int 0, .ref (am 39), .ref (am 40), .ref (am 41), .ref (am 42), .ref (am 43), .ref (am 44), .int 0, .ref (am 45), .ref (am 46), .int 1, .int 0, .int 0, .ref (am 47), .int 0, .int 0, .int 0, .int 0, .int 0])), (o, .inl (dA 1, 1, .inr (.inl g)))] := hD
  rcases hw with ⟨rfl, hq⟩ | ⟨rfl, hq⟩
  · refine lv_istore (lv' := [(5, .int 1), (4, .int 0), (3, .ref o), (2, .ref h1), (1, .ref h0), (0, .ref b)]) hx hb dL_law_378 hl (by decide) rfl (fun ls hl => ?_)
    refine lv_aload_n hx hb dL_law_380 rfl (lv_at hl 3 rfl) ?_
    refine lv_aload_n hx hb dL_law_381 rfl (lv_at hl 5 rfl) ?_
    refine lv_iload hx hb dL_law_382 (lv_at hl 1 rfl) ?_
    refine lv_iconst (v := 1) hx hb dL_law_384 (by decide) ?_
    refine lv_iadd hx hb dL_law_385 ?_
    refine g_nrm (y := 1) (by decide) ?_
    refine va_sld hx hb hX hbl hbA hS (by unfold vp_in; decide) dL_law_386 ?_
    refine g_Vi (n := 1) (As := [.int (xs (1 : Int32).toNatClampNeg)]) (rest := []) (wr := [(o, .inl (dA 1, 1, .inr (.inl g)))]) hx hb hml hg hown hK hP hD hS hA (c_X11_load l D dA h1 am (xs (1 : Int32).toNatClampNeg) _) [0] [1] rfl (by decide) rfl (by decide) (by decide) 0 rfl rfl q2114 q160 q2111 q2112 q2113 (by decide +kernel) ⟨(Nat.le_of_ble_eq_true rfl), (Nat.le_of_ble_eq_true rfl)⟩ rfl hl.1 rfl (Nat.le_of_ble_eq_true rfl) dL_law_387 ⟨(Nat.le_of_ble_eq_true rfl), (Nat.le_of_ble_eq_true rfl)⟩ (fun r2 u H locs hw hP hD hS => ?_)
    refine W.widen (k := 134) (n := 41145) (Nat.le_of_ble_eq_true rfl) (Nat.le_of_ble_eq_true rfl) ?_
    have hP : va_P D vwC [(o, .inl (dA 1, 1, .inr (.inl g))), (h1, .inr (11, u))] H := hP
    have hD : va_D A [(o, .inl (dA 1, 1, .inr (.inl g))), (h1, .inr (11, u))] := hD
    obtain ⟨t, hf, hpm⟩ := hw
    rcases hpm with ⟨rfl, hp2⟩ | ⟨rfl, hp2⟩
    · refine lv_istore (lv' := [(6, .int r2), (5, .int 1), (4, .int 0), (3, .ref o), (2, .ref h1), (1, .ref h0), (0, .ref b)]) hx hb dL_law_390 hl (by decide) rfl (fun ls hl => ?_)
      refine lv_aload_n hx hb dL_law_392 rfl (lv_at hl 4 rfl) ?_
      refine g_Vi (n := 0) (As := []) (rest := []) (wr := [(o, .inl (dA 1, 1, .inr (.inl g)))]) hx hb hml hg hown hK hP hD hS hA (c_thrown l D dA h1 u 1 hf _) [1] [0] rfl (by decide) rfl (by decide) (by decide) 0 rfl rfl q1875 q160 q1872 q1873 q1874 (by decide +kernel) ⟨(Nat.le_of_ble_eq_true rfl), (Nat.le_of_ble_eq_true rfl)⟩ rfl hl.1 rfl (Nat.le_of_ble_eq_true rfl) dL_law_393 ⟨(Nat.le_of_ble_eq_true rfl), (Nat.le_of_ble_eq_true rfl)⟩ (fun r3 u2 H locs hw hP hD hS => ?_)
      refine W.widen (k := 134) (n := 41145) (Nat.le_of_ble_eq_true rfl) (Nat.le_of_ble_eq_true rfl) ?_
      have hP : va_P D vwC [(o, .inl (dA 1, 1, .inr (.inl g))), (h1, .inr (11, u))] H := hP
      have hD : va_D A [(o, .inl (dA 1, 1, .inr (.inl g))), (h1, .inr (11, u))] := hD
      obtain rfl : r3 = 1 := hw
      refine lv_iload hx hb dL_law_396 (lv_at hl 1 rfl) ?_
      refine lv_icmp_eq (tgt := 403) hx hb dL_law_398 (by decide) (fun _ => ?_) (fun h => absurd (by decide) h)
      refine lv_iload hx hb dL_law_403 (lv_at hl 1 rfl) ?_
      refine lv_if_ne (tgt := 420) hx hb dL_law_405 (by decide) (fun _ => ?_) (fun h => absurd h (by decide))
      refine lv_goto (tgt := 919) hx hb dL_law_420 (by decide) ?_
      refine lv_iinc (v := 4) (lv' := [(4, .int 4), (6, .int r2), (5, .int 1), (3, .ref o), (2, .ref h1), (1, .ref h0), (0, .ref b)]) hx hb dL_law_919 hl (k := 2) rfl (by decide) (by decide) rfl (fun ls hl => ?_)
      refine lv_goto (tgt := 23) hx hb dL_law_922 (by decide) ?_
      refine lv_iload hx hb dL_law_23 (lv_at hl 0 rfl) ?_
      refine lv_aload_n hx hb dL_law_25 rfl (lv_at hl 6 rfl) ?_
      refine va_slen hx hb hX hbl hbA hS dL_law_26 ?_
      refine g_nrm (y := 4) (by decide) ?_
      refine lv_iconst (v := 4) hx hb dL_law_27 (by decide) ?_
      refine lv_isub hx hb dL_law_28 ?_
      refine g_nrm (y := 0) (by decide) ?_
      refine lv_icmp_gt (tgt := 925) hx hb dL_law_29 (by decide) (fun _ => ?_) (fun h => absurd (by decide) h)
      refine lv_iconst (v := 1) hx hb dL_law_925 (by decide) ?_
      refine va_forget (fun q hq => hAf _ (hS.2.2 q hq)) ?_
      refine W.widen (k := 600006) (n := 7302024) (Nat.le_of_ble_eq_true rfl) (Nat.le_of_ble_eq_true rfl) ?_
      exact lw_ret hx hb hr hlocks dL_law_926
    · exact absurd hp2 hq
  · refine lv_istore (lv' := [(5, .int 2), (4, .int 0), (3, .ref o), (2, .ref h1), (1, .ref h0), (0, .ref b)]) hx hb dL_law_378 hl (by decide) rfl (fun ls hl => ?_)
    refine lv_aload_n hx hb dL_law_380 rfl (lv_at hl 3 rfl) ?_
    refine lv_aload_n hx hb dL_law_381 rfl (lv_at hl 5 rfl) ?_
    refine lv_iload hx hb dL_law_382 (lv_at hl 1 rfl) ?_
    refine lv_iconst (v := 1) hx hb dL_law_384 (by decide) ?_
    refine lv_iadd hx hb dL_law_385 ?_
    refine g_nrm (y := 1) (by decide) ?_
    refine va_sld hx hb hX hbl hbA hS (by unfold vp_in; decide) dL_law_386 ?_
    refine g_Vi (n := 1) (As := [.int (xs (1 : Int32).toNatClampNeg)]) (rest := []) (wr := [(o, .inl (dA 1, 1, .inr (.inl g)))]) hx hb hml hg hown hK hP hD hS hA (c_X11_load l D dA h1 am (xs (1 : Int32).toNatClampNeg) _) [0] [1] rfl (by decide) rfl (by decide) (by decide) 0 rfl rfl q2114 q160 q2111 q2112 q2113 (by decide +kernel) ⟨(Nat.le_of_ble_eq_true rfl), (Nat.le_of_ble_eq_true rfl)⟩ rfl hl.1 rfl (Nat.le_of_ble_eq_true rfl) dL_law_387 ⟨(Nat.le_of_ble_eq_true rfl), (Nat.le_of_ble_eq_true rfl)⟩ (fun r2 u H locs hw hP hD hS => ?_)
    refine W.widen (k := 134) (n := 41145) (Nat.le_of_ble_eq_true rfl) (Nat.le_of_ble_eq_true rfl) ?_
    have hP : va_P D vwC [(o, .inl (dA 1, 1, .inr (.inl g))), (h1, .inr (11, u))] H := hP
    have hD : va_D A [(o, .inl (dA 1, 1, .inr (.inl g))), (h1, .inr (11, u))] := hD
    obtain ⟨t, hf, hpm⟩ := hw
    rcases hpm with ⟨rfl, hp2⟩ | ⟨rfl, hp2⟩
    · exact absurd hq hp2
    · refine lv_istore (lv' := [(6, .int r2), (5, .int 2), (4, .int 0), (3, .ref o), (2, .ref h1), (1, .ref h0), (0, .ref b)]) hx hb dL_law_390 hl (by decide) rfl (fun ls hl => ?_)
      refine lv_aload_n hx hb dL_law_392 rfl (lv_at hl 4 rfl) ?_
      refine g_Vi (n := 0) (As := []) (rest := []) (wr := [(o, .inl (dA 1, 1, .inr (.inl g)))]) hx hb hml hg hown hK hP hD hS hA (c_thrown l D dA h1 u 2 hf _) [1] [0] rfl (by decide) rfl (by decide) (by decide) 0 rfl rfl q1875 q160 q1872 q1873 q1874 (by decide +kernel) ⟨(Nat.le_of_ble_eq_true rfl), (Nat.le_of_ble_eq_true rfl)⟩ rfl hl.1 rfl (Nat.le_of_ble_eq_true rfl) dL_law_393 ⟨(Nat.le_of_ble_eq_true rfl), (Nat.le_of_ble_eq_true rfl)⟩ (fun r3 u2 H locs hw hP hD hS => ?_)
      refine W.widen (k := 134) (n := 41145) (Nat.le_of_ble_eq_true rfl) (Nat.le_of_ble_eq_true rfl) ?_
      have hP : va_P D vwC [(o, .inl (dA 1, 1, .inr (.inl g))), (h1, .inr (11, u))] H := hP
      have hD : va_D A [(o, .inl (dA 1, 1, .inr (.inl g))), (h1, .inr (11, u))] := hD
      obtain rfl : r3 = 2 := hw
      refine lv_iload hx hb dL_law_396 (lv_at hl 1 rfl) ?_
      refine lv_icmp_eq (tgt := 403) hx hb dL_law_398 (by decide) (fun _ => ?_) (fun h => absurd (by decide) h)
      refine lv_iload hx hb dL_law_403 (lv_at hl 1 rfl) ?_
      refine lv_if_ne (tgt := 420) hx hb dL_law_405 (by decide) (fun _ => ?_) (fun h => absurd h (by decide))
      refine lv_goto (tgt := 919) hx hb dL_law_420 (by decide) ?_
      refine lv_iinc (v := 4) (lv' := [(4, .int 4), (6, .int r2), (5, .int 2), (3, .ref o), (2, .ref h1), (1, .ref h0), (0, .ref b)]) hx hb dL_law_919 hl (k := 2) rfl (by decide) (by decide) rfl (fun ls hl => ?_)
      refine lv_goto (tgt := 23) hx hb dL_law_922 (by decide) ?_
      refine lv_iload hx hb dL_law_23 (lv_at hl 0 rfl) ?_
      refine lv_aload_n hx hb dL_law_25 rfl (lv_at hl 6 rfl) ?_
      refine va_slen hx hb hX hbl hbA hS dL_law_26 ?_
      refine g_nrm (y := 4) (by decide) ?_
      refine lv_iconst (v := 4) hx hb dL_law_27 (by decide) ?_
      refine lv_isub hx hb dL_law_28 ?_
      refine g_nrm (y := 0) (by decide) ?_
      refine lv_icmp_gt (tgt := 925) hx hb dL_law_29 (by decide) (fun _ => ?_) (fun h => absurd (by decide) h)
      refine lv_iconst (v := 1) hx hb dL_law_925 (by decide) ?_
      refine va_forget (fun q hq => hAf _ (hS.2.2 q hq)) ?_
      refine W.widen (k := 600006) (n := 7302024) (Nat.le_of_ble_eq_true rfl) (Nat.le_of_ble_eq_true rfl) ?_
      exact lw_ret hx hb hr hlocks dL_law_926
set_option maxHeartbeats 4000000 in
set_option maxRecDepth 100000 in
theorem law_run {p : Program} {e : Env} {s : State} {m : MethodId} {below : List Frame} {meth : Method} {c : Code} {l : Launch} (htr : l.stackTraces = false) {b : Nat} {xs : Nat → Int32} (hx : p.tables.exec = Jvm.exec) (hb : c.code = code) (hr : meth.sig.returnType = ret) (hml : c.maxLocals = 7) (hown : s.vm.findClass RL = some m.cls) (hg : ∀ w ∈ gw, w.before #[Value.ref b] s = true) (hX : va_X b 4 xs s s.heap) (hbl : b < s.heap.size) (hlocks : meth.locks = false) {D : va_G} {dA : Nat → ClassId} {A : Nat → Prop} (hA : ∀ q : Nat, s.heap.size ≤ q → A q) (hAf : ∀ q : Nat, A q → s.heap.size ≤ q) (hbA : ¬ A b) (hZ : gZ A s) (hN : gNc s) (hK : gK D dA s) {h0 : Nat} {ad : Nat → Nat} {h1 : Nat} {am : Nat → Nat} {o : Nat} {g0 : Nat → Int64} {H : Heap} {locs : List Loc} {ls : Array Slot} (hP : va_P D vwC [(h0, .inr (10, [.ref (ad 0), .int 0, .int (-1), .int (-1), .ref (ad 1), .ref (ad 2), .ref (ad 3), .ref (ad 4), .ref (ad 5), .ref (ad 6), .ref (ad 7), .ref (ad 8)])), (ad 8, .inr (4, [.ref (ad 78), .ref (ad 79), .ref (ad 80), .int 0, .int 0, .int 0, .int 0, .int 1, .int 0, .int 0, .ref (ad 81), .int 0, .int 0, .int 0])), (h1, .inr (11, [.int 0, .ref (am 0), .int 0, .int (-1), .int (-1), .int 0, .int 0, .int 0, .long 0, .int 0, .int 0, .ref (am 1), .ref (am 2), .ref (am 3), .ref (am 4), .ref (am 5), .ref (am 6), .int 0, .int 0, .ref (am 7), .ref (am 8), .ref (am 9), .ref (am 10), .int 0, .ref (am 11), .ref (am 12), .ref (am 13), .ref (am 14), .ref (am 15), .ref (am 16), .ref (am 17), .int 0, .int 0, .int 0, .int 0, .ref (am 18), .ref (am 19), .int 0, .int 0, .int 0, .int 0, .int 0, .int 0, .ref (am 20), .ref (am 21), .ref (am 22), .ref (am 23), .ref (am 24), .ref (am 25), .ref (am 26), .ref (am 27), .ref (am 28), .ref (am 29), .ref (am 30), .ref (am 31), .ref (am 32), .ref (am 33), .ref (am 34), .ref (am 35), .ref (am 36), .int 0, .ref (am 37), .int 0, .ref (am 38), .int 0, .int 0, .int 0, .ref (am 39), .ref (am 40), .ref (am 41), .ref (am 42), .ref (am 43), .ref (am 44), .int 0, .ref (am 45), .ref (am 46), .int 1, .int 0, .int 0, .ref (am 47), .int 0, .int 0, .int 0, .int 0, .int 0])), (o, .inl (dA 1, 1, .inr (.inl g0)))] H) (hD : va_D A [(h0, .inr (10, [.ref (ad 0), .int 0, .int (-1), .int (-1), .ref (ad 1), .ref (ad 2), .ref (ad 3), .ref (ad 4), .ref (ad 5), .ref (ad 6), .ref (ad 7), .ref (ad 8)])), (ad 8, .inr (4, [.ref (ad 78), .ref (ad 79), .ref (ad 80), .int 0, .int 0, .int 0, .int 0, .int 1, .int 0, .int 0, .ref (ad 81), .int 0, .int 0, .int 0])), (h1, .inr (11, [.int 0, .ref (am 0), .int 0, .int (-1), .int (-1), .int 0, .int 0, .int 0, .long 0, .int 0, .int 0, .ref (am 1), .ref (am 2), .ref (am 3), .ref (am 4), .ref (am 5), .ref (am 6), .int 0, .int 0, .ref (am 7), .ref (am 8), .ref (am 9), .ref (am 10), .int 0, .ref (am 11), .ref (am 12), .ref (am 13), .ref (am 14), .ref (am 15), .ref (am 16), .ref (am 17), .int 0, .int 0, .int 0, .int 0, .ref (am 18), .ref (am 19), .int 0, .int 0, .int 0, .int 0, .int 0, .int 0, .ref (am 20), .ref (am 21), .ref (am 22), .ref (am 23), .ref (am 24), .ref (am 25), .ref (am 26), .ref (am 27), .ref (am 28), .ref (am 29), .ref (am 30), .ref (am 31), .ref (am 32), .ref (am 33), .ref (am 34), .ref (am 35), .ref (am 36), .int 0, .ref (am 37), .int 0, .ref (am 38), .int 0, .int 0, .int 0, .ref (am 39), .ref (am 40), .ref (am 41), .ref (am 42), .ref (am 43), .ref (am 44), .int 0, .ref (am 45), .ref (am 46), .int 1, .int 0, .int 0, .ref (am 47), .int 0, .int 0, .int 0, .int 0, .int 0])), (o, .inl (dA 1, 1, .inr (.inl g0)))]) (hS : va_S A s.heap H locs) (hl : lv_has ls 7 [(4, .int 0), (3, .ref o), (2, .ref h1), (1, .ref h0), (0, .ref b)]) : W p l e room_1 s m #[Value.ref b] below meth c H locs 133 41139 (lw_Z below #[Value.ref b] s) (F0 m 423 ls []) := by
  refine lv_aload_n hx hb dL_law_423 rfl (lv_at hl 3 rfl) ?_
  refine lv_aload_n hx hb dL_law_424 rfl (lv_at hl 4 rfl) ?_
  refine lv_iload hx hb dL_law_425 (lv_at hl 0 rfl) ?_
  refine lv_iconst (v := 1) hx hb dL_law_427 (by decide) ?_
  refine lv_iadd hx hb dL_law_428 ?_
  refine g_nrm (y := 1) (by decide) ?_
  refine va_sld hx hb hX hbl hbA hS (by unfold vp_in; decide) dL_law_429 ?_
  refine lv_aload_n hx hb dL_law_430 rfl (lv_at hl 1 rfl) ?_
  refine g_SW (n := 3) (hh := [(0, 9, 12, 13), (0, 9, 15, 35)]) (As := [.ref h0, .int (xs (1 : Int32).toNatClampNeg), .ref o]) (rest := []) (wr := [(h1, .inr (11, [.int 0, .ref (am 0), .int 0, .int (-1), .int (-1), .int 0, .int 0, .int 0, .long 0, .int 0, .int 0, .ref (am 1), .ref (am 2), .ref (am 3), .ref (am 4), .ref (am 5), .ref (am 6), .int 0, .int 0, .ref (am 7), .ref (am 8), .ref (am 9), .ref (am 10), .int 0, .ref (am 11), .ref (am 12), .ref (am 13), .ref (am 14), .ref (am 15), .ref (am 16), .ref (am 17), .int 0, .int 0, .int 0, .int 0, .ref (am 18), .ref (am 19), .int 0, .int 0, .int 0, .int 0, .int 0, .int 0, .ref (am 20), .ref (am 21), .ref (am 22), .ref (am 23), .ref (am 24), .ref (am 25), .ref (am 26), .ref (am 27), .ref (am 28), .ref (am 29), .ref (am 30), .ref (am 31), .ref (am 32), .ref (am 33), .ref (am 34), .ref (am 35), .ref (am 36), .int 0, .ref (am 37), .int 0, .ref (am 38), .int 0, .int 0, .int 0, .ref (am 39), .ref (am 40), .ref (am 41), .ref (am 42), .ref (am 43), .ref (am 44), .int 0, .ref (am 45), .ref (am 46), .int 1, .int 0, .int 0, .ref (am 47), .int 0, .int 0, .int 0, .int 0, .int 0]))]) hx hb hml hg hown hZ hN hK hP hD hS hA (w_run l htr D dA h0 ad o g0 (xs (1 : Int32).toNatClampNeg) _) [0, 1, 3] [2] rfl (by decide) rfl (by decide) (by decide) q1385 q148 q1383 q1384 (by decide +kernel) ⟨(Nat.le_of_ble_eq_true rfl), (Nat.le_of_ble_eq_true rfl)⟩ rfl hl.1 rfl (Nat.le_of_ble_eq_true rfl) dL_law_431 ⟨(Nat.le_of_ble_eq_true rfl), (Nat.le_of_ble_eq_true rfl)⟩ (fun k g H locs hw hP hD hS => ?_)
  refine W.widen (k := 134) (n := 41145) (Nat.le_of_ble_eq_true rfl) (Nat.le_of_ble_eq_true rfl) ?_
  have hP : va_P D vwC [(h1, .inr (11, [.int 0, .ref (am 0), .int 0, .int (-1), .int (-1), .int 0, .int 0, .int 0, .long 0, .int 0, .int 0, .ref (am 1), .ref (am 2), .ref (am 3), .ref (am 4), .ref (am 5), .ref (am 6), .int 0, .int 0, .ref (am 7), .ref (am 8), .ref (am 9), .ref (am 10), .int 0, .ref (am 11), .ref (am 12), .ref (am 13), .ref (am 14), .ref (am 15), .ref (am 16), .ref (am 17), .int 0, .int 0, .int 0, .int 0, .ref (am 18), .ref (am 19), .int 0, .int 0, .int 0, .int 0, .int 0, .int 0, .ref (am 20), .ref (am 21), .ref (am 22), .ref (am 23), .ref (am 24), .ref (am 25), .ref (am 26), .ref (am 27), .ref (am 28), .ref (am 29), .ref (am 30), .ref (am 31), .ref (am 32), .ref (am 33), .ref (am 34), .ref (am 35), .ref (am 36), .int 0, .ref (am 37), .int 0, .ref (am 38), .int 0, .int 0, .int 0, .ref (am 39), .ref (am 40), .ref (am 41), .ref (am 42), .ref (am 43), .ref (am 44), .int 0, .ref (am 45), .ref (am 46), .int 1, .int 0, .int 0, .ref (am 47), .int 0, .int 0, .int 0, .int 0, .int 0])), (o, .inl (dA 1, 1, .inr (.inl g)))] H := hP
  have hD : va_D A [(h1, .inr (11, [.int 0, .ref (am 0), .int 0, .int (-1), .int (-1), .int 0, .int 0, .int 0, .long 0, .int 0, .int 0, .ref (am 1), .ref (am 2), .ref (am 3), .ref (am 4), .ref (am 5), .ref (am 6), .int 0, .int 0, .ref (am 7), .ref (am 8), .ref (am 9), .ref (am 10), .int 0, .ref (am 11), .ref (am 12), .ref (am 13), .ref (am 14), .ref (am 15), .ref (am 16), .ref (am 17), .int 0, .int 0, .int 0, .int 0, .ref (am 18), .ref (am 19), .int 0, .int 0, .int 0, .int 0, .int 0, .int 0, .ref (am 20), .ref (am 21), .ref (am 22), .ref (am 23), .ref (am 24), .ref (am 25), .ref (am 26), .ref (am 27), .ref (am 28), .ref (am 29), .ref (am 30), .ref (am 31), .ref (am 32), .ref (am 33), .ref (am 34), .ref (am 35), .ref (am 36), .int 0, .ref (am 37), .int 0, .ref (am 38), .int 0, .int 0, .int 0, .ref (am 39), .ref (am 40), .ref (am 41), .ref (am 42), .ref (am 43), .ref (am 44), .int 0, .ref (am 45), .ref (am 46), .int 1, .int 0, .int 0, .ref (am 47), .int 0, .int 0, .int 0, .int 0, .int 0])), (o, .inl (dA 1, 1, .inr (.inl g)))] := hD
  rcases hw with ⟨rfl, hq⟩ | ⟨rfl, hq⟩
  · refine lv_istore (lv' := [(5, .int 1), (4, .int 0), (3, .ref o), (2, .ref h1), (1, .ref h0), (0, .ref b)]) hx hb dL_law_434 hl (by decide) rfl (fun ls hl => ?_)
    refine lv_aload_n hx hb dL_law_436 rfl (lv_at hl 3 rfl) ?_
    refine lv_aload_n hx hb dL_law_437 rfl (lv_at hl 5 rfl) ?_
    refine lv_iload hx hb dL_law_438 (lv_at hl 1 rfl) ?_
    refine lv_iconst (v := 1) hx hb dL_law_440 (by decide) ?_
    refine lv_iadd hx hb dL_law_441 ?_
    refine g_nrm (y := 1) (by decide) ?_
    refine va_sld hx hb hX hbl hbA hS (by unfold vp_in; decide) dL_law_442 ?_
    refine g_Vi (n := 1) (As := [.int (xs (1 : Int32).toNatClampNeg)]) (rest := []) (wr := [(o, .inl (dA 1, 1, .inr (.inl g)))]) hx hb hml hg hown hK hP hD hS hA (c_X11_run l D dA h1 am (xs (1 : Int32).toNatClampNeg) _) [0] [1] rfl (by decide) rfl (by decide) (by decide) 0 rfl rfl q2118 q160 q2115 q2116 q2117 (by decide +kernel) ⟨(Nat.le_of_ble_eq_true rfl), (Nat.le_of_ble_eq_true rfl)⟩ rfl hl.1 rfl (Nat.le_of_ble_eq_true rfl) dL_law_443 ⟨(Nat.le_of_ble_eq_true rfl), (Nat.le_of_ble_eq_true rfl)⟩ (fun r2 u H locs hw hP hD hS => ?_)
    refine W.widen (k := 134) (n := 41145) (Nat.le_of_ble_eq_true rfl) (Nat.le_of_ble_eq_true rfl) ?_
    have hP : va_P D vwC [(o, .inl (dA 1, 1, .inr (.inl g))), (h1, .inr (11, u))] H := hP
    have hD : va_D A [(o, .inl (dA 1, 1, .inr (.inl g))), (h1, .inr (11, u))] := hD
    obtain ⟨t, hf, hpm⟩ := hw
    rcases hpm with ⟨rfl, hp2⟩ | ⟨rfl, hp2⟩
    · refine lv_istore (lv' := [(6, .int r2), (5, .int 1), (4, .int 0), (3, .ref o), (2, .ref h1), (1, .ref h0), (0, .ref b)]) hx hb dL_law_446 hl (by decide) rfl (fun ls hl => ?_)
      refine lv_aload_n hx hb dL_law_448 rfl (lv_at hl 4 rfl) ?_
      refine g_Vi (n := 0) (As := []) (rest := []) (wr := [(o, .inl (dA 1, 1, .inr (.inl g)))]) hx hb hml hg hown hK hP hD hS hA (c_thrown l D dA h1 u 1 hf _) [1] [0] rfl (by decide) rfl (by decide) (by decide) 0 rfl rfl q1875 q160 q1872 q1873 q1874 (by decide +kernel) ⟨(Nat.le_of_ble_eq_true rfl), (Nat.le_of_ble_eq_true rfl)⟩ rfl hl.1 rfl (Nat.le_of_ble_eq_true rfl) dL_law_449 ⟨(Nat.le_of_ble_eq_true rfl), (Nat.le_of_ble_eq_true rfl)⟩ (fun r3 u2 H locs hw hP hD hS => ?_)
      refine W.widen (k := 134) (n := 41145) (Nat.le_of_ble_eq_true rfl) (Nat.le_of_ble_eq_true rfl) ?_
      have hP : va_P D vwC [(o, .inl (dA 1, 1, .inr (.inl g))), (h1, .inr (11, u))] H := hP
      have hD : va_D A [(o, .inl (dA 1, 1, .inr (.inl g))), (h1, .inr (11, u))] := hD
      obtain rfl : r3 = 1 := hw
      refine lv_iload hx hb dL_law_452 (lv_at hl 1 rfl) ?_
      refine lv_icmp_eq (tgt := 459) hx hb dL_law_454 (by decide) (fun _ => ?_) (fun h => absurd (by decide) h)
      refine lv_iload hx hb dL_law_459 (lv_at hl 1 rfl) ?_
      refine lv_if_ne (tgt := 476) hx hb dL_law_461 (by decide) (fun _ => ?_) (fun h => absurd h (by decide))
      refine lv_goto (tgt := 919) hx hb dL_law_476 (by decide) ?_
      refine lv_iinc (v := 4) (lv' := [(4, .int 4), (6, .int r2), (5, .int 1), (3, .ref o), (2, .ref h1), (1, .ref h0), (0, .ref b)]) hx hb dL_law_919 hl (k := 2) rfl (by decide) (by decide) rfl (fun ls hl => ?_)
      refine lv_goto (tgt := 23) hx hb dL_law_922 (by decide) ?_
      refine lv_iload hx hb dL_law_23 (lv_at hl 0 rfl) ?_
      refine lv_aload_n hx hb dL_law_25 rfl (lv_at hl 6 rfl) ?_
      refine va_slen hx hb hX hbl hbA hS dL_law_26 ?_
      refine g_nrm (y := 4) (by decide) ?_
      refine lv_iconst (v := 4) hx hb dL_law_27 (by decide) ?_
      refine lv_isub hx hb dL_law_28 ?_
      refine g_nrm (y := 0) (by decide) ?_
      refine lv_icmp_gt (tgt := 925) hx hb dL_law_29 (by decide) (fun _ => ?_) (fun h => absurd (by decide) h)
      refine lv_iconst (v := 1) hx hb dL_law_925 (by decide) ?_
      refine va_forget (fun q hq => hAf _ (hS.2.2 q hq)) ?_
      refine W.widen (k := 600006) (n := 7302024) (Nat.le_of_ble_eq_true rfl) (Nat.le_of_ble_eq_true rfl) ?_
      exact lw_ret hx hb hr hlocks dL_law_926
    · exact absurd hp2 hq
  · refine lv_istore (lv' := [(5, .int 2), (4, .int 0), (3, .ref o), (2, .ref h1), (1, .ref h0), (0, .ref b)]) hx hb dL_law_434 hl (by decide) rfl (fun ls hl => ?_)
    refine lv_aload_n hx hb dL_law_436 rfl (lv_at hl 3 rfl) ?_
    refine lv_aload_n hx hb dL_law_437 rfl (lv_at hl 5 rfl) ?_
    refine lv_iload hx hb dL_law_438 (lv_at hl 1 rfl) ?_
    refine lv_iconst (v := 1) hx hb dL_law_440 (by decide) ?_
    refine lv_iadd hx hb dL_law_441 ?_
    refine g_nrm (y := 1) (by decide) ?_
    refine va_sld hx hb hX hbl hbA hS (by unfold vp_in; decide) dL_law_442 ?_
    refine g_Vi (n := 1) (As := [.int (xs (1 : Int32).toNatClampNeg)]) (rest := []) (wr := [(o, .inl (dA 1, 1, .inr (.inl g)))]) hx hb hml hg hown hK hP hD hS hA (c_X11_run l D dA h1 am (xs (1 : Int32).toNatClampNeg) _) [0] [1] rfl (by decide) rfl (by decide) (by decide) 0 rfl rfl q2118 q160 q2115 q2116 q2117 (by decide +kernel) ⟨(Nat.le_of_ble_eq_true rfl), (Nat.le_of_ble_eq_true rfl)⟩ rfl hl.1 rfl (Nat.le_of_ble_eq_true rfl) dL_law_443 ⟨(Nat.le_of_ble_eq_true rfl), (Nat.le_of_ble_eq_true rfl)⟩ (fun r2 u H locs hw hP hD hS => ?_)
    refine W.widen (k := 134) (n := 41145) (Nat.le_of_ble_eq_true rfl) (Nat.le_of_ble_eq_true rfl) ?_
    have hP : va_P D vwC [(o, .inl (dA 1, 1, .inr (.inl g))), (h1, .inr (11, u))] H := hP
    have hD : va_D A [(o, .inl (dA 1, 1, .inr (.inl g))), (h1, .inr (11, u))] := hD
    obtain ⟨t, hf, hpm⟩ := hw
    rcases hpm with ⟨rfl, hp2⟩ | ⟨rfl, hp2⟩
    · exact absurd hq hp2
    · refine lv_istore (lv' := [(6, .int r2), (5, .int 2), (4, .int 0), (3, .ref o), (2, .ref h1), (1, .ref h0), (0, .ref b)]) hx hb dL_law_446 hl (by decide) rfl (fun ls hl => ?_)
      refine lv_aload_n hx hb dL_law_448 rfl (lv_at hl 4 rfl) ?_
      refine g_Vi (n := 0) (As := []) (rest := []) (wr := [(o, .inl (dA 1, 1, .inr (.inl g)))]) hx hb hml hg hown hK hP hD hS hA (c_thrown l D dA h1 u 2 hf _) [1] [0] rfl (by decide) rfl (by decide) (by decide) 0 rfl rfl q1875 q160 q1872 q1873 q1874 (by decide +kernel) ⟨(Nat.le_of_ble_eq_true rfl), (Nat.le_of_ble_eq_true rfl)⟩ rfl hl.1 rfl (Nat.le_of_ble_eq_true rfl) dL_law_449 ⟨(Nat.le_of_ble_eq_true rfl), (Nat.le_of_ble_eq_true rfl)⟩ (fun r3 u2 H locs hw hP hD hS => ?_)
      refine W.widen (k := 134) (n := 41145) (Nat.le_of_ble_eq_true rfl) (Nat.le_of_ble_eq_true rfl) ?_
      have hP : va_P D vwC [(o, .inl (dA 1, 1, .inr (.inl g))), (h1, .inr (11, u))] H := hP
      have hD : va_D A [(o, .inl (dA 1, 1, .inr (.inl g))), (h1, .inr (11, u))] := hD
      obtain rfl : r3 = 2 := hw
      refine lv_iload hx hb dL_law_452 (lv_at hl 1 rfl) ?_
      refine lv_icmp_eq (tgt := 459) hx hb dL_law_454 (by decide) (fun _ => ?_) (fun h => absurd (by decide) h)
      refine lv_iload hx hb dL_law_459 (lv_at hl 1 rfl) ?_
      refine lv_if_ne (tgt := 476) hx hb dL_law_461 (by decide) (fun _ => ?_) (fun h => absurd h (by decide))
      refine lv_goto (tgt := 919) hx hb dL_law_476 (by decide) ?_
      refine lv_iinc (v := 4) (lv' := [(4, .int 4), (6, .int r2), (5, .int 2), (3, .ref o), (2, .ref h1), (1, .ref h0), (0, .ref b)]) hx hb dL_law_919 hl (k := 2) rfl (by decide) (by decide) rfl (fun ls hl => ?_)
      refine lv_goto (tgt := 23) hx hb dL_law_922 (by decide) ?_
      refine lv_iload hx hb dL_law_23 (lv_at hl 0 rfl) ?_
      refine lv_aload_n hx hb dL_law_25 rfl (lv_at hl 6 rfl) ?_
      refine va_slen hx hb hX hbl hbA hS dL_law_26 ?_
      refine g_nrm (y := 4) (by decide) ?_
      refine lv_iconst (v := 4) hx hb dL_law_27 (by decide) ?_
      refine lv_isub hx hb dL_law_28 ?_
      refine g_nrm (y := 0) (by decide) ?_
      refine lv_icmp_gt (tgt := 925) hx hb dL_law_29 (by decide) (fun _ => ?_) (fun h => absurd (by decide) h)
      refine lv_iconst (v := 1) hx hb dL_law_925 (by decide) ?_
      refine va_forget (fun q hq => hAf _ (hS.2.2 q hq)) ?_
      refine W.widen (k := 600006) (n := 7302024) (Nat.le_of_ble_eq_true rfl) (Nat.le_of_ble_eq_true rfl) ?_
      exact lw_ret hx hb hr hlocks dL_law_926
set_option maxHeartbeats 4000000 in
set_option maxRecDepth 100000 in
theorem law_code {p : Program} {e : Env} {s : State} {m : MethodId} {below : List Frame} {meth : Method} {c : Code} {l : Launch} (htr : l.stackTraces = false) {b : Nat} {xs : Nat → Int32} (hx : p.tables.exec = Jvm.exec) (hb : c.code = code) (hr : meth.sig.returnType = ret) (hml : c.maxLocals = 7) (hown : s.vm.findClass RL = some m.cls) (hg : ∀ w ∈ gw, w.before #[Value.ref b] s = true) (hX : va_X b 4 xs s s.heap) (hbl : b < s.heap.size) (hlocks : meth.locks = false) {D : va_G} {dA : Nat → ClassId} {A : Nat → Prop} (hA : ∀ q : Nat, s.heap.size ≤ q → A q) (hAf : ∀ q : Nat, A q → s.heap.size ≤ q) (hbA : ¬ A b) (hZ : gZ A s) (hN : gNc s) (hK : gK D dA s) {h0 : Nat} {ad : Nat → Nat} {h1 : Nat} {am : Nat → Nat} {o : Nat} {g0 : Nat → Int64} {H : Heap} {locs : List Loc} {ls : Array Slot} (hP : va_P D vwC [(h0, .inr (10, [.ref (ad 0), .int 0, .int (-1), .int (-1), .ref (ad 1), .ref (ad 2), .ref (ad 3), .ref (ad 4), .ref (ad 5), .ref (ad 6), .ref (ad 7), .ref (ad 8)])), (ad 5, .inl (dA 4, 3, .inr (.inr (.inr (.inr (gM (ad 29) (ad 30) (ad 31))))))), (ad 29, .inr (6, [.int 0, .int 0, .ref (ad 32), .ref (ad 33), .ref (ad 34), .ref (ad 35), .ref (ad 36), .int 0, .ref (ad 37), .ref (ad 38), .ref (ad 39), .ref (ad 40), .ref (ad 41), .int 0, .ref (ad 42), .ref (ad 43), .ref (ad 44)])), (ad 30, .inr (6, [.int 0, .int 0, .ref (ad 45), .ref (ad 46), .ref (ad 47), .ref (ad 48), .ref (ad 49), .int 0, .ref (ad 50), .ref (ad 51), .ref (ad 52), .ref (ad 53), .ref (ad 54), .int 0, .ref (ad 55), .ref (ad 56), .ref (ad 57)])), (ad 31, .inr (6, [.int 0, .int 0, .ref (ad 58), .ref (ad 59), .ref (ad 60), .ref (ad 61), .ref (ad 62), .int 0, .ref (ad 63), .ref (ad 64), .ref (ad 65), .ref (ad 66), .ref (ad 67), .int 0, .ref (ad 68), .ref (ad 69), .ref (ad 70)])), (h1, .inr (11, [.int 0, .ref (am 0), .int 0, .int (-1), .int (-1), .int 0, .int 0, .int 0, .long 0, .int 0, .int 0, .ref (am 1), .ref (am 2), .ref (am 3), .ref (am 4), .ref (am 5), .ref (am 6), .int 0, .int 0, .ref (am 7), .ref (am 8), .ref (am 9), .ref (am 10), .int 0, .ref (am 11), .ref (am 12), .ref (am 13), .ref (am 14), .ref (am 15), .ref (am 16), .ref (am 17), .int 0, .int 0, .int 0, .int 0, .ref (am 18), .ref (am 19), .int 0, .int 0, .int 0, .int 0, .int 0, .int 0, .ref (am 20), .ref (am 21), .ref (am 22), .ref (am 23), .ref (am 24), .ref (am 25), .ref (am 26), .ref (am 27), .ref (am 28), .ref (am 29), .ref (am 30), .ref (am 31), .ref (am 32), .ref (am 33), .ref (am 34), .ref (am 35), .ref (am 36), .int 0, .ref (am 37), .int 0, .ref (am 38), .int 0, .int 0, .int 0, .ref (am 39), .ref (am 40), .ref (am 41), .ref (am 42), .ref (am 43), .ref (am 44), .int 0, .ref (am 45), .ref (am 46), .int 1, .int 0, .int 0, .ref (am 47), .int 0, .int 0, .int 0, .int 0, .int 0])), (am 20, .inl (dA 3, 3, .inl (fun _ => 0))), (o, .inl (dA 1, 1, .inr (.inl g0)))] H) (hD : va_D A [(h0, .inr (10, [.ref (ad 0), .int 0, .int (-1), .int (-1), .ref (ad 1), .ref (ad 2), .ref (ad 3), .ref (ad 4), .ref (ad 5), .ref (ad 6), .ref (ad 7), .ref (ad 8)])), (ad 5, .inl (dA 4, 3, .inr (.inr (.inr (.inr (gM (ad 29) (ad 30) (ad 31))))))), (ad 29, .inr (6, [.int 0, .int 0, .ref (ad 32), .ref (ad 33), .ref (ad 34), .ref (ad 35), .ref (ad 36), .int 0, .ref (ad 37), .ref (ad 38), .ref (ad 39), .ref (ad 40), .ref (ad 41), .int 0, .ref (ad 42), .ref (ad 43), .ref (ad 44)])), (ad 30, .inr (6, [.int 0, .int 0, .ref (ad 45), .ref (ad 46), .ref (ad 47), .ref (ad 48), .ref (ad 49), .int 0, .ref (ad 50), .ref (ad 51), .ref (ad 52), .ref (ad 53), .ref (ad 54), .int 0, .ref (ad 55), .ref (ad 56), .ref (ad 57)])), (ad 31, .inr (6, [.int 0, .int 0, .ref (ad 58), .ref (ad 59), .ref (ad 60), .ref (ad 61), .ref (ad 62), .int 0, .ref (ad 63), .ref (ad 64), .ref (ad 65), .ref (ad 66), .ref (ad 67), .int 0, .ref (ad 68), .ref (ad 69), .ref (ad 70)])), (h1, .inr (11, [.int 0, .ref (am 0), .int 0, .int (-1), .int (-1), .int 0, .int 0, .int 0, .long 0, .int 0, .int 0, .ref (am 1), .ref (am 2), .ref (am 3), .ref (am 4), .ref (am 5), .ref (am 6), .int 0, .int 0, .ref (am 7), .ref (am 8), .ref (am 9), .ref (am 10), .int 0, .ref (am 11), .ref (am 12), .ref (am 13), .ref (am 14), .ref (am 15), .ref (am 16), .ref (am 17), .int 0, .int 0, .int 0, .int 0, .ref (am 18), .ref (am 19), .int 0, .int 0, .int 0, .int 0, .int 0, .int 0, .ref (am 20), .ref (am 21), .ref (am 22), .ref (am 23), .ref (am 24), .ref (am 25), .ref (am 26), .ref (am 27), .ref (am 28), .ref (am 29), .ref (am 30), .ref (am 31), .ref (am 32), .ref (am 33), .ref (am 34), .ref (am 35), .ref (am 36), .int 0, .ref (am 37), .int 0, .ref (am 38), .int 0, .int 0, .int 0, .ref (am 39), .ref (am 40), .ref (am 41), .ref (am 42), .ref (am 43), .ref (am 44), .int 0, .ref (am 45), .ref (am 46), .int 1, .int 0, .int 0, .ref (am 47), .int 0, .int 0, .int 0, .int 0, .int 0])), (am 20, .inl (dA 3, 3, .inl (fun _ => 0))), (o, .inl (dA 1, 1, .inr (.inl g0)))]) (hS : va_S A s.heap H locs) (hl : lv_has ls 7 [(4, .int 0), (3, .ref o), (2, .ref h1), (1, .ref h0), (0, .ref b)]) : W p l e room_1 s m #[Value.ref b] below meth c H locs 133 41139 (lw_Z below #[Value.ref b] s) (F0 m 479 ls []) := by
  refine lv_aload_n hx hb dL_law_479 rfl (lv_at hl 3 rfl) ?_
  refine lv_aload_n hx hb dL_law_480 rfl (lv_at hl 4 rfl) ?_
  refine lv_iload hx hb dL_law_481 (lv_at hl 0 rfl) ?_
  refine lv_iconst (v := 1) hx hb dL_law_483 (by decide) ?_
  refine lv_iadd hx hb dL_law_484 ?_
  refine g_nrm (y := 1) (by decide) ?_
  refine va_sld hx hb hX hbl hbA hS (by unfold vp_in; decide) dL_law_485 ?_
  refine lv_aload_n hx hb dL_law_486 rfl (lv_at hl 4 rfl) ?_
  refine lv_iload hx hb dL_law_487 (lv_at hl 0 rfl) ?_
  refine lv_iconst (v := 2) hx hb dL_law_489 (by decide) ?_
  refine lv_iadd hx hb dL_law_490 ?_
  refine g_nrm (y := 2) (by decide) ?_
  refine va_sld hx hb hX hbl hbA hS (by unfold vp_in; decide) dL_law_491 ?_
  refine lv_aload_n hx hb dL_law_492 rfl (lv_at hl 4 rfl) ?_
  refine lv_iload hx hb dL_law_493 (lv_at hl 0 rfl) ?_
  refine lv_iconst (v := 3) hx hb dL_law_495 (by decide) ?_
  refine lv_iadd hx hb dL_law_496 ?_
  refine g_nrm (y := 3) (by decide) ?_
  refine va_sld hx hb hX hbl hbA hS (by unfold vp_in; decide) dL_law_497 ?_
  refine lv_aload_n hx hb dL_law_498 rfl (lv_at hl 1 rfl) ?_
  refine g_SW (n := 5) (hh := [(0, 12, 15, 15)]) (As := [.ref h0, .int (xs (1 : Int32).toNatClampNeg), .int (xs (2 : Int32).toNatClampNeg), .int (xs (3 : Int32).toNatClampNeg), .ref o]) (rest := []) (wr := [(h1, .inr (11, [.int 0, .ref (am 0), .int 0, .int (-1), .int (-1), .int 0, .int 0, .int 0, .long 0, .int 0, .int 0, .ref (am 1), .ref (am 2), .ref (am 3), .ref (am 4), .ref (am 5), .ref (am 6), .int 0, .int 0, .ref (am 7), .ref (am 8), .ref (am 9), .ref (am 10), .int 0, .ref (am 11), .ref (am 12), .ref (am 13), .ref (am 14), .ref (am 15), .ref (am 16), .ref (am 17), .int 0, .int 0, .int 0, .int 0, .ref (am 18), .ref (am 19), .int 0, .int 0, .int 0, .int 0, .int 0, .int 0, .ref (am 20), .ref (am 21), .ref (am 22), .ref (am 23), .ref (am 24), .ref (am 25), .ref (am 26), .ref (am 27), .ref (am 28), .ref (am 29), .ref (am 30), .ref (am 31), .ref (am 32), .ref (am 33), .ref (am 34), .ref (am 35), .ref (am 36), .int 0, .ref (am 37), .int 0, .ref (am 38), .int 0, .int 0, .int 0, .ref (am 39), .ref (am 40), .ref (am 41), .ref (am 42), .ref (am 43), .ref (am 44), .int 0, .ref (am 45), .ref (am 46), .int 1, .int 0, .int 0, .ref (am 47), .int 0, .int 0, .int 0, .int 0, .int 0])), (am 20, .inl (dA 3, 3, .inl (fun _ => 0)))]) hx hb hml hg hown hZ hN hK hP hD hS hA (w_code l htr D dA h0 ad o g0 (xs (1 : Int32).toNatClampNeg) (xs (2 : Int32).toNatClampNeg) (xs (3 : Int32).toNatClampNeg) _) [0, 1, 2, 3, 4, 7] [5, 6] rfl (by decide) rfl (by decide) (by decide) q1505 q148 q1503 q1504 (by decide +kernel) ⟨(Nat.le_of_ble_eq_true rfl), (Nat.le_of_ble_eq_true rfl)⟩ rfl hl.1 rfl (Nat.le_of_ble_eq_true rfl) dL_law_499 ⟨(Nat.le_of_ble_eq_true rfl), (Nat.le_of_ble_eq_true rfl)⟩ (fun k g H locs hw hP hD hS => ?_)
  refine W.widen (k := 134) (n := 41145) (Nat.le_of_ble_eq_true rfl) (Nat.le_of_ble_eq_true rfl) ?_
  have hP : va_P D vwC [(h1, .inr (11, [.int 0, .ref (am 0), .int 0, .int (-1), .int (-1), .int 0, .int 0, .int 0, .long 0, .int 0, .int 0, .ref (am 1), .ref (am 2), .ref (am 3), .ref (am 4), .ref (am 5), .ref (am 6), .int 0, .int 0, .ref (am 7), .ref (am 8), .ref (am 9), .ref (am 10), .int 0, .ref (am 11), .ref (am 12), .ref (am 13), .ref (am 14), .ref (am 15), .ref (am 16), .ref (am 17), .int 0, .int 0, .int 0, .int 0, .ref (am 18), .ref (am 19), .int 0, .int 0, .int 0, .int 0, .int 0, .int 0, .ref (am 20), .ref (am 21), .ref (am 22), .ref (am 23), .ref (am 24), .ref (am 25), .ref (am 26), .ref (am 27), .ref (am 28), .ref (am 29), .ref (am 30), .ref (am 31), .ref (am 32), .ref (am 33), .ref (am 34), .ref (am 35), .ref (am 36), .int 0, .ref (am 37), .int 0, .ref (am 38), .int 0, .int 0, .int 0, .ref (am 39), .ref (am 40), .ref (am 41), .ref (am 42), .ref (am 43), .ref (am 44), .int 0, .ref (am 45), .ref (am 46), .int 1, .int 0, .int 0, .ref (am 47), .int 0, .int 0, .int 0, .int 0, .int 0])), (am 20, .inl (dA 3, 3, .inl (fun _ => 0))), (o, .inl (dA 1, 1, .inr (.inl g)))] H := hP
  have hD : va_D A [(h1, .inr (11, [.int 0, .ref (am 0), .int 0, .int (-1), .int (-1), .int 0, .int 0, .int 0, .long 0, .int 0, .int 0, .ref (am 1), .ref (am 2), .ref (am 3), .ref (am 4), .ref (am 5), .ref (am 6), .int 0, .int 0, .ref (am 7), .ref (am 8), .ref (am 9), .ref (am 10), .int 0, .ref (am 11), .ref (am 12), .ref (am 13), .ref (am 14), .ref (am 15), .ref (am 16), .ref (am 17), .int 0, .int 0, .int 0, .int 0, .ref (am 18), .ref (am 19), .int 0, .int 0, .int 0, .int 0, .int 0, .int 0, .ref (am 20), .ref (am 21), .ref (am 22), .ref (am 23), .ref (am 24), .ref (am 25), .ref (am 26), .ref (am 27), .ref (am 28), .ref (am 29), .ref (am 30), .ref (am 31), .ref (am 32), .ref (am 33), .ref (am 34), .ref (am 35), .ref (am 36), .int 0, .ref (am 37), .int 0, .ref (am 38), .int 0, .int 0, .int 0, .ref (am 39), .ref (am 40), .ref (am 41), .ref (am 42), .ref (am 43), .ref (am 44), .int 0, .ref (am 45), .ref (am 46), .int 1, .int 0, .int 0, .ref (am 47), .int 0, .int 0, .int 0, .int 0, .int 0])), (am 20, .inl (dA 3, 3, .inl (fun _ => 0))), (o, .inl (dA 1, 1, .inr (.inl g)))] := hD
  obtain rfl : k = 1 := hw
  refine lv_istore (lv' := [(5, .int 1), (4, .int 0), (3, .ref o), (2, .ref h1), (1, .ref h0), (0, .ref b)]) hx hb dL_law_502 hl (by decide) rfl (fun ls hl => ?_)
  refine lv_aload_n hx hb dL_law_504 rfl (lv_at hl 3 rfl) ?_
  refine lv_aload_n hx hb dL_law_505 rfl (lv_at hl 5 rfl) ?_
  refine lv_iload hx hb dL_law_506 (lv_at hl 1 rfl) ?_
  refine lv_iconst (v := 1) hx hb dL_law_508 (by decide) ?_
  refine lv_iadd hx hb dL_law_509 ?_
  refine g_nrm (y := 1) (by decide) ?_
  refine va_sld hx hb hX hbl hbA hS (by unfold vp_in; decide) dL_law_510 ?_
  refine lv_aload_n hx hb dL_law_511 rfl (lv_at hl 5 rfl) ?_
  refine lv_iload hx hb dL_law_512 (lv_at hl 1 rfl) ?_
  refine lv_iconst (v := 2) hx hb dL_law_514 (by decide) ?_
  refine lv_iadd hx hb dL_law_515 ?_
  refine g_nrm (y := 2) (by decide) ?_
  refine va_sld hx hb hX hbl hbA hS (by unfold vp_in; decide) dL_law_516 ?_
  refine lv_aload_n hx hb dL_law_517 rfl (lv_at hl 5 rfl) ?_
  refine lv_iload hx hb dL_law_518 (lv_at hl 1 rfl) ?_
  refine lv_iconst (v := 3) hx hb dL_law_520 (by decide) ?_
  refine lv_iadd hx hb dL_law_521 ?_
  refine g_nrm (y := 3) (by decide) ?_
  refine va_sld hx hb hX hbl hbA hS (by unfold vp_in; decide) dL_law_522 ?_
  refine g_Vi (n := 3) (As := [.int (xs (1 : Int32).toNatClampNeg), .int (xs (2 : Int32).toNatClampNeg), .int (xs (3 : Int32).toNatClampNeg)]) (rest := []) (wr := [(o, .inl (dA 1, 1, .inr (.inl g)))]) hx hb hml hg hown hK hP hD hS hA (c_X11_code l D dA h1 am (xs (1 : Int32).toNatClampNeg) (xs (2 : Int32).toNatClampNeg) (xs (3 : Int32).toNatClampNeg) _) [0, 1] [2] rfl (by decide) rfl (by decide) (by decide) 0 rfl rfl q2209 q160 q2206 q2207 q2208 (by decide +kernel) ⟨(Nat.le_of_ble_eq_true rfl), (Nat.le_of_ble_eq_true rfl)⟩ rfl hl.1 rfl (Nat.le_of_ble_eq_true rfl) dL_law_523 ⟨(Nat.le_of_ble_eq_true rfl), (Nat.le_of_ble_eq_true rfl)⟩ (fun r2 u H locs hw hP hD hS => ?_)
  refine W.widen (k := 134) (n := 41145) (Nat.le_of_ble_eq_true rfl) (Nat.le_of_ble_eq_true rfl) ?_
  have hP : va_P D vwC [(o, .inl (dA 1, 1, .inr (.inl g))), (h1, .inr (11, u))] H := hP
  have hD : va_D A [(o, .inl (dA 1, 1, .inr (.inl g))), (h1, .inr (11, u))] := hD
  obtain ⟨t, hf, hpm⟩ := hw
  obtain rfl : t = 1 := hpm
  refine lv_istore (lv' := [(6, .int r2), (5, .int 1), (4, .int 0), (3, .ref o), (2, .ref h1), (1, .ref h0), (0, .ref b)]) hx hb dL_law_526 hl (by decide) rfl (fun ls hl => ?_)
  refine lv_aload_n hx hb dL_law_528 rfl (lv_at hl 4 rfl) ?_
  refine g_Vi (n := 0) (As := []) (rest := []) (wr := [(o, .inl (dA 1, 1, .inr (.inl g)))]) hx hb hml hg hown hK hP hD hS hA (c_thrown l D dA h1 u 1 hf _) [1] [0] rfl (by decide) rfl (by decide) (by decide) 0 rfl rfl q1875 q160 q1872 q1873 q1874 (by decide +kernel) ⟨(Nat.le_of_ble_eq_true rfl), (Nat.le_of_ble_eq_true rfl)⟩ rfl hl.1 rfl (Nat.le_of_ble_eq_true rfl) dL_law_529 ⟨(Nat.le_of_ble_eq_true rfl), (Nat.le_of_ble_eq_true rfl)⟩ (fun r3 u2 H locs hw hP hD hS => ?_)
  refine W.widen (k := 134) (n := 41145) (Nat.le_of_ble_eq_true rfl) (Nat.le_of_ble_eq_true rfl) ?_
  have hP : va_P D vwC [(o, .inl (dA 1, 1, .inr (.inl g))), (h1, .inr (11, u))] H := hP
  have hD : va_D A [(o, .inl (dA 1, 1, .inr (.inl g))), (h1, .inr (11, u))] := hD
  obtain rfl : r3 = 1 := hw
  refine lv_iload hx hb dL_law_532 (lv_at hl 1 rfl) ?_
  refine lv_icmp_eq (tgt := 539) hx hb dL_law_534 (by decide) (fun _ => ?_) (fun h => absurd (by decide) h)
  refine lv_iload hx hb dL_law_539 (lv_at hl 1 rfl) ?_
  refine lv_if_ne (tgt := 556) hx hb dL_law_541 (by decide) (fun _ => ?_) (fun h => absurd h (by decide))
  refine lv_goto (tgt := 919) hx hb dL_law_556 (by decide) ?_
  refine lv_iinc (v := 4) (lv' := [(4, .int 4), (6, .int r2), (5, .int 1), (3, .ref o), (2, .ref h1), (1, .ref h0), (0, .ref b)]) hx hb dL_law_919 hl (k := 2) rfl (by decide) (by decide) rfl (fun ls hl => ?_)
  refine lv_goto (tgt := 23) hx hb dL_law_922 (by decide) ?_
  refine lv_iload hx hb dL_law_23 (lv_at hl 0 rfl) ?_
  refine lv_aload_n hx hb dL_law_25 rfl (lv_at hl 6 rfl) ?_
  refine va_slen hx hb hX hbl hbA hS dL_law_26 ?_
  refine g_nrm (y := 4) (by decide) ?_
  refine lv_iconst (v := 4) hx hb dL_law_27 (by decide) ?_
  refine lv_isub hx hb dL_law_28 ?_
  refine g_nrm (y := 0) (by decide) ?_
  refine lv_icmp_gt (tgt := 925) hx hb dL_law_29 (by decide) (fun _ => ?_) (fun h => absurd (by decide) h)
  refine lv_iconst (v := 1) hx hb dL_law_925 (by decide) ?_
  refine va_forget (fun q hq => hAf _ (hS.2.2 q hq)) ?_
  refine W.widen (k := 600006) (n := 7302024) (Nat.le_of_ble_eq_true rfl) (Nat.le_of_ble_eq_true rfl) ?_
  exact lw_ret hx hb hr hlocks dL_law_926
set_option maxHeartbeats 4000000 in
set_option maxRecDepth 100000 in
theorem law_fixup {p : Program} {e : Env} {s : State} {m : MethodId} {below : List Frame} {meth : Method} {c : Code} {l : Launch} (htr : l.stackTraces = false) {b : Nat} {xs : Nat → Int32} (hx : p.tables.exec = Jvm.exec) (hb : c.code = code) (hr : meth.sig.returnType = ret) (hml : c.maxLocals = 7) (hown : s.vm.findClass RL = some m.cls) (hg : ∀ w ∈ gw, w.before #[Value.ref b] s = true) (hX : va_X b 4 xs s s.heap) (hbl : b < s.heap.size) (hlocks : meth.locks = false) {D : va_G} {dA : Nat → ClassId} {A : Nat → Prop} (hA : ∀ q : Nat, s.heap.size ≤ q → A q) (hAf : ∀ q : Nat, A q → s.heap.size ≤ q) (hbA : ¬ A b) (hZ : gZ A s) (hN : gNc s) (hK : gK D dA s) {h0 : Nat} {ad : Nat → Nat} {h1 : Nat} {am : Nat → Nat} {o : Nat} {g0 : Nat → Int64} {H : Heap} {locs : List Loc} {ls : Array Slot} (hP : va_P D vwC [(h0, .inr (10, [.ref (ad 0), .int 0, .int (-1), .int (-1), .ref (ad 1), .ref (ad 2), .ref (ad 3), .ref (ad 4), .ref (ad 5), .ref (ad 6), .ref (ad 7), .ref (ad 8)])), (ad 5, .inl (dA 4, 3, .inr (.inr (.inr (.inr (gM (ad 29) (ad 30) (ad 31))))))), (ad 29, .inr (6, [.int 0, .int 0, .ref (ad 32), .ref (ad 33), .ref (ad 34), .ref (ad 35), .ref (ad 36), .int 0, .ref (ad 37), .ref (ad 38), .ref (ad 39), .ref (ad 40), .ref (ad 41), .int 0, .ref (ad 42), .ref (ad 43), .ref (ad 44)])), (ad 30, .inr (6, [.int 0, .int 0, .ref (ad 45), .ref (ad 46), .ref (ad 47), .ref (ad 48), .ref (ad 49), .int 0, .ref (ad 50), .ref (ad 51), .ref (ad 52), .ref (ad 53), .ref (ad 54), .int 0, .ref (ad 55), .ref (ad 56), .ref (ad 57)])), (ad 31, .inr (6, [.int 0, .int 0, .ref (ad 58), .ref (ad 59), .ref (ad 60), .ref (ad 61), .ref (ad 62), .int 0, .ref (ad 63), .ref (ad 64), .ref (ad 65), .ref (ad 66), .ref (ad 67), .int 0, .ref (ad 68), .ref (ad 69), .ref (ad 70)])), (h1, .inr (11, [.int 0, .ref (am 0), .int 0, .int (-1), .int (-1), .int 0, .int 0, .int 0, .long 0, .int 0, .int 0, .ref (am 1), .ref (am 2), .ref (am 3), .ref (am 4), .ref (am 5), .ref (am 6), .int 0, .int 0, .ref (am 7), .ref (am 8), .ref (am 9), .ref (am 10), .int 0, .ref (am 11), .ref (am 12), .ref (am 13), .ref (am 14), .ref (am 15), .ref (am 16), .ref (am 17), .int 0, .int 0, .int 0, .int 0, .ref (am 18), .ref (am 19), .int 0, .int 0, .int 0, .int 0, .int 0, .int 0, .ref (am 20), .ref (am 21), .ref (am 22), .ref (am 23), .ref (am 24), .ref (am 25), .ref (am 26), .ref (am 27), .ref (am 28), .ref (am 29), .ref (am 30), .ref (am 31), .ref (am 32), .ref (am 33), .ref (am 34), .ref (am 35), .ref (am 36), .int 0, .ref (am 37), .int 0, .ref (am 38), .int 0, .int 0, .int 0, .ref (am 39), .ref (am 40), .ref (am 41), .ref (am 42), .ref (am 43), .ref (am 44), .int 0, .ref (am 45), .ref (am 46), .int 1, .int 0, .int 0, .ref (am 47), .int 0, .int 0, .int 0, .int 0, .int 0])), (am 20, .inl (dA 3, 3, .inl (fun _ => 0))), (o, .inl (dA 1, 1, .inr (.inl g0)))] H) (hD : va_D A [(h0, .inr (10, [.ref (ad 0), .int 0, .int (-1), .int (-1), .ref (ad 1), .ref (ad 2), .ref (ad 3), .ref (ad 4), .ref (ad 5), .ref (ad 6), .ref (ad 7), .ref (ad 8)])), (ad 5, .inl (dA 4, 3, .inr (.inr (.inr (.inr (gM (ad 29) (ad 30) (ad 31))))))), (ad 29, .inr (6, [.int 0, .int 0, .ref (ad 32), .ref (ad 33), .ref (ad 34), .ref (ad 35), .ref (ad 36), .int 0, .ref (ad 37), .ref (ad 38), .ref (ad 39), .ref (ad 40), .ref (ad 41), .int 0, .ref (ad 42), .ref (ad 43), .ref (ad 44)])), (ad 30, .inr (6, [.int 0, .int 0, .ref (ad 45), .ref (ad 46), .ref (ad 47), .ref (ad 48), .ref (ad 49), .int 0, .ref (ad 50), .ref (ad 51), .ref (ad 52), .ref (ad 53), .ref (ad 54), .int 0, .ref (ad 55), .ref (ad 56), .ref (ad 57)])), (ad 31, .inr (6, [.int 0, .int 0, .ref (ad 58), .ref (ad 59), .ref (ad 60), .ref (ad 61), .ref (ad 62), .int 0, .ref (ad 63), .ref (ad 64), .ref (ad 65), .ref (ad 66), .ref (ad 67), .int 0, .ref (ad 68), .ref (ad 69), .ref (ad 70)])), (h1, .inr (11, [.int 0, .ref (am 0), .int 0, .int (-1), .int (-1), .int 0, .int 0, .int 0, .long 0, .int 0, .int 0, .ref (am 1), .ref (am 2), .ref (am 3), .ref (am 4), .ref (am 5), .ref (am 6), .int 0, .int 0, .ref (am 7), .ref (am 8), .ref (am 9), .ref (am 10), .int 0, .ref (am 11), .ref (am 12), .ref (am 13), .ref (am 14), .ref (am 15), .ref (am 16), .ref (am 17), .int 0, .int 0, .int 0, .int 0, .ref (am 18), .ref (am 19), .int 0, .int 0, .int 0, .int 0, .int 0, .int 0, .ref (am 20), .ref (am 21), .ref (am 22), .ref (am 23), .ref (am 24), .ref (am 25), .ref (am 26), .ref (am 27), .ref (am 28), .ref (am 29), .ref (am 30), .ref (am 31), .ref (am 32), .ref (am 33), .ref (am 34), .ref (am 35), .ref (am 36), .int 0, .ref (am 37), .int 0, .ref (am 38), .int 0, .int 0, .int 0, .ref (am 39), .ref (am 40), .ref (am 41), .ref (am 42), .ref (am 43), .ref (am 44), .int 0, .ref (am 45), .ref (am 46), .int 1, .int 0, .int 0, .ref (am 47), .int 0, .int 0, .int 0, .int 0, .int 0])), (am 20, .inl (dA 3, 3, .inl (fun _ => 0))), (o, .inl (dA 1, 1, .inr (.inl g0)))]) (hS : va_S A s.heap H locs) (hl : lv_has ls 7 [(4, .int 0), (3, .ref o), (2, .ref h1), (1, .ref h0), (0, .ref b)]) : W p l e room_1 s m #[Value.ref b] below meth c H locs 133 41139 (lw_Z below #[Value.ref b] s) (F0 m 559 ls []) := by
  refine lv_aload_n hx hb dL_law_559 rfl (lv_at hl 3 rfl) ?_
  refine lv_aload_n hx hb dL_law_560 rfl (lv_at hl 4 rfl) ?_
  refine lv_iload hx hb dL_law_561 (lv_at hl 0 rfl) ?_
  refine lv_iconst (v := 1) hx hb dL_law_563 (by decide) ?_
  refine lv_iadd hx hb dL_law_564 ?_
  refine g_nrm (y := 1) (by decide) ?_
  refine va_sld hx hb hX hbl hbA hS (by unfold vp_in; decide) dL_law_565 ?_
  refine lv_aload_n hx hb dL_law_566 rfl (lv_at hl 4 rfl) ?_
  refine lv_iload hx hb dL_law_567 (lv_at hl 0 rfl) ?_
  refine lv_iconst (v := 2) hx hb dL_law_569 (by decide) ?_
  refine lv_iadd hx hb dL_law_570 ?_
  refine g_nrm (y := 2) (by decide) ?_
  refine va_sld hx hb hX hbl hbA hS (by unfold vp_in; decide) dL_law_571 ?_
  refine lv_aload_n hx hb dL_law_572 rfl (lv_at hl 4 rfl) ?_
  refine lv_iload hx hb dL_law_573 (lv_at hl 0 rfl) ?_
  refine lv_iconst (v := 3) hx hb dL_law_575 (by decide) ?_
  refine lv_iadd hx hb dL_law_576 ?_
  refine g_nrm (y := 3) (by decide) ?_
  refine va_sld hx hb hX hbl hbA hS (by unfold vp_in; decide) dL_law_577 ?_
  refine lv_aload_n hx hb dL_law_578 rfl (lv_at hl 1 rfl) ?_
  refine g_SW (n := 5) (hh := [(0, 12, 15, 13), (0, 12, 19, 15)]) (As := [.ref h0, .int (xs (1 : Int32).toNatClampNeg), .int (xs (2 : Int32).toNatClampNeg), .int (xs (3 : Int32).toNatClampNeg), .ref o]) (rest := []) (wr := [(h1, .inr (11, [.int 0, .ref (am 0), .int 0, .int (-1), .int (-1), .int 0, .int 0, .int 0, .long 0, .int 0, .int 0, .ref (am 1), .ref (am 2), .ref (am 3), .ref (am 4), .ref (am 5), .ref (am 6), .int 0, .int 0, .ref (am 7), .ref (am 8), .ref (am 9), .ref (am 10), .int 0, .ref (am 11), .ref (am 12), .ref (am 13), .ref (am 14), .ref (am 15), .ref (am 16), .ref (am 17), .int 0, .int 0, .int 0, .int 0, .ref (am 18), .ref (am 19), .int 0, .int 0, .int 0, .int 0, .int 0, .int 0, .ref (am 20), .ref (am 21), .ref (am 22), .ref (am 23), .ref (am 24), .ref (am 25), .ref (am 26), .ref (am 27), .ref (am 28), .ref (am 29), .ref (am 30), .ref (am 31), .ref (am 32), .ref (am 33), .ref (am 34), .ref (am 35), .ref (am 36), .int 0, .ref (am 37), .int 0, .ref (am 38), .int 0, .int 0, .int 0, .ref (am 39), .ref (am 40), .ref (am 41), .ref (am 42), .ref (am 43), .ref (am 44), .int 0, .ref (am 45), .ref (am 46), .int 1, .int 0, .int 0, .ref (am 47), .int 0, .int 0, .int 0, .int 0, .int 0])), (am 20, .inl (dA 3, 3, .inl (fun _ => 0)))]) hx hb hml hg hown hZ hN hK hP hD hS hA (w_fixup l htr D dA h0 ad o g0 (xs (1 : Int32).toNatClampNeg) (xs (2 : Int32).toNatClampNeg) (xs (3 : Int32).toNatClampNeg) _) [0, 1, 2, 3, 4, 7] [5, 6] rfl (by decide) rfl (by decide) (by decide) q1515 q148 q1513 q1514 (by decide +kernel) ⟨(Nat.le_of_ble_eq_true rfl), (Nat.le_of_ble_eq_true rfl)⟩ rfl hl.1 rfl (Nat.le_of_ble_eq_true rfl) dL_law_579 ⟨(Nat.le_of_ble_eq_true rfl), (Nat.le_of_ble_eq_true rfl)⟩ (fun k g H locs hw hP hD hS => ?_)
  refine W.widen (k := 134) (n := 41145) (Nat.le_of_ble_eq_true rfl) (Nat.le_of_ble_eq_true rfl) ?_
  have hP : va_P D vwC [(h1, .inr (11, [.int 0, .ref (am 0), .int 0, .int (-1), .int (-1), .int 0, .int 0, .int 0, .long 0, .int 0, .int 0, .ref (am 1), .ref (am 2), .ref (am 3), .ref (am 4), .ref (am 5), .ref (am 6), .int 0, .int 0, .ref (am 7), .ref (am 8), .ref (am 9), .ref (am 10), .int 0, .ref (am 11), .ref (am 12), .ref (am 13), .ref (am 14), .ref (am 15), .ref (am 16), .ref (am 17), .int 0, .int 0, .int 0, .int 0, .ref (am 18), .ref (am 19), .int 0, .int 0, .int 0, .int 0, .int 0, .int 0, .ref (am 20), .ref (am 21), .ref (am 22), .ref (am 23), .ref (am 24), .ref (am 25), .ref (am 26), .ref (am 27), .ref (am 28), .ref (am 29), .ref (am 30), .ref (am 31), .ref (am 32), .ref (am 33), .ref (am 34), .ref (am 35), .ref (am 36), .int 0, .ref (am 37), .int 0, .ref (am 38), .int 0, .int 0, .int 0, .ref (am 39), .ref (am 40), .ref (am 41), .ref (am 42), .ref (am 43), .ref (am 44), .int 0, .ref (am 45), .ref (am 46), .int 1, .int 0, .int 0, .ref (am 47), .int 0, .int 0, .int 0, .int 0, .int 0])), (am 20, .inl (dA 3, 3, .inl (fun _ => 0))), (o, .inl (dA 1, 1, .inr (.inl g)))] H := hP
  have hD : va_D A [(h1, .inr (11, [.int 0, .ref (am 0), .int 0, .int (-1), .int (-1), .int 0, .int 0, .int 0, .long 0, .int 0, .int 0, .ref (am 1), .ref (am 2), .ref (am 3), .ref (am 4), .ref (am 5), .ref (am 6), .int 0, .int 0, .ref (am 7), .ref (am 8), .ref (am 9), .ref (am 10), .int 0, .ref (am 11), .ref (am 12), .ref (am 13), .ref (am 14), .ref (am 15), .ref (am 16), .ref (am 17), .int 0, .int 0, .int 0, .int 0, .ref (am 18), .ref (am 19), .int 0, .int 0, .int 0, .int 0, .int 0, .int 0, .ref (am 20), .ref (am 21), .ref (am 22), .ref (am 23), .ref (am 24), .ref (am 25), .ref (am 26), .ref (am 27), .ref (am 28), .ref (am 29), .ref (am 30), .ref (am 31), .ref (am 32), .ref (am 33), .ref (am 34), .ref (am 35), .ref (am 36), .int 0, .ref (am 37), .int 0, .ref (am 38), .int 0, .int 0, .int 0, .ref (am 39), .ref (am 40), .ref (am 41), .ref (am 42), .ref (am 43), .ref (am 44), .int 0, .ref (am 45), .ref (am 46), .int 1, .int 0, .int 0, .ref (am 47), .int 0, .int 0, .int 0, .int 0, .int 0])), (am 20, .inl (dA 3, 3, .inl (fun _ => 0))), (o, .inl (dA 1, 1, .inr (.inl g)))] := hD
  rcases hw with ⟨rfl, hq⟩ | ⟨rfl, hq⟩
  · refine lv_istore (lv' := [(5, .int 1), (4, .int 0), (3, .ref o), (2, .ref h1), (1, .ref h0), (0, .ref b)]) hx hb dL_law_582 hl (by decide) rfl (fun ls hl => ?_)
    refine lv_aload_n hx hb dL_law_584 rfl (lv_at hl 3 rfl) ?_
    refine lv_aload_n hx hb dL_law_585 rfl (lv_at hl 5 rfl) ?_
    refine lv_iload hx hb dL_law_586 (lv_at hl 1 rfl) ?_
    refine lv_iconst (v := 1) hx hb dL_law_588 (by decide) ?_
    refine lv_iadd hx hb dL_law_589 ?_
    refine g_nrm (y := 1) (by decide) ?_
    refine va_sld hx hb hX hbl hbA hS (by unfold vp_in; decide) dL_law_590 ?_
    refine lv_aload_n hx hb dL_law_591 rfl (lv_at hl 5 rfl) ?_
    refine lv_iload hx hb dL_law_592 (lv_at hl 1 rfl) ?_
    refine lv_iconst (v := 2) hx hb dL_law_594 (by decide) ?_
    refine lv_iadd hx hb dL_law_595 ?_
    refine g_nrm (y := 2) (by decide) ?_
    refine va_sld hx hb hX hbl hbA hS (by unfold vp_in; decide) dL_law_596 ?_
    refine lv_aload_n hx hb dL_law_597 rfl (lv_at hl 5 rfl) ?_
    refine lv_iload hx hb dL_law_598 (lv_at hl 1 rfl) ?_
    refine lv_iconst (v := 3) hx hb dL_law_600 (by decide) ?_
    refine lv_iadd hx hb dL_law_601 ?_
    refine g_nrm (y := 3) (by decide) ?_
    refine va_sld hx hb hX hbl hbA hS (by unfold vp_in; decide) dL_law_602 ?_
    refine g_Vi (n := 3) (As := [.int (xs (1 : Int32).toNatClampNeg), .int (xs (2 : Int32).toNatClampNeg), .int (xs (3 : Int32).toNatClampNeg)]) (rest := []) (wr := [(o, .inl (dA 1, 1, .inr (.inl g)))]) hx hb hml hg hown hK hP hD hS hA (c_X11_fixup l D dA h1 am (xs (1 : Int32).toNatClampNeg) (xs (2 : Int32).toNatClampNeg) (xs (3 : Int32).toNatClampNeg) _) [0, 1] [2] rfl (by decide) rfl (by decide) (by decide) 0 rfl rfl q2213 q160 q2210 q2211 q2212 (by decide +kernel) ⟨(Nat.le_of_ble_eq_true rfl), (Nat.le_of_ble_eq_true rfl)⟩ rfl hl.1 rfl (Nat.le_of_ble_eq_true rfl) dL_law_603 ⟨(Nat.le_of_ble_eq_true rfl), (Nat.le_of_ble_eq_true rfl)⟩ (fun r2 u H locs hw hP hD hS => ?_)
    refine W.widen (k := 134) (n := 41145) (Nat.le_of_ble_eq_true rfl) (Nat.le_of_ble_eq_true rfl) ?_
    have hP : va_P D vwC [(o, .inl (dA 1, 1, .inr (.inl g))), (h1, .inr (11, u))] H := hP
    have hD : va_D A [(o, .inl (dA 1, 1, .inr (.inl g))), (h1, .inr (11, u))] := hD
    obtain ⟨t, hf, hpm⟩ := hw
    rcases hpm with ⟨rfl, hp2⟩ | ⟨rfl, hp2⟩
    · refine lv_istore (lv' := [(6, .int r2), (5, .int 1), (4, .int 0), (3, .ref o), (2, .ref h1), (1, .ref h0), (0, .ref b)]) hx hb dL_law_606 hl (by decide) rfl (fun ls hl => ?_)
      refine lv_aload_n hx hb dL_law_608 rfl (lv_at hl 4 rfl) ?_
      refine g_Vi (n := 0) (As := []) (rest := []) (wr := [(o, .inl (dA 1, 1, .inr (.inl g)))]) hx hb hml hg hown hK hP hD hS hA (c_thrown l D dA h1 u 1 hf _) [1] [0] rfl (by decide) rfl (by decide) (by decide) 0 rfl rfl q1875 q160 q1872 q1873 q1874 (by decide +kernel) ⟨(Nat.le_of_ble_eq_true rfl), (Nat.le_of_ble_eq_true rfl)⟩ rfl hl.1 rfl (Nat.le_of_ble_eq_true rfl) dL_law_609 ⟨(Nat.le_of_ble_eq_true rfl), (Nat.le_of_ble_eq_true rfl)⟩ (fun r3 u2 H locs hw hP hD hS => ?_)
      refine W.widen (k := 134) (n := 41145) (Nat.le_of_ble_eq_true rfl) (Nat.le_of_ble_eq_true rfl) ?_
      have hP : va_P D vwC [(o, .inl (dA 1, 1, .inr (.inl g))), (h1, .inr (11, u))] H := hP
      have hD : va_D A [(o, .inl (dA 1, 1, .inr (.inl g))), (h1, .inr (11, u))] := hD
      obtain rfl : r3 = 1 := hw
      refine lv_iload hx hb dL_law_612 (lv_at hl 1 rfl) ?_
      refine lv_icmp_eq (tgt := 619) hx hb dL_law_614 (by decide) (fun _ => ?_) (fun h => absurd (by decide) h)
      refine lv_iload hx hb dL_law_619 (lv_at hl 1 rfl) ?_
      refine lv_if_ne (tgt := 636) hx hb dL_law_621 (by decide) (fun _ => ?_) (fun h => absurd h (by decide))
      refine lv_goto (tgt := 919) hx hb dL_law_636 (by decide) ?_
      refine lv_iinc (v := 4) (lv' := [(4, .int 4), (6, .int r2), (5, .int 1), (3, .ref o), (2, .ref h1), (1, .ref h0), (0, .ref b)]) hx hb dL_law_919 hl (k := 2) rfl (by decide) (by decide) rfl (fun ls hl => ?_)
      refine lv_goto (tgt := 23) hx hb dL_law_922 (by decide) ?_
      refine lv_iload hx hb dL_law_23 (lv_at hl 0 rfl) ?_
      refine lv_aload_n hx hb dL_law_25 rfl (lv_at hl 6 rfl) ?_
      refine va_slen hx hb hX hbl hbA hS dL_law_26 ?_
      refine g_nrm (y := 4) (by decide) ?_
      refine lv_iconst (v := 4) hx hb dL_law_27 (by decide) ?_
      refine lv_isub hx hb dL_law_28 ?_
      refine g_nrm (y := 0) (by decide) ?_
      refine lv_icmp_gt (tgt := 925) hx hb dL_law_29 (by decide) (fun _ => ?_) (fun h => absurd (by decide) h)
      refine lv_iconst (v := 1) hx hb dL_law_925 (by decide) ?_
      refine va_forget (fun q hq => hAf _ (hS.2.2 q hq)) ?_
      refine W.widen (k := 600006) (n := 7302024) (Nat.le_of_ble_eq_true rfl) (Nat.le_of_ble_eq_true rfl) ?_
      exact lw_ret hx hb hr hlocks dL_law_926
    · exact absurd hp2 hq
  · refine lv_istore (lv' := [(5, .int 2), (4, .int 0), (3, .ref o), (2, .ref h1), (1, .ref h0), (0, .ref b)]) hx hb dL_law_582 hl (by decide) rfl (fun ls hl => ?_)
    refine lv_aload_n hx hb dL_law_584 rfl (lv_at hl 3 rfl) ?_
    refine lv_aload_n hx hb dL_law_585 rfl (lv_at hl 5 rfl) ?_
    refine lv_iload hx hb dL_law_586 (lv_at hl 1 rfl) ?_
    refine lv_iconst (v := 1) hx hb dL_law_588 (by decide) ?_
    refine lv_iadd hx hb dL_law_589 ?_
    refine g_nrm (y := 1) (by decide) ?_
    refine va_sld hx hb hX hbl hbA hS (by unfold vp_in; decide) dL_law_590 ?_
    refine lv_aload_n hx hb dL_law_591 rfl (lv_at hl 5 rfl) ?_
    refine lv_iload hx hb dL_law_592 (lv_at hl 1 rfl) ?_
    refine lv_iconst (v := 2) hx hb dL_law_594 (by decide) ?_
    refine lv_iadd hx hb dL_law_595 ?_
    refine g_nrm (y := 2) (by decide) ?_
    refine va_sld hx hb hX hbl hbA hS (by unfold vp_in; decide) dL_law_596 ?_
    refine lv_aload_n hx hb dL_law_597 rfl (lv_at hl 5 rfl) ?_
    refine lv_iload hx hb dL_law_598 (lv_at hl 1 rfl) ?_
    refine lv_iconst (v := 3) hx hb dL_law_600 (by decide) ?_
    refine lv_iadd hx hb dL_law_601 ?_
    refine g_nrm (y := 3) (by decide) ?_
    refine va_sld hx hb hX hbl hbA hS (by unfold vp_in; decide) dL_law_602 ?_
    refine g_Vi (n := 3) (As := [.int (xs (1 : Int32).toNatClampNeg), .int (xs (2 : Int32).toNatClampNeg), .int (xs (3 : Int32).toNatClampNeg)]) (rest := []) (wr := [(o, .inl (dA 1, 1, .inr (.inl g)))]) hx hb hml hg hown hK hP hD hS hA (c_X11_fixup l D dA h1 am (xs (1 : Int32).toNatClampNeg) (xs (2 : Int32).toNatClampNeg) (xs (3 : Int32).toNatClampNeg) _) [0, 1] [2] rfl (by decide) rfl (by decide) (by decide) 0 rfl rfl q2213 q160 q2210 q2211 q2212 (by decide +kernel) ⟨(Nat.le_of_ble_eq_true rfl), (Nat.le_of_ble_eq_true rfl)⟩ rfl hl.1 rfl (Nat.le_of_ble_eq_true rfl) dL_law_603 ⟨(Nat.le_of_ble_eq_true rfl), (Nat.le_of_ble_eq_true rfl)⟩ (fun r2 u H locs hw hP hD hS => ?_)
    refine W.widen (k := 134) (n := 41145) (Nat.le_of_ble_eq_true rfl) (Nat.le_of_ble_eq_true rfl) ?_
    have hP : va_P D vwC [(o, .inl (dA 1, 1, .inr (.inl g))), (h1, .inr (11, u))] H := hP
    have hD : va_D A [(o, .inl (dA 1, 1, .inr (.inl g))), (h1, .inr (11, u))] := hD
    obtain ⟨t, hf, hpm⟩ := hw
    rcases hpm with ⟨rfl, hp2⟩ | ⟨rfl, hp2⟩
    · exact absurd hq hp2
    · refine lv_istore (lv' := [(6, .int r2), (5, .int 2), (4, .int 0), (3, .ref o), (2, .ref h1), (1, .ref h0), (0, .ref b)]) hx hb dL_law_606 hl (by decide) rfl (fun ls hl => ?_)
      refine lv_aload_n hx hb dL_law_608 rfl (lv_at hl 4 rfl) ?_
      refine g_Vi (n := 0) (As := []) (rest := []) (wr := [(o, .inl (dA 1, 1, .inr (.inl g)))]) hx hb hml hg hown hK hP hD hS hA (c_thrown l D dA h1 u 2 hf _) [1] [0] rfl (by decide) rfl (by decide) (by decide) 0 rfl rfl q1875 q160 q1872 q1873 q1874 (by decide +kernel) ⟨(Nat.le_of_ble_eq_true rfl), (Nat.le_of_ble_eq_true rfl)⟩ rfl hl.1 rfl (Nat.le_of_ble_eq_true rfl) dL_law_609 ⟨(Nat.le_of_ble_eq_true rfl), (Nat.le_of_ble_eq_true rfl)⟩ (fun r3 u2 H locs hw hP hD hS => ?_)
      refine W.widen (k := 134) (n := 41145) (Nat.le_of_ble_eq_true rfl) (Nat.le_of_ble_eq_true rfl) ?_
      have hP : va_P D vwC [(o, .inl (dA 1, 1, .inr (.inl g))), (h1, .inr (11, u))] H := hP
      have hD : va_D A [(o, .inl (dA 1, 1, .inr (.inl g))), (h1, .inr (11, u))] := hD
      obtain rfl : r3 = 2 := hw
      refine lv_iload hx hb dL_law_612 (lv_at hl 1 rfl) ?_
      refine lv_icmp_eq (tgt := 619) hx hb dL_law_614 (by decide) (fun _ => ?_) (fun h => absurd (by decide) h)
      refine lv_iload hx hb dL_law_619 (lv_at hl 1 rfl) ?_
      refine lv_if_ne (tgt := 636) hx hb dL_law_621 (by decide) (fun _ => ?_) (fun h => absurd h (by decide))
      refine lv_goto (tgt := 919) hx hb dL_law_636 (by decide) ?_
      refine lv_iinc (v := 4) (lv' := [(4, .int 4), (6, .int r2), (5, .int 2), (3, .ref o), (2, .ref h1), (1, .ref h0), (0, .ref b)]) hx hb dL_law_919 hl (k := 2) rfl (by decide) (by decide) rfl (fun ls hl => ?_)
      refine lv_goto (tgt := 23) hx hb dL_law_922 (by decide) ?_
      refine lv_iload hx hb dL_law_23 (lv_at hl 0 rfl) ?_
      refine lv_aload_n hx hb dL_law_25 rfl (lv_at hl 6 rfl) ?_
      refine va_slen hx hb hX hbl hbA hS dL_law_26 ?_
      refine g_nrm (y := 4) (by decide) ?_
      refine lv_iconst (v := 4) hx hb dL_law_27 (by decide) ?_
      refine lv_isub hx hb dL_law_28 ?_
      refine g_nrm (y := 0) (by decide) ?_
      refine lv_icmp_gt (tgt := 925) hx hb dL_law_29 (by decide) (fun _ => ?_) (fun h => absurd (by decide) h)
      refine lv_iconst (v := 1) hx hb dL_law_925 (by decide) ?_
      refine va_forget (fun q hq => hAf _ (hS.2.2 q hq)) ?_
      refine W.widen (k := 600006) (n := 7302024) (Nat.le_of_ble_eq_true rfl) (Nat.le_of_ble_eq_true rfl) ?_
      exact lw_ret hx hb hr hlocks dL_law_926
set_option maxHeartbeats 4000000 in
set_option maxRecDepth 100000 in
theorem law_image {p : Program} {e : Env} {s : State} {m : MethodId} {below : List Frame} {meth : Method} {c : Code} {l : Launch} (htr : l.stackTraces = false) {b : Nat} {xs : Nat → Int32} (hx : p.tables.exec = Jvm.exec) (hb : c.code = code) (hr : meth.sig.returnType = ret) (hml : c.maxLocals = 7) (hown : s.vm.findClass RL = some m.cls) (hg : ∀ w ∈ gw, w.before #[Value.ref b] s = true) (hX : va_X b 4 xs s s.heap) (hbl : b < s.heap.size) (hlocks : meth.locks = false) {D : va_G} {dA : Nat → ClassId} {A : Nat → Prop} (hA : ∀ q : Nat, s.heap.size ≤ q → A q) (hAf : ∀ q : Nat, A q → s.heap.size ≤ q) (hbA : ¬ A b) (hZ : gZ A s) (hN : gNc s) (hK : gK D dA s) {h0 : Nat} {ad : Nat → Nat} {h1 : Nat} {am : Nat → Nat} {o : Nat} {g0 : Nat → Int64} {H : Heap} {locs : List Loc} {ls : Array Slot} (hP : va_P D vwC [(h0, .inr (10, [.ref (ad 0), .int 0, .int (-1), .int (-1), .ref (ad 1), .ref (ad 2), .ref (ad 3), .ref (ad 4), .ref (ad 5), .ref (ad 6), .ref (ad 7), .ref (ad 8)])), (ad 7, .inr (1, [.int 0, .int 0, .ref (ad 76), .int 0, .ref (ad 77), .int 0, .int 0])), (h1, .inr (11, [.int 0, .ref (am 0), .int 0, .int (-1), .int (-1), .int 0, .int 0, .int 0, .long 0, .int 0, .int 0, .ref (am 1), .ref (am 2), .ref (am 3), .ref (am 4), .ref (am 5), .ref (am 6), .int 0, .int 0, .ref (am 7), .ref (am 8), .ref (am 9), .ref (am 10), .int 0, .ref (am 11), .ref (am 12), .ref (am 13), .ref (am 14), .ref (am 15), .ref (am 16), .ref (am 17), .int 0, .int 0, .int 0, .int 0, .ref (am 18), .ref (am 19), .int 0, .int 0, .int 0, .int 0, .int 0, .int 0, .ref (am 20), .ref (am 21), .ref (am 22), .ref (am 23), .ref (am 24), .ref (am 25), .ref (am 26), .ref (am 27), .ref (am 28), .ref (am 29), .ref (am 30), .ref (am 31), .ref (am 32), .ref (am 33), .ref (am 34), .ref (am 35), .ref (am 36), .int 0, .ref (am 37), .int 0, .ref (am 38), .int 0, .int 0, .int 0, .ref (am 39), .ref (am 40), .ref (am 41), .ref (am 42), .ref (am 43), .ref (am 44), .int 0, .ref (am 45), .ref (am 46), .int 1, .int 0, .int 0, .ref (am 47), .int 0, .int 0, .int 0, .int 0, .int 0])), (o, .inl (dA 1, 1, .inr (.inl g0)))] H) (hD : va_D A [(h0, .inr (10, [.ref (ad 0), .int 0, .int (-1), .int (-1), .ref (ad 1), .ref (ad 2), .ref (ad 3), .ref (ad 4), .ref (ad 5), .ref (ad 6), .ref (ad 7), .ref (ad 8)])), (ad 7, .inr (1, [.int 0, .int 0, .ref (ad 76), .int 0, .ref (ad 77), .int 0, .int 0])), (h1, .inr (11, [.int 0, .ref (am 0), .int 0, .int (-1), .int (-1), .int 0, .int 0, .int 0, .long 0, .int 0, .int 0, .ref (am 1), .ref (am 2), .ref (am 3), .ref (am 4), .ref (am 5), .ref (am 6), .int 0, .int 0, .ref (am 7), .ref (am 8), .ref (am 9), .ref (am 10), .int 0, .ref (am 11), .ref (am 12), .ref (am 13), .ref (am 14), .ref (am 15), .ref (am 16), .ref (am 17), .int 0, .int 0, .int 0, .int 0, .ref (am 18), .ref (am 19), .int 0, .int 0, .int 0, .int 0, .int 0, .int 0, .ref (am 20), .ref (am 21), .ref (am 22), .ref (am 23), .ref (am 24), .ref (am 25), .ref (am 26), .ref (am 27), .ref (am 28), .ref (am 29), .ref (am 30), .ref (am 31), .ref (am 32), .ref (am 33), .ref (am 34), .ref (am 35), .ref (am 36), .int 0, .ref (am 37), .int 0, .ref (am 38), .int 0, .int 0, .int 0, .ref (am 39), .ref (am 40), .ref (am 41), .ref (am 42), .ref (am 43), .ref (am 44), .int 0, .ref (am 45), .ref (am 46), .int 1, .int 0, .int 0, .ref (am 47), .int 0, .int 0, .int 0, .int 0, .int 0])), (o, .inl (dA 1, 1, .inr (.inl g0)))]) (hS : va_S A s.heap H locs) (hl : lv_has ls 7 [(4, .int 0), (3, .ref o), (2, .ref h1), (1, .ref h0), (0, .ref b)]) : W p l e room_1 s m #[Value.ref b] below meth c H locs 133 41139 (lw_Z below #[Value.ref b] s) (F0 m 639 ls []) := by
  refine lv_aload_n hx hb dL_law_639 rfl (lv_at hl 3 rfl) ?_
  refine lv_aload_n hx hb dL_law_640 rfl (lv_at hl 4 rfl) ?_
  refine lv_iload hx hb dL_law_641 (lv_at hl 0 rfl) ?_
  refine lv_iconst (v := 1) hx hb dL_law_643 (by decide) ?_
  refine lv_iadd hx hb dL_law_644 ?_
  refine g_nrm (y := 1) (by decide) ?_
  refine va_sld hx hb hX hbl hbA hS (by unfold vp_in; decide) dL_law_645 ?_
  refine lv_aload_n hx hb dL_law_646 rfl (lv_at hl 1 rfl) ?_
  refine g_SW (n := 3) (hh := [(0, 9, 12, 15)]) (As := [.ref h0, .int (xs (1 : Int32).toNatClampNeg), .ref o]) (rest := []) (wr := [(h1, .inr (11, [.int 0, .ref (am 0), .int 0, .int (-1), .int (-1), .int 0, .int 0, .int 0, .long 0, .int 0, .int 0, .ref (am 1), .ref (am 2), .ref (am 3), .ref (am 4), .ref (am 5), .ref (am 6), .int 0, .int 0, .ref (am 7), .ref (am 8), .ref (am 9), .ref (am 10), .int 0, .ref (am 11), .ref (am 12), .ref (am 13), .ref (am 14), .ref (am 15), .ref (am 16), .ref (am 17), .int 0, .int 0, .int 0, .int 0, .ref (am 18), .ref (am 19), .int 0, .int 0, .int 0, .int 0, .int 0, .int 0, .ref (am 20), .ref (am 21), .ref (am 22), .ref (am 23), .ref (am 24), .ref (am 25), .ref (am 26), .ref (am 27), .ref (am 28), .ref (am 29), .ref (am 30), .ref (am 31), .ref (am 32), .ref (am 33), .ref (am 34), .ref (am 35), .ref (am 36), .int 0, .ref (am 37), .int 0, .ref (am 38), .int 0, .int 0, .int 0, .ref (am 39), .ref (am 40), .ref (am 41), .ref (am 42), .ref (am 43), .ref (am 44), .int 0, .ref (am 45), .ref (am 46), .int 1, .int 0, .int 0, .ref (am 47), .int 0, .int 0, .int 0, .int 0, .int 0]))]) hx hb hml hg hown hZ hN hK hP hD hS hA (w_image l htr D dA h0 ad o g0 (xs (1 : Int32).toNatClampNeg) _) [0, 1, 3] [2] rfl (by decide) rfl (by decide) (by decide) q1524 q148 q1522 q1523 (by decide +kernel) ⟨(Nat.le_of_ble_eq_true rfl), (Nat.le_of_ble_eq_true rfl)⟩ rfl hl.1 rfl (Nat.le_of_ble_eq_true rfl) dL_law_647 ⟨(Nat.le_of_ble_eq_true rfl), (Nat.le_of_ble_eq_true rfl)⟩ (fun k g H locs hw hP hD hS => ?_)
  refine W.widen (k := 134) (n := 41145) (Nat.le_of_ble_eq_true rfl) (Nat.le_of_ble_eq_true rfl) ?_
  have hP : va_P D vwC [(h1, .inr (11, [.int 0, .ref (am 0), .int 0, .int (-1), .int (-1), .int 0, .int 0, .int 0, .long 0, .int 0, .int 0, .ref (am 1), .ref (am 2), .ref (am 3), .ref (am 4), .ref (am 5), .ref (am 6), .int 0, .int 0, .ref (am 7), .ref (am 8), .ref (am 9), .ref (am 10), .int 0, .ref (am 11), .ref (am 12), .ref (am 13), .ref (am 14), .ref (am 15), .ref (am 16), .ref (am 17), .int 0, .int 0, .int 0, .int 0, .ref (am 18), .ref (am 19), .int 0, .int 0, .int 0, .int 0, .int 0, .int 0, .ref (am 20), .ref (am 21), .ref (am 22), .ref (am 23), .ref (am 24), .ref (am 25), .ref (am 26), .ref (am 27), .ref (am 28), .ref (am 29), .ref (am 30), .ref (am 31), .ref (am 32), .ref (am 33), .ref (am 34), .ref (am 35), .ref (am 36), .int 0, .ref (am 37), .int 0, .ref (am 38), .int 0, .int 0, .int 0, .ref (am 39), .ref (am 40), .ref (am 41), .ref (am 42), .ref (am 43), .ref (am 44), .int 0, .ref (am 45), .ref (am 46), .int 1, .int 0, .int 0, .ref (am 47), .int 0, .int 0, .int 0, .int 0, .int 0])), (o, .inl (dA 1, 1, .inr (.inl g)))] H := hP
  have hD : va_D A [(h1, .inr (11, [.int 0, .ref (am 0), .int 0, .int (-1), .int (-1), .int 0, .int 0, .int 0, .long 0, .int 0, .int 0, .ref (am 1), .ref (am 2), .ref (am 3), .ref (am 4), .ref (am 5), .ref (am 6), .int 0, .int 0, .ref (am 7), .ref (am 8), .ref (am 9), .ref (am 10), .int 0, .ref (am 11), .ref (am 12), .ref (am 13), .ref (am 14), .ref (am 15), .ref (am 16), .ref (am 17), .int 0, .int 0, .int 0, .int 0, .ref (am 18), .ref (am 19), .int 0, .int 0, .int 0, .int 0, .int 0, .int 0, .ref (am 20), .ref (am 21), .ref (am 22), .ref (am 23), .ref (am 24), .ref (am 25), .ref (am 26), .ref (am 27), .ref (am 28), .ref (am 29), .ref (am 30), .ref (am 31), .ref (am 32), .ref (am 33), .ref (am 34), .ref (am 35), .ref (am 36), .int 0, .ref (am 37), .int 0, .ref (am 38), .int 0, .int 0, .int 0, .ref (am 39), .ref (am 40), .ref (am 41), .ref (am 42), .ref (am 43), .ref (am 44), .int 0, .ref (am 45), .ref (am 46), .int 1, .int 0, .int 0, .ref (am 47), .int 0, .int 0, .int 0, .int 0, .int 0])), (o, .inl (dA 1, 1, .inr (.inl g)))] := hD
  obtain rfl : k = 1 := hw
  refine lv_istore (lv' := [(5, .int 1), (4, .int 0), (3, .ref o), (2, .ref h1), (1, .ref h0), (0, .ref b)]) hx hb dL_law_650 hl (by decide) rfl (fun ls hl => ?_)
  refine lv_aload_n hx hb dL_law_652 rfl (lv_at hl 3 rfl) ?_
  refine lv_aload_n hx hb dL_law_653 rfl (lv_at hl 5 rfl) ?_
  refine lv_iload hx hb dL_law_654 (lv_at hl 1 rfl) ?_
  refine lv_iconst (v := 1) hx hb dL_law_656 (by decide) ?_
  refine lv_iadd hx hb dL_law_657 ?_
  refine g_nrm (y := 1) (by decide) ?_
  refine va_sld hx hb hX hbl hbA hS (by unfold vp_in; decide) dL_law_658 ?_
  refine g_Vi (n := 1) (As := [.int (xs (1 : Int32).toNatClampNeg)]) (rest := []) (wr := [(o, .inl (dA 1, 1, .inr (.inl g)))]) hx hb hml hg hown hK hP hD hS hA (c_X11_image l D dA h1 am (xs (1 : Int32).toNatClampNeg) _) [0] [1] rfl (by decide) rfl (by decide) (by decide) 0 rfl rfl q2217 q160 q2214 q2215 q2216 (by decide +kernel) ⟨(Nat.le_of_ble_eq_true rfl), (Nat.le_of_ble_eq_true rfl)⟩ rfl hl.1 rfl (Nat.le_of_ble_eq_true rfl) dL_law_659 ⟨(Nat.le_of_ble_eq_true rfl), (Nat.le_of_ble_eq_true rfl)⟩ (fun r2 u H locs hw hP hD hS => ?_)
  refine W.widen (k := 134) (n := 41145) (Nat.le_of_ble_eq_true rfl) (Nat.le_of_ble_eq_true rfl) ?_
  have hP : va_P D vwC [(o, .inl (dA 1, 1, .inr (.inl g))), (h1, .inr (11, u))] H := hP
  have hD : va_D A [(o, .inl (dA 1, 1, .inr (.inl g))), (h1, .inr (11, u))] := hD
  obtain ⟨t, hf, hpm⟩ := hw
  obtain rfl : t = 1 := hpm
  refine lv_istore (lv' := [(6, .int r2), (5, .int 1), (4, .int 0), (3, .ref o), (2, .ref h1), (1, .ref h0), (0, .ref b)]) hx hb dL_law_662 hl (by decide) rfl (fun ls hl => ?_)
  refine lv_aload_n hx hb dL_law_664 rfl (lv_at hl 4 rfl) ?_
  refine g_Vi (n := 0) (As := []) (rest := []) (wr := [(o, .inl (dA 1, 1, .inr (.inl g)))]) hx hb hml hg hown hK hP hD hS hA (c_thrown l D dA h1 u 1 hf _) [1] [0] rfl (by decide) rfl (by decide) (by decide) 0 rfl rfl q1875 q160 q1872 q1873 q1874 (by decide +kernel) ⟨(Nat.le_of_ble_eq_true rfl), (Nat.le_of_ble_eq_true rfl)⟩ rfl hl.1 rfl (Nat.le_of_ble_eq_true rfl) dL_law_665 ⟨(Nat.le_of_ble_eq_true rfl), (Nat.le_of_ble_eq_true rfl)⟩ (fun r3 u2 H locs hw hP hD hS => ?_)
  refine W.widen (k := 134) (n := 41145) (Nat.le_of_ble_eq_true rfl) (Nat.le_of_ble_eq_true rfl) ?_
  have hP : va_P D vwC [(o, .inl (dA 1, 1, .inr (.inl g))), (h1, .inr (11, u))] H := hP
  have hD : va_D A [(o, .inl (dA 1, 1, .inr (.inl g))), (h1, .inr (11, u))] := hD
  obtain rfl : r3 = 1 := hw
  refine lv_iload hx hb dL_law_668 (lv_at hl 1 rfl) ?_
  refine lv_icmp_eq (tgt := 675) hx hb dL_law_670 (by decide) (fun _ => ?_) (fun h => absurd (by decide) h)
  refine lv_iload hx hb dL_law_675 (lv_at hl 1 rfl) ?_
  refine lv_if_ne (tgt := 692) hx hb dL_law_677 (by decide) (fun _ => ?_) (fun h => absurd h (by decide))
  refine lv_goto (tgt := 919) hx hb dL_law_692 (by decide) ?_
  refine lv_iinc (v := 4) (lv' := [(4, .int 4), (6, .int r2), (5, .int 1), (3, .ref o), (2, .ref h1), (1, .ref h0), (0, .ref b)]) hx hb dL_law_919 hl (k := 2) rfl (by decide) (by decide) rfl (fun ls hl => ?_)
  refine lv_goto (tgt := 23) hx hb dL_law_922 (by decide) ?_
  refine lv_iload hx hb dL_law_23 (lv_at hl 0 rfl) ?_
  refine lv_aload_n hx hb dL_law_25 rfl (lv_at hl 6 rfl) ?_
  refine va_slen hx hb hX hbl hbA hS dL_law_26 ?_
  refine g_nrm (y := 4) (by decide) ?_
  refine lv_iconst (v := 4) hx hb dL_law_27 (by decide) ?_
  refine lv_isub hx hb dL_law_28 ?_
  refine g_nrm (y := 0) (by decide) ?_
  refine lv_icmp_gt (tgt := 925) hx hb dL_law_29 (by decide) (fun _ => ?_) (fun h => absurd (by decide) h)
  refine lv_iconst (v := 1) hx hb dL_law_925 (by decide) ?_
  refine va_forget (fun q hq => hAf _ (hS.2.2 q hq)) ?_
  refine W.widen (k := 600006) (n := 7302024) (Nat.le_of_ble_eq_true rfl) (Nat.le_of_ble_eq_true rfl) ?_
  exact lw_ret hx hb hr hlocks dL_law_926
set_option maxHeartbeats 4000000 in
set_option maxRecDepth 100000 in
theorem law_memory {p : Program} {e : Env} {s : State} {m : MethodId} {below : List Frame} {meth : Method} {c : Code} {l : Launch} (htr : l.stackTraces = false) {b : Nat} {xs : Nat → Int32} (hx : p.tables.exec = Jvm.exec) (hb : c.code = code) (hr : meth.sig.returnType = ret) (hml : c.maxLocals = 7) (hown : s.vm.findClass RL = some m.cls) (hg : ∀ w ∈ gw, w.before #[Value.ref b] s = true) (hX : va_X b 4 xs s s.heap) (hbl : b < s.heap.size) (hlocks : meth.locks = false) {D : va_G} {dA : Nat → ClassId} {A : Nat → Prop} (hA : ∀ q : Nat, s.heap.size ≤ q → A q) (hAf : ∀ q : Nat, A q → s.heap.size ≤ q) (hbA : ¬ A b) (hZ : gZ A s) (hN : gNc s) (hK : gK D dA s) {h0 : Nat} {ad : Nat → Nat} {h1 : Nat} {am : Nat → Nat} {o : Nat} {g0 : Nat → Int64} {H : Heap} {locs : List Loc} {ls : Array Slot} (hP : va_P D vwC [(h0, .inr (10, [.ref (ad 0), .int 0, .int (-1), .int (-1), .ref (ad 1), .ref (ad 2), .ref (ad 3), .ref (ad 4), .ref (ad 5), .ref (ad 6), .ref (ad 7), .ref (ad 8)])), (ad 8, .inr (4, [.ref (ad 78), .ref (ad 79), .ref (ad 80), .int 0, .int 0, .int 0, .int 0, .int 1, .int 0, .int 0, .ref (ad 81), .int 0, .int 0, .int 0])), (ad 78, .inl (dA 0, 4096, .inl (fun _ => 0))), (h1, .inr (11, [.int 0, .ref (am 0), .int 0, .int (-1), .int (-1), .int 0, .int 0, .int 0, .long 0, .int 0, .int 0, .ref (am 1), .ref (am 2), .ref (am 3), .ref (am 4), .ref (am 5), .ref (am 6), .int 0, .int 0, .ref (am 7), .ref (am 8), .ref (am 9), .ref (am 10), .int 0, .ref (am 11), .ref (am 12), .ref (am 13), .ref (am 14), .ref (am 15), .ref (am 16), .ref (am 17), .int 0, .int 0, .int 0, .int 0, .ref (am 18), .ref (am 19), .int 0, .int 0, .int 0, .int 0, .int 0, .int 0, .ref (am 20), .ref (am 21), .ref (am 22), .ref (am 23), .ref (am 24), .ref (am 25), .ref (am 26), .ref (am 27), .ref (am 28), .ref (am 29), .ref (am 30), .ref (am 31), .ref (am 32), .ref (am 33), .ref (am 34), .ref (am 35), .ref (am 36), .int 0, .ref (am 37), .int 0, .ref (am 38), .int 0, .int 0, .int 0, .ref (am 39), .ref (am 40), .ref (am 41), .ref (am 42), .ref (am 43), .ref (am 44), .int 0, .ref (am 45), .ref (am 46), .int 1, .int 0, .int 0, .ref (am 47), .int 0, .int 0, .int 0, .int 0, .int 0])), (am 45, .inl (dA 0, 4096, .inl (fun _ => 0))), (o, .inl (dA 1, 1, .inr (.inl g0)))] H) (hD : va_D A [(h0, .inr (10, [.ref (ad 0), .int 0, .int (-1), .int (-1), .ref (ad 1), .ref (ad 2), .ref (ad 3), .ref (ad 4), .ref (ad 5), .ref (ad 6), .ref (ad 7), .ref (ad 8)])), (ad 8, .inr (4, [.ref (ad 78), .ref (ad 79), .ref (ad 80), .int 0, .int 0, .int 0, .int 0, .int 1, .int 0, .int 0, .ref (ad 81), .int 0, .int 0, .int 0])), (ad 78, .inl (dA 0, 4096, .inl (fun _ => 0))), (h1, .inr (11, [.int 0, .ref (am 0), .int 0, .int (-1), .int (-1), .int 0, .int 0, .int 0, .long 0, .int 0, .int 0, .ref (am 1), .ref (am 2), .ref (am 3), .ref (am 4), .ref (am 5), .ref (am 6), .int 0, .int 0, .ref (am 7), .ref (am 8), .ref (am 9), .ref (am 10), .int 0, .ref (am 11), .ref (am 12), .ref (am 13), .ref (am 14), .ref (am 15), .ref (am 16), .ref (am 17), .int 0, .int 0, .int 0, .int 0, .ref (am 18), .ref (am 19), .int 0, .int 0, .int 0, .int 0, .int 0, .int 0, .ref (am 20), .ref (am 21), .ref (am 22), .ref (am 23), .ref (am 24), .ref (am 25), .ref (am 26), .ref (am 27), .ref (am 28), .ref (am 29), .ref (am 30), .ref (am 31), .ref (am 32), .ref (am 33), .ref (am 34), .ref (am 35), .ref (am 36), .int 0, .ref (am 37), .int 0, .ref (am 38), .int 0, .int 0, .int 0, .ref (am 39), .ref (am 40), .ref (am 41), .ref (am 42), .ref (am 43), .ref (am 44), .int 0, .ref (am 45), .ref (am 46), .int 1, .int 0, .int 0, .ref (am 47), .int 0, .int 0, .int 0, .int 0, .int 0])), (am 45, .inl (dA 0, 4096, .inl (fun _ => 0))), (o, .inl (dA 1, 1, .inr (.inl g0)))]) (hS : va_S A s.heap H locs) (hl : lv_has ls 7 [(4, .int 0), (3, .ref o), (2, .ref h1), (1, .ref h0), (0, .ref b)]) : W p l e room_1 s m #[Value.ref b] below meth c H locs 133 41139 (lw_Z below #[Value.ref b] s) (F0 m 695 ls []) := by
  refine lv_aload_n hx hb dL_law_695 rfl (lv_at hl 3 rfl) ?_
  refine lv_aload_n hx hb dL_law_696 rfl (lv_at hl 4 rfl) ?_
  refine lv_iload hx hb dL_law_697 (lv_at hl 0 rfl) ?_
  refine lv_iconst (v := 1) hx hb dL_law_699 (by decide) ?_
  refine lv_iadd hx hb dL_law_700 ?_
  refine g_nrm (y := 1) (by decide) ?_
  refine va_sld hx hb hX hbl hbA hS (by unfold vp_in; decide) dL_law_701 ?_
  refine lv_aload_n hx hb dL_law_702 rfl (lv_at hl 1 rfl) ?_
  refine g_SW (n := 3) (hh := [(0, 9, 12, 13)]) (As := [.ref h0, .int (xs (1 : Int32).toNatClampNeg), .ref o]) (rest := []) (wr := [(h1, .inr (11, [.int 0, .ref (am 0), .int 0, .int (-1), .int (-1), .int 0, .int 0, .int 0, .long 0, .int 0, .int 0, .ref (am 1), .ref (am 2), .ref (am 3), .ref (am 4), .ref (am 5), .ref (am 6), .int 0, .int 0, .ref (am 7), .ref (am 8), .ref (am 9), .ref (am 10), .int 0, .ref (am 11), .ref (am 12), .ref (am 13), .ref (am 14), .ref (am 15), .ref (am 16), .ref (am 17), .int 0, .int 0, .int 0, .int 0, .ref (am 18), .ref (am 19), .int 0, .int 0, .int 0, .int 0, .int 0, .int 0, .ref (am 20), .ref (am 21), .ref (am 22), .ref (am 23), .ref (am 24), .ref (am 25), .ref (am 26), .ref (am 27), .ref (am 28), .ref (am 29), .ref (am 30), .ref (am 31), .ref (am 32), .ref (am 33), .ref (am 34), .ref (am 35), .ref (am 36), .int 0, .ref (am 37), .int 0, .ref (am 38), .int 0, .int 0, .int 0, .ref (am 39), .ref (am 40), .ref (am 41), .ref (am 42), .ref (am 43), .ref (am 44), .int 0, .ref (am 45), .ref (am 46), .int 1, .int 0, .int 0, .ref (am 47), .int 0, .int 0, .int 0, .int 0, .int 0])), (am 45, .inl (dA 0, 4096, .inl (fun _ => 0)))]) hx hb hml hg hown hZ hN hK hP hD hS hA (w_memory l htr D dA h0 ad o g0 (xs (1 : Int32).toNatClampNeg) _) [0, 1, 2, 5] [3, 4] rfl (by decide) rfl (by decide) (by decide) q1531 q148 q1529 q1530 (by decide +kernel) ⟨(Nat.le_of_ble_eq_true rfl), (Nat.le_of_ble_eq_true rfl)⟩ rfl hl.1 rfl (Nat.le_of_ble_eq_true rfl) dL_law_703 ⟨(Nat.le_of_ble_eq_true rfl), (Nat.le_of_ble_eq_true rfl)⟩ (fun k g H locs hw hP hD hS => ?_)
  refine W.widen (k := 134) (n := 41145) (Nat.le_of_ble_eq_true rfl) (Nat.le_of_ble_eq_true rfl) ?_
  have hP : va_P D vwC [(h1, .inr (11, [.int 0, .ref (am 0), .int 0, .int (-1), .int (-1), .int 0, .int 0, .int 0, .long 0, .int 0, .int 0, .ref (am 1), .ref (am 2), .ref (am 3), .ref (am 4), .ref (am 5), .ref (am 6), .int 0, .int 0, .ref (am 7), .ref (am 8), .ref (am 9), .ref (am 10), .int 0, .ref (am 11), .ref (am 12), .ref (am 13), .ref (am 14), .ref (am 15), .ref (am 16), .ref (am 17), .int 0, .int 0, .int 0, .int 0, .ref (am 18), .ref (am 19), .int 0, .int 0, .int 0, .int 0, .int 0, .int 0, .ref (am 20), .ref (am 21), .ref (am 22), .ref (am 23), .ref (am 24), .ref (am 25), .ref (am 26), .ref (am 27), .ref (am 28), .ref (am 29), .ref (am 30), .ref (am 31), .ref (am 32), .ref (am 33), .ref (am 34), .ref (am 35), .ref (am 36), .int 0, .ref (am 37), .int 0, .ref (am 38), .int 0, .int 0, .int 0, .ref (am 39), .ref (am 40), .ref (am 41), .ref (am 42), .ref (am 43), .ref (am 44), .int 0, .ref (am 45), .ref (am 46), .int 1, .int 0, .int 0, .ref (am 47), .int 0, .int 0, .int 0, .int 0, .int 0])), (am 45, .inl (dA 0, 4096, .inl (fun _ => 0))), (o, .inl (dA 1, 1, .inr (.inl g)))] H := hP
  have hD : va_D A [(h1, .inr (11, [.int 0, .ref (am 0), .int 0, .int (-1), .int (-1), .int 0, .int 0, .int 0, .long 0, .int 0, .int 0, .ref (am 1), .ref (am 2), .ref (am 3), .ref (am 4), .ref (am 5), .ref (am 6), .int 0, .int 0, .ref (am 7), .ref (am 8), .ref (am 9), .ref (am 10), .int 0, .ref (am 11), .ref (am 12), .ref (am 13), .ref (am 14), .ref (am 15), .ref (am 16), .ref (am 17), .int 0, .int 0, .int 0, .int 0, .ref (am 18), .ref (am 19), .int 0, .int 0, .int 0, .int 0, .int 0, .int 0, .ref (am 20), .ref (am 21), .ref (am 22), .ref (am 23), .ref (am 24), .ref (am 25), .ref (am 26), .ref (am 27), .ref (am 28), .ref (am 29), .ref (am 30), .ref (am 31), .ref (am 32), .ref (am 33), .ref (am 34), .ref (am 35), .ref (am 36), .int 0, .ref (am 37), .int 0, .ref (am 38), .int 0, .int 0, .int 0, .ref (am 39), .ref (am 40), .ref (am 41), .ref (am 42), .ref (am 43), .ref (am 44), .int 0, .ref (am 45), .ref (am 46), .int 1, .int 0, .int 0, .ref (am 47), .int 0, .int 0, .int 0, .int 0, .int 0])), (am 45, .inl (dA 0, 4096, .inl (fun _ => 0))), (o, .inl (dA 1, 1, .inr (.inl g)))] := hD
  rcases hw with ⟨rfl, r1, hg0, hpo⟩ | ⟨rfl, hq⟩
  · refine lv_istore (lv' := [(5, .int 0), (4, .int 0), (3, .ref o), (2, .ref h1), (1, .ref h0), (0, .ref b)]) hx hb dL_law_706 hl (by decide) rfl (fun ls hl => ?_)
    refine lv_aload_n hx hb dL_law_708 rfl (lv_at hl 3 rfl) ?_
    refine lv_aload_n hx hb dL_law_709 rfl (lv_at hl 5 rfl) ?_
    refine lv_iload hx hb dL_law_710 (lv_at hl 1 rfl) ?_
    refine lv_iconst (v := 1) hx hb dL_law_712 (by decide) ?_
    refine lv_iadd hx hb dL_law_713 ?_
    refine g_nrm (y := 1) (by decide) ?_
    refine va_sld hx hb hX hbl hbA hS (by unfold vp_in; decide) dL_law_714 ?_
    refine g_Vi (n := 1) (As := [.int (xs (1 : Int32).toNatClampNeg)]) (rest := []) (wr := [(o, .inl (dA 1, 1, .inr (.inl g)))]) hx hb hml hg hown hK hP hD hS hA (c_X11_memory l D dA h1 am (xs (1 : Int32).toNatClampNeg) _) [0, 1] [2] rfl (by decide) rfl (by decide) (by decide) 0 rfl rfl q2221 q160 q2218 q2219 q2220 (by decide +kernel) ⟨(Nat.le_of_ble_eq_true rfl), (Nat.le_of_ble_eq_true rfl)⟩ rfl hl.1 rfl (Nat.le_of_ble_eq_true rfl) dL_law_715 ⟨(Nat.le_of_ble_eq_true rfl), (Nat.le_of_ble_eq_true rfl)⟩ (fun r2 u H locs hw hP hD hS => ?_)
    refine W.widen (k := 134) (n := 41145) (Nat.le_of_ble_eq_true rfl) (Nat.le_of_ble_eq_true rfl) ?_
    have hP : va_P D vwC [(o, .inl (dA 1, 1, .inr (.inl g))), (h1, .inr (11, u))] H := hP
    have hD : va_D A [(o, .inl (dA 1, 1, .inr (.inl g))), (h1, .inr (11, u))] := hD
    obtain ⟨t, hf, hpm⟩ := hw
    rcases hpm with ⟨rfl, hr2, hp2⟩ | ⟨rfl, hp2⟩
    · refine lv_istore (lv' := [(6, .int r2), (5, .int 0), (4, .int 0), (3, .ref o), (2, .ref h1), (1, .ref h0), (0, .ref b)]) hx hb dL_law_718 hl (by decide) rfl (fun ls hl => ?_)
      refine lv_aload_n hx hb dL_law_720 rfl (lv_at hl 4 rfl) ?_
      refine g_Vi (n := 0) (As := []) (rest := []) (wr := [(o, .inl (dA 1, 1, .inr (.inl g)))]) hx hb hml hg hown hK hP hD hS hA (c_thrown l D dA h1 u 0 hf _) [1] [0] rfl (by decide) rfl (by decide) (by decide) 0 rfl rfl q1875 q160 q1872 q1873 q1874 (by decide +kernel) ⟨(Nat.le_of_ble_eq_true rfl), (Nat.le_of_ble_eq_true rfl)⟩ rfl hl.1 rfl (Nat.le_of_ble_eq_true rfl) dL_law_721 ⟨(Nat.le_of_ble_eq_true rfl), (Nat.le_of_ble_eq_true rfl)⟩ (fun r3 u2 H locs hw hP hD hS => ?_)
      refine W.widen (k := 134) (n := 41145) (Nat.le_of_ble_eq_true rfl) (Nat.le_of_ble_eq_true rfl) ?_
      have hP : va_P D vwC [(o, .inl (dA 1, 1, .inr (.inl g))), (h1, .inr (11, u))] H := hP
      have hD : va_D A [(o, .inl (dA 1, 1, .inr (.inl g))), (h1, .inr (11, u))] := hD
      obtain rfl : r3 = 0 := hw
      refine lv_iload hx hb dL_law_724 (lv_at hl 1 rfl) ?_
      refine lv_icmp_eq (tgt := 731) hx hb dL_law_726 (by decide) (fun _ => ?_) (fun h => absurd (by decide) h)
      refine lv_iload hx hb dL_law_731 (lv_at hl 1 rfl) ?_
      refine lv_if_ne (tgt := 748) hx hb dL_law_733 (by decide) (fun h => absurd (by decide) h) (fun _ => ?_)
      refine lv_aload_n hx hb dL_law_736 rfl (lv_at hl 3 rfl) ?_
      refine lv_iconst (v := 0) hx hb dL_law_737 (by decide) ?_
      refine va_lald hx hb hK hP 0 1 rfl rfl (by unfold vp_in; decide) dL_law_738 ?_
      refine lv_iload hx hb dL_law_739 (lv_at hl 0 rfl) ?_
      refine lv_i2l (v := r2.toInt64) hx hb dL_law_741 rfl ?_
      refine W.lcmp hx hb dL_law_742 ?_
      refine g_nrm (y := 0) (g_cmp0 (by rw [g_z0, hg0, hpo.1, hr2])) ?_
      refine lv_if_eq (tgt := 748) hx hb dL_law_743 (by decide) (fun _ => ?_) (fun h => absurd (by decide) h)
      refine lv_goto (tgt := 919) hx hb dL_law_748 (by decide) ?_
      refine lv_iinc (v := 4) (lv' := [(4, .int 4), (6, .int r2), (5, .int 0), (3, .ref o), (2, .ref h1), (1, .ref h0), (0, .ref b)]) hx hb dL_law_919 hl (k := 2) rfl (by decide) (by decide) rfl (fun ls hl => ?_)
      refine lv_goto (tgt := 23) hx hb dL_law_922 (by decide) ?_
      refine lv_iload hx hb dL_law_23 (lv_at hl 0 rfl) ?_
      refine lv_aload_n hx hb dL_law_25 rfl (lv_at hl 6 rfl) ?_
      refine va_slen hx hb hX hbl hbA hS dL_law_26 ?_
      refine g_nrm (y := 4) (by decide) ?_
      refine lv_iconst (v := 4) hx hb dL_law_27 (by decide) ?_
      refine lv_isub hx hb dL_law_28 ?_
      refine g_nrm (y := 0) (by decide) ?_
      refine lv_icmp_gt (tgt := 925) hx hb dL_law_29 (by decide) (fun _ => ?_) (fun h => absurd (by decide) h)
      refine lv_iconst (v := 1) hx hb dL_law_925 (by decide) ?_
      refine va_forget (fun q hq => hAf _ (hS.2.2 q hq)) ?_
      refine W.widen (k := 600006) (n := 7302024) (Nat.le_of_ble_eq_true rfl) (Nat.le_of_ble_eq_true rfl) ?_
      exact lw_ret hx hb hr hlocks dL_law_926
    · exact absurd hpo.2 hp2
  · refine lv_istore (lv' := [(5, .int 1), (4, .int 0), (3, .ref o), (2, .ref h1), (1, .ref h0), (0, .ref b)]) hx hb dL_law_706 hl (by decide) rfl (fun ls hl => ?_)
    refine lv_aload_n hx hb dL_law_708 rfl (lv_at hl 3 rfl) ?_
    refine lv_aload_n hx hb dL_law_709 rfl (lv_at hl 5 rfl) ?_
    refine lv_iload hx hb dL_law_710 (lv_at hl 1 rfl) ?_
    refine lv_iconst (v := 1) hx hb dL_law_712 (by decide) ?_
    refine lv_iadd hx hb dL_law_713 ?_
    refine g_nrm (y := 1) (by decide) ?_
    refine va_sld hx hb hX hbl hbA hS (by unfold vp_in; decide) dL_law_714 ?_
    refine g_Vi (n := 1) (As := [.int (xs (1 : Int32).toNatClampNeg)]) (rest := []) (wr := [(o, .inl (dA 1, 1, .inr (.inl g)))]) hx hb hml hg hown hK hP hD hS hA (c_X11_memory l D dA h1 am (xs (1 : Int32).toNatClampNeg) _) [0, 1] [2] rfl (by decide) rfl (by decide) (by decide) 0 rfl rfl q2221 q160 q2218 q2219 q2220 (by decide +kernel) ⟨(Nat.le_of_ble_eq_true rfl), (Nat.le_of_ble_eq_true rfl)⟩ rfl hl.1 rfl (Nat.le_of_ble_eq_true rfl) dL_law_715 ⟨(Nat.le_of_ble_eq_true rfl), (Nat.le_of_ble_eq_true rfl)⟩ (fun r2 u H locs hw hP hD hS => ?_)
    refine W.widen (k := 134) (n := 41145) (Nat.le_of_ble_eq_true rfl) (Nat.le_of_ble_eq_true rfl) ?_
    have hP : va_P D vwC [(o, .inl (dA 1, 1, .inr (.inl g))), (h1, .inr (11, u))] H := hP
    have hD : va_D A [(o, .inl (dA 1, 1, .inr (.inl g))), (h1, .inr (11, u))] := hD
    obtain ⟨t, hf, hpm⟩ := hw
    rcases hpm with ⟨rfl, hr2, hp2⟩ | ⟨rfl, hp2⟩
    · exact absurd hp2 hq
    · refine lv_istore (lv' := [(6, .int r2), (5, .int 1), (4, .int 0), (3, .ref o), (2, .ref h1), (1, .ref h0), (0, .ref b)]) hx hb dL_law_718 hl (by decide) rfl (fun ls hl => ?_)
      refine lv_aload_n hx hb dL_law_720 rfl (lv_at hl 4 rfl) ?_
      refine g_Vi (n := 0) (As := []) (rest := []) (wr := [(o, .inl (dA 1, 1, .inr (.inl g)))]) hx hb hml hg hown hK hP hD hS hA (c_thrown l D dA h1 u 1 hf _) [1] [0] rfl (by decide) rfl (by decide) (by decide) 0 rfl rfl q1875 q160 q1872 q1873 q1874 (by decide +kernel) ⟨(Nat.le_of_ble_eq_true rfl), (Nat.le_of_ble_eq_true rfl)⟩ rfl hl.1 rfl (Nat.le_of_ble_eq_true rfl) dL_law_721 ⟨(Nat.le_of_ble_eq_true rfl), (Nat.le_of_ble_eq_true rfl)⟩ (fun r3 u2 H locs hw hP hD hS => ?_)
      refine W.widen (k := 134) (n := 41145) (Nat.le_of_ble_eq_true rfl) (Nat.le_of_ble_eq_true rfl) ?_
      have hP : va_P D vwC [(o, .inl (dA 1, 1, .inr (.inl g))), (h1, .inr (11, u))] H := hP
      have hD : va_D A [(o, .inl (dA 1, 1, .inr (.inl g))), (h1, .inr (11, u))] := hD
      obtain rfl : r3 = 1 := hw
      refine lv_iload hx hb dL_law_724 (lv_at hl 1 rfl) ?_
      refine lv_icmp_eq (tgt := 731) hx hb dL_law_726 (by decide) (fun _ => ?_) (fun h => absurd (by decide) h)
      refine lv_iload hx hb dL_law_731 (lv_at hl 1 rfl) ?_
      refine lv_if_ne (tgt := 748) hx hb dL_law_733 (by decide) (fun _ => ?_) (fun h => absurd h (by decide))
      refine lv_goto (tgt := 919) hx hb dL_law_748 (by decide) ?_
      refine lv_iinc (v := 4) (lv' := [(4, .int 4), (6, .int r2), (5, .int 1), (3, .ref o), (2, .ref h1), (1, .ref h0), (0, .ref b)]) hx hb dL_law_919 hl (k := 2) rfl (by decide) (by decide) rfl (fun ls hl => ?_)
      refine lv_goto (tgt := 23) hx hb dL_law_922 (by decide) ?_
      refine lv_iload hx hb dL_law_23 (lv_at hl 0 rfl) ?_
      refine lv_aload_n hx hb dL_law_25 rfl (lv_at hl 6 rfl) ?_
      refine va_slen hx hb hX hbl hbA hS dL_law_26 ?_
      refine g_nrm (y := 4) (by decide) ?_
      refine lv_iconst (v := 4) hx hb dL_law_27 (by decide) ?_
      refine lv_isub hx hb dL_law_28 ?_
      refine g_nrm (y := 0) (by decide) ?_
      refine lv_icmp_gt (tgt := 925) hx hb dL_law_29 (by decide) (fun _ => ?_) (fun h => absurd (by decide) h)
      refine lv_iconst (v := 1) hx hb dL_law_925 (by decide) ?_
      refine va_forget (fun q hq => hAf _ (hS.2.2 q hq)) ?_
      refine W.widen (k := 600006) (n := 7302024) (Nat.le_of_ble_eq_true rfl) (Nat.le_of_ble_eq_true rfl) ?_
      exact lw_ret hx hb hr hlocks dL_law_926
set_option maxHeartbeats 4000000 in
set_option maxRecDepth 100000 in
theorem law_register {p : Program} {e : Env} {s : State} {m : MethodId} {below : List Frame} {meth : Method} {c : Code} {l : Launch} (htr : l.stackTraces = false) {b : Nat} {xs : Nat → Int32} (hx : p.tables.exec = Jvm.exec) (hb : c.code = code) (hr : meth.sig.returnType = ret) (hml : c.maxLocals = 7) (hown : s.vm.findClass RL = some m.cls) (hg : ∀ w ∈ gw, w.before #[Value.ref b] s = true) (hX : va_X b 4 xs s s.heap) (hbl : b < s.heap.size) (hlocks : meth.locks = false) {D : va_G} {dA : Nat → ClassId} {A : Nat → Prop} (hA : ∀ q : Nat, s.heap.size ≤ q → A q) (hAf : ∀ q : Nat, A q → s.heap.size ≤ q) (hbA : ¬ A b) (hZ : gZ A s) (hN : gNc s) (hK : gK D dA s) {h0 : Nat} {ad : Nat → Nat} {h1 : Nat} {am : Nat → Nat} {o : Nat} {g0 : Nat → Int64} {H : Heap} {locs : List Loc} {ls : Array Slot} (hP : va_P D vwC [(h0, .inr (10, [.ref (ad 0), .int 0, .int (-1), .int (-1), .ref (ad 1), .ref (ad 2), .ref (ad 3), .ref (ad 4), .ref (ad 5), .ref (ad 6), .ref (ad 7), .ref (ad 8)])), (ad 8, .inr (4, [.ref (ad 78), .ref (ad 79), .ref (ad 80), .int 0, .int 0, .int 0, .int 0, .int 1, .int 0, .int 0, .ref (ad 81), .int 0, .int 0, .int 0])), (ad 79, .inl (dA 0, 8, .inl (fun _ => 0))), (ad 80, .inl (dA 0, 4, .inl (fun _ => 0))), (h1, .inr (11, [.int 0, .ref (am 0), .int 0, .int (-1), .int (-1), .int 0, .int 0, .int 0, .long 0, .int 0, .int 0, .ref (am 1), .ref (am 2), .ref (am 3), .ref (am 4), .ref (am 5), .ref (am 6), .int 0, .int 0, .ref (am 7), .ref (am 8), .ref (am 9), .ref (am 10), .int 0, .ref (am 11), .ref (am 12), .ref (am 13), .ref (am 14), .ref (am 15), .ref (am 16), .ref (am 17), .int 0, .int 0, .int 0, .int 0, .ref (am 18), .ref (am 19), .int 0, .int 0, .int 0, .int 0, .int 0, .int 0, .ref (am 20), .ref (am 21), .ref (am 22), .ref (am 23), .ref (am 24), .ref (am 25), .ref (am 26), .ref (am 27), .ref (am 28), .ref (am 29), .ref (am 30), .ref (am 31), .ref (am 32), .ref (am 33), .ref (am 34), .ref (am 35), .ref (am 36), .int 0, .ref (am 37), .int 0, .ref (am 38), .int 0, .int 0, .int 0, .ref (am 39), .ref (am 40), .ref (am 41), .ref (am 42), .ref (am 43), .ref (am 44), .int 0, .ref (am 45), .ref (am 46), .int 1, .int 0, .int 0, .ref (am 47), .int 0, .int 0, .int 0, .int 0, .int 0])), (am 46, .inl (dA 0, 16, .inl (fun _ => 0))), (o, .inl (dA 1, 1, .inr (.inl g0)))] H) (hD : va_D A [(h0, .inr (10, [.ref (ad 0), .int 0, .int (-1), .int (-1), .ref (ad 1), .ref (ad 2), .ref (ad 3), .ref (ad 4), .ref (ad 5), .ref (ad 6), .ref (ad 7), .ref (ad 8)])), (ad 8, .inr (4, [.ref (ad 78), .ref (ad 79), .ref (ad 80), .int 0, .int 0, .int 0, .int 0, .int 1, .int 0, .int 0, .ref (ad 81), .int 0, .int 0, .int 0])), (ad 79, .inl (dA 0, 8, .inl (fun _ => 0))), (ad 80, .inl (dA 0, 4, .inl (fun _ => 0))), (h1, .inr (11, [.int 0, .ref (am 0), .int 0, .int (-1), .int (-1), .int 0, .int 0, .int 0, .long 0, .int 0, .int 0, .ref (am 1), .ref (am 2), .ref (am 3), .ref (am 4), .ref (am 5), .ref (am 6), .int 0, .int 0, .ref (am 7), .ref (am 8), .ref (am 9), .ref (am 10), .int 0, .ref (am 11), .ref (am 12), .ref (am 13), .ref (am 14), .ref (am 15), .ref (am 16), .ref (am 17), .int 0, .int 0, .int 0, .int 0, .ref (am 18), .ref (am 19), .int 0, .int 0, .int 0, .int 0, .int 0, .int 0, .ref (am 20), .ref (am 21), .ref (am 22), .ref (am 23), .ref (am 24), .ref (am 25), .ref (am 26), .ref (am 27), .ref (am 28), .ref (am 29), .ref (am 30), .ref (am 31), .ref (am 32), .ref (am 33), .ref (am 34), .ref (am 35), .ref (am 36), .int 0, .ref (am 37), .int 0, .ref (am 38), .int 0, .int 0, .int 0, .ref (am 39), .ref (am 40), .ref (am 41), .ref (am 42), .ref (am 43), .ref (am 44), .int 0, .ref (am 45), .ref (am 46), .int 1, .int 0, .int 0, .ref (am 47), .int 0, .int 0, .int 0, .int 0, .int 0])), (am 46, .inl (dA 0, 16, .inl (fun _ => 0))), (o, .inl (dA 1, 1, .inr (.inl g0)))]) (hS : va_S A s.heap H locs) (hl : lv_has ls 7 [(4, .int 0), (3, .ref o), (2, .ref h1), (1, .ref h0), (0, .ref b)]) : W p l e room_1 s m #[Value.ref b] below meth c H locs 133 41139 (lw_Z below #[Value.ref b] s) (F0 m 751 ls []) := by
  refine lv_aload_n hx hb dL_law_751 rfl (lv_at hl 3 rfl) ?_
  refine lv_aload_n hx hb dL_law_752 rfl (lv_at hl 4 rfl) ?_
  refine lv_iload hx hb dL_law_753 (lv_at hl 0 rfl) ?_
  refine lv_iconst (v := 1) hx hb dL_law_755 (by decide) ?_
  refine lv_iadd hx hb dL_law_756 ?_
  refine g_nrm (y := 1) (by decide) ?_
  refine va_sld hx hb hX hbl hbA hS (by unfold vp_in; decide) dL_law_757 ?_
  refine lv_aload_n hx hb dL_law_758 rfl (lv_at hl 1 rfl) ?_
  refine g_SW (n := 3) (hh := [(0, 9, 12, 13)]) (As := [.ref h0, .int (xs (1 : Int32).toNatClampNeg), .ref o]) (rest := []) (wr := [(h1, .inr (11, [.int 0, .ref (am 0), .int 0, .int (-1), .int (-1), .int 0, .int 0, .int 0, .long 0, .int 0, .int 0, .ref (am 1), .ref (am 2), .ref (am 3), .ref (am 4), .ref (am 5), .ref (am 6), .int 0, .int 0, .ref (am 7), .ref (am 8), .ref (am 9), .ref (am 10), .int 0, .ref (am 11), .ref (am 12), .ref (am 13), .ref (am 14), .ref (am 15), .ref (am 16), .ref (am 17), .int 0, .int 0, .int 0, .int 0, .ref (am 18), .ref (am 19), .int 0, .int 0, .int 0, .int 0, .int 0, .int 0, .ref (am 20), .ref (am 21), .ref (am 22), .ref (am 23), .ref (am 24), .ref (am 25), .ref (am 26), .ref (am 27), .ref (am 28), .ref (am 29), .ref (am 30), .ref (am 31), .ref (am 32), .ref (am 33), .ref (am 34), .ref (am 35), .ref (am 36), .int 0, .ref (am 37), .int 0, .ref (am 38), .int 0, .int 0, .int 0, .ref (am 39), .ref (am 40), .ref (am 41), .ref (am 42), .ref (am 43), .ref (am 44), .int 0, .ref (am 45), .ref (am 46), .int 1, .int 0, .int 0, .ref (am 47), .int 0, .int 0, .int 0, .int 0, .int 0])), (am 46, .inl (dA 0, 16, .inl (fun _ => 0)))]) hx hb hml hg hown hZ hN hK hP hD hS hA (w_register l htr D dA h0 ad o g0 (xs (1 : Int32).toNatClampNeg) _) [0, 1, 2, 3, 6] [4, 5] rfl (by decide) rfl (by decide) (by decide) q1539 q148 q1537 q1538 (by decide +kernel) ⟨(Nat.le_of_ble_eq_true rfl), (Nat.le_of_ble_eq_true rfl)⟩ rfl hl.1 rfl (Nat.le_of_ble_eq_true rfl) dL_law_759 ⟨(Nat.le_of_ble_eq_true rfl), (Nat.le_of_ble_eq_true rfl)⟩ (fun k g H locs hw hP hD hS => ?_)
  refine W.widen (k := 134) (n := 41145) (Nat.le_of_ble_eq_true rfl) (Nat.le_of_ble_eq_true rfl) ?_
  have hP : va_P D vwC [(h1, .inr (11, [.int 0, .ref (am 0), .int 0, .int (-1), .int (-1), .int 0, .int 0, .int 0, .long 0, .int 0, .int 0, .ref (am 1), .ref (am 2), .ref (am 3), .ref (am 4), .ref (am 5), .ref (am 6), .int 0, .int 0, .ref (am 7), .ref (am 8), .ref (am 9), .ref (am 10), .int 0, .ref (am 11), .ref (am 12), .ref (am 13), .ref (am 14), .ref (am 15), .ref (am 16), .ref (am 17), .int 0, .int 0, .int 0, .int 0, .ref (am 18), .ref (am 19), .int 0, .int 0, .int 0, .int 0, .int 0, .int 0, .ref (am 20), .ref (am 21), .ref (am 22), .ref (am 23), .ref (am 24), .ref (am 25), .ref (am 26), .ref (am 27), .ref (am 28), .ref (am 29), .ref (am 30), .ref (am 31), .ref (am 32), .ref (am 33), .ref (am 34), .ref (am 35), .ref (am 36), .int 0, .ref (am 37), .int 0, .ref (am 38), .int 0, .int 0, .int 0, .ref (am 39), .ref (am 40), .ref (am 41), .ref (am 42), .ref (am 43), .ref (am 44), .int 0, .ref (am 45), .ref (am 46), .int 1, .int 0, .int 0, .ref (am 47), .int 0, .int 0, .int 0, .int 0, .int 0])), (am 46, .inl (dA 0, 16, .inl (fun _ => 0))), (o, .inl (dA 1, 1, .inr (.inl g)))] H := hP
  have hD : va_D A [(h1, .inr (11, [.int 0, .ref (am 0), .int 0, .int (-1), .int (-1), .int 0, .int 0, .int 0, .long 0, .int 0, .int 0, .ref (am 1), .ref (am 2), .ref (am 3), .ref (am 4), .ref (am 5), .ref (am 6), .int 0, .int 0, .ref (am 7), .ref (am 8), .ref (am 9), .ref (am 10), .int 0, .ref (am 11), .ref (am 12), .ref (am 13), .ref (am 14), .ref (am 15), .ref (am 16), .ref (am 17), .int 0, .int 0, .int 0, .int 0, .ref (am 18), .ref (am 19), .int 0, .int 0, .int 0, .int 0, .int 0, .int 0, .ref (am 20), .ref (am 21), .ref (am 22), .ref (am 23), .ref (am 24), .ref (am 25), .ref (am 26), .ref (am 27), .ref (am 28), .ref (am 29), .ref (am 30), .ref (am 31), .ref (am 32), .ref (am 33), .ref (am 34), .ref (am 35), .ref (am 36), .int 0, .ref (am 37), .int 0, .ref (am 38), .int 0, .int 0, .int 0, .ref (am 39), .ref (am 40), .ref (am 41), .ref (am 42), .ref (am 43), .ref (am 44), .int 0, .ref (am 45), .ref (am 46), .int 1, .int 0, .int 0, .ref (am 47), .int 0, .int 0, .int 0, .int 0, .int 0])), (am 46, .inl (dA 0, 16, .inl (fun _ => 0))), (o, .inl (dA 1, 1, .inr (.inl g)))] := hD
  rcases hw with ⟨rfl, r1, hg0, hpo⟩ | ⟨rfl, hq⟩
  · refine lv_istore (lv' := [(5, .int 0), (4, .int 0), (3, .ref o), (2, .ref h1), (1, .ref h0), (0, .ref b)]) hx hb dL_law_762 hl (by decide) rfl (fun ls hl => ?_)
    refine lv_aload_n hx hb dL_law_764 rfl (lv_at hl 3 rfl) ?_
    refine lv_aload_n hx hb dL_law_765 rfl (lv_at hl 5 rfl) ?_
    refine lv_iload hx hb dL_law_766 (lv_at hl 1 rfl) ?_
    refine lv_iconst (v := 1) hx hb dL_law_768 (by decide) ?_
    refine lv_iadd hx hb dL_law_769 ?_
    refine g_nrm (y := 1) (by decide) ?_
    refine va_sld hx hb hX hbl hbA hS (by unfold vp_in; decide) dL_law_770 ?_
    refine g_Vi (n := 1) (As := [.int (xs (1 : Int32).toNatClampNeg)]) (rest := []) (wr := [(o, .inl (dA 1, 1, .inr (.inl g)))]) hx hb hml hg hown hK hP hD hS hA (c_X11_register l D dA h1 am (xs (1 : Int32).toNatClampNeg) _) [0, 1] [2] rfl (by decide) rfl (by decide) (by decide) 0 rfl rfl q2225 q160 q2222 q2223 q2224 (by decide +kernel) ⟨(Nat.le_of_ble_eq_true rfl), (Nat.le_of_ble_eq_true rfl)⟩ rfl hl.1 rfl (Nat.le_of_ble_eq_true rfl) dL_law_771 ⟨(Nat.le_of_ble_eq_true rfl), (Nat.le_of_ble_eq_true rfl)⟩ (fun r2 u H locs hw hP hD hS => ?_)
    refine W.widen (k := 134) (n := 41145) (Nat.le_of_ble_eq_true rfl) (Nat.le_of_ble_eq_true rfl) ?_
    have hP : va_P D vwC [(o, .inl (dA 1, 1, .inr (.inl g))), (h1, .inr (11, u))] H := hP
    have hD : va_D A [(o, .inl (dA 1, 1, .inr (.inl g))), (h1, .inr (11, u))] := hD
    obtain ⟨t, hf, hpm⟩ := hw
    rcases hpm with ⟨rfl, hr2, hp2⟩ | ⟨rfl, hp2⟩
    · refine lv_istore (lv' := [(6, .int r2), (5, .int 0), (4, .int 0), (3, .ref o), (2, .ref h1), (1, .ref h0), (0, .ref b)]) hx hb dL_law_774 hl (by decide) rfl (fun ls hl => ?_)
      refine lv_aload_n hx hb dL_law_776 rfl (lv_at hl 4 rfl) ?_
      refine g_Vi (n := 0) (As := []) (rest := []) (wr := [(o, .inl (dA 1, 1, .inr (.inl g)))]) hx hb hml hg hown hK hP hD hS hA (c_thrown l D dA h1 u 0 hf _) [1] [0] rfl (by decide) rfl (by decide) (by decide) 0 rfl rfl q1875 q160 q1872 q1873 q1874 (by decide +kernel) ⟨(Nat.le_of_ble_eq_true rfl), (Nat.le_of_ble_eq_true rfl)⟩ rfl hl.1 rfl (Nat.le_of_ble_eq_true rfl) dL_law_777 ⟨(Nat.le_of_ble_eq_true rfl), (Nat.le_of_ble_eq_true rfl)⟩ (fun r3 u2 H locs hw hP hD hS => ?_)
      refine W.widen (k := 134) (n := 41145) (Nat.le_of_ble_eq_true rfl) (Nat.le_of_ble_eq_true rfl) ?_
      have hP : va_P D vwC [(o, .inl (dA 1, 1, .inr (.inl g))), (h1, .inr (11, u))] H := hP
      have hD : va_D A [(o, .inl (dA 1, 1, .inr (.inl g))), (h1, .inr (11, u))] := hD
      obtain rfl : r3 = 0 := hw
      refine lv_iload hx hb dL_law_780 (lv_at hl 1 rfl) ?_
      refine lv_icmp_eq (tgt := 787) hx hb dL_law_782 (by decide) (fun _ => ?_) (fun h => absurd (by decide) h)
      refine lv_iload hx hb dL_law_787 (lv_at hl 1 rfl) ?_
      refine lv_if_ne (tgt := 804) hx hb dL_law_789 (by decide) (fun h => absurd (by decide) h) (fun _ => ?_)
      refine lv_aload_n hx hb dL_law_792 rfl (lv_at hl 3 rfl) ?_
      refine lv_iconst (v := 0) hx hb dL_law_793 (by decide) ?_
      refine va_lald hx hb hK hP 0 1 rfl rfl (by unfold vp_in; decide) dL_law_794 ?_
      refine lv_iload hx hb dL_law_795 (lv_at hl 0 rfl) ?_
      refine lv_i2l (v := r2.toInt64) hx hb dL_law_797 rfl ?_
      refine W.lcmp hx hb dL_law_798 ?_
      refine g_nrm (y := 0) (g_cmp0 (by rw [g_z0, hg0, hpo.1, hr2])) ?_
      refine lv_if_eq (tgt := 804) hx hb dL_law_799 (by decide) (fun _ => ?_) (fun h => absurd (by decide) h)
      refine lv_goto (tgt := 919) hx hb dL_law_804 (by decide) ?_
      refine lv_iinc (v := 4) (lv' := [(4, .int 4), (6, .int r2), (5, .int 0), (3, .ref o), (2, .ref h1), (1, .ref h0), (0, .ref b)]) hx hb dL_law_919 hl (k := 2) rfl (by decide) (by decide) rfl (fun ls hl => ?_)
      refine lv_goto (tgt := 23) hx hb dL_law_922 (by decide) ?_
      refine lv_iload hx hb dL_law_23 (lv_at hl 0 rfl) ?_
      refine lv_aload_n hx hb dL_law_25 rfl (lv_at hl 6 rfl) ?_
      refine va_slen hx hb hX hbl hbA hS dL_law_26 ?_
      refine g_nrm (y := 4) (by decide) ?_
      refine lv_iconst (v := 4) hx hb dL_law_27 (by decide) ?_
      refine lv_isub hx hb dL_law_28 ?_
      refine g_nrm (y := 0) (by decide) ?_
      refine lv_icmp_gt (tgt := 925) hx hb dL_law_29 (by decide) (fun _ => ?_) (fun h => absurd (by decide) h)
      refine lv_iconst (v := 1) hx hb dL_law_925 (by decide) ?_
      refine va_forget (fun q hq => hAf _ (hS.2.2 q hq)) ?_
      refine W.widen (k := 600006) (n := 7302024) (Nat.le_of_ble_eq_true rfl) (Nat.le_of_ble_eq_true rfl) ?_
      exact lw_ret hx hb hr hlocks dL_law_926
    · exact absurd hpo.2 hp2
  · refine lv_istore (lv' := [(5, .int 1), (4, .int 0), (3, .ref o), (2, .ref h1), (1, .ref h0), (0, .ref b)]) hx hb dL_law_762 hl (by decide) rfl (fun ls hl => ?_)
    refine lv_aload_n hx hb dL_law_764 rfl (lv_at hl 3 rfl) ?_
    refine lv_aload_n hx hb dL_law_765 rfl (lv_at hl 5 rfl) ?_
    refine lv_iload hx hb dL_law_766 (lv_at hl 1 rfl) ?_
    refine lv_iconst (v := 1) hx hb dL_law_768 (by decide) ?_
    refine lv_iadd hx hb dL_law_769 ?_
    refine g_nrm (y := 1) (by decide) ?_
    refine va_sld hx hb hX hbl hbA hS (by unfold vp_in; decide) dL_law_770 ?_
    refine g_Vi (n := 1) (As := [.int (xs (1 : Int32).toNatClampNeg)]) (rest := []) (wr := [(o, .inl (dA 1, 1, .inr (.inl g)))]) hx hb hml hg hown hK hP hD hS hA (c_X11_register l D dA h1 am (xs (1 : Int32).toNatClampNeg) _) [0, 1] [2] rfl (by decide) rfl (by decide) (by decide) 0 rfl rfl q2225 q160 q2222 q2223 q2224 (by decide +kernel) ⟨(Nat.le_of_ble_eq_true rfl), (Nat.le_of_ble_eq_true rfl)⟩ rfl hl.1 rfl (Nat.le_of_ble_eq_true rfl) dL_law_771 ⟨(Nat.le_of_ble_eq_true rfl), (Nat.le_of_ble_eq_true rfl)⟩ (fun r2 u H locs hw hP hD hS => ?_)
    refine W.widen (k := 134) (n := 41145) (Nat.le_of_ble_eq_true rfl) (Nat.le_of_ble_eq_true rfl) ?_
    have hP : va_P D vwC [(o, .inl (dA 1, 1, .inr (.inl g))), (h1, .inr (11, u))] H := hP
    have hD : va_D A [(o, .inl (dA 1, 1, .inr (.inl g))), (h1, .inr (11, u))] := hD
    obtain ⟨t, hf, hpm⟩ := hw
    rcases hpm with ⟨rfl, hr2, hp2⟩ | ⟨rfl, hp2⟩
    · exact absurd hp2 hq
    · refine lv_istore (lv' := [(6, .int r2), (5, .int 1), (4, .int 0), (3, .ref o), (2, .ref h1), (1, .ref h0), (0, .ref b)]) hx hb dL_law_774 hl (by decide) rfl (fun ls hl => ?_)
      refine lv_aload_n hx hb dL_law_776 rfl (lv_at hl 4 rfl) ?_
      refine g_Vi (n := 0) (As := []) (rest := []) (wr := [(o, .inl (dA 1, 1, .inr (.inl g)))]) hx hb hml hg hown hK hP hD hS hA (c_thrown l D dA h1 u 1 hf _) [1] [0] rfl (by decide) rfl (by decide) (by decide) 0 rfl rfl q1875 q160 q1872 q1873 q1874 (by decide +kernel) ⟨(Nat.le_of_ble_eq_true rfl), (Nat.le_of_ble_eq_true rfl)⟩ rfl hl.1 rfl (Nat.le_of_ble_eq_true rfl) dL_law_777 ⟨(Nat.le_of_ble_eq_true rfl), (Nat.le_of_ble_eq_true rfl)⟩ (fun r3 u2 H locs hw hP hD hS => ?_)
      refine W.widen (k := 134) (n := 41145) (Nat.le_of_ble_eq_true rfl) (Nat.le_of_ble_eq_true rfl) ?_
      have hP : va_P D vwC [(o, .inl (dA 1, 1, .inr (.inl g))), (h1, .inr (11, u))] H := hP
      have hD : va_D A [(o, .inl (dA 1, 1, .inr (.inl g))), (h1, .inr (11, u))] := hD
      obtain rfl : r3 = 1 := hw
      refine lv_iload hx hb dL_law_780 (lv_at hl 1 rfl) ?_
      refine lv_icmp_eq (tgt := 787) hx hb dL_law_782 (by decide) (fun _ => ?_) (fun h => absurd (by decide) h)
      refine lv_iload hx hb dL_law_787 (lv_at hl 1 rfl) ?_
      refine lv_if_ne (tgt := 804) hx hb dL_law_789 (by decide) (fun _ => ?_) (fun h => absurd h (by decide))
      refine lv_goto (tgt := 919) hx hb dL_law_804 (by decide) ?_
      refine lv_iinc (v := 4) (lv' := [(4, .int 4), (6, .int r2), (5, .int 1), (3, .ref o), (2, .ref h1), (1, .ref h0), (0, .ref b)]) hx hb dL_law_919 hl (k := 2) rfl (by decide) (by decide) rfl (fun ls hl => ?_)
      refine lv_goto (tgt := 23) hx hb dL_law_922 (by decide) ?_
      refine lv_iload hx hb dL_law_23 (lv_at hl 0 rfl) ?_
      refine lv_aload_n hx hb dL_law_25 rfl (lv_at hl 6 rfl) ?_
      refine va_slen hx hb hX hbl hbA hS dL_law_26 ?_
      refine g_nrm (y := 4) (by decide) ?_
      refine lv_iconst (v := 4) hx hb dL_law_27 (by decide) ?_
      refine lv_isub hx hb dL_law_28 ?_
      refine g_nrm (y := 0) (by decide) ?_
      refine lv_icmp_gt (tgt := 925) hx hb dL_law_29 (by decide) (fun _ => ?_) (fun h => absurd (by decide) h)
      refine lv_iconst (v := 1) hx hb dL_law_925 (by decide) ?_
      refine va_forget (fun q hq => hAf _ (hS.2.2 q hq)) ?_
      refine W.widen (k := 600006) (n := 7302024) (Nat.le_of_ble_eq_true rfl) (Nat.le_of_ble_eq_true rfl) ?_
      exact lw_ret hx hb hr hlocks dL_law_926
set_option maxHeartbeats 4000000 in
set_option maxRecDepth 100000 in
theorem law_trace {p : Program} {e : Env} {s : State} {m : MethodId} {below : List Frame} {meth : Method} {c : Code} {l : Launch} (htr : l.stackTraces = false) {b : Nat} {xs : Nat → Int32} (hx : p.tables.exec = Jvm.exec) (hb : c.code = code) (hr : meth.sig.returnType = ret) (hml : c.maxLocals = 7) (hown : s.vm.findClass RL = some m.cls) (hg : ∀ w ∈ gw, w.before #[Value.ref b] s = true) (hX : va_X b 4 xs s s.heap) (hbl : b < s.heap.size) (hlocks : meth.locks = false) {D : va_G} {dA : Nat → ClassId} {A : Nat → Prop} (hA : ∀ q : Nat, s.heap.size ≤ q → A q) (hAf : ∀ q : Nat, A q → s.heap.size ≤ q) (hbA : ¬ A b) (hZ : gZ A s) (hN : gNc s) (hK : gK D dA s) {h0 : Nat} {ad : Nat → Nat} {h1 : Nat} {am : Nat → Nat} {o : Nat} {g0 : Nat → Int64} {H : Heap} {locs : List Loc} {ls : Array Slot} (hP : va_P D vwC [(h0, .inr (10, [.ref (ad 0), .int 0, .int (-1), .int (-1), .ref (ad 1), .ref (ad 2), .ref (ad 3), .ref (ad 4), .ref (ad 5), .ref (ad 6), .ref (ad 7), .ref (ad 8)])), (ad 8, .inr (4, [.ref (ad 78), .ref (ad 79), .ref (ad 80), .int 0, .int 0, .int 0, .int 0, .int 1, .int 0, .int 0, .ref (ad 81), .int 0, .int 0, .int 0])), (h1, .inr (11, [.int 0, .ref (am 0), .int 0, .int (-1), .int (-1), .int 0, .int 0, .int 0, .long 0, .int 0, .int 0, .ref (am 1), .ref (am 2), .ref (am 3), .ref (am 4), .ref (am 5), .ref (am 6), .int 0, .int 0, .ref (am 7), .ref (am 8), .ref (am 9), .ref (am 10), .int 0, .ref (am 11), .ref (am 12), .ref (am 13), .ref (am 14), .ref (am 15), .ref (am 16), .ref (am 17), .int 0, .int 0, .int 0, .int 0, .ref (am 18), .ref (am 19), .int 0, .int 0, .int 0, .int 0, .int 0, .int 0, .ref (am 20), .ref (am 21), .ref (am 22), .ref (am 23), .ref (am 24), .ref (am 25), .ref (am 26), .ref (am 27), .ref (am 28), .ref (am 29), .ref (am 30), .ref (am 31), .ref (am 32), .ref (am 33), .ref (am 34), .ref (am 35), .ref (am 36), .int 0, .ref (am 37), .int 0, .ref (am 38), .int 0, .int 0, .int 0, .ref (am 39), .ref (am 40), .ref (am 41), .ref (am 42), .ref (am 43), .ref (am 44), .int 0, .ref (am 45), .ref (am 46), .int 1, .int 0, .int 0, .ref (am 47), .int 0, .int 0, .int 0, .int 0, .int 0])), (o, .inl (dA 1, 1, .inr (.inl g0)))] H) (hD : va_D A [(h0, .inr (10, [.ref (ad 0), .int 0, .int (-1), .int (-1), .ref (ad 1), .ref (ad 2), .ref (ad 3), .ref (ad 4), .ref (ad 5), .ref (ad 6), .ref (ad 7), .ref (ad 8)])), (ad 8, .inr (4, [.ref (ad 78), .ref (ad 79), .ref (ad 80), .int 0, .int 0, .int 0, .int 0, .int 1, .int 0, .int 0, .ref (ad 81), .int 0, .int 0, .int 0])), (h1, .inr (11, [.int 0, .ref (am 0), .int 0, .int (-1), .int (-1), .int 0, .int 0, .int 0, .long 0, .int 0, .int 0, .ref (am 1), .ref (am 2), .ref (am 3), .ref (am 4), .ref (am 5), .ref (am 6), .int 0, .int 0, .ref (am 7), .ref (am 8), .ref (am 9), .ref (am 10), .int 0, .ref (am 11), .ref (am 12), .ref (am 13), .ref (am 14), .ref (am 15), .ref (am 16), .ref (am 17), .int 0, .int 0, .int 0, .int 0, .ref (am 18), .ref (am 19), .int 0, .int 0, .int 0, .int 0, .int 0, .int 0, .ref (am 20), .ref (am 21), .ref (am 22), .ref (am 23), .ref (am 24), .ref (am 25), .ref (am 26), .ref (am 27), .ref (am 28), .ref (am 29), .ref (am 30), .ref (am 31), .ref (am 32), .ref (am 33), .ref (am 34), .ref (am 35), .ref (am 36), .int 0, .ref (am 37), .int 0, .ref (am 38), .int 0, .int 0, .int 0, .ref (am 39), .ref (am 40), .ref (am 41), .ref (am 42), .ref (am 43), .ref (am 44), .int 0, .ref (am 45), .ref (am 46), .int 1, .int 0, .int 0, .ref (am 47), .int 0, .int 0, .int 0, .int 0, .int 0])), (o, .inl (dA 1, 1, .inr (.inl g0)))]) (hS : va_S A s.heap H locs) (hl : lv_has ls 7 [(4, .int 0), (3, .ref o), (2, .ref h1), (1, .ref h0), (0, .ref b)]) : W p l e room_1 s m #[Value.ref b] below meth c H locs 133 41139 (lw_Z below #[Value.ref b] s) (F0 m 807 ls []) := by
  refine lv_aload_n hx hb dL_law_807 rfl (lv_at hl 3 rfl) ?_
  refine lv_aload_n hx hb dL_law_808 rfl (lv_at hl 4 rfl) ?_
  refine lv_iload hx hb dL_law_809 (lv_at hl 0 rfl) ?_
  refine lv_iconst (v := 1) hx hb dL_law_811 (by decide) ?_
  refine lv_iadd hx hb dL_law_812 ?_
  refine g_nrm (y := 1) (by decide) ?_
  refine va_sld hx hb hX hbl hbA hS (by unfold vp_in; decide) dL_law_813 ?_
  refine lv_aload_n hx hb dL_law_814 rfl (lv_at hl 1 rfl) ?_
  refine g_SW (n := 3) (hh := [(0, 9, 12, 15)]) (As := [.ref h0, .int (xs (1 : Int32).toNatClampNeg), .ref o]) (rest := []) (wr := [(h1, .inr (11, [.int 0, .ref (am 0), .int 0, .int (-1), .int (-1), .int 0, .int 0, .int 0, .long 0, .int 0, .int 0, .ref (am 1), .ref (am 2), .ref (am 3), .ref (am 4), .ref (am 5), .ref (am 6), .int 0, .int 0, .ref (am 7), .ref (am 8), .ref (am 9), .ref (am 10), .int 0, .ref (am 11), .ref (am 12), .ref (am 13), .ref (am 14), .ref (am 15), .ref (am 16), .ref (am 17), .int 0, .int 0, .int 0, .int 0, .ref (am 18), .ref (am 19), .int 0, .int 0, .int 0, .int 0, .int 0, .int 0, .ref (am 20), .ref (am 21), .ref (am 22), .ref (am 23), .ref (am 24), .ref (am 25), .ref (am 26), .ref (am 27), .ref (am 28), .ref (am 29), .ref (am 30), .ref (am 31), .ref (am 32), .ref (am 33), .ref (am 34), .ref (am 35), .ref (am 36), .int 0, .ref (am 37), .int 0, .ref (am 38), .int 0, .int 0, .int 0, .ref (am 39), .ref (am 40), .ref (am 41), .ref (am 42), .ref (am 43), .ref (am 44), .int 0, .ref (am 45), .ref (am 46), .int 1, .int 0, .int 0, .ref (am 47), .int 0, .int 0, .int 0, .int 0, .int 0]))]) hx hb hml hg hown hZ hN hK hP hD hS hA (w_trace l htr D dA h0 ad o g0 (xs (1 : Int32).toNatClampNeg) _) [0, 1, 3] [2] rfl (by decide) rfl (by decide) (by decide) q1547 q148 q1545 q1546 (by decide +kernel) ⟨(Nat.le_of_ble_eq_true rfl), (Nat.le_of_ble_eq_true rfl)⟩ rfl hl.1 rfl (Nat.le_of_ble_eq_true rfl) dL_law_815 ⟨(Nat.le_of_ble_eq_true rfl), (Nat.le_of_ble_eq_true rfl)⟩ (fun k g H locs hw hP hD hS => ?_)
  refine W.widen (k := 134) (n := 41145) (Nat.le_of_ble_eq_true rfl) (Nat.le_of_ble_eq_true rfl) ?_
  have hP : va_P D vwC [(h1, .inr (11, [.int 0, .ref (am 0), .int 0, .int (-1), .int (-1), .int 0, .int 0, .int 0, .long 0, .int 0, .int 0, .ref (am 1), .ref (am 2), .ref (am 3), .ref (am 4), .ref (am 5), .ref (am 6), .int 0, .int 0, .ref (am 7), .ref (am 8), .ref (am 9), .ref (am 10), .int 0, .ref (am 11), .ref (am 12), .ref (am 13), .ref (am 14), .ref (am 15), .ref (am 16), .ref (am 17), .int 0, .int 0, .int 0, .int 0, .ref (am 18), .ref (am 19), .int 0, .int 0, .int 0, .int 0, .int 0, .int 0, .ref (am 20), .ref (am 21), .ref (am 22), .ref (am 23), .ref (am 24), .ref (am 25), .ref (am 26), .ref (am 27), .ref (am 28), .ref (am 29), .ref (am 30), .ref (am 31), .ref (am 32), .ref (am 33), .ref (am 34), .ref (am 35), .ref (am 36), .int 0, .ref (am 37), .int 0, .ref (am 38), .int 0, .int 0, .int 0, .ref (am 39), .ref (am 40), .ref (am 41), .ref (am 42), .ref (am 43), .ref (am 44), .int 0, .ref (am 45), .ref (am 46), .int 1, .int 0, .int 0, .ref (am 47), .int 0, .int 0, .int 0, .int 0, .int 0])), (o, .inl (dA 1, 1, .inr (.inl g)))] H := hP
  have hD : va_D A [(h1, .inr (11, [.int 0, .ref (am 0), .int 0, .int (-1), .int (-1), .int 0, .int 0, .int 0, .long 0, .int 0, .int 0, .ref (am 1), .ref (am 2), .ref (am 3), .ref (am 4), .ref (am 5), .ref (am 6), .int 0, .int 0, .ref (am 7), .ref (am 8), .ref (am 9), .ref (am 10), .int 0, .ref (am 11), .ref (am 12), .ref (am 13), .ref (am 14), .ref (am 15), .ref (am 16), .ref (am 17), .int 0, .int 0, .int 0, .int 0, .ref (am 18), .ref (am 19), .int 0, .int 0, .int 0, .int 0, .int 0, .int 0, .ref (am 20), .ref (am 21), .ref (am 22), .ref (am 23), .ref (am 24), .ref (am 25), .ref (am 26), .ref (am 27), .ref (am 28), .ref (am 29), .ref (am 30), .ref (am 31), .ref (am 32), .ref (am 33), .ref (am 34), .ref (am 35), .ref (am 36), .int 0, .ref (am 37), .int 0, .ref (am 38), .int 0, .int 0, .int 0, .ref (am 39), .ref (am 40), .ref (am 41), .ref (am 42), .ref (am 43), .ref (am 44), .int 0, .ref (am 45), .ref (am 46), .int 1, .int 0, .int 0, .ref (am 47), .int 0, .int 0, .int 0, .int 0, .int 0])), (o, .inl (dA 1, 1, .inr (.inl g)))] := hD
  obtain rfl : k = 1 := hw
  refine lv_istore (lv' := [(5, .int 1), (4, .int 0), (3, .ref o), (2, .ref h1), (1, .ref h0), (0, .ref b)]) hx hb dL_law_818 hl (by decide) rfl (fun ls hl => ?_)
  refine lv_aload_n hx hb dL_law_820 rfl (lv_at hl 3 rfl) ?_
  refine lv_aload_n hx hb dL_law_821 rfl (lv_at hl 5 rfl) ?_
  refine lv_iload hx hb dL_law_822 (lv_at hl 1 rfl) ?_
  refine lv_iconst (v := 1) hx hb dL_law_824 (by decide) ?_
  refine lv_iadd hx hb dL_law_825 ?_
  refine g_nrm (y := 1) (by decide) ?_
  refine va_sld hx hb hX hbl hbA hS (by unfold vp_in; decide) dL_law_826 ?_
  refine g_Vi (n := 1) (As := [.int (xs (1 : Int32).toNatClampNeg)]) (rest := []) (wr := [(o, .inl (dA 1, 1, .inr (.inl g)))]) hx hb hml hg hown hK hP hD hS hA (c_X11_trace l D dA h1 am (xs (1 : Int32).toNatClampNeg) _) [0] [1] rfl (by decide) rfl (by decide) (by decide) 0 rfl rfl q2229 q160 q2226 q2227 q2228 (by decide +kernel) ⟨(Nat.le_of_ble_eq_true rfl), (Nat.le_of_ble_eq_true rfl)⟩ rfl hl.1 rfl (Nat.le_of_ble_eq_true rfl) dL_law_827 ⟨(Nat.le_of_ble_eq_true rfl), (Nat.le_of_ble_eq_true rfl)⟩ (fun r2 u H locs hw hP hD hS => ?_)
  refine W.widen (k := 134) (n := 41145) (Nat.le_of_ble_eq_true rfl) (Nat.le_of_ble_eq_true rfl) ?_
  have hP : va_P D vwC [(o, .inl (dA 1, 1, .inr (.inl g))), (h1, .inr (11, u))] H := hP
  have hD : va_D A [(o, .inl (dA 1, 1, .inr (.inl g))), (h1, .inr (11, u))] := hD
  obtain ⟨t, hf, hpm⟩ := hw
  obtain rfl : t = 1 := hpm
  refine lv_istore (lv' := [(6, .int r2), (5, .int 1), (4, .int 0), (3, .ref o), (2, .ref h1), (1, .ref h0), (0, .ref b)]) hx hb dL_law_830 hl (by decide) rfl (fun ls hl => ?_)
  refine lv_aload_n hx hb dL_law_832 rfl (lv_at hl 4 rfl) ?_
  refine g_Vi (n := 0) (As := []) (rest := []) (wr := [(o, .inl (dA 1, 1, .inr (.inl g)))]) hx hb hml hg hown hK hP hD hS hA (c_thrown l D dA h1 u 1 hf _) [1] [0] rfl (by decide) rfl (by decide) (by decide) 0 rfl rfl q1875 q160 q1872 q1873 q1874 (by decide +kernel) ⟨(Nat.le_of_ble_eq_true rfl), (Nat.le_of_ble_eq_true rfl)⟩ rfl hl.1 rfl (Nat.le_of_ble_eq_true rfl) dL_law_833 ⟨(Nat.le_of_ble_eq_true rfl), (Nat.le_of_ble_eq_true rfl)⟩ (fun r3 u2 H locs hw hP hD hS => ?_)
  refine W.widen (k := 134) (n := 41145) (Nat.le_of_ble_eq_true rfl) (Nat.le_of_ble_eq_true rfl) ?_
  have hP : va_P D vwC [(o, .inl (dA 1, 1, .inr (.inl g))), (h1, .inr (11, u))] H := hP
  have hD : va_D A [(o, .inl (dA 1, 1, .inr (.inl g))), (h1, .inr (11, u))] := hD
  obtain rfl : r3 = 1 := hw
  refine lv_iload hx hb dL_law_836 (lv_at hl 1 rfl) ?_
  refine lv_icmp_eq (tgt := 843) hx hb dL_law_838 (by decide) (fun _ => ?_) (fun h => absurd (by decide) h)
  refine lv_iload hx hb dL_law_843 (lv_at hl 1 rfl) ?_
  refine lv_if_ne (tgt := 860) hx hb dL_law_845 (by decide) (fun _ => ?_) (fun h => absurd h (by decide))
  refine lv_goto (tgt := 919) hx hb dL_law_860 (by decide) ?_
  refine lv_iinc (v := 4) (lv' := [(4, .int 4), (6, .int r2), (5, .int 1), (3, .ref o), (2, .ref h1), (1, .ref h0), (0, .ref b)]) hx hb dL_law_919 hl (k := 2) rfl (by decide) (by decide) rfl (fun ls hl => ?_)
  refine lv_goto (tgt := 23) hx hb dL_law_922 (by decide) ?_
  refine lv_iload hx hb dL_law_23 (lv_at hl 0 rfl) ?_
  refine lv_aload_n hx hb dL_law_25 rfl (lv_at hl 6 rfl) ?_
  refine va_slen hx hb hX hbl hbA hS dL_law_26 ?_
  refine g_nrm (y := 4) (by decide) ?_
  refine lv_iconst (v := 4) hx hb dL_law_27 (by decide) ?_
  refine lv_isub hx hb dL_law_28 ?_
  refine g_nrm (y := 0) (by decide) ?_
  refine lv_icmp_gt (tgt := 925) hx hb dL_law_29 (by decide) (fun _ => ?_) (fun h => absurd (by decide) h)
  refine lv_iconst (v := 1) hx hb dL_law_925 (by decide) ?_
  refine va_forget (fun q hq => hAf _ (hS.2.2 q hq)) ?_
  refine W.widen (k := 600006) (n := 7302024) (Nat.le_of_ble_eq_true rfl) (Nat.le_of_ble_eq_true rfl) ?_
  exact lw_ret hx hb hr hlocks dL_law_926
set_option maxHeartbeats 4000000 in
set_option maxRecDepth 100000 in
theorem law_count {p : Program} {e : Env} {s : State} {m : MethodId} {below : List Frame} {meth : Method} {c : Code} {l : Launch} (htr : l.stackTraces = false) {b : Nat} {xs : Nat → Int32} (hx : p.tables.exec = Jvm.exec) (hb : c.code = code) (hr : meth.sig.returnType = ret) (hml : c.maxLocals = 7) (hown : s.vm.findClass RL = some m.cls) (hg : ∀ w ∈ gw, w.before #[Value.ref b] s = true) (hX : va_X b 4 xs s s.heap) (hbl : b < s.heap.size) (hlocks : meth.locks = false) {D : va_G} {dA : Nat → ClassId} {A : Nat → Prop} (hA : ∀ q : Nat, s.heap.size ≤ q → A q) (hAf : ∀ q : Nat, A q → s.heap.size ≤ q) (hbA : ¬ A b) (hZ : gZ A s) (hN : gNc s) (hK : gK D dA s) {h0 : Nat} {ad : Nat → Nat} {h1 : Nat} {am : Nat → Nat} {o : Nat} {g0 : Nat → Int64} {H : Heap} {locs : List Loc} {ls : Array Slot} (hP : va_P D vwC [(h0, .inr (10, [.ref (ad 0), .int 0, .int (-1), .int (-1), .ref (ad 1), .ref (ad 2), .ref (ad 3), .ref (ad 4), .ref (ad 5), .ref (ad 6), .ref (ad 7), .ref (ad 8)])), (ad 8, .inr (4, [.ref (ad 78), .ref (ad 79), .ref (ad 80), .int 0, .int 0, .int 0, .int 0, .int 1, .int 0, .int 0, .ref (ad 81), .int 0, .int 0, .int 0])), (ad 7, .inr (1, [.int 0, .int 0, .ref (ad 76), .int 0, .ref (ad 77), .int 0, .int 0])), (ad 5, .inl (dA 4, 3, .inr (.inr (.inr (.inr (gM (ad 29) (ad 30) (ad 31))))))), (ad 29, .inr (6, [.int 0, .int 0, .ref (ad 32), .ref (ad 33), .ref (ad 34), .ref (ad 35), .ref (ad 36), .int 0, .ref (ad 37), .ref (ad 38), .ref (ad 39), .ref (ad 40), .ref (ad 41), .int 0, .ref (ad 42), .ref (ad 43), .ref (ad 44)])), (ad 30, .inr (6, [.int 0, .int 0, .ref (ad 45), .ref (ad 46), .ref (ad 47), .ref (ad 48), .ref (ad 49), .int 0, .ref (ad 50), .ref (ad 51), .ref (ad 52), .ref (ad 53), .ref (ad 54), .int 0, .ref (ad 55), .ref (ad 56), .ref (ad 57)])), (ad 31, .inr (6, [.int 0, .int 0, .ref (ad 58), .ref (ad 59), .ref (ad 60), .ref (ad 61), .ref (ad 62), .int 0, .ref (ad 63), .ref (ad 64), .ref (ad 65), .ref (ad 66), .ref (ad 67), .int 0, .ref (ad 68), .ref (ad 69), .ref (ad 70)])), (h1, .inr (11, [.int 0, .ref (am 0), .int 0, .int (-1), .int (-1), .int 0, .int 0, .int 0, .long 0, .int 0, .int 0, .ref (am 1), .ref (am 2), .ref (am 3), .ref (am 4), .ref (am 5), .ref (am 6), .int 0, .int 0, .ref (am 7), .ref (am 8), .ref (am 9), .ref (am 10), .int 0, .ref (am 11), .ref (am 12), .ref (am 13), .ref (am 14), .ref (am 15), .ref (am 16), .ref (am 17), .int 0, .int 0, .int 0, .int 0, .ref (am 18), .ref (am 19), .int 0, .int 0, .int 0, .int 0, .int 0, .int 0, .ref (am 20), .ref (am 21), .ref (am 22), .ref (am 23), .ref (am 24), .ref (am 25), .ref (am 26), .ref (am 27), .ref (am 28), .ref (am 29), .ref (am 30), .ref (am 31), .ref (am 32), .ref (am 33), .ref (am 34), .ref (am 35), .ref (am 36), .int 0, .ref (am 37), .int 0, .ref (am 38), .int 0, .int 0, .int 0, .ref (am 39), .ref (am 40), .ref (am 41), .ref (am 42), .ref (am 43), .ref (am 44), .int 0, .ref (am 45), .ref (am 46), .int 1, .int 0, .int 0, .ref (am 47), .int 0, .int 0, .int 0, .int 0, .int 0])), (am 20, .inl (dA 3, 3, .inl (fun _ => 0))), (o, .inl (dA 1, 1, .inr (.inl g0)))] H) (hD : va_D A [(h0, .inr (10, [.ref (ad 0), .int 0, .int (-1), .int (-1), .ref (ad 1), .ref (ad 2), .ref (ad 3), .ref (ad 4), .ref (ad 5), .ref (ad 6), .ref (ad 7), .ref (ad 8)])), (ad 8, .inr (4, [.ref (ad 78), .ref (ad 79), .ref (ad 80), .int 0, .int 0, .int 0, .int 0, .int 1, .int 0, .int 0, .ref (ad 81), .int 0, .int 0, .int 0])), (ad 7, .inr (1, [.int 0, .int 0, .ref (ad 76), .int 0, .ref (ad 77), .int 0, .int 0])), (ad 5, .inl (dA 4, 3, .inr (.inr (.inr (.inr (gM (ad 29) (ad 30) (ad 31))))))), (ad 29, .inr (6, [.int 0, .int 0, .ref (ad 32), .ref (ad 33), .ref (ad 34), .ref (ad 35), .ref (ad 36), .int 0, .ref (ad 37), .ref (ad 38), .ref (ad 39), .ref (ad 40), .ref (ad 41), .int 0, .ref (ad 42), .ref (ad 43), .ref (ad 44)])), (ad 30, .inr (6, [.int 0, .int 0, .ref (ad 45), .ref (ad 46), .ref (ad 47), .ref (ad 48), .ref (ad 49), .int 0, .ref (ad 50), .ref (ad 51), .ref (ad 52), .ref (ad 53), .ref (ad 54), .int 0, .ref (ad 55), .ref (ad 56), .ref (ad 57)])), (ad 31, .inr (6, [.int 0, .int 0, .ref (ad 58), .ref (ad 59), .ref (ad 60), .ref (ad 61), .ref (ad 62), .int 0, .ref (ad 63), .ref (ad 64), .ref (ad 65), .ref (ad 66), .ref (ad 67), .int 0, .ref (ad 68), .ref (ad 69), .ref (ad 70)])), (h1, .inr (11, [.int 0, .ref (am 0), .int 0, .int (-1), .int (-1), .int 0, .int 0, .int 0, .long 0, .int 0, .int 0, .ref (am 1), .ref (am 2), .ref (am 3), .ref (am 4), .ref (am 5), .ref (am 6), .int 0, .int 0, .ref (am 7), .ref (am 8), .ref (am 9), .ref (am 10), .int 0, .ref (am 11), .ref (am 12), .ref (am 13), .ref (am 14), .ref (am 15), .ref (am 16), .ref (am 17), .int 0, .int 0, .int 0, .int 0, .ref (am 18), .ref (am 19), .int 0, .int 0, .int 0, .int 0, .int 0, .int 0, .ref (am 20), .ref (am 21), .ref (am 22), .ref (am 23), .ref (am 24), .ref (am 25), .ref (am 26), .ref (am 27), .ref (am 28), .ref (am 29), .ref (am 30), .ref (am 31), .ref (am 32), .ref (am 33), .ref (am 34), .ref (am 35), .ref (am 36), .int 0, .ref (am 37), .int 0, .ref (am 38), .int 0, .int 0, .int 0, .ref (am 39), .ref (am 40), .ref (am 41), .ref (am 42), .ref (am 43), .ref (am 44), .int 0, .ref (am 45), .ref (am 46), .int 1, .int 0, .int 0, .ref (am 47), .int 0, .int 0, .int 0, .int 0, .int 0])), (am 20, .inl (dA 3, 3, .inl (fun _ => 0))), (o, .inl (dA 1, 1, .inr (.inl g0)))]) (hS : va_S A s.heap H locs) (hl : lv_has ls 7 [(4, .int 0), (3, .ref o), (2, .ref h1), (1, .ref h0), (0, .ref b)]) : W p l e room_1 s m #[Value.ref b] below meth c H locs 133 41139 (lw_Z below #[Value.ref b] s) (F0 m 863 ls []) := by
  refine lv_aload_n hx hb dL_law_863 rfl (lv_at hl 3 rfl) ?_
  refine lv_aload_n hx hb dL_law_864 rfl (lv_at hl 4 rfl) ?_
  refine lv_iload hx hb dL_law_865 (lv_at hl 0 rfl) ?_
  refine lv_iconst (v := 1) hx hb dL_law_867 (by decide) ?_
  refine lv_iadd hx hb dL_law_868 ?_
  refine g_nrm (y := 1) (by decide) ?_
  refine va_sld hx hb hX hbl hbA hS (by unfold vp_in; decide) dL_law_869 ?_
  refine lv_aload_n hx hb dL_law_870 rfl (lv_at hl 1 rfl) ?_
  refine g_SW (n := 3) (hh := [(0, 9, 12, 13)]) (As := [.ref h0, .int (xs (1 : Int32).toNatClampNeg), .ref o]) (rest := []) (wr := [(h1, .inr (11, [.int 0, .ref (am 0), .int 0, .int (-1), .int (-1), .int 0, .int 0, .int 0, .long 0, .int 0, .int 0, .ref (am 1), .ref (am 2), .ref (am 3), .ref (am 4), .ref (am 5), .ref (am 6), .int 0, .int 0, .ref (am 7), .ref (am 8), .ref (am 9), .ref (am 10), .int 0, .ref (am 11), .ref (am 12), .ref (am 13), .ref (am 14), .ref (am 15), .ref (am 16), .ref (am 17), .int 0, .int 0, .int 0, .int 0, .ref (am 18), .ref (am 19), .int 0, .int 0, .int 0, .int 0, .int 0, .int 0, .ref (am 20), .ref (am 21), .ref (am 22), .ref (am 23), .ref (am 24), .ref (am 25), .ref (am 26), .ref (am 27), .ref (am 28), .ref (am 29), .ref (am 30), .ref (am 31), .ref (am 32), .ref (am 33), .ref (am 34), .ref (am 35), .ref (am 36), .int 0, .ref (am 37), .int 0, .ref (am 38), .int 0, .int 0, .int 0, .ref (am 39), .ref (am 40), .ref (am 41), .ref (am 42), .ref (am 43), .ref (am 44), .int 0, .ref (am 45), .ref (am 46), .int 1, .int 0, .int 0, .ref (am 47), .int 0, .int 0, .int 0, .int 0, .int 0])), (am 20, .inl (dA 3, 3, .inl (fun _ => 0)))]) hx hb hml hg hown hZ hN hK hP hD hS hA (w_count l htr D dA h0 ad o g0 (xs (1 : Int32).toNatClampNeg) _) [0, 1, 2, 3, 4, 5, 6, 9] [7, 8] rfl (by decide) rfl (by decide) (by decide) q1555 q148 q1553 q1554 (by decide +kernel) ⟨(Nat.le_of_ble_eq_true rfl), (Nat.le_of_ble_eq_true rfl)⟩ rfl hl.1 rfl (Nat.le_of_ble_eq_true rfl) dL_law_871 ⟨(Nat.le_of_ble_eq_true rfl), (Nat.le_of_ble_eq_true rfl)⟩ (fun k g H locs hw hP hD hS => ?_)
  refine W.widen (k := 134) (n := 41145) (Nat.le_of_ble_eq_true rfl) (Nat.le_of_ble_eq_true rfl) ?_
  have hP : va_P D vwC [(h1, .inr (11, [.int 0, .ref (am 0), .int 0, .int (-1), .int (-1), .int 0, .int 0, .int 0, .long 0, .int 0, .int 0, .ref (am 1), .ref (am 2), .ref (am 3), .ref (am 4), .ref (am 5), .ref (am 6), .int 0, .int 0, .ref (am 7), .ref (am 8), .ref (am 9), .ref (am 10), .int 0, .ref (am 11), .ref (am 12), .ref (am 13), .ref (am 14), .ref (am 15), .ref (am 16), .ref (am 17), .int 0, .int 0, .int 0, .int 0, .ref (am 18), .ref (am 19), .int 0, .int 0, .int 0, .int 0, .int 0, .int 0, .ref (am 20), .ref (am 21), .ref (am 22), .ref (am 23), .ref (am 24), .ref (am 25), .ref (am 26), .ref (am 27), .ref (am 28), .ref (am 29), .ref (am 30), .ref (am 31), .ref (am 32), .ref (am 33), .ref (am 34), .ref (am 35), .ref (am 36), .int 0, .ref (am 37), .int 0, .ref (am 38), .int 0, .int 0, .int 0, .ref (am 39), .ref (am 40), .ref (am 41), .ref (am 42), .ref (am 43), .ref (am 44), .int 0, .ref (am 45), .ref (am 46), .int 1, .int 0, .int 0, .ref (am 47), .int 0, .int 0, .int 0, .int 0, .int 0])), (am 20, .inl (dA 3, 3, .inl (fun _ => 0))), (o, .inl (dA 1, 1, .inr (.inl g)))] H := hP
  have hD : va_D A [(h1, .inr (11, [.int 0, .ref (am 0), .int 0, .int (-1), .int (-1), .int 0, .int 0, .int 0, .long 0, .int 0, .int 0, .ref (am 1), .ref (am 2), .ref (am 3), .ref (am 4), .ref (am 5), .ref (am 6), .int 0, .int 0, .ref (am 7), .ref (am 8), .ref (am 9), .ref (am 10), .int 0, .ref (am 11), .ref (am 12), .ref (am 13), .ref (am 14), .ref (am 15), .ref (am 16), .ref (am 17), .int 0, .int 0, .int 0, .int 0, .ref (am 18), .ref (am 19), .int 0, .int 0, .int 0, .int 0, .int 0, .int 0, .ref (am 20), .ref (am 21), .ref (am 22), .ref (am 23), .ref (am 24), .ref (am 25), .ref (am 26), .ref (am 27), .ref (am 28), .ref (am 29), .ref (am 30), .ref (am 31), .ref (am 32), .ref (am 33), .ref (am 34), .ref (am 35), .ref (am 36), .int 0, .ref (am 37), .int 0, .ref (am 38), .int 0, .int 0, .int 0, .ref (am 39), .ref (am 40), .ref (am 41), .ref (am 42), .ref (am 43), .ref (am 44), .int 0, .ref (am 45), .ref (am 46), .int 1, .int 0, .int 0, .ref (am 47), .int 0, .int 0, .int 0, .int 0, .int 0])), (am 20, .inl (dA 3, 3, .inl (fun _ => 0))), (o, .inl (dA 1, 1, .inr (.inl g)))] := hD
  rcases hw with ⟨rfl, r1, hg0, hpo⟩ | ⟨rfl, hq⟩
  · refine lv_istore (lv' := [(5, .int 0), (4, .int 0), (3, .ref o), (2, .ref h1), (1, .ref h0), (0, .ref b)]) hx hb dL_law_874 hl (by decide) rfl (fun ls hl => ?_)
    refine lv_aload_n hx hb dL_law_876 rfl (lv_at hl 3 rfl) ?_
    refine lv_aload_n hx hb dL_law_877 rfl (lv_at hl 5 rfl) ?_
    refine lv_iload hx hb dL_law_878 (lv_at hl 1 rfl) ?_
    refine lv_iconst (v := 1) hx hb dL_law_880 (by decide) ?_
    refine lv_iadd hx hb dL_law_881 ?_
    refine g_nrm (y := 1) (by decide) ?_
    refine va_sld hx hb hX hbl hbA hS (by unfold vp_in; decide) dL_law_882 ?_
    refine g_Vi (n := 1) (As := [.int (xs (1 : Int32).toNatClampNeg)]) (rest := []) (wr := [(o, .inl (dA 1, 1, .inr (.inl g)))]) hx hb hml hg hown hK hP hD hS hA (c_X11_count l D dA h1 am (xs (1 : Int32).toNatClampNeg) _) [0, 1] [2] rfl (by decide) rfl (by decide) (by decide) 0 rfl rfl q2233 q160 q2230 q2231 q2232 (by decide +kernel) ⟨(Nat.le_of_ble_eq_true rfl), (Nat.le_of_ble_eq_true rfl)⟩ rfl hl.1 rfl (Nat.le_of_ble_eq_true rfl) dL_law_883 ⟨(Nat.le_of_ble_eq_true rfl), (Nat.le_of_ble_eq_true rfl)⟩ (fun r2 u H locs hw hP hD hS => ?_)
    refine W.widen (k := 134) (n := 41145) (Nat.le_of_ble_eq_true rfl) (Nat.le_of_ble_eq_true rfl) ?_
    have hP : va_P D vwC [(o, .inl (dA 1, 1, .inr (.inl g))), (h1, .inr (11, u))] H := hP
    have hD : va_D A [(o, .inl (dA 1, 1, .inr (.inl g))), (h1, .inr (11, u))] := hD
    obtain ⟨t, hf, hpm⟩ := hw
    rcases hpm with ⟨rfl, hr2, hp2⟩ | ⟨rfl, hp2⟩
    · refine lv_istore (lv' := [(6, .int r2), (5, .int 0), (4, .int 0), (3, .ref o), (2, .ref h1), (1, .ref h0), (0, .ref b)]) hx hb dL_law_886 hl (by decide) rfl (fun ls hl => ?_)
      refine lv_aload_n hx hb dL_law_888 rfl (lv_at hl 4 rfl) ?_
      refine g_Vi (n := 0) (As := []) (rest := []) (wr := [(o, .inl (dA 1, 1, .inr (.inl g)))]) hx hb hml hg hown hK hP hD hS hA (c_thrown l D dA h1 u 0 hf _) [1] [0] rfl (by decide) rfl (by decide) (by decide) 0 rfl rfl q1875 q160 q1872 q1873 q1874 (by decide +kernel) ⟨(Nat.le_of_ble_eq_true rfl), (Nat.le_of_ble_eq_true rfl)⟩ rfl hl.1 rfl (Nat.le_of_ble_eq_true rfl) dL_law_889 ⟨(Nat.le_of_ble_eq_true rfl), (Nat.le_of_ble_eq_true rfl)⟩ (fun r3 u2 H locs hw hP hD hS => ?_)
      refine W.widen (k := 134) (n := 41145) (Nat.le_of_ble_eq_true rfl) (Nat.le_of_ble_eq_true rfl) ?_
      have hP : va_P D vwC [(o, .inl (dA 1, 1, .inr (.inl g))), (h1, .inr (11, u))] H := hP
      have hD : va_D A [(o, .inl (dA 1, 1, .inr (.inl g))), (h1, .inr (11, u))] := hD
      obtain rfl : r3 = 0 := hw
      refine lv_iload hx hb dL_law_892 (lv_at hl 1 rfl) ?_
      refine lv_icmp_eq (tgt := 899) hx hb dL_law_894 (by decide) (fun _ => ?_) (fun h => absurd (by decide) h)
      refine lv_iload hx hb dL_law_899 (lv_at hl 1 rfl) ?_
      refine lv_if_ne (tgt := 916) hx hb dL_law_901 (by decide) (fun h => absurd (by decide) h) (fun _ => ?_)
      refine lv_aload_n hx hb dL_law_904 rfl (lv_at hl 3 rfl) ?_
      refine lv_iconst (v := 0) hx hb dL_law_905 (by decide) ?_
      refine va_lald hx hb hK hP 0 1 rfl rfl (by unfold vp_in; decide) dL_law_906 ?_
      refine lv_iload hx hb dL_law_907 (lv_at hl 0 rfl) ?_
      refine lv_i2l (v := r2.toInt64) hx hb dL_law_909 rfl ?_
      refine W.lcmp hx hb dL_law_910 ?_
      refine g_nrm (y := 0) (g_cmp0 (by rw [g_z0, hg0, hpo.1, hr2])) ?_
      refine lv_if_eq (tgt := 916) hx hb dL_law_911 (by decide) (fun _ => ?_) (fun h => absurd (by decide) h)
      refine lv_goto (tgt := 919) hx hb dL_law_916 (by decide) ?_
      refine lv_iinc (v := 4) (lv' := [(4, .int 4), (6, .int r2), (5, .int 0), (3, .ref o), (2, .ref h1), (1, .ref h0), (0, .ref b)]) hx hb dL_law_919 hl (k := 2) rfl (by decide) (by decide) rfl (fun ls hl => ?_)
      refine lv_goto (tgt := 23) hx hb dL_law_922 (by decide) ?_
      refine lv_iload hx hb dL_law_23 (lv_at hl 0 rfl) ?_
      refine lv_aload_n hx hb dL_law_25 rfl (lv_at hl 6 rfl) ?_
      refine va_slen hx hb hX hbl hbA hS dL_law_26 ?_
      refine g_nrm (y := 4) (by decide) ?_
      refine lv_iconst (v := 4) hx hb dL_law_27 (by decide) ?_
      refine lv_isub hx hb dL_law_28 ?_
      refine g_nrm (y := 0) (by decide) ?_
      refine lv_icmp_gt (tgt := 925) hx hb dL_law_29 (by decide) (fun _ => ?_) (fun h => absurd (by decide) h)
      refine lv_iconst (v := 1) hx hb dL_law_925 (by decide) ?_
      refine va_forget (fun q hq => hAf _ (hS.2.2 q hq)) ?_
      refine W.widen (k := 600006) (n := 7302024) (Nat.le_of_ble_eq_true rfl) (Nat.le_of_ble_eq_true rfl) ?_
      exact lw_ret hx hb hr hlocks dL_law_926
    · exact absurd hpo.2 hp2
  · refine lv_istore (lv' := [(5, .int 1), (4, .int 0), (3, .ref o), (2, .ref h1), (1, .ref h0), (0, .ref b)]) hx hb dL_law_874 hl (by decide) rfl (fun ls hl => ?_)
    refine lv_aload_n hx hb dL_law_876 rfl (lv_at hl 3 rfl) ?_
    refine lv_aload_n hx hb dL_law_877 rfl (lv_at hl 5 rfl) ?_
    refine lv_iload hx hb dL_law_878 (lv_at hl 1 rfl) ?_
    refine lv_iconst (v := 1) hx hb dL_law_880 (by decide) ?_
    refine lv_iadd hx hb dL_law_881 ?_
    refine g_nrm (y := 1) (by decide) ?_
    refine va_sld hx hb hX hbl hbA hS (by unfold vp_in; decide) dL_law_882 ?_
    refine g_Vi (n := 1) (As := [.int (xs (1 : Int32).toNatClampNeg)]) (rest := []) (wr := [(o, .inl (dA 1, 1, .inr (.inl g)))]) hx hb hml hg hown hK hP hD hS hA (c_X11_count l D dA h1 am (xs (1 : Int32).toNatClampNeg) _) [0, 1] [2] rfl (by decide) rfl (by decide) (by decide) 0 rfl rfl q2233 q160 q2230 q2231 q2232 (by decide +kernel) ⟨(Nat.le_of_ble_eq_true rfl), (Nat.le_of_ble_eq_true rfl)⟩ rfl hl.1 rfl (Nat.le_of_ble_eq_true rfl) dL_law_883 ⟨(Nat.le_of_ble_eq_true rfl), (Nat.le_of_ble_eq_true rfl)⟩ (fun r2 u H locs hw hP hD hS => ?_)
    refine W.widen (k := 134) (n := 41145) (Nat.le_of_ble_eq_true rfl) (Nat.le_of_ble_eq_true rfl) ?_
    have hP : va_P D vwC [(o, .inl (dA 1, 1, .inr (.inl g))), (h1, .inr (11, u))] H := hP
    have hD : va_D A [(o, .inl (dA 1, 1, .inr (.inl g))), (h1, .inr (11, u))] := hD
    obtain ⟨t, hf, hpm⟩ := hw
    rcases hpm with ⟨rfl, hr2, hp2⟩ | ⟨rfl, hp2⟩
    · exact absurd hp2 hq
    · refine lv_istore (lv' := [(6, .int r2), (5, .int 1), (4, .int 0), (3, .ref o), (2, .ref h1), (1, .ref h0), (0, .ref b)]) hx hb dL_law_886 hl (by decide) rfl (fun ls hl => ?_)
      refine lv_aload_n hx hb dL_law_888 rfl (lv_at hl 4 rfl) ?_
      refine g_Vi (n := 0) (As := []) (rest := []) (wr := [(o, .inl (dA 1, 1, .inr (.inl g)))]) hx hb hml hg hown hK hP hD hS hA (c_thrown l D dA h1 u 1 hf _) [1] [0] rfl (by decide) rfl (by decide) (by decide) 0 rfl rfl q1875 q160 q1872 q1873 q1874 (by decide +kernel) ⟨(Nat.le_of_ble_eq_true rfl), (Nat.le_of_ble_eq_true rfl)⟩ rfl hl.1 rfl (Nat.le_of_ble_eq_true rfl) dL_law_889 ⟨(Nat.le_of_ble_eq_true rfl), (Nat.le_of_ble_eq_true rfl)⟩ (fun r3 u2 H locs hw hP hD hS => ?_)
      refine W.widen (k := 134) (n := 41145) (Nat.le_of_ble_eq_true rfl) (Nat.le_of_ble_eq_true rfl) ?_
      have hP : va_P D vwC [(o, .inl (dA 1, 1, .inr (.inl g))), (h1, .inr (11, u))] H := hP
      have hD : va_D A [(o, .inl (dA 1, 1, .inr (.inl g))), (h1, .inr (11, u))] := hD
      obtain rfl : r3 = 1 := hw
      refine lv_iload hx hb dL_law_892 (lv_at hl 1 rfl) ?_
      refine lv_icmp_eq (tgt := 899) hx hb dL_law_894 (by decide) (fun _ => ?_) (fun h => absurd (by decide) h)
      refine lv_iload hx hb dL_law_899 (lv_at hl 1 rfl) ?_
      refine lv_if_ne (tgt := 916) hx hb dL_law_901 (by decide) (fun _ => ?_) (fun h => absurd h (by decide))
      refine lv_goto (tgt := 919) hx hb dL_law_916 (by decide) ?_
      refine lv_iinc (v := 4) (lv' := [(4, .int 4), (6, .int r2), (5, .int 1), (3, .ref o), (2, .ref h1), (1, .ref h0), (0, .ref b)]) hx hb dL_law_919 hl (k := 2) rfl (by decide) (by decide) rfl (fun ls hl => ?_)
      refine lv_goto (tgt := 23) hx hb dL_law_922 (by decide) ?_
      refine lv_iload hx hb dL_law_23 (lv_at hl 0 rfl) ?_
      refine lv_aload_n hx hb dL_law_25 rfl (lv_at hl 6 rfl) ?_
      refine va_slen hx hb hX hbl hbA hS dL_law_26 ?_
      refine g_nrm (y := 4) (by decide) ?_
      refine lv_iconst (v := 4) hx hb dL_law_27 (by decide) ?_
      refine lv_isub hx hb dL_law_28 ?_
      refine g_nrm (y := 0) (by decide) ?_
      refine lv_icmp_gt (tgt := 925) hx hb dL_law_29 (by decide) (fun _ => ?_) (fun h => absurd (by decide) h)
      refine lv_iconst (v := 1) hx hb dL_law_925 (by decide) ?_
      refine va_forget (fun q hq => hAf _ (hS.2.2 q hq)) ?_
      refine W.widen (k := 600006) (n := 7302024) (Nat.le_of_ble_eq_true rfl) (Nat.le_of_ble_eq_true rfl) ?_
      exact lw_ret hx hb hr hlocks dL_law_926
