theorem q3 : Cond.selects RX9 yX9_put yX9_put ∈ gw := gw_in (i := 3) (by decide +kernel) rfl
theorem q5 : Cond.selects RX8 yX8_type yX8_type ∈ gw := gw_in (i := 5) (by decide +kernel) rfl
theorem q7 : Cond.selects RX8 yX8_take yX8_take ∈ gw := gw_in (i := 7) (by decide +kernel) rfl
theorem q8 : Cond.selects RX8 yX8_addNamed yX8_addNamed ∈ gw := gw_in (i := 8) (by decide +kernel) rfl
theorem q9 : Cond.selects RX8 yX8_value yX8_value ∈ gw := gw_in (i := 9) (by decide +kernel) rfl
theorem q151 : Cond.initialized RX9 ∈ gw := gw_in (i := 151) (by decide +kernel) rfl
theorem q152 : Cond.initialized RX0 ∈ gw := gw_in (i := 152) (by decide +kernel) rfl
theorem q153 : Cond.initialized RX8 ∈ gw := gw_in (i := 153) (by decide +kernel) rfl
theorem q174 : Cond.initialized RJ6 ∈ gw := gw_in (i := 174) (by decide +kernel) rfl
theorem q194 : Cond.fieldLink RX5 11 "SegmentBench$Names" "word" "[J" ∈ gw := gw_in (i := 194) (by decide +kernel) rfl
theorem q196 : Cond.fieldLink RX5 15 "SegmentBench$Names" "role" "[I" ∈ gw := gw_in (i := 196) (by decide +kernel) rfl
theorem q198 : Cond.fieldLink RX5 19 "SegmentBench$Names" "segment" "[I" ∈ gw := gw_in (i := 198) (by decide +kernel) rfl
theorem q200 : Cond.fieldLink RX5 22 "SegmentBench$Names" "align" "[I" ∈ gw := gw_in (i := 200) (by decide +kernel) rfl
theorem q202 : Cond.fieldLink RX5 25 "SegmentBench$Names" "offset" "[I" ∈ gw := gw_in (i := 202) (by decide +kernel) rfl
theorem q204 : Cond.fieldLink RX5 28 "SegmentBench$Names" "size" "I" ∈ gw := gw_in (i := 204) (by decide +kernel) rfl
theorem q205 : Cond.fieldLink RX5 32 "SegmentBench$Names" "crowdedAt" "I" ∈ gw := gw_in (i := 205) (by decide +kernel) rfl
theorem q231 : Cond.fieldLink RX9 9 "SegmentBench$Tokens" "type" "[I" ∈ gw := gw_in (i := 231) (by decide +kernel) rfl
theorem q232 : Cond.fieldLink RX8 78 "SegmentBench$Tokens" "type" "[I" ∈ gw := gw_in (i := 232) (by decide +kernel) rfl
theorem q233 : Cond.fieldLink RX9 15 "SegmentBench$Tokens" "value" "[I" ∈ gw := gw_in (i := 233) (by decide +kernel) rfl
theorem q234 : Cond.fieldLink RX8 80 "SegmentBench$Tokens" "value" "[I" ∈ gw := gw_in (i := 234) (by decide +kernel) rfl
theorem q235 : Cond.fieldLink RX9 18 "SegmentBench$Tokens" "place" "[I" ∈ gw := gw_in (i := 235) (by decide +kernel) rfl
theorem q236 : Cond.fieldLink RX8 75 "SegmentBench$Tokens" "place" "[I" ∈ gw := gw_in (i := 236) (by decide +kernel) rfl
theorem q237 : Cond.fieldLink RX9 21 "SegmentBench$Tokens" "size" "I" ∈ gw := gw_in (i := 237) (by decide +kernel) rfl
theorem q257 : Cond.fieldLink RX0 11 "SegmentBench$Draft" "type" "[I" ∈ gw := gw_in (i := 257) (by decide +kernel) rfl
theorem q259 : Cond.fieldLink RX0 15 "SegmentBench$Draft" "value" "[I" ∈ gw := gw_in (i := 259) (by decide +kernel) rfl
theorem q261 : Cond.fieldLink RX0 18 "SegmentBench$Draft" "name" "[I" ∈ gw := gw_in (i := 261) (by decide +kernel) rfl
theorem q263 : Cond.fieldLink RX0 21 "SegmentBench$Draft" "place" "[I" ∈ gw := gw_in (i := 263) (by decide +kernel) rfl
theorem q265 : Cond.fieldLink RX0 24 "SegmentBench$Draft" "word" "[I" ∈ gw := gw_in (i := 265) (by decide +kernel) rfl
theorem q267 : Cond.fieldLink RX0 27 "SegmentBench$Draft" "segment" "[I" ∈ gw := gw_in (i := 267) (by decide +kernel) rfl
theorem q269 : Cond.fieldLink RX0 30 "SegmentBench$Draft" "offset" "[I" ∈ gw := gw_in (i := 269) (by decide +kernel) rfl
theorem q271 : Cond.fieldLink RX0 33 "SegmentBench$Draft" "size" "I" ∈ gw := gw_in (i := 271) (by decide +kernel) rfl
theorem q307 : Cond.fieldLink RX7 13 "SegmentBench$Operand" "kind" "I" ∈ gw := gw_in (i := 307) (by decide +kernel) rfl
theorem q310 : Cond.fieldLink RX7 17 "SegmentBench$Operand" "code" "I" ∈ gw := gw_in (i := 310) (by decide +kernel) rfl
theorem q313 : Cond.fieldLink RX7 20 "SegmentBench$Operand" "numbe\x72" "I" ∈ gw := gw_in (i := 313) (by decide +kernel) rfl
theorem q316 : Cond.fieldLink RX7 23 "SegmentBench$Operand" "name" "I" ∈ gw := gw_in (i := 316) (by decide +kernel) rfl
theorem q319 : Cond.fieldLink RX7 26 "SegmentBench$Operand" "namePlace" "I" ∈ gw := gw_in (i := 319) (by decide +kernel) rfl
theorem q322 : Cond.fieldLink RX7 29 "SegmentBench$Operand" "paragraph" "Z" ∈ gw := gw_in (i := 322) (by decide +kernel) rfl
theorem q325 : Cond.fieldLink RX7 33 "SegmentBench$Operand" "base" "I" ∈ gw := gw_in (i := 325) (by decide +kernel) rfl
theorem q327 : Cond.fieldLink RX7 36 "SegmentBench$Operand" "index" "I" ∈ gw := gw_in (i := 327) (by decide +kernel) rfl
theorem q346 : Cond.fieldLink RX8 7 "SegmentBench$Parse\x72" "tokens" "LSegmentBench$Tokens;" ∈ gw := gw_in (i := 346) (by decide +kernel) rfl
theorem q347 : Cond.fieldLink RX8 13 "SegmentBench$Parse\x72" "draft" "LSegmentBench$Draft;" ∈ gw := gw_in (i := 347) (by decide +kernel) rfl
theorem q350 : Cond.fieldLink RX8 27 "SegmentBench$Parse\x72" "at" "I" ∈ gw := gw_in (i := 350) (by decide +kernel) rfl
theorem q351 : Cond.fieldLink RX8 31 "SegmentBench$Parse\x72" "opened" "Z" ∈ gw := gw_in (i := 351) (by decide +kernel) rfl
theorem q806 : Cond.methodLink RX9 42 yX9_isDigit ∈ gw := gw_in (i := 806) (by decide +kernel) rfl
theorem q807 : Cond.static yX9_isDigit ∈ gw := gw_in (i := 807) (by decide +kernel) rfl
theorem q808 : Cond.code yX9_isDigit cX9_isDigit 1 (some .boolean) ∈ gw := gw_in (i := 808) (by decide +kernel) rfl
theorem q810 : Cond.methodLink RX9 56 yX9_put ∈ gw := gw_in (i := 810) (by decide +kernel) rfl
theorem q812 : Cond.instanceMethod yX9_put ∈ gw := gw_in (i := 812) (by decide +kernel) rfl
theorem q813 : Cond.code yX9_put cX9_put 4 none ∈ gw := gw_in (i := 813) (by decide +kernel) rfl
theorem q876 : Cond.constant RX9 60 (65536) ∈ gw := gw_in (i := 876) (by decide +kernel) rfl
theorem q877 : Cond.methodLink RX9 61 Lib.Math.min.name ∈ gw := gw_in (i := 877) (by decide +kernel) rfl
theorem q880 : Cond.constant RX9 67 (65535) ∈ gw := gw_in (i := 880) (by decide +kernel) rfl
theorem q943 : Cond.methodLink RX8 43 yX8_type ∈ gw := gw_in (i := 943) (by decide +kernel) rfl
theorem q945 : Cond.instanceMethod yX8_type ∈ gw := gw_in (i := 945) (by decide +kernel) rfl
theorem q946 : Cond.code yX8_type cX8_type 1 (some .int) ∈ gw := gw_in (i := 946) (by decide +kernel) rfl
theorem q951 : Cond.methodLink RX8 72 yX8_take ∈ gw := gw_in (i := 951) (by decide +kernel) rfl
theorem q953 : Cond.instanceMethod yX8_take ∈ gw := gw_in (i := 953) (by decide +kernel) rfl
theorem q954 : Cond.code yX8_take cX8_take 2 (some .boolean) ∈ gw := gw_in (i := 954) (by decide +kernel) rfl
theorem q955 : Cond.methodLink RX8 82 yX8_addNamed ∈ gw := gw_in (i := 955) (by decide +kernel) rfl
theorem q957 : Cond.instanceMethod yX8_addNamed ∈ gw := gw_in (i := 957) (by decide +kernel) rfl
theorem q958 : Cond.code yX8_addNamed cX8_addNamed 4 none ∈ gw := gw_in (i := 958) (by decide +kernel) rfl
theorem q959 : Cond.methodLink RX8 86 yX0_add ∈ gw := gw_in (i := 959) (by decide +kernel) rfl
theorem q960 : Cond.instanceMethod yX0_add ∈ gw := gw_in (i := 960) (by decide +kernel) rfl
theorem q961 : Cond.selects RX0 yX0_add yX0_add ∈ gw := gw_in (i := 961) (by decide +kernel) rfl
theorem q962 : Cond.code yX0_add cX0_add 6 none ∈ gw := gw_in (i := 962) (by decide +kernel) rfl
theorem q963 : Cond.methodLink RX8 51 yX8_value ∈ gw := gw_in (i := 963) (by decide +kernel) rfl
theorem q965 : Cond.instanceMethod yX8_value ∈ gw := gw_in (i := 965) (by decide +kernel) rfl
theorem q966 : Cond.code yX8_value cX8_value 1 (some .int) ∈ gw := gw_in (i := 966) (by decide +kernel) rfl
theorem q981 : Cond.methodLink RX8 124 yX8_isAlign ∈ gw := gw_in (i := 981) (by decide +kernel) rfl
theorem q982 : Cond.static yX8_isAlign ∈ gw := gw_in (i := 982) (by decide +kernel) rfl
theorem q983 : Cond.code yX8_isAlign cX8_isAlign 1 (some .boolean) ∈ gw := gw_in (i := 983) (by decide +kernel) rfl
theorem q984 : Cond.methodLink RX8 127 yJ6_bitCount_0f7a4 ∈ gw := gw_in (i := 984) (by decide +kernel) rfl
theorem q985 : Cond.static yJ6_bitCount_0f7a4 ∈ gw := gw_in (i := 985) (by decide +kernel) rfl
theorem q986 : Cond.code yJ6_bitCount_0f7a4 cJ6_bitCount_0f7a4 1 (some .int) ∈ gw := gw_in (i := 986) (by decide +kernel) rfl
theorem dX10_byteOf_0 : decode cX10_byteOf 0 = .ok (.lload_n 0, 1) := by decide +kernel
theorem dX10_byteOf_1 : decode cX10_byteOf 1 = .ok (.bipush 8, 2) := by decide +kernel
theorem dX10_byteOf_3 : decode cX10_byteOf 3 = .ok (.iload_n 2, 1) := by decide +kernel
theorem dX10_byteOf_4 : decode cX10_byteOf 4 = .ok (.imul, 1) := by decide +kernel
theorem dX10_byteOf_5 : decode cX10_byteOf 5 = .ok (.lushr, 1) := by decide +kernel
theorem dX10_byteOf_6 : decode cX10_byteOf 6 = .ok (.l2i, 1) := by decide +kernel
theorem dX10_byteOf_7 : decode cX10_byteOf 7 = .ok (.sipush 255, 3) := by decide +kernel
theorem dX10_byteOf_10 : decode cX10_byteOf 10 = .ok (.iand, 1) := by decide +kernel
theorem dX10_byteOf_11 : decode cX10_byteOf 11 = .ok (.ireturn, 1) := by decide +kernel
theorem dX10_isModule_0 : decode cX10_isModule 0 = .ok (.iload_n 0, 1) := by decide +kernel
theorem dX10_isModule_1 : decode cX10_isModule 1 = .ok (.ifCond .lt 12, 3) := by decide +kernel
theorem dX10_isModule_4 : decode cX10_isModule 4 = .ok (.iload_n 0, 1) := by decide +kernel
theorem dX10_isModule_5 : decode cX10_isModule 5 = .ok (.iconst 3, 1) := by decide +kernel
theorem dX10_isModule_6 : decode cX10_isModule 6 = .ok (.if_icmp .ge 7, 3) := by decide +kernel
theorem dX10_isModule_9 : decode cX10_isModule 9 = .ok (.iconst 1, 1) := by decide +kernel
theorem dX10_isModule_10 : decode cX10_isModule 10 = .ok (.goto 4, 3) := by decide +kernel
theorem dX10_isModule_13 : decode cX10_isModule 13 = .ok (.iconst 0, 1) := by decide +kernel
theorem dX10_isModule_14 : decode cX10_isModule 14 = .ok (.ireturn, 1) := by decide +kernel
theorem dX5_clear_0 : decode cX5_clear 0 = .ok (.aload_n 0, 1) := by decide +kernel
theorem dX5_clear_1 : decode cX5_clear 1 = .ok (.iconst 0, 1) := by decide +kernel
theorem dX5_clear_2 : decode cX5_clear 2 = .ok (.putfield 28, 3) := by decide +kernel
theorem dX5_clear_5 : decode cX5_clear 5 = .ok (.aload_n 0, 1) := by decide +kernel
theorem dX5_clear_6 : decode cX5_clear 6 = .ok (.iconst (-1), 1) := by decide +kernel
theorem dX5_clear_7 : decode cX5_clear 7 = .ok (.putfield 32, 3) := by decide +kernel
theorem dX5_clear_10 : decode cX5_clear 10 = .ok (.return_, 1) := by decide +kernel
theorem dX9_isLetter_0 : decode cX9_isLetter 0 = .ok (.iload_n 0, 1) := by decide +kernel
theorem dX9_isLetter_1 : decode cX9_isLetter 1 = .ok (.bipush 97, 2) := by decide +kernel
theorem dX9_isLetter_3 : decode cX9_isLetter 3 = .ok (.if_icmp .lt 13, 3) := by decide +kernel
theorem dX9_isLetter_6 : decode cX9_isLetter 6 = .ok (.iload_n 0, 1) := by decide +kernel
theorem dX9_isLetter_7 : decode cX9_isLetter 7 = .ok (.bipush 122, 2) := by decide +kernel
theorem dX9_isLetter_9 : decode cX9_isLetter 9 = .ok (.if_icmp .gt 7, 3) := by decide +kernel
theorem dX9_isLetter_12 : decode cX9_isLetter 12 = .ok (.iconst 1, 1) := by decide +kernel
theorem dX9_isLetter_13 : decode cX9_isLetter 13 = .ok (.goto 4, 3) := by decide +kernel
theorem dX9_isLetter_16 : decode cX9_isLetter 16 = .ok (.iconst 0, 1) := by decide +kernel
theorem dX9_isLetter_17 : decode cX9_isLetter 17 = .ok (.ireturn, 1) := by decide +kernel
theorem dX9_isDigit_0 : decode cX9_isDigit 0 = .ok (.iload_n 0, 1) := by decide +kernel
theorem dX9_isDigit_1 : decode cX9_isDigit 1 = .ok (.bipush 48, 2) := by decide +kernel
theorem dX9_isDigit_3 : decode cX9_isDigit 3 = .ok (.if_icmp .lt 13, 3) := by decide +kernel
theorem dX9_isDigit_6 : decode cX9_isDigit 6 = .ok (.iload_n 0, 1) := by decide +kernel
theorem dX9_isDigit_7 : decode cX9_isDigit 7 = .ok (.bipush 57, 2) := by decide +kernel
theorem dX9_isDigit_9 : decode cX9_isDigit 9 = .ok (.if_icmp .gt 7, 3) := by decide +kernel
theorem dX9_isDigit_12 : decode cX9_isDigit 12 = .ok (.iconst 1, 1) := by decide +kernel
theorem dX9_isDigit_13 : decode cX9_isDigit 13 = .ok (.goto 4, 3) := by decide +kernel
theorem dX9_isDigit_16 : decode cX9_isDigit 16 = .ok (.iconst 0, 1) := by decide +kernel
theorem dX9_isDigit_17 : decode cX9_isDigit 17 = .ok (.ireturn, 1) := by decide +kernel
theorem dX9_put_0 : decode cX9_put 0 = .ok (.aload_n 0, 1) := by decide +kernel
theorem dX9_put_1 : decode cX9_put 1 = .ok (.getfield 21, 3) := by decide +kernel
theorem dX9_put_4 : decode cX9_put 4 = .ok (.aload_n 0, 1) := by decide +kernel
theorem dX9_put_5 : decode cX9_put 5 = .ok (.getfield 9, 3) := by decide +kernel
theorem dX9_put_8 : decode cX9_put 8 = .ok (.arraylength, 1) := by decide +kernel
theorem dX9_put_9 : decode cX9_put 9 = .ok (.if_icmp .ge 43, 3) := by decide +kernel
theorem dX9_put_12 : decode cX9_put 12 = .ok (.aload_n 0, 1) := by decide +kernel
theorem dX9_put_13 : decode cX9_put 13 = .ok (.getfield 9, 3) := by decide +kernel
theorem dX9_put_16 : decode cX9_put 16 = .ok (.aload_n 0, 1) := by decide +kernel
theorem dX9_put_17 : decode cX9_put 17 = .ok (.getfield 21, 3) := by decide +kernel
theorem dX9_put_20 : decode cX9_put 20 = .ok (.iload_n 1, 1) := by decide +kernel
theorem dX9_put_21 : decode cX9_put 21 = .ok (.iastore, 1) := by decide +kernel
theorem dX9_put_22 : decode cX9_put 22 = .ok (.aload_n 0, 1) := by decide +kernel
theorem dX9_put_23 : decode cX9_put 23 = .ok (.getfield 15, 3) := by decide +kernel
theorem dX9_put_26 : decode cX9_put 26 = .ok (.aload_n 0, 1) := by decide +kernel
theorem dX9_put_27 : decode cX9_put 27 = .ok (.getfield 21, 3) := by decide +kernel
theorem dX9_put_30 : decode cX9_put 30 = .ok (.iload_n 2, 1) := by decide +kernel
theorem dX9_put_31 : decode cX9_put 31 = .ok (.iastore, 1) := by decide +kernel
theorem dX9_put_32 : decode cX9_put 32 = .ok (.aload_n 0, 1) := by decide +kernel
theorem dX9_put_33 : decode cX9_put 33 = .ok (.getfield 18, 3) := by decide +kernel
theorem dX9_put_36 : decode cX9_put 36 = .ok (.aload_n 0, 1) := by decide +kernel
theorem dX9_put_37 : decode cX9_put 37 = .ok (.getfield 21, 3) := by decide +kernel
theorem dX9_put_40 : decode cX9_put 40 = .ok (.iload_n 3, 1) := by decide +kernel
theorem dX9_put_41 : decode cX9_put 41 = .ok (.iastore, 1) := by decide +kernel
theorem dX9_put_42 : decode cX9_put 42 = .ok (.aload_n 0, 1) := by decide +kernel
theorem dX9_put_43 : decode cX9_put 43 = .ok (.dup, 1) := by decide +kernel
theorem dX9_put_44 : decode cX9_put 44 = .ok (.getfield 21, 3) := by decide +kernel
theorem dX9_put_47 : decode cX9_put 47 = .ok (.iconst 1, 1) := by decide +kernel
theorem dX9_put_48 : decode cX9_put 48 = .ok (.iadd, 1) := by decide +kernel
theorem dX9_put_49 : decode cX9_put 49 = .ok (.putfield 21, 3) := by decide +kernel
theorem dX9_put_52 : decode cX9_put 52 = .ok (.return_, 1) := by decide +kernel
theorem dX5_numberOf_0 : decode cX5_numberOf 0 = .ok (.iconst 0, 1) := by decide +kernel
theorem dX5_numberOf_1 : decode cX5_numberOf 1 = .ok (.istore 4, 2) := by decide +kernel
theorem dX5_numberOf_3 : decode cX5_numberOf 3 = .ok (.iload 4, 2) := by decide +kernel
theorem dX5_numberOf_5 : decode cX5_numberOf 5 = .ok (.aload_n 0, 1) := by decide +kernel
theorem dX5_numberOf_6 : decode cX5_numberOf 6 = .ok (.getfield 28, 3) := by decide +kernel
theorem dX5_numberOf_9 : decode cX5_numberOf 9 = .ok (.if_icmp .ge 24, 3) := by decide +kernel
theorem dX5_numberOf_33 : decode cX5_numberOf 33 = .ok (.aload_n 0, 1) := by decide +kernel
theorem dX5_numberOf_34 : decode cX5_numberOf 34 = .ok (.getfield 28, 3) := by decide +kernel
theorem dX5_numberOf_37 : decode cX5_numberOf 37 = .ok (.sipush 240, 3) := by decide +kernel
theorem dX5_numberOf_40 : decode cX5_numberOf 40 = .ok (.if_icmp .lt 7, 3) := by decide +kernel
theorem dX5_numberOf_47 : decode cX5_numberOf 47 = .ok (.aload_n 0, 1) := by decide +kernel
theorem dX5_numberOf_48 : decode cX5_numberOf 48 = .ok (.getfield 11, 3) := by decide +kernel
theorem dX5_numberOf_51 : decode cX5_numberOf 51 = .ok (.aload_n 0, 1) := by decide +kernel
theorem dX5_numberOf_52 : decode cX5_numberOf 52 = .ok (.getfield 28, 3) := by decide +kernel
theorem dX5_numberOf_55 : decode cX5_numberOf 55 = .ok (.lload_n 1, 1) := by decide +kernel
theorem dX5_numberOf_56 : decode cX5_numberOf 56 = .ok (.lastore, 1) := by decide +kernel
theorem dX5_numberOf_57 : decode cX5_numberOf 57 = .ok (.aload_n 0, 1) := by decide +kernel
theorem dX5_numberOf_58 : decode cX5_numberOf 58 = .ok (.getfield 15, 3) := by decide +kernel
theorem dX5_numberOf_61 : decode cX5_numberOf 61 = .ok (.aload_n 0, 1) := by decide +kernel
theorem dX5_numberOf_62 : decode cX5_numberOf 62 = .ok (.getfield 28, 3) := by decide +kernel
theorem dX5_numberOf_65 : decode cX5_numberOf 65 = .ok (.iconst 0, 1) := by decide +kernel
theorem dX5_numberOf_66 : decode cX5_numberOf 66 = .ok (.iastore, 1) := by decide +kernel
theorem dX5_numberOf_67 : decode cX5_numberOf 67 = .ok (.aload_n 0, 1) := by decide +kernel
theorem dX5_numberOf_68 : decode cX5_numberOf 68 = .ok (.getfield 19, 3) := by decide +kernel
theorem dX5_numberOf_71 : decode cX5_numberOf 71 = .ok (.aload_n 0, 1) := by decide +kernel
theorem dX5_numberOf_72 : decode cX5_numberOf 72 = .ok (.getfield 28, 3) := by decide +kernel
theorem dX5_numberOf_75 : decode cX5_numberOf 75 = .ok (.iconst (-1), 1) := by decide +kernel
theorem dX5_numberOf_76 : decode cX5_numberOf 76 = .ok (.iastore, 1) := by decide +kernel
theorem dX5_numberOf_77 : decode cX5_numberOf 77 = .ok (.aload_n 0, 1) := by decide +kernel
theorem dX5_numberOf_78 : decode cX5_numberOf 78 = .ok (.getfield 22, 3) := by decide +kernel
theorem dX5_numberOf_81 : decode cX5_numberOf 81 = .ok (.aload_n 0, 1) := by decide +kernel
theorem dX5_numberOf_82 : decode cX5_numberOf 82 = .ok (.getfield 28, 3) := by decide +kernel
theorem dX5_numberOf_85 : decode cX5_numberOf 85 = .ok (.iconst 0, 1) := by decide +kernel
theorem dX5_numberOf_86 : decode cX5_numberOf 86 = .ok (.iastore, 1) := by decide +kernel
theorem dX5_numberOf_87 : decode cX5_numberOf 87 = .ok (.aload_n 0, 1) := by decide +kernel
theorem dX5_numberOf_88 : decode cX5_numberOf 88 = .ok (.getfield 25, 3) := by decide +kernel
theorem dX5_numberOf_91 : decode cX5_numberOf 91 = .ok (.aload_n 0, 1) := by decide +kernel
theorem dX5_numberOf_92 : decode cX5_numberOf 92 = .ok (.getfield 28, 3) := by decide +kernel
theorem dX5_numberOf_95 : decode cX5_numberOf 95 = .ok (.iconst 0, 1) := by decide +kernel
theorem dX5_numberOf_96 : decode cX5_numberOf 96 = .ok (.iastore, 1) := by decide +kernel
theorem dX5_numberOf_97 : decode cX5_numberOf 97 = .ok (.aload_n 0, 1) := by decide +kernel
theorem dX5_numberOf_98 : decode cX5_numberOf 98 = .ok (.dup, 1) := by decide +kernel
theorem dX5_numberOf_99 : decode cX5_numberOf 99 = .ok (.getfield 28, 3) := by decide +kernel
theorem dX5_numberOf_102 : decode cX5_numberOf 102 = .ok (.iconst 1, 1) := by decide +kernel
theorem dX5_numberOf_103 : decode cX5_numberOf 103 = .ok (.iadd, 1) := by decide +kernel
theorem dX5_numberOf_104 : decode cX5_numberOf 104 = .ok (.putfield 28, 3) := by decide +kernel
theorem dX5_numberOf_107 : decode cX5_numberOf 107 = .ok (.aload_n 0, 1) := by decide +kernel
theorem dX5_numberOf_108 : decode cX5_numberOf 108 = .ok (.getfield 28, 3) := by decide +kernel
theorem dX5_numberOf_111 : decode cX5_numberOf 111 = .ok (.bipush 25, 2) := by decide +kernel
theorem dX5_numberOf_113 : decode cX5_numberOf 113 = .ok (.if_icmp .ne 8, 3) := by decide +kernel
theorem dX5_numberOf_116 : decode cX5_numberOf 116 = .ok (.aload_n 0, 1) := by decide +kernel
theorem dX5_numberOf_117 : decode cX5_numberOf 117 = .ok (.iload_n 3, 1) := by decide +kernel
theorem dX5_numberOf_118 : decode cX5_numberOf 118 = .ok (.putfield 32, 3) := by decide +kernel
theorem dX5_numberOf_43 : decode cX5_numberOf 43 = .ok (.sipush 239, 3) := by decide +kernel
theorem dX5_numberOf_46 : decode cX5_numberOf 46 = .ok (.ireturn, 1) := by decide +kernel
theorem dX5_numberOf_12 : decode cX5_numberOf 12 = .ok (.aload_n 0, 1) := by decide +kernel
theorem dX5_numberOf_13 : decode cX5_numberOf 13 = .ok (.getfield 11, 3) := by decide +kernel
theorem dX5_numberOf_16 : decode cX5_numberOf 16 = .ok (.iload 4, 2) := by decide +kernel
theorem dX5_numberOf_18 : decode cX5_numberOf 18 = .ok (.laload, 1) := by decide +kernel
theorem dX5_numberOf_19 : decode cX5_numberOf 19 = .ok (.lload_n 1, 1) := by decide +kernel
theorem dX5_numberOf_20 : decode cX5_numberOf 20 = .ok (.lcmp, 1) := by decide +kernel
theorem dX5_numberOf_21 : decode cX5_numberOf 21 = .ok (.ifCond .ne 6, 3) := by decide +kernel
theorem dX5_numberOf_27 : decode cX5_numberOf 27 = .ok (.iinc 4 1, 3) := by decide +kernel
theorem dX5_numberOf_30 : decode cX5_numberOf 30 = .ok (.goto (-27), 3) := by decide +kernel
theorem dX5_numberOf_24 : decode cX5_numberOf 24 = .ok (.iload 4, 2) := by decide +kernel
theorem dX5_numberOf_26 : decode cX5_numberOf 26 = .ok (.ireturn, 1) := by decide +kernel
theorem dX5_numberOf_121 : decode cX5_numberOf 121 = .ok (.aload_n 0, 1) := by decide +kernel
theorem dX5_numberOf_122 : decode cX5_numberOf 122 = .ok (.getfield 28, 3) := by decide +kernel
theorem dX5_numberOf_125 : decode cX5_numberOf 125 = .ok (.iconst 1, 1) := by decide +kernel
theorem dX5_numberOf_126 : decode cX5_numberOf 126 = .ok (.isub, 1) := by decide +kernel
theorem dX5_numberOf_127 : decode cX5_numberOf 127 = .ok (.ireturn, 1) := by decide +kernel
theorem dX9_readNumber_0 : decode cX9_readNumber 0 = .ok (.iconst 0, 1) := by decide +kernel
theorem dX9_readNumber_1 : decode cX9_readNumber 1 = .ok (.istore 4, 2) := by decide +kernel
theorem dX9_readNumber_3 : decode cX9_readNumber 3 = .ok (.iload_n 2, 1) := by decide +kernel
theorem dX9_readNumber_4 : decode cX9_readNumber 4 = .ok (.istore 5, 2) := by decide +kernel
theorem dX9_readNumber_6 : decode cX9_readNumber 6 = .ok (.iload 5, 2) := by decide +kernel
theorem dX9_readNumber_8 : decode cX9_readNumber 8 = .ok (.iload_n 3, 1) := by decide +kernel
theorem dX9_readNumber_9 : decode cX9_readNumber 9 = .ok (.if_icmp .ge 39, 3) := by decide +kernel
theorem dX9_readNumber_12 : decode cX9_readNumber 12 = .ok (.aload_n 1, 1) := by decide +kernel
theorem dX9_readNumber_13 : decode cX9_readNumber 13 = .ok (.iload 5, 2) := by decide +kernel
theorem dX9_readNumber_15 : decode cX9_readNumber 15 = .ok (.caload, 1) := by decide +kernel
theorem dX9_readNumber_16 : decode cX9_readNumber 16 = .ok (.invokestatic 42, 3) := by decide +kernel
theorem dX9_readNumber_19 : decode cX9_readNumber 19 = .ok (.ifCond .eq 29, 3) := by decide +kernel
theorem dX9_readNumber_22 : decode cX9_readNumber 22 = .ok (.iload 4, 2) := by decide +kernel
theorem dX9_readNumber_24 : decode cX9_readNumber 24 = .ok (.bipush 10, 2) := by decide +kernel
theorem dX9_readNumber_26 : decode cX9_readNumber 26 = .ok (.imul, 1) := by decide +kernel
theorem dX9_readNumber_27 : decode cX9_readNumber 27 = .ok (.aload_n 1, 1) := by decide +kernel
theorem dX9_readNumber_28 : decode cX9_readNumber 28 = .ok (.iload 5, 2) := by decide +kernel
theorem dX9_readNumber_30 : decode cX9_readNumber 30 = .ok (.caload, 1) := by decide +kernel
theorem dX9_readNumber_31 : decode cX9_readNumber 31 = .ok (.bipush 48, 2) := by decide +kernel
theorem dX9_readNumber_33 : decode cX9_readNumber 33 = .ok (.isub, 1) := by decide +kernel
theorem dX9_readNumber_34 : decode cX9_readNumber 34 = .ok (.iadd, 1) := by decide +kernel
theorem dX9_readNumber_35 : decode cX9_readNumber 35 = .ok (.ldc 60, 2) := by decide +kernel
theorem dX9_readNumber_37 : decode cX9_readNumber 37 = .ok (.invokestatic 61, 3) := by decide +kernel
theorem dX9_readNumber_40 : decode cX9_readNumber 40 = .ok (.istore 4, 2) := by decide +kernel
theorem dX9_readNumber_42 : decode cX9_readNumber 42 = .ok (.iinc 5 1, 3) := by decide +kernel
theorem dX9_readNumber_45 : decode cX9_readNumber 45 = .ok (.goto (-39), 3) := by decide +kernel
theorem dX9_readNumber_48 : decode cX9_readNumber 48 = .ok (.aload_n 0, 1) := by decide +kernel
theorem dX9_readNumber_49 : decode cX9_readNumber 49 = .ok (.iload 4, 2) := by decide +kernel
theorem dX9_readNumber_51 : decode cX9_readNumber 51 = .ok (.ldc 67, 2) := by decide +kernel
theorem dX9_readNumber_53 : decode cX9_readNumber 53 = .ok (.if_icmp .le 7, 3) := by decide +kernel
theorem dX9_readNumber_60 : decode cX9_readNumber 60 = .ok (.iconst 2, 1) := by decide +kernel
theorem dX9_readNumber_56 : decode cX9_readNumber 56 = .ok (.iconst 1, 1) := by decide +kernel
theorem dX9_readNumber_57 : decode cX9_readNumber 57 = .ok (.goto 4, 3) := by decide +kernel
theorem dX9_readNumber_61 : decode cX9_readNumber 61 = .ok (.iload 4, 2) := by decide +kernel
theorem dX9_readNumber_63 : decode cX9_readNumber 63 = .ok (.iload_n 2, 1) := by decide +kernel
theorem dX9_readNumber_64 : decode cX9_readNumber 64 = .ok (.invokevirtual 56, 3) := by decide +kernel
theorem dX9_readNumber_67 : decode cX9_readNumber 67 = .ok (.iload 5, 2) := by decide +kernel
theorem dX9_readNumber_69 : decode cX9_readNumber 69 = .ok (.ireturn, 1) := by decide +kernel
theorem dX8_type_0 : decode cX8_type 0 = .ok (.aload_n 0, 1) := by decide +kernel
theorem dX8_type_1 : decode cX8_type 1 = .ok (.getfield 7, 3) := by decide +kernel
theorem dX8_type_4 : decode cX8_type 4 = .ok (.getfield 78, 3) := by decide +kernel
theorem dX8_type_7 : decode cX8_type 7 = .ok (.aload_n 0, 1) := by decide +kernel
theorem dX8_type_8 : decode cX8_type 8 = .ok (.getfield 27, 3) := by decide +kernel
theorem dX8_type_11 : decode cX8_type 11 = .ok (.iaload, 1) := by decide +kernel
theorem dX8_type_12 : decode cX8_type 12 = .ok (.ireturn, 1) := by decide +kernel
theorem dX8_take_0 : decode cX8_take 0 = .ok (.aload_n 0, 1) := by decide +kernel
theorem dX8_take_1 : decode cX8_take 1 = .ok (.getfield 7, 3) := by decide +kernel
theorem dX8_take_4 : decode cX8_take 4 = .ok (.getfield 78, 3) := by decide +kernel
theorem dX8_take_7 : decode cX8_take 7 = .ok (.aload_n 0, 1) := by decide +kernel
theorem dX8_take_8 : decode cX8_take 8 = .ok (.getfield 27, 3) := by decide +kernel
theorem dX8_take_11 : decode cX8_take 11 = .ok (.iaload, 1) := by decide +kernel
theorem dX8_take_12 : decode cX8_take 12 = .ok (.iload_n 1, 1) := by decide +kernel
theorem dX8_take_13 : decode cX8_take 13 = .ok (.if_icmp .eq 5, 3) := by decide +kernel
theorem dX8_take_18 : decode cX8_take 18 = .ok (.aload_n 0, 1) := by decide +kernel
theorem dX8_take_19 : decode cX8_take 19 = .ok (.dup, 1) := by decide +kernel
theorem dX8_take_20 : decode cX8_take 20 = .ok (.getfield 27, 3) := by decide +kernel
theorem dX8_take_23 : decode cX8_take 23 = .ok (.iconst 1, 1) := by decide +kernel
theorem dX8_take_24 : decode cX8_take 24 = .ok (.iadd, 1) := by decide +kernel
theorem dX8_take_25 : decode cX8_take 25 = .ok (.putfield 27, 3) := by decide +kernel
theorem dX8_take_28 : decode cX8_take 28 = .ok (.iconst 1, 1) := by decide +kernel
theorem dX8_take_29 : decode cX8_take 29 = .ok (.ireturn, 1) := by decide +kernel
theorem dX8_take_16 : decode cX8_take 16 = .ok (.iconst 0, 1) := by decide +kernel
theorem dX8_take_17 : decode cX8_take 17 = .ok (.ireturn, 1) := by decide +kernel
theorem dX0_add_0 : decode cX0_add 0 = .ok (.aload_n 0, 1) := by decide +kernel
theorem dX0_add_1 : decode cX0_add 1 = .ok (.getfield 33, 3) := by decide +kernel
theorem dX0_add_4 : decode cX0_add 4 = .ok (.sipush 248, 3) := by decide +kernel
theorem dX0_add_7 : decode cX0_add 7 = .ok (.if_icmp .ge 85, 3) := by decide +kernel
theorem dX0_add_10 : decode cX0_add 10 = .ok (.aload_n 0, 1) := by decide +kernel
theorem dX0_add_11 : decode cX0_add 11 = .ok (.getfield 11, 3) := by decide +kernel
theorem dX0_add_14 : decode cX0_add 14 = .ok (.aload_n 0, 1) := by decide +kernel
theorem dX0_add_15 : decode cX0_add 15 = .ok (.getfield 33, 3) := by decide +kernel
theorem dX0_add_18 : decode cX0_add 18 = .ok (.iload_n 1, 1) := by decide +kernel
theorem dX0_add_19 : decode cX0_add 19 = .ok (.iastore, 1) := by decide +kernel
theorem dX0_add_20 : decode cX0_add 20 = .ok (.aload_n 0, 1) := by decide +kernel
theorem dX0_add_21 : decode cX0_add 21 = .ok (.getfield 15, 3) := by decide +kernel
theorem dX0_add_24 : decode cX0_add 24 = .ok (.aload_n 0, 1) := by decide +kernel
theorem dX0_add_25 : decode cX0_add 25 = .ok (.getfield 33, 3) := by decide +kernel
theorem dX0_add_28 : decode cX0_add 28 = .ok (.iload_n 2, 1) := by decide +kernel
theorem dX0_add_29 : decode cX0_add 29 = .ok (.iastore, 1) := by decide +kernel
theorem dX0_add_30 : decode cX0_add 30 = .ok (.aload_n 0, 1) := by decide +kernel
theorem dX0_add_31 : decode cX0_add 31 = .ok (.getfield 18, 3) := by decide +kernel
theorem dX0_add_34 : decode cX0_add 34 = .ok (.aload_n 0, 1) := by decide +kernel
theorem dX0_add_35 : decode cX0_add 35 = .ok (.getfield 33, 3) := by decide +kernel
theorem dX0_add_38 : decode cX0_add 38 = .ok (.iload_n 3, 1) := by decide +kernel
theorem dX0_add_39 : decode cX0_add 39 = .ok (.iastore, 1) := by decide +kernel
theorem dX0_add_40 : decode cX0_add 40 = .ok (.aload_n 0, 1) := by decide +kernel
theorem dX0_add_41 : decode cX0_add 41 = .ok (.getfield 21, 3) := by decide +kernel
theorem dX0_add_44 : decode cX0_add 44 = .ok (.aload_n 0, 1) := by decide +kernel
theorem dX0_add_45 : decode cX0_add 45 = .ok (.getfield 33, 3) := by decide +kernel
theorem dX0_add_48 : decode cX0_add 48 = .ok (.iload 4, 2) := by decide +kernel
theorem dX0_add_50 : decode cX0_add 50 = .ok (.iastore, 1) := by decide +kernel
theorem dX0_add_51 : decode cX0_add 51 = .ok (.aload_n 0, 1) := by decide +kernel
theorem dX0_add_52 : decode cX0_add 52 = .ok (.getfield 24, 3) := by decide +kernel
theorem dX0_add_55 : decode cX0_add 55 = .ok (.aload_n 0, 1) := by decide +kernel
theorem dX0_add_56 : decode cX0_add 56 = .ok (.getfield 33, 3) := by decide +kernel
theorem dX0_add_59 : decode cX0_add 59 = .ok (.iload 5, 2) := by decide +kernel
theorem dX0_add_61 : decode cX0_add 61 = .ok (.iastore, 1) := by decide +kernel
theorem dX0_add_62 : decode cX0_add 62 = .ok (.aload_n 0, 1) := by decide +kernel
theorem dX0_add_63 : decode cX0_add 63 = .ok (.getfield 27, 3) := by decide +kernel
theorem dX0_add_66 : decode cX0_add 66 = .ok (.aload_n 0, 1) := by decide +kernel
theorem dX0_add_67 : decode cX0_add 67 = .ok (.getfield 33, 3) := by decide +kernel
theorem dX0_add_70 : decode cX0_add 70 = .ok (.iconst (-1), 1) := by decide +kernel
theorem dX0_add_71 : decode cX0_add 71 = .ok (.iastore, 1) := by decide +kernel
theorem dX0_add_72 : decode cX0_add 72 = .ok (.aload_n 0, 1) := by decide +kernel
theorem dX0_add_73 : decode cX0_add 73 = .ok (.getfield 30, 3) := by decide +kernel
theorem dX0_add_76 : decode cX0_add 76 = .ok (.aload_n 0, 1) := by decide +kernel
theorem dX0_add_77 : decode cX0_add 77 = .ok (.getfield 33, 3) := by decide +kernel
theorem dX0_add_80 : decode cX0_add 80 = .ok (.iconst 0, 1) := by decide +kernel
theorem dX0_add_81 : decode cX0_add 81 = .ok (.iastore, 1) := by decide +kernel
theorem dX0_add_82 : decode cX0_add 82 = .ok (.aload_n 0, 1) := by decide +kernel
theorem dX0_add_83 : decode cX0_add 83 = .ok (.dup, 1) := by decide +kernel
theorem dX0_add_84 : decode cX0_add 84 = .ok (.getfield 33, 3) := by decide +kernel
theorem dX0_add_87 : decode cX0_add 87 = .ok (.iconst 1, 1) := by decide +kernel
theorem dX0_add_88 : decode cX0_add 88 = .ok (.iadd, 1) := by decide +kernel
theorem dX0_add_89 : decode cX0_add 89 = .ok (.putfield 33, 3) := by decide +kernel
theorem dX0_add_92 : decode cX0_add 92 = .ok (.return_, 1) := by decide +kernel
theorem dX8_addNamed_0 : decode cX8_addNamed 0 = .ok (.aload_n 0, 1) := by decide +kernel
theorem dX8_addNamed_1 : decode cX8_addNamed 1 = .ok (.getfield 13, 3) := by decide +kernel
theorem dX8_addNamed_4 : decode cX8_addNamed 4 = .ok (.iload_n 1, 1) := by decide +kernel
theorem dX8_addNamed_5 : decode cX8_addNamed 5 = .ok (.iload_n 2, 1) := by decide +kernel
theorem dX8_addNamed_6 : decode cX8_addNamed 6 = .ok (.aload_n 0, 1) := by decide +kernel
theorem dX8_addNamed_7 : decode cX8_addNamed 7 = .ok (.getfield 7, 3) := by decide +kernel
theorem dX8_addNamed_10 : decode cX8_addNamed 10 = .ok (.getfield 80, 3) := by decide +kernel
theorem dX8_addNamed_13 : decode cX8_addNamed 13 = .ok (.iload_n 3, 1) := by decide +kernel
theorem dX8_addNamed_14 : decode cX8_addNamed 14 = .ok (.iaload, 1) := by decide +kernel
theorem dX8_addNamed_15 : decode cX8_addNamed 15 = .ok (.aload_n 0, 1) := by decide +kernel
theorem dX8_addNamed_16 : decode cX8_addNamed 16 = .ok (.getfield 7, 3) := by decide +kernel
theorem dX8_addNamed_19 : decode cX8_addNamed 19 = .ok (.getfield 75, 3) := by decide +kernel
theorem dX8_addNamed_22 : decode cX8_addNamed 22 = .ok (.iload_n 3, 1) := by decide +kernel
theorem dX8_addNamed_23 : decode cX8_addNamed 23 = .ok (.iaload, 1) := by decide +kernel
theorem dX8_addNamed_24 : decode cX8_addNamed 24 = .ok (.iconst (-1), 1) := by decide +kernel
theorem dX8_addNamed_25 : decode cX8_addNamed 25 = .ok (.invokevirtual 86, 3) := by decide +kernel
theorem dX8_addNamed_28 : decode cX8_addNamed 28 = .ok (.return_, 1) := by decide +kernel
theorem dX8_label_0 : decode cX8_label 0 = .ok (.aload_n 0, 1) := by decide +kernel
theorem dX8_label_1 : decode cX8_label 1 = .ok (.getfield 31, 3) := by decide +kernel
theorem dX8_label_4 : decode cX8_label 4 = .ok (.ifCond .ne 5, 3) := by decide +kernel
theorem dX8_label_9 : decode cX8_label 9 = .ok (.aload_n 0, 1) := by decide +kernel
theorem dX8_label_10 : decode cX8_label 10 = .ok (.getfield 27, 3) := by decide +kernel
theorem dX8_label_13 : decode cX8_label 13 = .ok (.istore_n 1, 1) := by decide +kernel
theorem dX8_label_14 : decode cX8_label 14 = .ok (.aload_n 0, 1) := by decide +kernel
theorem dX8_label_15 : decode cX8_label 15 = .ok (.dup, 1) := by decide +kernel
theorem dX8_label_16 : decode cX8_label 16 = .ok (.getfield 27, 3) := by decide +kernel
theorem dX8_label_19 : decode cX8_label 19 = .ok (.iconst 1, 1) := by decide +kernel
theorem dX8_label_20 : decode cX8_label 20 = .ok (.iadd, 1) := by decide +kernel
theorem dX8_label_21 : decode cX8_label 21 = .ok (.putfield 27, 3) := by decide +kernel
theorem dX8_label_24 : decode cX8_label 24 = .ok (.aload_n 0, 1) := by decide +kernel
theorem dX8_label_25 : decode cX8_label 25 = .ok (.bipush 58, 2) := by decide +kernel
theorem dX8_label_27 : decode cX8_label 27 = .ok (.invokevirtual 72, 3) := by decide +kernel
theorem dX8_label_30 : decode cX8_label 30 = .ok (.ifCond .ne 5, 3) := by decide +kernel
theorem dX8_label_35 : decode cX8_label 35 = .ok (.aload_n 0, 1) := by decide +kernel
theorem dX8_label_36 : decode cX8_label 36 = .ok (.iconst 1, 1) := by decide +kernel
theorem dX8_label_37 : decode cX8_label 37 = .ok (.iconst 0, 1) := by decide +kernel
theorem dX8_label_38 : decode cX8_label 38 = .ok (.iload_n 1, 1) := by decide +kernel
theorem dX8_label_39 : decode cX8_label 39 = .ok (.invokevirtual 82, 3) := by decide +kernel
theorem dX8_label_42 : decode cX8_label 42 = .ok (.iconst 1, 1) := by decide +kernel
theorem dX8_label_43 : decode cX8_label 43 = .ok (.ireturn, 1) := by decide +kernel
theorem dX8_label_33 : decode cX8_label 33 = .ok (.iconst 0, 1) := by decide +kernel
theorem dX8_label_34 : decode cX8_label 34 = .ok (.ireturn, 1) := by decide +kernel
theorem dX8_label_7 : decode cX8_label 7 = .ok (.iconst 0, 1) := by decide +kernel
theorem dX8_label_8 : decode cX8_label 8 = .ok (.ireturn, 1) := by decide +kernel
theorem dX8_value_0 : decode cX8_value 0 = .ok (.aload_n 0, 1) := by decide +kernel
theorem dX8_value_1 : decode cX8_value 1 = .ok (.getfield 7, 3) := by decide +kernel
theorem dX8_value_4 : decode cX8_value 4 = .ok (.getfield 80, 3) := by decide +kernel
theorem dX8_value_7 : decode cX8_value 7 = .ok (.aload_n 0, 1) := by decide +kernel
theorem dX8_value_8 : decode cX8_value 8 = .ok (.getfield 27, 3) := by decide +kernel
theorem dX8_value_11 : decode cX8_value 11 = .ok (.iaload, 1) := by decide +kernel
theorem dX8_value_12 : decode cX8_value 12 = .ok (.ireturn, 1) := by decide +kernel
theorem dX8_isAlign_0 : decode cX8_isAlign 0 = .ok (.iload_n 0, 1) := by decide +kernel
theorem dX8_isAlign_1 : decode cX8_isAlign 1 = .ok (.iconst 1, 1) := by decide +kernel
theorem dX8_isAlign_2 : decode cX8_isAlign 2 = .ok (.if_icmp .lt 21, 3) := by decide +kernel
theorem dX8_isAlign_5 : decode cX8_isAlign 5 = .ok (.iload_n 0, 1) := by decide +kernel
theorem dX8_isAlign_6 : decode cX8_isAlign 6 = .ok (.bipush 16, 2) := by decide +kernel
theorem dX8_isAlign_8 : decode cX8_isAlign 8 = .ok (.if_icmp .gt 15, 3) := by decide +kernel
theorem dX8_isAlign_11 : decode cX8_isAlign 11 = .ok (.iload_n 0, 1) := by decide +kernel
theorem dX8_isAlign_12 : decode cX8_isAlign 12 = .ok (.invokestatic 127, 3) := by decide +kernel
theorem dX8_isAlign_15 : decode cX8_isAlign 15 = .ok (.iconst 1, 1) := by decide +kernel
theorem dX8_isAlign_16 : decode cX8_isAlign 16 = .ok (.if_icmp .ne 7, 3) := by decide +kernel
theorem dX8_isAlign_19 : decode cX8_isAlign 19 = .ok (.iconst 1, 1) := by decide +kernel
theorem dX8_isAlign_20 : decode cX8_isAlign 20 = .ok (.goto 4, 3) := by decide +kernel
theorem dX8_isAlign_23 : decode cX8_isAlign 23 = .ok (.iconst 0, 1) := by decide +kernel
theorem dX8_isAlign_24 : decode cX8_isAlign 24 = .ok (.ireturn, 1) := by decide +kernel
theorem dX8_seg_0 : decode cX8_seg 0 = .ok (.aload_n 0, 1) := by decide +kernel
theorem dX8_seg_1 : decode cX8_seg 1 = .ok (.getfield 27, 3) := by decide +kernel
theorem dX8_seg_4 : decode cX8_seg 4 = .ok (.istore_n 1, 1) := by decide +kernel
theorem dX8_seg_5 : decode cX8_seg 5 = .ok (.aload_n 0, 1) := by decide +kernel
theorem dX8_seg_6 : decode cX8_seg 6 = .ok (.iconst 3, 1) := by decide +kernel
theorem dX8_seg_7 : decode cX8_seg 7 = .ok (.invokevirtual 72, 3) := by decide +kernel
theorem dX8_seg_10 : decode cX8_seg 10 = .ok (.ifCond .ne 5, 3) := by decide +kernel
theorem dX8_seg_15 : decode cX8_seg 15 = .ok (.aload_n 0, 1) := by decide +kernel
theorem dX8_seg_16 : decode cX8_seg 16 = .ok (.invokevirtual 43, 3) := by decide +kernel
theorem dX8_seg_19 : decode cX8_seg 19 = .ok (.iconst 2, 1) := by decide +kernel
theorem dX8_seg_20 : decode cX8_seg 20 = .ok (.if_icmp .ne 13, 3) := by decide +kernel
theorem dX8_seg_23 : decode cX8_seg 23 = .ok (.aload_n 0, 1) := by decide +kernel
theorem dX8_seg_24 : decode cX8_seg 24 = .ok (.invokevirtual 51, 3) := by decide +kernel
theorem dX8_seg_27 : decode cX8_seg 27 = .ok (.invokestatic 124, 3) := by decide +kernel
theorem dX8_seg_30 : decode cX8_seg 30 = .ok (.ifCond .ne 5, 3) := by decide +kernel
theorem dX8_seg_35 : decode cX8_seg 35 = .ok (.aload_n 0, 1) := by decide +kernel
theorem dX8_seg_36 : decode cX8_seg 36 = .ok (.iconst 0, 1) := by decide +kernel
theorem dX8_seg_37 : decode cX8_seg 37 = .ok (.aload_n 0, 1) := by decide +kernel
theorem dX8_seg_38 : decode cX8_seg 38 = .ok (.invokevirtual 51, 3) := by decide +kernel
theorem dX8_seg_41 : decode cX8_seg 41 = .ok (.iload_n 1, 1) := by decide +kernel
theorem dX8_seg_42 : decode cX8_seg 42 = .ok (.invokevirtual 82, 3) := by decide +kernel
theorem dX8_seg_45 : decode cX8_seg 45 = .ok (.aload_n 0, 1) := by decide +kernel
theorem dX8_seg_46 : decode cX8_seg 46 = .ok (.dup, 1) := by decide +kernel
theorem dX8_seg_47 : decode cX8_seg 47 = .ok (.getfield 27, 3) := by decide +kernel
theorem dX8_seg_50 : decode cX8_seg 50 = .ok (.iconst 1, 1) := by decide +kernel
theorem dX8_seg_51 : decode cX8_seg 51 = .ok (.iadd, 1) := by decide +kernel
theorem dX8_seg_52 : decode cX8_seg 52 = .ok (.putfield 27, 3) := by decide +kernel
theorem dX8_seg_55 : decode cX8_seg 55 = .ok (.aload_n 0, 1) := by decide +kernel
theorem dX8_seg_56 : decode cX8_seg 56 = .ok (.iconst 1, 1) := by decide +kernel
theorem dX8_seg_57 : decode cX8_seg 57 = .ok (.putfield 31, 3) := by decide +kernel
theorem dX8_seg_60 : decode cX8_seg 60 = .ok (.iconst 1, 1) := by decide +kernel
theorem dX8_seg_61 : decode cX8_seg 61 = .ok (.ireturn, 1) := by decide +kernel
theorem dX8_seg_13 : decode cX8_seg 13 = .ok (.iconst 0, 1) := by decide +kernel
theorem dX8_seg_14 : decode cX8_seg 14 = .ok (.ireturn, 1) := by decide +kernel
theorem dX8_seg_33 : decode cX8_seg 33 = .ok (.iconst 0, 1) := by decide +kernel
theorem dX8_seg_34 : decode cX8_seg 34 = .ok (.ireturn, 1) := by decide +kernel
theorem dX8_named_0 : decode cX8_named 0 = .ok (.aload_n 0, 1) := by decide +kernel
theorem dX8_named_1 : decode cX8_named 1 = .ok (.getfield 27, 3) := by decide +kernel
theorem dX8_named_4 : decode cX8_named 4 = .ok (.istore_n 3, 1) := by decide +kernel
theorem dX8_named_5 : decode cX8_named 5 = .ok (.aload_n 0, 1) := by decide +kernel
theorem dX8_named_6 : decode cX8_named 6 = .ok (.iconst 3, 1) := by decide +kernel
theorem dX8_named_7 : decode cX8_named 7 = .ok (.invokevirtual 72, 3) := by decide +kernel
theorem dX8_named_10 : decode cX8_named 10 = .ok (.ifCond .ne 5, 3) := by decide +kernel
theorem dX8_named_15 : decode cX8_named 15 = .ok (.iload_n 3, 1) := by decide +kernel
theorem dX8_named_16 : decode cX8_named 16 = .ok (.ifCond .le 17, 3) := by decide +kernel
theorem dX8_named_33 : decode cX8_named 33 = .ok (.iconst (-1), 1) := by decide +kernel
theorem dX8_named_19 : decode cX8_named 19 = .ok (.aload_n 0, 1) := by decide +kernel
theorem dX8_named_20 : decode cX8_named 20 = .ok (.getfield 7, 3) := by decide +kernel
theorem dX8_named_23 : decode cX8_named 23 = .ok (.getfield 75, 3) := by decide +kernel
theorem dX8_named_26 : decode cX8_named 26 = .ok (.iload_n 3, 1) := by decide +kernel
theorem dX8_named_27 : decode cX8_named 27 = .ok (.iconst 1, 1) := by decide +kernel
theorem dX8_named_28 : decode cX8_named 28 = .ok (.isub, 1) := by decide +kernel
theorem dX8_named_29 : decode cX8_named 29 = .ok (.iaload, 1) := by decide +kernel
theorem dX8_named_30 : decode cX8_named 30 = .ok (.goto 4, 3) := by decide +kernel
theorem dX8_named_13 : decode cX8_named 13 = .ok (.iconst 0, 1) := by decide +kernel
theorem dX8_named_14 : decode cX8_named 14 = .ok (.ireturn, 1) := by decide +kernel
theorem dX8_named_34 : decode cX8_named 34 = .ok (.istore 4, 2) := by decide +kernel
theorem dX8_named_36 : decode cX8_named 36 = .ok (.aload_n 0, 1) := by decide +kernel
theorem dX8_named_37 : decode cX8_named 37 = .ok (.getfield 13, 3) := by decide +kernel
theorem dX8_named_40 : decode cX8_named 40 = .ok (.iload_n 1, 1) := by decide +kernel
theorem dX8_named_41 : decode cX8_named 41 = .ok (.iload_n 2, 1) := by decide +kernel
theorem dX8_named_42 : decode cX8_named 42 = .ok (.aload_n 0, 1) := by decide +kernel
theorem dX8_named_43 : decode cX8_named 43 = .ok (.getfield 7, 3) := by decide +kernel
theorem dX8_named_46 : decode cX8_named 46 = .ok (.getfield 80, 3) := by decide +kernel
theorem dX8_named_49 : decode cX8_named 49 = .ok (.iload_n 3, 1) := by decide +kernel
theorem dX8_named_50 : decode cX8_named 50 = .ok (.iaload, 1) := by decide +kernel
theorem dX8_named_51 : decode cX8_named 51 = .ok (.aload_n 0, 1) := by decide +kernel
theorem dX8_named_52 : decode cX8_named 52 = .ok (.getfield 7, 3) := by decide +kernel
theorem dX8_named_55 : decode cX8_named 55 = .ok (.getfield 75, 3) := by decide +kernel
theorem dX8_named_58 : decode cX8_named 58 = .ok (.iload_n 3, 1) := by decide +kernel
theorem dX8_named_59 : decode cX8_named 59 = .ok (.iaload, 1) := by decide +kernel
theorem dX8_named_60 : decode cX8_named 60 = .ok (.iload 4, 2) := by decide +kernel
theorem dX8_named_62 : decode cX8_named 62 = .ok (.invokevirtual 86, 3) := by decide +kernel
theorem dX8_named_65 : decode cX8_named 65 = .ok (.iconst 1, 1) := by decide +kernel
theorem dX8_named_66 : decode cX8_named 66 = .ok (.ireturn, 1) := by decide +kernel
theorem dX7_clear_0 : decode cX7_clear 0 = .ok (.aload_n 0, 1) := by decide +kernel
theorem dX7_clear_1 : decode cX7_clear 1 = .ok (.iload_n 1, 1) := by decide +kernel
theorem dX7_clear_2 : decode cX7_clear 2 = .ok (.putfield 13, 3) := by decide +kernel
theorem dX7_clear_5 : decode cX7_clear 5 = .ok (.aload_n 0, 1) := by decide +kernel
theorem dX7_clear_6 : decode cX7_clear 6 = .ok (.iconst 0, 1) := by decide +kernel
theorem dX7_clear_7 : decode cX7_clear 7 = .ok (.putfield 17, 3) := by decide +kernel
theorem dX7_clear_10 : decode cX7_clear 10 = .ok (.aload_n 0, 1) := by decide +kernel
theorem dX7_clear_11 : decode cX7_clear 11 = .ok (.iconst 0, 1) := by decide +kernel
theorem dX7_clear_12 : decode cX7_clear 12 = .ok (.putfield 20, 3) := by decide +kernel
theorem dX7_clear_15 : decode cX7_clear 15 = .ok (.aload_n 0, 1) := by decide +kernel
theorem dX7_clear_16 : decode cX7_clear 16 = .ok (.iconst (-1), 1) := by decide +kernel
theorem dX7_clear_17 : decode cX7_clear 17 = .ok (.putfield 23, 3) := by decide +kernel
theorem dX7_clear_20 : decode cX7_clear 20 = .ok (.aload_n 0, 1) := by decide +kernel
theorem dX7_clear_21 : decode cX7_clear 21 = .ok (.iconst (-1), 1) := by decide +kernel
theorem dX7_clear_22 : decode cX7_clear 22 = .ok (.putfield 26, 3) := by decide +kernel
theorem dX7_clear_25 : decode cX7_clear 25 = .ok (.aload_n 0, 1) := by decide +kernel
theorem dX7_clear_26 : decode cX7_clear 26 = .ok (.iconst 0, 1) := by decide +kernel
theorem dX7_clear_27 : decode cX7_clear 27 = .ok (.putfield 29, 3) := by decide +kernel
theorem dX7_clear_30 : decode cX7_clear 30 = .ok (.aload_n 0, 1) := by decide +kernel
theorem dX7_clear_31 : decode cX7_clear 31 = .ok (.iconst 0, 1) := by decide +kernel
theorem dX7_clear_32 : decode cX7_clear 32 = .ok (.putfield 33, 3) := by decide +kernel
theorem dX7_clear_35 : decode cX7_clear 35 = .ok (.aload_n 0, 1) := by decide +kernel
theorem dX7_clear_36 : decode cX7_clear 36 = .ok (.iconst 0, 1) := by decide +kernel
theorem dX7_clear_37 : decode cX7_clear 37 = .ok (.putfield 36, 3) := by decide +kernel
theorem dX7_clear_40 : decode cX7_clear 40 = .ok (.return_, 1) := by decide +kernel
def wpX10_byteOf (a0 a1 : Int) (σ : ZS) (Q : Int → ZS → Prop) : Prop := Q ((zlushr a0 (8 * a1)) % 256) σ
set_option maxHeartbeats 4000000 in
set_option maxRecDepth 100000 in
theorem kX10_byteOf (l : Launch) (D : va_G) (dA : Nat → ClassId) (ad : Int → Nat → Nat) (a0 a1 : Int) (σ : ZS) (Q : Int → ZS → Prop) (sz : Nat) (hw : wpX10_byteOf a0 a1 σ Q) : Met l yX10_byteOf (gws yX10_byteOf cX10_byteOf 3 (some .int)) (gR 1 0 0) (gPre D dA [.long (Int64.ofInt a0), .int (Int32.ofInt a1)] (zC dA ad σ) sz) (va_Qi (zQi Q) (gAt D dA (va_A (zC dA ad σ) sz) (zC dA ad)) (va_A (zC dA ad σ) sz)) 0 0 (va_A (zC dA ad σ) sz) := by
  refine Met.ofW (cc := cX10_byteOf) (maxL := 3) (ret := (some .int)) (by decide) rfl ?_
  intro p e s m args below meth c s₁ B hml hv
  obtain ⟨rfl, hsz, hP, hK, hD0⟩ := hv
  have hx := B.exec
  have hb := B.bytes
  have hr := B.returns
  have hts := atoms_spec (ws := gws yX10_byteOf cX10_byteOf 3 (some .int)) B.pre
  have hg : ∀ w ∈ gw, w.before _ s = true := fun w h => hts w (List.mem_cons_of_mem _ h)
  have hown : s.vm.findClass RX10 = some m.cls := findClass_of_methodNamed B.named
  have hlocks := B.notSynchronized
  subst hsz
  have hD := hD0.self (sz := s.heap.size)
  generalize hAe : va_A (zC dA ad σ) s.heap.size = A at hD ⊢
  have hA : ∀ q : Nat, s.heap.size ≤ q → A q := fun q h => by rw [← hAe]; exact Or.inr h
  have hS : va_S A s.heap s.heap [] := va_S.rf
  have hl := lv_entry ([.long (Int64.ofInt a0), .int (Int32.ofInt a1)]) (n := 3) (Nat.le_of_ble_eq_true rfl)
  rw [lg_entry_eq]
  generalize (lg_sl ([.long (Int64.ofInt a0), .int (Int32.ofInt a1)]) ++ List.replicate (3 - (lg_sl ([.long (Int64.ofInt a0), .int (Int32.ofInt a1)])).length) Slot.unset).toArray = ls at hl ⊢
  have hl : lv_has ls 3 [(0, .long (Int64.ofInt a0)), (2, .int (Int32.ofInt a1))] := hl
  have hret : ∀ (v : Int) (σ : ZS) (H : Heap) (locs : List Loc) (ls : Array Slot) (pc : Nat), Q v σ → va_P D vwC (zC dA ad σ) H → va_D A (zC dA ad σ) → va_S A s.heap H locs → decode cX10_byteOf pc = .ok (.ireturn, 1) → W p l e (gR 1 0 0) s m #[.long (Int64.ofInt a0), .int (Int32.ofInt a1)] below meth c H locs 0 0 (MQ below (va_Qi (zQi Q) (gAt D dA A (zC dA ad)) A) #[.long (Int64.ofInt a0), .int (Int32.ofInt a1)] s 0 0 A) (F0 m pc ls [.int (Int32.ofInt v)]) := fun v σ H locs ls pc hw hP hD hS hd => g_iret hx hb hr rfl hlocks hK σ hP hD hS ⟨v, rfl, hw⟩ (Nat.le_of_ble_eq_true rfl) (Nat.le_of_ble_eq_true rfl) hd
  generalize MQ below (va_Qi (zQi Q) (gAt D dA A (zC dA ad)) A) #[.long (Int64.ofInt a0), .int (Int32.ofInt a1)] s 0 0 A = QQ at hret ⊢
  unfold wpX10_byteOf at hw
  refine lv_lload_n hx hb dX10_byteOf_0 rfl (lv_at hl 0 rfl) ?_
  refine lv_bipush (v := Int32.ofInt 8) hx hb dX10_byteOf_1 (by decide) ?_
  refine lv_iload_n hx hb dX10_byteOf_3 rfl (lv_at hl 1 rfl) ?_
  refine z_imul hx hb dX10_byteOf_4 ?_
  refine z_lushr hx hb dX10_byteOf_5 ?_
  refine z_l2i hx hb dX10_byteOf_6 ?_
  refine lv_sipush (v := Int32.ofInt 255) hx hb dX10_byteOf_7 (by decide) ?_
  refine z_iandK (M := 256) hx hb 8 (by decide) (by decide) (by decide) dX10_byteOf_10 ?_
  exact hret ((zlushr a0 (8 * a1)) % 256) σ _ _ _ _ hw hP hD hS dX10_byteOf_11
def wpX10_isModule_14 (s0 : Int) (σ : ZS) (Q : Int → ZS → Prop) : Prop := (0 ≤ s0 ∧ s0 ≤ 1) ∧ Q s0 σ
def wpX10_isModule_13 (σ : ZS) (Q : Int → ZS → Prop) : Prop := wpX10_isModule_14 0 σ Q
def wpX10_isModule (a0 : Int) (σ : ZS) (Q : Int → ZS → Prop) : Prop := (-2147483648 ≤ a0 ∧ a0 ≤ 2147483647) ∧ (a0 < 0 → wpX10_isModule_13 σ Q) ∧ (¬ a0 < 0 → (3 ≤ a0 → wpX10_isModule_13 σ Q) ∧ (¬ 3 ≤ a0 → wpX10_isModule_14 1 σ Q))
set_option maxHeartbeats 4000000 in
set_option maxRecDepth 100000 in
theorem kX10_isModule (l : Launch) (D : va_G) (dA : Nat → ClassId) (ad : Int → Nat → Nat) (a0 : Int) (σ : ZS) (Q : Int → ZS → Prop) (sz : Nat) (hw : wpX10_isModule a0 σ Q) : Met l yX10_isModule (gws yX10_isModule cX10_isModule 1 (some .boolean)) (gR 1 0 0) (gPre D dA [.int (Int32.ofInt a0)] (zC dA ad σ) sz) (va_Qi (zQi Q) (gAt D dA (va_A (zC dA ad σ) sz) (zC dA ad)) (va_A (zC dA ad σ) sz)) 0 0 (va_A (zC dA ad σ) sz) := by
  refine Met.ofW (cc := cX10_isModule) (maxL := 1) (ret := (some .boolean)) (by decide) rfl ?_
  intro p e s m args below meth c s₁ B hml hv
  obtain ⟨rfl, hsz, hP, hK, hD0⟩ := hv
  have hx := B.exec
  have hb := B.bytes
  have hr := B.returns
  have hts := atoms_spec (ws := gws yX10_isModule cX10_isModule 1 (some .boolean)) B.pre
  have hg : ∀ w ∈ gw, w.before _ s = true := fun w h => hts w (List.mem_cons_of_mem _ h)
  have hown : s.vm.findClass RX10 = some m.cls := findClass_of_methodNamed B.named
  have hlocks := B.notSynchronized
  subst hsz
  have hD := hD0.self (sz := s.heap.size)
  generalize hAe : va_A (zC dA ad σ) s.heap.size = A at hD ⊢
  have hA : ∀ q : Nat, s.heap.size ≤ q → A q := fun q h => by rw [← hAe]; exact Or.inr h
  have hS : va_S A s.heap s.heap [] := va_S.rf
  have hl := lv_entry ([.int (Int32.ofInt a0)]) (n := 1) (Nat.le_of_ble_eq_true rfl)
  rw [lg_entry_eq]
  generalize (lg_sl ([.int (Int32.ofInt a0)]) ++ List.replicate (1 - (lg_sl ([.int (Int32.ofInt a0)])).length) Slot.unset).toArray = ls at hl ⊢
  have hl : lv_has ls 1 [(0, .int (Int32.ofInt a0))] := hl
  have hret : ∀ (v : Int) (σ : ZS) (H : Heap) (locs : List Loc) (ls : Array Slot) (pc : Nat), (0 ≤ v ∧ v ≤ 1) → Q v σ → va_P D vwC (zC dA ad σ) H → va_D A (zC dA ad σ) → va_S A s.heap H locs → decode cX10_isModule pc = .ok (.ireturn, 1) → W p l e (gR 1 0 0) s m #[.int (Int32.ofInt a0)] below meth c H locs 0 0 (MQ below (va_Qi (zQi Q) (gAt D dA A (zC dA ad)) A) #[.int (Int32.ofInt a0)] s 0 0 A) (F0 m pc ls [.int (Int32.ofInt v)]) := fun v σ H locs ls pc hv hw hP hD hS hd => g_iret hx hb hr (z_nb hv) hlocks hK σ hP hD hS ⟨v, rfl, hw⟩ (Nat.le_of_ble_eq_true rfl) (Nat.le_of_ble_eq_true rfl) hd
  generalize MQ below (va_Qi (zQi Q) (gAt D dA A (zC dA ad)) A) #[.int (Int32.ofInt a0)] s 0 0 A = QQ at hret ⊢
  have j14 : ∀ (s0 : Int) (σ : ZS), ∀ (H : Heap) (locs : List Loc) (ls : Array Slot), va_P D vwC (zC dA ad σ) H → va_D A (zC dA ad σ) → va_S A s.heap H locs → lv_has ls 1 [] → wpX10_isModule_14 s0 σ Q → W p l e (gR 1 0 0) s m #[.int (Int32.ofInt a0)] below meth c H locs 0 0 QQ (F0 m 14 ls [.int (Int32.ofInt s0)]) := by
    intro s0 σ H locs ls hP hD hS hl hw
    unfold wpX10_isModule_14 at hw
    obtain ⟨o1, hw⟩ := hw
    exact hret s0 σ _ _ _ _ o1 hw hP hD hS dX10_isModule_14
  have j13 : ∀ (σ : ZS), ∀ (H : Heap) (locs : List Loc) (ls : Array Slot), va_P D vwC (zC dA ad σ) H → va_D A (zC dA ad σ) → va_S A s.heap H locs → lv_has ls 1 [] → wpX10_isModule_13 σ Q → W p l e (gR 1 0 0) s m #[.int (Int32.ofInt a0)] below meth c H locs 0 0 QQ (F0 m 13 ls []) := by
    intro σ H locs ls hP hD hS hl hw
    unfold wpX10_isModule_13 at hw
    refine lv_iconst (v := Int32.ofInt 0) hx hb dX10_isModule_13 (by decide) ?_
    exact j14 0 σ _ _ _ hP hD hS (lv_sub hl [] rfl) hw
  unfold wpX10_isModule at hw
  refine lv_iload_n hx hb dX10_isModule_0 rfl (lv_at hl 0 rfl) ?_
  obtain ⟨o2, hw⟩ := hw
  refine z_if_lt (tgt := 13) hx hb o2 dX10_isModule_1 (by decide) (fun k3 => ?_) (fun k3 => ?_)
  · replace hw := hw.1 k3
    exact j13 σ _ _ _ hP hD hS (lv_sub hl [] rfl) hw
  · replace hw := hw.2 k3
    refine lv_iload_n hx hb dX10_isModule_4 rfl (lv_at hl 0 rfl) ?_
    refine lv_iconst (v := Int32.ofInt 3) hx hb dX10_isModule_5 (by decide) ?_
    refine z_icmp_ge (tgt := 13) hx hb o2 (by decide) dX10_isModule_6 (by decide) (fun k4 => ?_) (fun k4 => ?_)
    · replace hw := hw.1 k4
      exact j13 σ _ _ _ hP hD hS (lv_sub hl [] rfl) hw
    · replace hw := hw.2 k4
      refine lv_iconst (v := Int32.ofInt 1) hx hb dX10_isModule_9 (by decide) ?_
      refine lv_goto (tgt := 14) hx hb dX10_isModule_10 (by decide) ?_
      exact j14 1 σ _ _ _ hP hD hS (lv_sub hl [] rfl) hw
def wpX5_clear (σ : ZS) (Q : ZS → Prop) : Prop := Q (zsI (zsI σ 11 5 0) 11 6 (-1))
set_option maxHeartbeats 4000000 in
set_option maxRecDepth 100000 in
theorem kX5_clear (l : Launch) (D : va_G) (dA : Nat → ClassId) (ad : Int → Nat → Nat) (σ : ZS) (Q : ZS → Prop) (sz : Nat) (hw : wpX5_clear σ Q) : Met l yX5_clear (gws yX5_clear cX5_clear 1 none) (gR 1 0 0) (gPre D dA [.ref (ad 11 1000)] (zC dA ad σ) sz) (va_Qv Q (gAt D dA (va_A (zC dA ad σ) sz) (zC dA ad)) (va_A (zC dA ad σ) sz)) 0 0 (va_A (zC dA ad σ) sz) := by
  refine Met.ofW (cc := cX5_clear) (maxL := 1) (ret := none) (by decide) rfl ?_
  intro p e s m args below meth c s₁ B hml hv
  obtain ⟨rfl, hsz, hP, hK, hD0⟩ := hv
  have hx := B.exec
  have hb := B.bytes
  have hr := B.returns
  have hts := atoms_spec (ws := gws yX5_clear cX5_clear 1 none) B.pre
  have hg : ∀ w ∈ gw, w.before _ s = true := fun w h => hts w (List.mem_cons_of_mem _ h)
  have hown : s.vm.findClass RX5 = some m.cls := findClass_of_methodNamed B.named
  have hlocks := B.notSynchronized
  subst hsz
  have hD := hD0.self (sz := s.heap.size)
  generalize hAe : va_A (zC dA ad σ) s.heap.size = A at hD ⊢
  have hA : ∀ q : Nat, s.heap.size ≤ q → A q := fun q h => by rw [← hAe]; exact Or.inr h
  have hS : va_S A s.heap s.heap [] := va_S.rf
  have hl := lv_entry ([.ref (ad 11 1000)]) (n := 1) (Nat.le_of_ble_eq_true rfl)
  rw [lg_entry_eq]
  generalize (lg_sl ([.ref (ad 11 1000)]) ++ List.replicate (1 - (lg_sl ([.ref (ad 11 1000)])).length) Slot.unset).toArray = ls at hl ⊢
  have hl : lv_has ls 1 [(0, .ref (ad 11 1000))] := hl
  have hret : ∀ (σ : ZS) (H : Heap) (locs : List Loc) (ls : Array Slot) (pc : Nat), Q σ → va_P D vwC (zC dA ad σ) H → va_D A (zC dA ad σ) → va_S A s.heap H locs → decode cX5_clear pc = .ok (.return_, 1) → W p l e (gR 1 0 0) s m #[.ref (ad 11 1000)] below meth c H locs 0 0 (MQ below (va_Qv Q (gAt D dA A (zC dA ad)) A) #[.ref (ad 11 1000)] s 0 0 A) (F0 m pc ls []) := fun σ H locs ls pc hw hP hD hS hd => g_vret hx hb hr hlocks hK σ hP hD hS hw (Nat.le_of_ble_eq_true rfl) (Nat.le_of_ble_eq_true rfl) hd
  generalize MQ below (va_Qv Q (gAt D dA A (zC dA ad)) A) #[.ref (ad 11 1000)] s 0 0 A = QQ at hret ⊢
  unfold wpX5_clear at hw
  refine lv_aload_n hx hb dX5_clear_0 rfl (lv_at hl 0 rfl) ?_
  refine lv_iconst (v := Int32.ofInt 0) hx hb dX5_clear_1 (by decide) ?_
  refine zpC11_5 (v := 0) hx hb hg hown hK hP hD hS q204 dX5_clear_2 (fun H locs hP hD hS => ?_)
  refine lv_aload_n hx hb dX5_clear_5 rfl (lv_at hl 0 rfl) ?_
  refine lv_iconst (v := Int32.ofInt (-1)) hx hb dX5_clear_6 (by decide) ?_
  refine zpC11_6 (v := (-1)) hx hb hg hown hK hP hD hS q205 dX5_clear_7 (fun H locs hP hD hS => ?_)
  exact hret (zsI (zsI σ 11 5 0) 11 6 (-1)) _ _ _ _ hw hP hD hS dX5_clear_10
def wpX9_isLetter_17 (s0 : Int) (σ : ZS) (Q : Int → ZS → Prop) : Prop := (0 ≤ s0 ∧ s0 ≤ 1) ∧ Q s0 σ
def wpX9_isLetter_16 (σ : ZS) (Q : Int → ZS → Prop) : Prop := wpX9_isLetter_17 0 σ Q
def wpX9_isLetter (a0 : Int) (σ : ZS) (Q : Int → ZS → Prop) : Prop := (-2147483648 ≤ a0 ∧ a0 ≤ 2147483647) ∧ (a0 < 97 → wpX9_isLetter_16 σ Q) ∧ (¬ a0 < 97 → (122 < a0 → wpX9_isLetter_16 σ Q) ∧ (¬ 122 < a0 → wpX9_isLetter_17 1 σ Q))
set_option maxHeartbeats 4000000 in
set_option maxRecDepth 100000 in
theorem kX9_isLetter (l : Launch) (D : va_G) (dA : Nat → ClassId) (ad : Int → Nat → Nat) (a0 : Int) (σ : ZS) (Q : Int → ZS → Prop) (sz : Nat) (hw : wpX9_isLetter a0 σ Q) : Met l yX9_isLetter (gws yX9_isLetter cX9_isLetter 1 (some .boolean)) (gR 1 0 0) (gPre D dA [.int (Int32.ofInt a0)] (zC dA ad σ) sz) (va_Qi (zQi Q) (gAt D dA (va_A (zC dA ad σ) sz) (zC dA ad)) (va_A (zC dA ad σ) sz)) 0 0 (va_A (zC dA ad σ) sz) := by
  refine Met.ofW (cc := cX9_isLetter) (maxL := 1) (ret := (some .boolean)) (by decide) rfl ?_
  intro p e s m args below meth c s₁ B hml hv
  obtain ⟨rfl, hsz, hP, hK, hD0⟩ := hv
  have hx := B.exec
  have hb := B.bytes
  have hr := B.returns
  have hts := atoms_spec (ws := gws yX9_isLetter cX9_isLetter 1 (some .boolean)) B.pre
  have hg : ∀ w ∈ gw, w.before _ s = true := fun w h => hts w (List.mem_cons_of_mem _ h)
  have hown : s.vm.findClass RX9 = some m.cls := findClass_of_methodNamed B.named
  have hlocks := B.notSynchronized
  subst hsz
  have hD := hD0.self (sz := s.heap.size)
  generalize hAe : va_A (zC dA ad σ) s.heap.size = A at hD ⊢
  have hA : ∀ q : Nat, s.heap.size ≤ q → A q := fun q h => by rw [← hAe]; exact Or.inr h
  have hS : va_S A s.heap s.heap [] := va_S.rf
  have hl := lv_entry ([.int (Int32.ofInt a0)]) (n := 1) (Nat.le_of_ble_eq_true rfl)
  rw [lg_entry_eq]
  generalize (lg_sl ([.int (Int32.ofInt a0)]) ++ List.replicate (1 - (lg_sl ([.int (Int32.ofInt a0)])).length) Slot.unset).toArray = ls at hl ⊢
  have hl : lv_has ls 1 [(0, .int (Int32.ofInt a0))] := hl
  have hret : ∀ (v : Int) (σ : ZS) (H : Heap) (locs : List Loc) (ls : Array Slot) (pc : Nat), (0 ≤ v ∧ v ≤ 1) → Q v σ → va_P D vwC (zC dA ad σ) H → va_D A (zC dA ad σ) → va_S A s.heap H locs → decode cX9_isLetter pc = .ok (.ireturn, 1) → W p l e (gR 1 0 0) s m #[.int (Int32.ofInt a0)] below meth c H locs 0 0 (MQ below (va_Qi (zQi Q) (gAt D dA A (zC dA ad)) A) #[.int (Int32.ofInt a0)] s 0 0 A) (F0 m pc ls [.int (Int32.ofInt v)]) := fun v σ H locs ls pc hv hw hP hD hS hd => g_iret hx hb hr (z_nb hv) hlocks hK σ hP hD hS ⟨v, rfl, hw⟩ (Nat.le_of_ble_eq_true rfl) (Nat.le_of_ble_eq_true rfl) hd
  generalize MQ below (va_Qi (zQi Q) (gAt D dA A (zC dA ad)) A) #[.int (Int32.ofInt a0)] s 0 0 A = QQ at hret ⊢
  have j17 : ∀ (s0 : Int) (σ : ZS), ∀ (H : Heap) (locs : List Loc) (ls : Array Slot), va_P D vwC (zC dA ad σ) H → va_D A (zC dA ad σ) → va_S A s.heap H locs → lv_has ls 1 [] → wpX9_isLetter_17 s0 σ Q → W p l e (gR 1 0 0) s m #[.int (Int32.ofInt a0)] below meth c H locs 0 0 QQ (F0 m 17 ls [.int (Int32.ofInt s0)]) := by
    intro s0 σ H locs ls hP hD hS hl hw
    unfold wpX9_isLetter_17 at hw
    obtain ⟨o1, hw⟩ := hw
    exact hret s0 σ _ _ _ _ o1 hw hP hD hS dX9_isLetter_17
  have j16 : ∀ (σ : ZS), ∀ (H : Heap) (locs : List Loc) (ls : Array Slot), va_P D vwC (zC dA ad σ) H → va_D A (zC dA ad σ) → va_S A s.heap H locs → lv_has ls 1 [] → wpX9_isLetter_16 σ Q → W p l e (gR 1 0 0) s m #[.int (Int32.ofInt a0)] below meth c H locs 0 0 QQ (F0 m 16 ls []) := by
    intro σ H locs ls hP hD hS hl hw
    unfold wpX9_isLetter_16 at hw
    refine lv_iconst (v := Int32.ofInt 0) hx hb dX9_isLetter_16 (by decide) ?_
    exact j17 0 σ _ _ _ hP hD hS (lv_sub hl [] rfl) hw
  unfold wpX9_isLetter at hw
  refine lv_iload_n hx hb dX9_isLetter_0 rfl (lv_at hl 0 rfl) ?_
  refine lv_bipush (v := Int32.ofInt 97) hx hb dX9_isLetter_1 (by decide) ?_
  obtain ⟨o2, hw⟩ := hw
  refine z_icmp_lt (tgt := 16) hx hb o2 (by decide) dX9_isLetter_3 (by decide) (fun k3 => ?_) (fun k3 => ?_)
  · replace hw := hw.1 k3
    exact j16 σ _ _ _ hP hD hS (lv_sub hl [] rfl) hw
  · replace hw := hw.2 k3
    refine lv_iload_n hx hb dX9_isLetter_6 rfl (lv_at hl 0 rfl) ?_
    refine lv_bipush (v := Int32.ofInt 122) hx hb dX9_isLetter_7 (by decide) ?_
    refine z_icmp_gt (tgt := 16) hx hb o2 (by decide) dX9_isLetter_9 (by decide) (fun k4 => ?_) (fun k4 => ?_)
    · replace hw := hw.1 k4
      exact j16 σ _ _ _ hP hD hS (lv_sub hl [] rfl) hw
    · replace hw := hw.2 k4
      refine lv_iconst (v := Int32.ofInt 1) hx hb dX9_isLetter_12 (by decide) ?_
      refine lv_goto (tgt := 17) hx hb dX9_isLetter_13 (by decide) ?_
      exact j17 1 σ _ _ _ hP hD hS (lv_sub hl [] rfl) hw
def wpX9_isDigit_17 (s0 : Int) (σ : ZS) (Q : Int → ZS → Prop) : Prop := (0 ≤ s0 ∧ s0 ≤ 1) ∧ Q s0 σ
def wpX9_isDigit_16 (σ : ZS) (Q : Int → ZS → Prop) : Prop := wpX9_isDigit_17 0 σ Q
def wpX9_isDigit (a0 : Int) (σ : ZS) (Q : Int → ZS → Prop) : Prop := (-2147483648 ≤ a0 ∧ a0 ≤ 2147483647) ∧ (a0 < 48 → wpX9_isDigit_16 σ Q) ∧ (¬ a0 < 48 → (57 < a0 → wpX9_isDigit_16 σ Q) ∧ (¬ 57 < a0 → wpX9_isDigit_17 1 σ Q))
set_option maxHeartbeats 4000000 in
set_option maxRecDepth 100000 in
theorem kX9_isDigit (l : Launch) (D : va_G) (dA : Nat → ClassId) (ad : Int → Nat → Nat) (a0 : Int) (σ : ZS) (Q : Int → ZS → Prop) (sz : Nat) (hw : wpX9_isDigit a0 σ Q) : Met l yX9_isDigit (gws yX9_isDigit cX9_isDigit 1 (some .boolean)) (gR 1 0 0) (gPre D dA [.int (Int32.ofInt a0)] (zC dA ad σ) sz) (va_Qi (zQi Q) (gAt D dA (va_A (zC dA ad σ) sz) (zC dA ad)) (va_A (zC dA ad σ) sz)) 0 0 (va_A (zC dA ad σ) sz) := by
  refine Met.ofW (cc := cX9_isDigit) (maxL := 1) (ret := (some .boolean)) (by decide) rfl ?_
  intro p e s m args below meth c s₁ B hml hv
  obtain ⟨rfl, hsz, hP, hK, hD0⟩ := hv
  have hx := B.exec
  have hb := B.bytes
  have hr := B.returns
  have hts := atoms_spec (ws := gws yX9_isDigit cX9_isDigit 1 (some .boolean)) B.pre
  have hg : ∀ w ∈ gw, w.before _ s = true := fun w h => hts w (List.mem_cons_of_mem _ h)
  have hown : s.vm.findClass RX9 = some m.cls := findClass_of_methodNamed B.named
  have hlocks := B.notSynchronized
  subst hsz
  have hD := hD0.self (sz := s.heap.size)
  generalize hAe : va_A (zC dA ad σ) s.heap.size = A at hD ⊢
  have hA : ∀ q : Nat, s.heap.size ≤ q → A q := fun q h => by rw [← hAe]; exact Or.inr h
  have hS : va_S A s.heap s.heap [] := va_S.rf
  have hl := lv_entry ([.int (Int32.ofInt a0)]) (n := 1) (Nat.le_of_ble_eq_true rfl)
  rw [lg_entry_eq]
  generalize (lg_sl ([.int (Int32.ofInt a0)]) ++ List.replicate (1 - (lg_sl ([.int (Int32.ofInt a0)])).length) Slot.unset).toArray = ls at hl ⊢
  have hl : lv_has ls 1 [(0, .int (Int32.ofInt a0))] := hl
  have hret : ∀ (v : Int) (σ : ZS) (H : Heap) (locs : List Loc) (ls : Array Slot) (pc : Nat), (0 ≤ v ∧ v ≤ 1) → Q v σ → va_P D vwC (zC dA ad σ) H → va_D A (zC dA ad σ) → va_S A s.heap H locs → decode cX9_isDigit pc = .ok (.ireturn, 1) → W p l e (gR 1 0 0) s m #[.int (Int32.ofInt a0)] below meth c H locs 0 0 (MQ below (va_Qi (zQi Q) (gAt D dA A (zC dA ad)) A) #[.int (Int32.ofInt a0)] s 0 0 A) (F0 m pc ls [.int (Int32.ofInt v)]) := fun v σ H locs ls pc hv hw hP hD hS hd => g_iret hx hb hr (z_nb hv) hlocks hK σ hP hD hS ⟨v, rfl, hw⟩ (Nat.le_of_ble_eq_true rfl) (Nat.le_of_ble_eq_true rfl) hd
  generalize MQ below (va_Qi (zQi Q) (gAt D dA A (zC dA ad)) A) #[.int (Int32.ofInt a0)] s 0 0 A = QQ at hret ⊢
  have j17 : ∀ (s0 : Int) (σ : ZS), ∀ (H : Heap) (locs : List Loc) (ls : Array Slot), va_P D vwC (zC dA ad σ) H → va_D A (zC dA ad σ) → va_S A s.heap H locs → lv_has ls 1 [] → wpX9_isDigit_17 s0 σ Q → W p l e (gR 1 0 0) s m #[.int (Int32.ofInt a0)] below meth c H locs 0 0 QQ (F0 m 17 ls [.int (Int32.ofInt s0)]) := by
    intro s0 σ H locs ls hP hD hS hl hw
    unfold wpX9_isDigit_17 at hw
    obtain ⟨o1, hw⟩ := hw
    exact hret s0 σ _ _ _ _ o1 hw hP hD hS dX9_isDigit_17
  have j16 : ∀ (σ : ZS), ∀ (H : Heap) (locs : List Loc) (ls : Array Slot), va_P D vwC (zC dA ad σ) H → va_D A (zC dA ad σ) → va_S A s.heap H locs → lv_has ls 1 [] → wpX9_isDigit_16 σ Q → W p l e (gR 1 0 0) s m #[.int (Int32.ofInt a0)] below meth c H locs 0 0 QQ (F0 m 16 ls []) := by
    intro σ H locs ls hP hD hS hl hw
    unfold wpX9_isDigit_16 at hw
    refine lv_iconst (v := Int32.ofInt 0) hx hb dX9_isDigit_16 (by decide) ?_
    exact j17 0 σ _ _ _ hP hD hS (lv_sub hl [] rfl) hw
  unfold wpX9_isDigit at hw
  refine lv_iload_n hx hb dX9_isDigit_0 rfl (lv_at hl 0 rfl) ?_
  refine lv_bipush (v := Int32.ofInt 48) hx hb dX9_isDigit_1 (by decide) ?_
  obtain ⟨o2, hw⟩ := hw
  refine z_icmp_lt (tgt := 16) hx hb o2 (by decide) dX9_isDigit_3 (by decide) (fun k3 => ?_) (fun k3 => ?_)
  · replace hw := hw.1 k3
    exact j16 σ _ _ _ hP hD hS (lv_sub hl [] rfl) hw
  · replace hw := hw.2 k3
    refine lv_iload_n hx hb dX9_isDigit_6 rfl (lv_at hl 0 rfl) ?_
    refine lv_bipush (v := Int32.ofInt 57) hx hb dX9_isDigit_7 (by decide) ?_
    refine z_icmp_gt (tgt := 16) hx hb o2 (by decide) dX9_isDigit_9 (by decide) (fun k4 => ?_) (fun k4 => ?_)
    · replace hw := hw.1 k4
      exact j16 σ _ _ _ hP hD hS (lv_sub hl [] rfl) hw
    · replace hw := hw.2 k4
      refine lv_iconst (v := Int32.ofInt 1) hx hb dX9_isDigit_12 (by decide) ?_
      refine lv_goto (tgt := 17) hx hb dX9_isDigit_13 (by decide) ?_
      exact j17 1 σ _ _ _ hP hD hS (lv_sub hl [] rfl) hw
def wpX9_put_52 (σ : ZS) (Q : ZS → Prop) : Prop := Q σ
def wpX9_put (a1 a2 a3 : Int) (σ : ZS) (Q : ZS → Prop) : Prop := (-2147483648 ≤ (zI σ 12 3) ∧ (zI σ 12 3) ≤ 2147483647) ∧ (481 ≤ (zI σ 12 3) → wpX9_put_52 σ Q) ∧ (¬ 481 ≤ (zI σ 12 3) → (0 ≤ (zI σ 12 3) ∧ (zI σ 12 3) < 481) ∧ wpX9_put_52 (zsI (zsA (zsA (zsA σ 12 0 (zI σ 12 3) a1) 12 1 (zI σ 12 3) a2) 12 2 (zI σ 12 3) a3) 12 3 ((zI σ 12 3) + 1)) Q)
set_option maxHeartbeats 4000000 in
set_option maxRecDepth 100000 in
theorem kX9_put (l : Launch) (D : va_G) (dA : Nat → ClassId) (ad : Int → Nat → Nat) (a1 a2 a3 : Int) (σ : ZS) (Q : ZS → Prop) (sz : Nat) (hw : wpX9_put a1 a2 a3 σ Q) : Met l yX9_put (gws yX9_put cX9_put 4 none) (gR 1 0 0) (gPre D dA [.ref (ad 12 1000), .int (Int32.ofInt a1), .int (Int32.ofInt a2), .int (Int32.ofInt a3)] (zC dA ad σ) sz) (va_Qv Q (gAt D dA (va_A (zC dA ad σ) sz) (zC dA ad)) (va_A (zC dA ad σ) sz)) 0 0 (va_A (zC dA ad σ) sz) := by
  refine Met.ofW (cc := cX9_put) (maxL := 4) (ret := none) (by decide) rfl ?_
  intro p e s m args below meth c s₁ B hml hv
  obtain ⟨rfl, hsz, hP, hK, hD0⟩ := hv
  have hx := B.exec
  have hb := B.bytes
  have hr := B.returns
  have hts := atoms_spec (ws := gws yX9_put cX9_put 4 none) B.pre
  have hg : ∀ w ∈ gw, w.before _ s = true := fun w h => hts w (List.mem_cons_of_mem _ h)
  have hown : s.vm.findClass RX9 = some m.cls := findClass_of_methodNamed B.named
  have hlocks := B.notSynchronized
  subst hsz
  have hD := hD0.self (sz := s.heap.size)
  generalize hAe : va_A (zC dA ad σ) s.heap.size = A at hD ⊢
  have hA : ∀ q : Nat, s.heap.size ≤ q → A q := fun q h => by rw [← hAe]; exact Or.inr h
  have hS : va_S A s.heap s.heap [] := va_S.rf
  have hl := lv_entry ([.ref (ad 12 1000), .int (Int32.ofInt a1), .int (Int32.ofInt a2), .int (Int32.ofInt a3)]) (n := 4) (Nat.le_of_ble_eq_true rfl)
  rw [lg_entry_eq]
  generalize (lg_sl ([.ref (ad 12 1000), .int (Int32.ofInt a1), .int (Int32.ofInt a2), .int (Int32.ofInt a3)]) ++ List.replicate (4 - (lg_sl ([.ref (ad 12 1000), .int (Int32.ofInt a1), .int (Int32.ofInt a2), .int (Int32.ofInt a3)])).length) Slot.unset).toArray = ls at hl ⊢
  have hl : lv_has ls 4 [(0, .ref (ad 12 1000)), (1, .int (Int32.ofInt a1)), (2, .int (Int32.ofInt a2)), (3, .int (Int32.ofInt a3))] := hl
  have hret : ∀ (σ : ZS) (H : Heap) (locs : List Loc) (ls : Array Slot) (pc : Nat), Q σ → va_P D vwC (zC dA ad σ) H → va_D A (zC dA ad σ) → va_S A s.heap H locs → decode cX9_put pc = .ok (.return_, 1) → W p l e (gR 1 0 0) s m #[.ref (ad 12 1000), .int (Int32.ofInt a1), .int (Int32.ofInt a2), .int (Int32.ofInt a3)] below meth c H locs 0 0 (MQ below (va_Qv Q (gAt D dA A (zC dA ad)) A) #[.ref (ad 12 1000), .int (Int32.ofInt a1), .int (Int32.ofInt a2), .int (Int32.ofInt a3)] s 0 0 A) (F0 m pc ls []) := fun σ H locs ls pc hw hP hD hS hd => g_vret hx hb hr hlocks hK σ hP hD hS hw (Nat.le_of_ble_eq_true rfl) (Nat.le_of_ble_eq_true rfl) hd
  generalize MQ below (va_Qv Q (gAt D dA A (zC dA ad)) A) #[.ref (ad 12 1000), .int (Int32.ofInt a1), .int (Int32.ofInt a2), .int (Int32.ofInt a3)] s 0 0 A = QQ at hret ⊢
  have j52 : ∀ (σ : ZS), ∀ (H : Heap) (locs : List Loc) (ls : Array Slot), va_P D vwC (zC dA ad σ) H → va_D A (zC dA ad σ) → va_S A s.heap H locs → lv_has ls 4 [] → wpX9_put_52 σ Q → W p l e (gR 1 0 0) s m #[.ref (ad 12 1000), .int (Int32.ofInt a1), .int (Int32.ofInt a2), .int (Int32.ofInt a3)] below meth c H locs 0 0 QQ (F0 m 52 ls []) := by
    intro σ H locs ls hP hD hS hl hw
    unfold wpX9_put_52 at hw
    exact hret σ _ _ _ _ hw hP hD hS dX9_put_52
  unfold wpX9_put at hw
  refine lv_aload_n hx hb dX9_put_0 rfl (lv_at hl 0 rfl) ?_
  refine zgC12_3 hx hb hg hown hK hP q237 dX9_put_1 ?_
  refine lv_aload_n hx hb dX9_put_4 rfl (lv_at hl 0 rfl) ?_
  refine zgC12_0 hx hb hg hown hK hP q231 dX9_put_5 ?_
  refine va_alen (v := Int32.ofInt 481) hx hb hK hP 20 0 rfl rfl rfl dX9_put_8 ?_
  obtain ⟨o1, hw⟩ := hw
  refine z_icmp_ge (tgt := 52) hx hb o1 (by decide) dX9_put_9 (by decide) (fun k2 => ?_) (fun k2 => ?_)
  · replace hw := hw.1 k2
    exact j52 σ _ _ _ hP hD hS (lv_sub hl [] rfl) hw
  · replace hw := hw.2 k2
    refine lv_aload_n hx hb dX9_put_12 rfl (lv_at hl 0 rfl) ?_
    refine zgC12_0 hx hb hg hown hK hP q231 dX9_put_13 ?_
    refine lv_aload_n hx hb dX9_put_16 rfl (lv_at hl 0 rfl) ?_
    refine zgC12_3 hx hb hg hown hK hP q237 dX9_put_17 ?_
    refine lv_iload_n hx hb dX9_put_20 rfl (lv_at hl 1 rfl) ?_
    obtain ⟨o3, hw⟩ := hw
    refine zsC12_0 (v := a1) hx hb o3 hK hP hD hS dX9_put_21 (fun H locs hP hD hS => ?_)
    refine lv_aload_n hx hb dX9_put_22 rfl (lv_at hl 0 rfl) ?_
    refine zgC12_1 hx hb hg hown hK hP q233 dX9_put_23 ?_
    refine lv_aload_n hx hb dX9_put_26 rfl (lv_at hl 0 rfl) ?_
    refine zgC12_3 hx hb hg hown hK hP q237 dX9_put_27 ?_
    refine g_nrm (y := Int32.ofInt (zI σ 12 3)) rfl ?_
    refine lv_iload_n hx hb dX9_put_30 rfl (lv_at hl 2 rfl) ?_
    refine zsC12_1 (v := a2) hx hb o3 hK hP hD hS dX9_put_31 (fun H locs hP hD hS => ?_)
    refine lv_aload_n hx hb dX9_put_32 rfl (lv_at hl 0 rfl) ?_
    refine zgC12_2 hx hb hg hown hK hP q235 dX9_put_33 ?_
    refine lv_aload_n hx hb dX9_put_36 rfl (lv_at hl 0 rfl) ?_
    refine zgC12_3 hx hb hg hown hK hP q237 dX9_put_37 ?_
    refine g_nrm (y := Int32.ofInt (zI σ 12 3)) rfl ?_
    refine lv_iload_n hx hb dX9_put_40 rfl (lv_at hl 3 rfl) ?_
    refine zsC12_2 (v := a3) hx hb o3 hK hP hD hS dX9_put_41 (fun H locs hP hD hS => ?_)
    refine lv_aload_n hx hb dX9_put_42 rfl (lv_at hl 0 rfl) ?_
    refine lv_dup hx hb dX9_put_43 rfl ?_
    refine zgC12_3 hx hb hg hown hK hP q237 dX9_put_44 ?_
    refine g_nrm (y := Int32.ofInt (zI σ 12 3)) rfl ?_
    refine lv_iconst (v := Int32.ofInt 1) hx hb dX9_put_47 (by decide) ?_
    refine z_iadd hx hb dX9_put_48 ?_
    refine zpC12_3 (v := ((zI σ 12 3) + 1)) hx hb hg hown hK hP hD hS q237 dX9_put_49 (fun H locs hP hD hS => ?_)
    exact j52 (zsI (zsA (zsA (zsA σ 12 0 (zI σ 12 3) a1) 12 1 (zI σ 12 3) a2) 12 2 (zI σ 12 3) a3) 12 3 ((zI σ 12 3) + 1)) _ _ _ hP hD hS (lv_sub hl [] rfl) hw
def wpX5_numberOf_121 (σ : ZS) (Q : Int → ZS → Prop) : Prop := Q ((zI σ 11 5) - 1) σ
def wpbX5_numberOf_3 (K3 : Int → ZS → Prop) (v1 v3 v4 : Int) (σ : ZS) (Q : Int → ZS → Prop) : Prop := (-2147483648 ≤ v4 ∧ v4 ≤ 2147483647) ∧ (-2147483648 ≤ (zI σ 11 5) ∧ (zI σ 11 5) ≤ 2147483647) ∧ ((zI σ 11 5) ≤ v4 → ((zI σ 11 5) < 240 → (0 ≤ (zI σ 11 5) ∧ (zI σ 11 5) < 240) ∧ (-2147483648 ≤ ((zI σ 11 5) + 1) ∧ ((zI σ 11 5) + 1) ≤ 2147483647) ∧ (¬ ((zI σ 11 5) + 1) = 25 → wpX5_numberOf_121 (zsI (zsA (zsA (zsA (zsA (zsA σ 11 0 (zI σ 11 5) v1) 11 1 (zI σ 11 5) 0) 11 2 (zI σ 11 5) (-1)) 11 3 (zI σ 11 5) 0) 11 4 (zI σ 11 5) 0) 11 5 ((zI σ 11 5) + 1)) Q) ∧ (((zI σ 11 5) + 1) = 25 → wpX5_numberOf_121 (zsI (zsI (zsA (zsA (zsA (zsA (zsA σ 11 0 (zI σ 11 5) v1) 11 1 (zI σ 11 5) 0) 11 2 (zI σ 11 5) (-1)) 11 3 (zI σ 11 5) 0) 11 4 (zI σ 11 5) 0) 11 5 ((zI σ 11 5) + 1)) 11 6 v3) Q)) ∧ (¬ (zI σ 11 5) < 240 → Q 239 σ)) ∧ (¬ (zI σ 11 5) ≤ v4 → (0 ≤ v4 ∧ v4 < 240) ∧ (-9223372036854775808 ≤ (zA σ 11 0 v4) ∧ (zA σ 11 0 v4) ≤ 9223372036854775807) ∧ (-9223372036854775808 ≤ v1 ∧ v1 ≤ 9223372036854775807) ∧ (¬ (zA σ 11 0 v4) = v1 → K3 (v4 + 1) σ) ∧ ((zA σ 11 0 v4) = v1 → Q v4 σ))
def wpX5_numberOf_3 (v1 v3 v4 : Int) (σ : ZS) (Q : Int → ZS → Prop) : Prop := lfp1 (fun K3 v4 σ => wpbX5_numberOf_3 K3 v1 v3 v4 σ Q) v4 σ
def wpX5_numberOf (a1 a2 : Int) (σ : ZS) (Q : Int → ZS → Prop) : Prop := wpX5_numberOf_3 a1 a2 0 σ Q
set_option maxHeartbeats 4000000 in
set_option maxRecDepth 100000 in
theorem kX5_numberOf (l : Launch) (D : va_G) (dA : Nat → ClassId) (ad : Int → Nat → Nat) (a1 a2 : Int) (σ : ZS) (Q : Int → ZS → Prop) (sz : Nat) (hw : wpX5_numberOf a1 a2 σ Q) : Met l yX5_numberOf (gws yX5_numberOf cX5_numberOf 5 (some .int)) (gR 1 0 0) (gPre D dA [.ref (ad 11 1000), .long (Int64.ofInt a1), .int (Int32.ofInt a2)] (zC dA ad σ) sz) (va_Qi (zQi Q) (gAt D dA (va_A (zC dA ad σ) sz) (zC dA ad)) (va_A (zC dA ad σ) sz)) 0 0 (va_A (zC dA ad σ) sz) := by
  refine Met.ofW (cc := cX5_numberOf) (maxL := 5) (ret := (some .int)) (by decide) rfl ?_
  intro p e s m args below meth c s₁ B hml hv
  obtain ⟨rfl, hsz, hP, hK, hD0⟩ := hv
  have hx := B.exec
  have hb := B.bytes
  have hr := B.returns
  have hts := atoms_spec (ws := gws yX5_numberOf cX5_numberOf 5 (some .int)) B.pre
  have hg : ∀ w ∈ gw, w.before _ s = true := fun w h => hts w (List.mem_cons_of_mem _ h)
  have hown : s.vm.findClass RX5 = some m.cls := findClass_of_methodNamed B.named
  have hlocks := B.notSynchronized
  subst hsz
  have hD := hD0.self (sz := s.heap.size)
  generalize hAe : va_A (zC dA ad σ) s.heap.size = A at hD ⊢
  have hA : ∀ q : Nat, s.heap.size ≤ q → A q := fun q h => by rw [← hAe]; exact Or.inr h
  have hS : va_S A s.heap s.heap [] := va_S.rf
  have hl := lv_entry ([.ref (ad 11 1000), .long (Int64.ofInt a1), .int (Int32.ofInt a2)]) (n := 5) (Nat.le_of_ble_eq_true rfl)
  rw [lg_entry_eq]
  generalize (lg_sl ([.ref (ad 11 1000), .long (Int64.ofInt a1), .int (Int32.ofInt a2)]) ++ List.replicate (5 - (lg_sl ([.ref (ad 11 1000), .long (Int64.ofInt a1), .int (Int32.ofInt a2)])).length) Slot.unset).toArray = ls at hl ⊢
  have hl : lv_has ls 5 [(0, .ref (ad 11 1000)), (1, .long (Int64.ofInt a1)), (3, .int (Int32.ofInt a2))] := hl
  have hret : ∀ (v : Int) (σ : ZS) (H : Heap) (locs : List Loc) (ls : Array Slot) (pc : Nat), Q v σ → va_P D vwC (zC dA ad σ) H → va_D A (zC dA ad σ) → va_S A s.heap H locs → decode cX5_numberOf pc = .ok (.ireturn, 1) → W p l e (gR 1 0 0) s m #[.ref (ad 11 1000), .long (Int64.ofInt a1), .int (Int32.ofInt a2)] below meth c H locs 0 0 (MQ below (va_Qi (zQi Q) (gAt D dA A (zC dA ad)) A) #[.ref (ad 11 1000), .long (Int64.ofInt a1), .int (Int32.ofInt a2)] s 0 0 A) (F0 m pc ls [.int (Int32.ofInt v)]) := fun v σ H locs ls pc hw hP hD hS hd => g_iret hx hb hr rfl hlocks hK σ hP hD hS ⟨v, rfl, hw⟩ (Nat.le_of_ble_eq_true rfl) (Nat.le_of_ble_eq_true rfl) hd
  generalize MQ below (va_Qi (zQi Q) (gAt D dA A (zC dA ad)) A) #[.ref (ad 11 1000), .long (Int64.ofInt a1), .int (Int32.ofInt a2)] s 0 0 A = QQ at hret ⊢
  have j121 : ∀ (σ : ZS), ∀ (H : Heap) (locs : List Loc) (ls : Array Slot), va_P D vwC (zC dA ad σ) H → va_D A (zC dA ad σ) → va_S A s.heap H locs → lv_has ls 5 [(0, .ref (ad 11 1000))] → wpX5_numberOf_121 σ Q → W p l e (gR 1 0 0) s m #[.ref (ad 11 1000), .long (Int64.ofInt a1), .int (Int32.ofInt a2)] below meth c H locs 0 0 QQ (F0 m 121 ls []) := by
    intro σ H locs ls hP hD hS hl hw
    unfold wpX5_numberOf_121 at hw
    refine lv_aload_n hx hb dX5_numberOf_121 rfl (lv_at hl 0 rfl) ?_
    refine zgC11_5 hx hb hg hown hK hP q204 dX5_numberOf_122 ?_
    refine lv_iconst (v := Int32.ofInt 1) hx hb dX5_numberOf_125 (by decide) ?_
    refine z_isub hx hb dX5_numberOf_126 ?_
    exact hret ((zI σ 11 5) - 1) σ _ _ _ _ hw hP hD hS dX5_numberOf_127
  have b3 : ∀ (v1 v3 : Int) (K3 : Int → ZS → Prop), (∀ (v4 : Int) (σ : ZS), K3 v4 σ → ∀ (H : Heap) (locs : List Loc) (ls : Array Slot), va_P D vwC (zC dA ad σ) H → va_D A (zC dA ad σ) → va_S A s.heap H locs → lv_has ls 5 [(0, .ref (ad 11 1000)), (1, .long (Int64.ofInt v1)), (3, .int (Int32.ofInt v3)), (4, .int (Int32.ofInt v4))] → W p l e (gR 1 0 0) s m #[.ref (ad 11 1000), .long (Int64.ofInt a1), .int (Int32.ofInt a2)] below meth c H locs 0 0 QQ (F0 m 3 ls [])) → ∀ (v4 : Int) (σ : ZS), wpbX5_numberOf_3 K3 v1 v3 v4 σ Q → ∀ (H : Heap) (locs : List Loc) (ls : Array Slot), va_P D vwC (zC dA ad σ) H → va_D A (zC dA ad σ) → va_S A s.heap H locs → lv_has ls 5 [(0, .ref (ad 11 1000)), (1, .long (Int64.ofInt v1)), (3, .int (Int32.ofInt v3)), (4, .int (Int32.ofInt v4))] → W p l e (gR 1 0 0) s m #[.ref (ad 11 1000), .long (Int64.ofInt a1), .int (Int32.ofInt a2)] below meth c H locs 0 0 QQ (F0 m 3 ls []) := by
    intro v1 v3 K3 hK3
    intro v4 σ hw H locs ls hP hD hS hl
    unfold wpbX5_numberOf_3 at hw
    refine lv_iload hx hb dX5_numberOf_3 (lv_at hl 3 rfl) ?_
    refine lv_aload_n hx hb dX5_numberOf_5 rfl (lv_at hl 0 rfl) ?_
    refine zgC11_5 hx hb hg hown hK hP q204 dX5_numberOf_6 ?_
    obtain ⟨o1, hw⟩ := hw
    obtain ⟨o2, hw⟩ := hw
    refine z_icmp_ge (tgt := 33) hx hb o1 o2 dX5_numberOf_9 (by decide) (fun k3 => ?_) (fun k3 => ?_)
    · replace hw := hw.1 k3
      refine lv_aload_n hx hb dX5_numberOf_33 rfl (lv_at hl 0 rfl) ?_
      refine zgC11_5 hx hb hg hown hK hP q204 dX5_numberOf_34 ?_
      refine lv_sipush (v := Int32.ofInt 240) hx hb dX5_numberOf_37 (by decide) ?_
      refine z_icmp_lt (tgt := 47) hx hb o2 (by decide) dX5_numberOf_40 (by decide) (fun k4 => ?_) (fun k4 => ?_)
      · replace hw := hw.1 k4
        refine lv_aload_n hx hb dX5_numberOf_47 rfl (lv_at hl 0 rfl) ?_
        refine zgC11_0 hx hb hg hown hK hP q194 dX5_numberOf_48 ?_
        refine lv_aload_n hx hb dX5_numberOf_51 rfl (lv_at hl 0 rfl) ?_
        refine zgC11_5 hx hb hg hown hK hP q204 dX5_numberOf_52 ?_
        refine lv_lload_n hx hb dX5_numberOf_55 rfl (lv_at hl 1 rfl) ?_
        obtain ⟨o5, hw⟩ := hw
        refine zsC11_0 (v := v1) hx hb o5 hK hP hD hS dX5_numberOf_56 (fun H locs hP hD hS => ?_)
        refine lv_aload_n hx hb dX5_numberOf_57 rfl (lv_at hl 0 rfl) ?_
        refine zgC11_1 hx hb hg hown hK hP q196 dX5_numberOf_58 ?_
        refine lv_aload_n hx hb dX5_numberOf_61 rfl (lv_at hl 0 rfl) ?_
        refine zgC11_5 hx hb hg hown hK hP q204 dX5_numberOf_62 ?_
        refine g_nrm (y := Int32.ofInt (zI σ 11 5)) rfl ?_
        refine lv_iconst (v := Int32.ofInt 0) hx hb dX5_numberOf_65 (by decide) ?_
        refine zsC11_1 (v := 0) hx hb o5 hK hP hD hS dX5_numberOf_66 (fun H locs hP hD hS => ?_)
        refine lv_aload_n hx hb dX5_numberOf_67 rfl (lv_at hl 0 rfl) ?_
        refine zgC11_2 hx hb hg hown hK hP q198 dX5_numberOf_68 ?_
        refine lv_aload_n hx hb dX5_numberOf_71 rfl (lv_at hl 0 rfl) ?_
        refine zgC11_5 hx hb hg hown hK hP q204 dX5_numberOf_72 ?_
        refine g_nrm (y := Int32.ofInt (zI σ 11 5)) rfl ?_
        refine lv_iconst (v := Int32.ofInt (-1)) hx hb dX5_numberOf_75 (by decide) ?_
        refine zsC11_2 (v := (-1)) hx hb o5 hK hP hD hS dX5_numberOf_76 (fun H locs hP hD hS => ?_)
        refine lv_aload_n hx hb dX5_numberOf_77 rfl (lv_at hl 0 rfl) ?_
        refine zgC11_3 hx hb hg hown hK hP q200 dX5_numberOf_78 ?_
        refine lv_aload_n hx hb dX5_numberOf_81 rfl (lv_at hl 0 rfl) ?_
        refine zgC11_5 hx hb hg hown hK hP q204 dX5_numberOf_82 ?_
        refine g_nrm (y := Int32.ofInt (zI σ 11 5)) rfl ?_
        refine lv_iconst (v := Int32.ofInt 0) hx hb dX5_numberOf_85 (by decide) ?_
        refine zsC11_3 (v := 0) hx hb o5 hK hP hD hS dX5_numberOf_86 (fun H locs hP hD hS => ?_)
        refine lv_aload_n hx hb dX5_numberOf_87 rfl (lv_at hl 0 rfl) ?_
        refine zgC11_4 hx hb hg hown hK hP q202 dX5_numberOf_88 ?_
        refine lv_aload_n hx hb dX5_numberOf_91 rfl (lv_at hl 0 rfl) ?_
        refine zgC11_5 hx hb hg hown hK hP q204 dX5_numberOf_92 ?_
        refine g_nrm (y := Int32.ofInt (zI σ 11 5)) rfl ?_
        refine lv_iconst (v := Int32.ofInt 0) hx hb dX5_numberOf_95 (by decide) ?_
        refine zsC11_4 (v := 0) hx hb o5 hK hP hD hS dX5_numberOf_96 (fun H locs hP hD hS => ?_)
        refine lv_aload_n hx hb dX5_numberOf_97 rfl (lv_at hl 0 rfl) ?_
        refine lv_dup hx hb dX5_numberOf_98 rfl ?_
        refine zgC11_5 hx hb hg hown hK hP q204 dX5_numberOf_99 ?_
        refine g_nrm (y := Int32.ofInt (zI σ 11 5)) rfl ?_
        refine lv_iconst (v := Int32.ofInt 1) hx hb dX5_numberOf_102 (by decide) ?_
        refine z_iadd hx hb dX5_numberOf_103 ?_
        refine zpC11_5 (v := ((zI σ 11 5) + 1)) hx hb hg hown hK hP hD hS q204 dX5_numberOf_104 (fun H locs hP hD hS => ?_)
        refine lv_aload_n hx hb dX5_numberOf_107 rfl (lv_at hl 0 rfl) ?_
        refine zgC11_5 hx hb hg hown hK hP q204 dX5_numberOf_108 ?_
        refine g_nrm (y := Int32.ofInt ((zI σ 11 5) + 1)) rfl ?_
        refine lv_bipush (v := Int32.ofInt 25) hx hb dX5_numberOf_111 (by decide) ?_
        obtain ⟨o6, hw⟩ := hw
        refine z_icmp_ne (tgt := 121) hx hb o6 (by decide) dX5_numberOf_113 (by decide) (fun k7 => ?_) (fun k7 => ?_)
        · replace hw := hw.1 k7
          exact j121 (zsI (zsA (zsA (zsA (zsA (zsA σ 11 0 (zI σ 11 5) v1) 11 1 (zI σ 11 5) 0) 11 2 (zI σ 11 5) (-1)) 11 3 (zI σ 11 5) 0) 11 4 (zI σ 11 5) 0) 11 5 ((zI σ 11 5) + 1)) _ _ _ hP hD hS (lv_sub hl [0] rfl) hw
        · replace hw := hw.2 k7
          refine lv_aload_n hx hb dX5_numberOf_116 rfl (lv_at hl 0 rfl) ?_
          refine lv_iload_n hx hb dX5_numberOf_117 rfl (lv_at hl 2 rfl) ?_
          refine zpC11_6 (v := v3) hx hb hg hown hK hP hD hS q205 dX5_numberOf_118 (fun H locs hP hD hS => ?_)
          exact j121 (zsI (zsI (zsA (zsA (zsA (zsA (zsA σ 11 0 (zI σ 11 5) v1) 11 1 (zI σ 11 5) 0) 11 2 (zI σ 11 5) (-1)) 11 3 (zI σ 11 5) 0) 11 4 (zI σ 11 5) 0) 11 5 ((zI σ 11 5) + 1)) 11 6 v3) _ _ _ hP hD hS (lv_sub hl [0] rfl) hw
      · replace hw := hw.2 k4
        refine lv_sipush (v := Int32.ofInt 239) hx hb dX5_numberOf_43 (by decide) ?_
        exact hret 239 σ _ _ _ _ hw hP hD hS dX5_numberOf_46
    · replace hw := hw.2 k3
      refine lv_aload_n hx hb dX5_numberOf_12 rfl (lv_at hl 0 rfl) ?_
      refine zgC11_0 hx hb hg hown hK hP q194 dX5_numberOf_13 ?_
      refine lv_iload hx hb dX5_numberOf_16 (lv_at hl 3 rfl) ?_
      obtain ⟨o8, hw⟩ := hw
      refine zlC11_0 hx hb o8 hK hP dX5_numberOf_18 ?_
      refine lv_lload_n hx hb dX5_numberOf_19 rfl (lv_at hl 1 rfl) ?_
      obtain ⟨o9, hw⟩ := hw
      obtain ⟨o10, hw⟩ := hw
      refine z_lc_ne (tgt := 27) hx hb o9 o10 dX5_numberOf_20 dX5_numberOf_21 (by decide) (fun k11 => ?_) (fun k11 => ?_)
      · replace hw := hw.1 k11
        refine lv_iinc (v := Int32.ofInt (v4 + 1)) (lv' := [(4, .int (Int32.ofInt (v4 + 1))), (0, .ref (ad 11 1000)), (1, .long (Int64.ofInt v1)), (3, .int (Int32.ofInt v3))]) hx hb dX5_numberOf_27 hl (k := 3) rfl (Int32.ofInt_add _ _).symm (by decide) rfl (fun ls hl => ?_)
        refine lv_goto (tgt := 3) hx hb dX5_numberOf_30 (by decide) ?_
        exact hK3 (v4 + 1) σ hw _ _ _ hP hD hS (lv_sub hl [1, 2, 3, 0] rfl)
      · replace hw := hw.2 k11
        refine lv_iload hx hb dX5_numberOf_24 (lv_at hl 3 rfl) ?_
        exact hret v4 σ _ _ _ _ hw hP hD hS dX5_numberOf_26
  have j3 : ∀ (v1 v3 v4 : Int) (σ : ZS), ∀ (H : Heap) (locs : List Loc) (ls : Array Slot), va_P D vwC (zC dA ad σ) H → va_D A (zC dA ad σ) → va_S A s.heap H locs → lv_has ls 5 [(0, .ref (ad 11 1000)), (1, .long (Int64.ofInt v1)), (3, .int (Int32.ofInt v3)), (4, .int (Int32.ofInt v4))] → wpX5_numberOf_3 v1 v3 v4 σ Q → W p l e (gR 1 0 0) s m #[.ref (ad 11 1000), .long (Int64.ofInt a1), .int (Int32.ofInt a2)] below meth c H locs 0 0 QQ (F0 m 3 ls []) := by
    intro v1 v3 v4 σ H locs ls hP hD hS hl hw
    exact hw (fun v4 σ => ∀ (H : Heap) (locs : List Loc) (ls : Array Slot), va_P D vwC (zC dA ad σ) H → va_D A (zC dA ad σ) → va_S A s.heap H locs → lv_has ls 5 [(0, .ref (ad 11 1000)), (1, .long (Int64.ofInt v1)), (3, .int (Int32.ofInt v3)), (4, .int (Int32.ofInt v4))] → W p l e (gR 1 0 0) s m #[.ref (ad 11 1000), .long (Int64.ofInt a1), .int (Int32.ofInt a2)] below meth c H locs 0 0 QQ (F0 m 3 ls [])) (b3 v1 v3 (fun v4 σ => ∀ (H : Heap) (locs : List Loc) (ls : Array Slot), va_P D vwC (zC dA ad σ) H → va_D A (zC dA ad σ) → va_S A s.heap H locs → lv_has ls 5 [(0, .ref (ad 11 1000)), (1, .long (Int64.ofInt v1)), (3, .int (Int32.ofInt v3)), (4, .int (Int32.ofInt v4))] → W p l e (gR 1 0 0) s m #[.ref (ad 11 1000), .long (Int64.ofInt a1), .int (Int32.ofInt a2)] below meth c H locs 0 0 QQ (F0 m 3 ls [])) (fun v4 σ h => h)) _ _ _ hP hD hS hl
  unfold wpX5_numberOf at hw
  refine lv_iconst (v := Int32.ofInt 0) hx hb dX5_numberOf_0 (by decide) ?_
  refine lv_istore (lv' := [(4, .int (Int32.ofInt 0)), (0, .ref (ad 11 1000)), (1, .long (Int64.ofInt a1)), (3, .int (Int32.ofInt a2))]) hx hb dX5_numberOf_1 hl (by decide) rfl (fun ls hl => ?_)
  exact j3 a1 a2 0 σ _ _ _ hP hD hS (lv_sub hl [1, 2, 3, 0] rfl) hw
def wpX9_readNumber_61 (v2 v4 v5 s1 : Int) (σ : ZS) (Q : Int → ZS → Prop) : Prop := wpX9_put s1 v4 v2 σ (fun (σ2 : ZS) => Q v5 σ2)
def wpX9_readNumber_48 (v2 v4 v5 : Int) (σ : ZS) (Q : Int → ZS → Prop) : Prop := (-2147483648 ≤ v4 ∧ v4 ≤ 2147483647) ∧ (v4 ≤ 65535 → wpX9_readNumber_61 v2 v4 v5 2 σ Q) ∧ (¬ v4 ≤ 65535 → wpX9_readNumber_61 v2 v4 v5 1 σ Q)
def wpbX9_readNumber_6 (K6 : Int → Int → ZS → Prop) (v2 v3 v4 v5 : Int) (σ : ZS) (Q : Int → ZS → Prop) : Prop := (-2147483648 ≤ v5 ∧ v5 ≤ 2147483647) ∧ (-2147483648 ≤ v3 ∧ v3 ≤ 2147483647) ∧ (v3 ≤ v5 → wpX9_readNumber_48 v2 v4 v5 σ Q) ∧ (¬ v3 ≤ v5 → (0 ≤ v5 ∧ v5 < 480) ∧ wpX9_isDigit (zA σ 10 0 v5) σ (fun (x9 : Int) (σ10 : ZS) => (-2147483648 ≤ x9 ∧ x9 ≤ 2147483647) ∧ (x9 = 0 → wpX9_readNumber_48 v2 v4 v5 σ10 Q) ∧ (¬ x9 = 0 → (-2147483648 ≤ ((v4 * 10) + ((zA σ10 10 0 v5) - 48)) ∧ ((v4 * 10) + ((zA σ10 10 0 v5) - 48)) ≤ 2147483647) ∧ K6 (min ((v4 * 10) + ((zA σ10 10 0 v5) - 48)) 65536) (v5 + 1) σ10)))
def wpX9_readNumber_6 (v2 v3 v4 v5 : Int) (σ : ZS) (Q : Int → ZS → Prop) : Prop := lfp2 (fun K6 v4 v5 σ => wpbX9_readNumber_6 K6 v2 v3 v4 v5 σ Q) v4 v5 σ
def wpX9_readNumber (a2 a3 : Int) (σ : ZS) (Q : Int → ZS → Prop) : Prop := wpX9_readNumber_6 a2 a3 0 a2 σ Q
set_option maxHeartbeats 4000000 in
set_option maxRecDepth 100000 in
theorem kX9_readNumber (l : Launch) (D : va_G) (dA : Nat → ClassId) (ad : Int → Nat → Nat) (a2 a3 : Int) (σ : ZS) (Q : Int → ZS → Prop) (sz : Nat) (hw : wpX9_readNumber a2 a3 σ Q) : Met l yX9_readNumber (gws yX9_readNumber cX9_readNumber 6 (some .int)) (gR 2 0 0) (gPre D dA [.ref (ad 12 1000), .ref (ad 10 0), .int (Int32.ofInt a2), .int (Int32.ofInt a3)] (zC dA ad σ) sz) (va_Qi (zQi Q) (gAt D dA (va_A (zC dA ad σ) sz) (zC dA ad)) (va_A (zC dA ad σ) sz)) 0 0 (va_A (zC dA ad σ) sz) := by
  refine Met.ofW (cc := cX9_readNumber) (maxL := 6) (ret := (some .int)) (by decide) rfl ?_
  intro p e s m args below meth c s₁ B hml hv
  obtain ⟨rfl, hsz, hP, hK, hD0⟩ := hv
  have hx := B.exec
  have hb := B.bytes
  have hr := B.returns
  have hts := atoms_spec (ws := gws yX9_readNumber cX9_readNumber 6 (some .int)) B.pre
  have hg : ∀ w ∈ gw, w.before _ s = true := fun w h => hts w (List.mem_cons_of_mem _ h)
  have hown : s.vm.findClass RX9 = some m.cls := findClass_of_methodNamed B.named
  have hlocks := B.notSynchronized
  subst hsz
  have hD := hD0.self (sz := s.heap.size)
  generalize hAe : va_A (zC dA ad σ) s.heap.size = A at hD ⊢
  have hA : ∀ q : Nat, s.heap.size ≤ q → A q := fun q h => by rw [← hAe]; exact Or.inr h
  have hS : va_S A s.heap s.heap [] := va_S.rf
  have hl := lv_entry ([.ref (ad 12 1000), .ref (ad 10 0), .int (Int32.ofInt a2), .int (Int32.ofInt a3)]) (n := 6) (Nat.le_of_ble_eq_true rfl)
  rw [lg_entry_eq]
  generalize (lg_sl ([.ref (ad 12 1000), .ref (ad 10 0), .int (Int32.ofInt a2), .int (Int32.ofInt a3)]) ++ List.replicate (6 - (lg_sl ([.ref (ad 12 1000), .ref (ad 10 0), .int (Int32.ofInt a2), .int (Int32.ofInt a3)])).length) Slot.unset).toArray = ls at hl ⊢
  have hl : lv_has ls 6 [(0, .ref (ad 12 1000)), (1, .ref (ad 10 0)), (2, .int (Int32.ofInt a2)), (3, .int (Int32.ofInt a3))] := hl
  have hret : ∀ (v : Int) (σ : ZS) (H : Heap) (locs : List Loc) (ls : Array Slot) (pc : Nat), Q v σ → va_P D vwC (zC dA ad σ) H → va_D A (zC dA ad σ) → va_S A s.heap H locs → decode cX9_readNumber pc = .ok (.ireturn, 1) → W p l e (gR 2 0 0) s m #[.ref (ad 12 1000), .ref (ad 10 0), .int (Int32.ofInt a2), .int (Int32.ofInt a3)] below meth c H locs 0 0 (MQ below (va_Qi (zQi Q) (gAt D dA A (zC dA ad)) A) #[.ref (ad 12 1000), .ref (ad 10 0), .int (Int32.ofInt a2), .int (Int32.ofInt a3)] s 0 0 A) (F0 m pc ls [.int (Int32.ofInt v)]) := fun v σ H locs ls pc hw hP hD hS hd => g_iret hx hb hr rfl hlocks hK σ hP hD hS ⟨v, rfl, hw⟩ (Nat.le_of_ble_eq_true rfl) (Nat.le_of_ble_eq_true rfl) hd
  generalize MQ below (va_Qi (zQi Q) (gAt D dA A (zC dA ad)) A) #[.ref (ad 12 1000), .ref (ad 10 0), .int (Int32.ofInt a2), .int (Int32.ofInt a3)] s 0 0 A = QQ at hret ⊢
  have j61 : ∀ (v2 v4 v5 s1 : Int) (σ : ZS), ∀ (H : Heap) (locs : List Loc) (ls : Array Slot), va_P D vwC (zC dA ad σ) H → va_D A (zC dA ad σ) → va_S A s.heap H locs → lv_has ls 6 [(2, .int (Int32.ofInt v2)), (4, .int (Int32.ofInt v4)), (5, .int (Int32.ofInt v5))] → wpX9_readNumber_61 v2 v4 v5 s1 σ Q → W p l e (gR 2 0 0) s m #[.ref (ad 12 1000), .ref (ad 10 0), .int (Int32.ofInt a2), .int (Int32.ofInt a3)] below meth c H locs 0 0 QQ (F0 m 61 ls [.int (Int32.ofInt s1), .ref (ad 12 1000)]) := by
    intro v2 v4 v5 s1 σ H locs ls hP hD hS hl hw
    unfold wpX9_readNumber_61 at hw
    refine lv_iload hx hb dX9_readNumber_61 (lv_at hl 1 rfl) ?_
    refine lv_iload_n hx hb dX9_readNumber_63 rfl (lv_at hl 0 rfl) ?_
    refine z_Vv (n := 3) (As := [.int (Int32.ofInt s1), .int (Int32.ofInt v4), .int (Int32.ofInt v2)]) (rest := []) hx hb hml hg hown hK hP hD hS hA (kX9_put l D dA ad s1 v4 v2 σ _ _ hw) (zoC12) rfl q813 q151 q810 q812 q3 (by decide +kernel) ⟨(Nat.le_of_ble_eq_true rfl), (Nat.le_of_ble_eq_true rfl)⟩ rfl hl.1 rfl (Nat.le_of_ble_eq_true rfl) dX9_readNumber_64 ⟨(Nat.le_of_ble_eq_true rfl), (Nat.le_of_ble_eq_true rfl)⟩ (fun σ2 H locs hw hP hD hS => ?_)
    refine lv_iload hx hb dX9_readNumber_67 (lv_at hl 2 rfl) ?_
    exact hret v5 σ2 _ _ _ _ hw hP hD hS dX9_readNumber_69
  have j48 : ∀ (v2 v4 v5 : Int) (σ : ZS), ∀ (H : Heap) (locs : List Loc) (ls : Array Slot), va_P D vwC (zC dA ad σ) H → va_D A (zC dA ad σ) → va_S A s.heap H locs → lv_has ls 6 [(0, .ref (ad 12 1000)), (2, .int (Int32.ofInt v2)), (4, .int (Int32.ofInt v4)), (5, .int (Int32.ofInt v5))] → wpX9_readNumber_48 v2 v4 v5 σ Q → W p l e (gR 2 0 0) s m #[.ref (ad 12 1000), .ref (ad 10 0), .int (Int32.ofInt a2), .int (Int32.ofInt a3)] below meth c H locs 0 0 QQ (F0 m 48 ls []) := by
    intro v2 v4 v5 σ H locs ls hP hD hS hl hw
    unfold wpX9_readNumber_48 at hw
    refine lv_aload_n hx hb dX9_readNumber_48 rfl (lv_at hl 0 rfl) ?_
    refine lv_iload hx hb dX9_readNumber_49 (lv_at hl 2 rfl) ?_
    refine lv_ldc hx hb hown (hg _ q880) dX9_readNumber_51 ?_
    refine g_nrm (y := Int32.ofInt 65535) (by decide) ?_
    obtain ⟨o3, hw⟩ := hw
    refine z_icmp_le (tgt := 60) hx hb o3 (by decide) dX9_readNumber_53 (by decide) (fun k4 => ?_) (fun k4 => ?_)
    · replace hw := hw.1 k4
      refine lv_iconst (v := Int32.ofInt 2) hx hb dX9_readNumber_60 (by decide) ?_
      exact j61 v2 v4 v5 2 σ _ _ _ hP hD hS (lv_sub hl [1, 2, 3] rfl) hw
    · replace hw := hw.2 k4
      refine lv_iconst (v := Int32.ofInt 1) hx hb dX9_readNumber_56 (by decide) ?_
      refine lv_goto (tgt := 61) hx hb dX9_readNumber_57 (by decide) ?_
      exact j61 v2 v4 v5 1 σ _ _ _ hP hD hS (lv_sub hl [1, 2, 3] rfl) hw
  have b6 : ∀ (v2 v3 : Int) (K6 : Int → Int → ZS → Prop), (∀ (v4 v5 : Int) (σ : ZS), K6 v4 v5 σ → ∀ (H : Heap) (locs : List Loc) (ls : Array Slot), va_P D vwC (zC dA ad σ) H → va_D A (zC dA ad σ) → va_S A s.heap H locs → lv_has ls 6 [(0, .ref (ad 12 1000)), (1, .ref (ad 10 0)), (2, .int (Int32.ofInt v2)), (3, .int (Int32.ofInt v3)), (4, .int (Int32.ofInt v4)), (5, .int (Int32.ofInt v5))] → W p l e (gR 2 0 0) s m #[.ref (ad 12 1000), .ref (ad 10 0), .int (Int32.ofInt a2), .int (Int32.ofInt a3)] below meth c H locs 0 0 QQ (F0 m 6 ls [])) → ∀ (v4 v5 : Int) (σ : ZS), wpbX9_readNumber_6 K6 v2 v3 v4 v5 σ Q → ∀ (H : Heap) (locs : List Loc) (ls : Array Slot), va_P D vwC (zC dA ad σ) H → va_D A (zC dA ad σ) → va_S A s.heap H locs → lv_has ls 6 [(0, .ref (ad 12 1000)), (1, .ref (ad 10 0)), (2, .int (Int32.ofInt v2)), (3, .int (Int32.ofInt v3)), (4, .int (Int32.ofInt v4)), (5, .int (Int32.ofInt v5))] → W p l e (gR 2 0 0) s m #[.ref (ad 12 1000), .ref (ad 10 0), .int (Int32.ofInt a2), .int (Int32.ofInt a3)] below meth c H locs 0 0 QQ (F0 m 6 ls []) := by
    intro v2 v3 K6 hK6
    intro v4 v5 σ hw H locs ls hP hD hS hl
    unfold wpbX9_readNumber_6 at hw
    refine lv_iload hx hb dX9_readNumber_6 (lv_at hl 5 rfl) ?_
    refine lv_iload_n hx hb dX9_readNumber_8 rfl (lv_at hl 3 rfl) ?_
    obtain ⟨o5, hw⟩ := hw
    obtain ⟨o6, hw⟩ := hw
    refine z_icmp_ge (tgt := 48) hx hb o5 o6 dX9_readNumber_9 (by decide) (fun k7 => ?_) (fun k7 => ?_)
    · replace hw := hw.1 k7
      exact j48 v2 v4 v5 σ _ _ _ hP hD hS (lv_sub hl [0, 2, 4, 5] rfl) hw
    · replace hw := hw.2 k7
      refine lv_aload_n hx hb dX9_readNumber_12 rfl (lv_at hl 1 rfl) ?_
      refine lv_iload hx hb dX9_readNumber_13 (lv_at hl 5 rfl) ?_
      obtain ⟨o8, hw⟩ := hw
      refine zlC10_0 hx hb o8 hK hP dX9_readNumber_15 ?_
      refine z_Si (n := 1) (As := [.int (Int32.ofInt (zA σ 10 0 v5))]) (rest := []) hx hb hml hg hown hK hP hD hS hA (kX9_isDigit l D dA ad (zA σ 10 0 v5) σ _ _ hw) q808 q151 q806 q807 (by decide +kernel) ⟨(Nat.le_of_ble_eq_true rfl), (Nat.le_of_ble_eq_true rfl)⟩ rfl hl.1 rfl (Nat.le_of_ble_eq_true rfl) dX9_readNumber_16 ⟨(Nat.le_of_ble_eq_true rfl), (Nat.le_of_ble_eq_true rfl)⟩ (fun x9 σ10 H locs hw hP hD hS => ?_)
      obtain ⟨o11, hw⟩ := hw
      refine z_if_eq (tgt := 48) hx hb o11 dX9_readNumber_19 (by decide) (fun k12 => ?_) (fun k12 => ?_)
      · replace hw := hw.1 k12
        exact j48 v2 v4 v5 σ10 _ _ _ hP hD hS (lv_sub hl [0, 2, 4, 5] rfl) hw
      · replace hw := hw.2 k12
        refine lv_iload hx hb dX9_readNumber_22 (lv_at hl 4 rfl) ?_
        refine lv_bipush (v := Int32.ofInt 10) hx hb dX9_readNumber_24 (by decide) ?_
        refine z_imul hx hb dX9_readNumber_26 ?_
        refine lv_aload_n hx hb dX9_readNumber_27 rfl (lv_at hl 1 rfl) ?_
        refine lv_iload hx hb dX9_readNumber_28 (lv_at hl 5 rfl) ?_
        refine zlC10_0 hx hb o8 hK hP dX9_readNumber_30 ?_
        refine lv_bipush (v := Int32.ofInt 48) hx hb dX9_readNumber_31 (by decide) ?_
        refine z_isub hx hb dX9_readNumber_33 ?_
        refine z_iadd hx hb dX9_readNumber_34 ?_
        refine lv_ldc hx hb hown (hg _ q876) dX9_readNumber_35 ?_
        refine g_nrm (y := Int32.ofInt 65536) (by decide) ?_
        obtain ⟨o13, hw⟩ := hw
        refine z_mmin (rest := []) hx hb hml hl.1 hg hown o13 (by decide) q877 ⟨(Nat.le_of_ble_eq_true rfl), (Nat.le_of_ble_eq_true rfl)⟩ ⟨(Nat.le_of_ble_eq_true rfl), (Nat.le_of_ble_eq_true rfl)⟩ dX9_readNumber_37 ?_
        refine lv_istore (lv' := [(4, .int (Int32.ofInt (min ((v4 * 10) + ((zA σ10 10 0 v5) - 48)) 65536))), (0, .ref (ad 12 1000)), (1, .ref (ad 10 0)), (2, .int (Int32.ofInt v2)), (3, .int (Int32.ofInt v3)), (5, .int (Int32.ofInt v5))]) hx hb dX9_readNumber_40 hl (by decide) rfl (fun ls hl => ?_)
        refine lv_iinc (v := Int32.ofInt (v5 + 1)) (lv' := [(5, .int (Int32.ofInt (v5 + 1))), (4, .int (Int32.ofInt (min ((v4 * 10) + ((zA σ10 10 0 v5) - 48)) 65536))), (0, .ref (ad 12 1000)), (1, .ref (ad 10 0)), (2, .int (Int32.ofInt v2)), (3, .int (Int32.ofInt v3))]) hx hb dX9_readNumber_42 hl (k := 5) rfl (Int32.ofInt_add _ _).symm (by decide) rfl (fun ls hl => ?_)
        refine lv_goto (tgt := 6) hx hb dX9_readNumber_45 (by decide) ?_
        exact hK6 (min ((v4 * 10) + ((zA σ10 10 0 v5) - 48)) 65536) (v5 + 1) σ10 hw _ _ _ hP hD hS (lv_sub hl [2, 3, 4, 5, 1, 0] rfl)
  have j6 : ∀ (v2 v3 v4 v5 : Int) (σ : ZS), ∀ (H : Heap) (locs : List Loc) (ls : Array Slot), va_P D vwC (zC dA ad σ) H → va_D A (zC dA ad σ) → va_S A s.heap H locs → lv_has ls 6 [(0, .ref (ad 12 1000)), (1, .ref (ad 10 0)), (2, .int (Int32.ofInt v2)), (3, .int (Int32.ofInt v3)), (4, .int (Int32.ofInt v4)), (5, .int (Int32.ofInt v5))] → wpX9_readNumber_6 v2 v3 v4 v5 σ Q → W p l e (gR 2 0 0) s m #[.ref (ad 12 1000), .ref (ad 10 0), .int (Int32.ofInt a2), .int (Int32.ofInt a3)] below meth c H locs 0 0 QQ (F0 m 6 ls []) := by
    intro v2 v3 v4 v5 σ H locs ls hP hD hS hl hw
    exact hw (fun v4 v5 σ => ∀ (H : Heap) (locs : List Loc) (ls : Array Slot), va_P D vwC (zC dA ad σ) H → va_D A (zC dA ad σ) → va_S A s.heap H locs → lv_has ls 6 [(0, .ref (ad 12 1000)), (1, .ref (ad 10 0)), (2, .int (Int32.ofInt v2)), (3, .int (Int32.ofInt v3)), (4, .int (Int32.ofInt v4)), (5, .int (Int32.ofInt v5))] → W p l e (gR 2 0 0) s m #[.ref (ad 12 1000), .ref (ad 10 0), .int (Int32.ofInt a2), .int (Int32.ofInt a3)] below meth c H locs 0 0 QQ (F0 m 6 ls [])) (b6 v2 v3 (fun v4 v5 σ => ∀ (H : Heap) (locs : List Loc) (ls : Array Slot), va_P D vwC (zC dA ad σ) H → va_D A (zC dA ad σ) → va_S A s.heap H locs → lv_has ls 6 [(0, .ref (ad 12 1000)), (1, .ref (ad 10 0)), (2, .int (Int32.ofInt v2)), (3, .int (Int32.ofInt v3)), (4, .int (Int32.ofInt v4)), (5, .int (Int32.ofInt v5))] → W p l e (gR 2 0 0) s m #[.ref (ad 12 1000), .ref (ad 10 0), .int (Int32.ofInt a2), .int (Int32.ofInt a3)] below meth c H locs 0 0 QQ (F0 m 6 ls [])) (fun v4 v5 σ h => h)) _ _ _ hP hD hS hl
  unfold wpX9_readNumber at hw
  refine lv_iconst (v := Int32.ofInt 0) hx hb dX9_readNumber_0 (by decide) ?_
  refine lv_istore (lv' := [(4, .int (Int32.ofInt 0)), (0, .ref (ad 12 1000)), (1, .ref (ad 10 0)), (2, .int (Int32.ofInt a2)), (3, .int (Int32.ofInt a3))]) hx hb dX9_readNumber_1 hl (by decide) rfl (fun ls hl => ?_)
  refine lv_iload_n hx hb dX9_readNumber_3 rfl (lv_at hl 3 rfl) ?_
  refine lv_istore (lv' := [(5, .int (Int32.ofInt a2)), (4, .int (Int32.ofInt 0)), (0, .ref (ad 12 1000)), (1, .ref (ad 10 0)), (2, .int (Int32.ofInt a2)), (3, .int (Int32.ofInt a3))]) hx hb dX9_readNumber_4 hl (by decide) rfl (fun ls hl => ?_)
  exact j6 a2 a3 0 a2 σ _ _ _ hP hD hS (lv_sub hl [2, 3, 4, 5, 1, 0] rfl) hw
def wpX8_type (σ : ZS) (Q : Int → ZS → Prop) : Prop := (0 ≤ (zI σ 14 4) ∧ (zI σ 14 4) < 481) ∧ Q (zA σ 12 0 (zI σ 14 4)) σ
set_option maxHeartbeats 4000000 in
set_option maxRecDepth 100000 in
theorem kX8_type (l : Launch) (D : va_G) (dA : Nat → ClassId) (ad : Int → Nat → Nat) (σ : ZS) (Q : Int → ZS → Prop) (sz : Nat) (hw : wpX8_type σ Q) : Met l yX8_type (gws yX8_type cX8_type 1 (some .int)) (gR 1 0 0) (gPre D dA [.ref (ad 14 1000)] (zC dA ad σ) sz) (va_Qi (zQi Q) (gAt D dA (va_A (zC dA ad σ) sz) (zC dA ad)) (va_A (zC dA ad σ) sz)) 0 0 (va_A (zC dA ad σ) sz) := by
  refine Met.ofW (cc := cX8_type) (maxL := 1) (ret := (some .int)) (by decide) rfl ?_
  intro p e s m args below meth c s₁ B hml hv
  obtain ⟨rfl, hsz, hP, hK, hD0⟩ := hv
  have hx := B.exec
  have hb := B.bytes
  have hr := B.returns
  have hts := atoms_spec (ws := gws yX8_type cX8_type 1 (some .int)) B.pre
  have hg : ∀ w ∈ gw, w.before _ s = true := fun w h => hts w (List.mem_cons_of_mem _ h)
  have hown : s.vm.findClass RX8 = some m.cls := findClass_of_methodNamed B.named
  have hlocks := B.notSynchronized
  subst hsz
  have hD := hD0.self (sz := s.heap.size)
  generalize hAe : va_A (zC dA ad σ) s.heap.size = A at hD ⊢
  have hA : ∀ q : Nat, s.heap.size ≤ q → A q := fun q h => by rw [← hAe]; exact Or.inr h
  have hS : va_S A s.heap s.heap [] := va_S.rf
  have hl := lv_entry ([.ref (ad 14 1000)]) (n := 1) (Nat.le_of_ble_eq_true rfl)
  rw [lg_entry_eq]
  generalize (lg_sl ([.ref (ad 14 1000)]) ++ List.replicate (1 - (lg_sl ([.ref (ad 14 1000)])).length) Slot.unset).toArray = ls at hl ⊢
  have hl : lv_has ls 1 [(0, .ref (ad 14 1000))] := hl
  have hret : ∀ (v : Int) (σ : ZS) (H : Heap) (locs : List Loc) (ls : Array Slot) (pc : Nat), Q v σ → va_P D vwC (zC dA ad σ) H → va_D A (zC dA ad σ) → va_S A s.heap H locs → decode cX8_type pc = .ok (.ireturn, 1) → W p l e (gR 1 0 0) s m #[.ref (ad 14 1000)] below meth c H locs 0 0 (MQ below (va_Qi (zQi Q) (gAt D dA A (zC dA ad)) A) #[.ref (ad 14 1000)] s 0 0 A) (F0 m pc ls [.int (Int32.ofInt v)]) := fun v σ H locs ls pc hw hP hD hS hd => g_iret hx hb hr rfl hlocks hK σ hP hD hS ⟨v, rfl, hw⟩ (Nat.le_of_ble_eq_true rfl) (Nat.le_of_ble_eq_true rfl) hd
  generalize MQ below (va_Qi (zQi Q) (gAt D dA A (zC dA ad)) A) #[.ref (ad 14 1000)] s 0 0 A = QQ at hret ⊢
  unfold wpX8_type at hw
  refine lv_aload_n hx hb dX8_type_0 rfl (lv_at hl 0 rfl) ?_
  refine zgC14_0 hx hb hg hown hK hP q346 dX8_type_1 ?_
  refine zgC12_0 hx hb hg hown hK hP q232 dX8_type_4 ?_
  refine lv_aload_n hx hb dX8_type_7 rfl (lv_at hl 0 rfl) ?_
  refine zgC14_4 hx hb hg hown hK hP q350 dX8_type_8 ?_
  obtain ⟨o1, hw⟩ := hw
  refine zlC12_0 hx hb o1 hK hP dX8_type_11 ?_
  exact hret (zA σ 12 0 (zI σ 14 4)) σ _ _ _ _ hw hP hD hS dX8_type_12
def wpX8_take (a1 : Int) (σ : ZS) (Q : Int → ZS → Prop) : Prop := (0 ≤ (zI σ 14 4) ∧ (zI σ 14 4) < 481) ∧ (-2147483648 ≤ (zA σ 12 0 (zI σ 14 4)) ∧ (zA σ 12 0 (zI σ 14 4)) ≤ 2147483647) ∧ (-2147483648 ≤ a1 ∧ a1 ≤ 2147483647) ∧ ((zA σ 12 0 (zI σ 14 4)) = a1 → Q 1 (zsI σ 14 4 ((zI σ 14 4) + 1))) ∧ (¬ (zA σ 12 0 (zI σ 14 4)) = a1 → Q 0 σ)
set_option maxHeartbeats 4000000 in
set_option maxRecDepth 100000 in
theorem kX8_take (l : Launch) (D : va_G) (dA : Nat → ClassId) (ad : Int → Nat → Nat) (a1 : Int) (σ : ZS) (Q : Int → ZS → Prop) (sz : Nat) (hw : wpX8_take a1 σ Q) : Met l yX8_take (gws yX8_take cX8_take 2 (some .boolean)) (gR 1 0 0) (gPre D dA [.ref (ad 14 1000), .int (Int32.ofInt a1)] (zC dA ad σ) sz) (va_Qi (zQi Q) (gAt D dA (va_A (zC dA ad σ) sz) (zC dA ad)) (va_A (zC dA ad σ) sz)) 0 0 (va_A (zC dA ad σ) sz) := by
  refine Met.ofW (cc := cX8_take) (maxL := 2) (ret := (some .boolean)) (by decide) rfl ?_
  intro p e s m args below meth c s₁ B hml hv
  obtain ⟨rfl, hsz, hP, hK, hD0⟩ := hv
  have hx := B.exec
  have hb := B.bytes
  have hr := B.returns
  have hts := atoms_spec (ws := gws yX8_take cX8_take 2 (some .boolean)) B.pre
  have hg : ∀ w ∈ gw, w.before _ s = true := fun w h => hts w (List.mem_cons_of_mem _ h)
  have hown : s.vm.findClass RX8 = some m.cls := findClass_of_methodNamed B.named
  have hlocks := B.notSynchronized
  subst hsz
  have hD := hD0.self (sz := s.heap.size)
  generalize hAe : va_A (zC dA ad σ) s.heap.size = A at hD ⊢
  have hA : ∀ q : Nat, s.heap.size ≤ q → A q := fun q h => by rw [← hAe]; exact Or.inr h
  have hS : va_S A s.heap s.heap [] := va_S.rf
  have hl := lv_entry ([.ref (ad 14 1000), .int (Int32.ofInt a1)]) (n := 2) (Nat.le_of_ble_eq_true rfl)
  rw [lg_entry_eq]
  generalize (lg_sl ([.ref (ad 14 1000), .int (Int32.ofInt a1)]) ++ List.replicate (2 - (lg_sl ([.ref (ad 14 1000), .int (Int32.ofInt a1)])).length) Slot.unset).toArray = ls at hl ⊢
  have hl : lv_has ls 2 [(0, .ref (ad 14 1000)), (1, .int (Int32.ofInt a1))] := hl
  have hret : ∀ (v : Int) (σ : ZS) (H : Heap) (locs : List Loc) (ls : Array Slot) (pc : Nat), (0 ≤ v ∧ v ≤ 1) → Q v σ → va_P D vwC (zC dA ad σ) H → va_D A (zC dA ad σ) → va_S A s.heap H locs → decode cX8_take pc = .ok (.ireturn, 1) → W p l e (gR 1 0 0) s m #[.ref (ad 14 1000), .int (Int32.ofInt a1)] below meth c H locs 0 0 (MQ below (va_Qi (zQi Q) (gAt D dA A (zC dA ad)) A) #[.ref (ad 14 1000), .int (Int32.ofInt a1)] s 0 0 A) (F0 m pc ls [.int (Int32.ofInt v)]) := fun v σ H locs ls pc hv hw hP hD hS hd => g_iret hx hb hr (z_nb hv) hlocks hK σ hP hD hS ⟨v, rfl, hw⟩ (Nat.le_of_ble_eq_true rfl) (Nat.le_of_ble_eq_true rfl) hd
  generalize MQ below (va_Qi (zQi Q) (gAt D dA A (zC dA ad)) A) #[.ref (ad 14 1000), .int (Int32.ofInt a1)] s 0 0 A = QQ at hret ⊢
  unfold wpX8_take at hw
  refine lv_aload_n hx hb dX8_take_0 rfl (lv_at hl 0 rfl) ?_
  refine zgC14_0 hx hb hg hown hK hP q346 dX8_take_1 ?_
  refine zgC12_0 hx hb hg hown hK hP q232 dX8_take_4 ?_
  refine lv_aload_n hx hb dX8_take_7 rfl (lv_at hl 0 rfl) ?_
  refine zgC14_4 hx hb hg hown hK hP q350 dX8_take_8 ?_
  obtain ⟨o1, hw⟩ := hw
  refine zlC12_0 hx hb o1 hK hP dX8_take_11 ?_
  refine lv_iload_n hx hb dX8_take_12 rfl (lv_at hl 1 rfl) ?_
  obtain ⟨o2, hw⟩ := hw
  obtain ⟨o3, hw⟩ := hw
  refine z_icmp_eq (tgt := 18) hx hb o2 o3 dX8_take_13 (by decide) (fun k4 => ?_) (fun k4 => ?_)
  · replace hw := hw.1 k4
    refine lv_aload_n hx hb dX8_take_18 rfl (lv_at hl 0 rfl) ?_
    refine lv_dup hx hb dX8_take_19 rfl ?_
    refine zgC14_4 hx hb hg hown hK hP q350 dX8_take_20 ?_
    refine lv_iconst (v := Int32.ofInt 1) hx hb dX8_take_23 (by decide) ?_
    refine z_iadd hx hb dX8_take_24 ?_
    refine zpC14_4 (v := ((zI σ 14 4) + 1)) hx hb hg hown hK hP hD hS q350 dX8_take_25 (fun H locs hP hD hS => ?_)
    refine lv_iconst (v := Int32.ofInt 1) hx hb dX8_take_28 (by decide) ?_
    exact hret 1 (zsI σ 14 4 ((zI σ 14 4) + 1)) _ _ _ _ (by decide) hw hP hD hS dX8_take_29
  · replace hw := hw.2 k4
    refine lv_iconst (v := Int32.ofInt 0) hx hb dX8_take_16 (by decide) ?_
    exact hret 0 σ _ _ _ _ (by decide) hw hP hD hS dX8_take_17
def wpX0_add_92 (σ : ZS) (Q : ZS → Prop) : Prop := Q σ
def wpX0_add (a1 a2 a3 a4 a5 : Int) (σ : ZS) (Q : ZS → Prop) : Prop := (-2147483648 ≤ (zI σ 13 7) ∧ (zI σ 13 7) ≤ 2147483647) ∧ (248 ≤ (zI σ 13 7) → wpX0_add_92 σ Q) ∧ (¬ 248 ≤ (zI σ 13 7) → (0 ≤ (zI σ 13 7) ∧ (zI σ 13 7) < 248) ∧ wpX0_add_92 (zsI (zsA (zsA (zsA (zsA (zsA (zsA (zsA σ 13 0 (zI σ 13 7) a1) 13 1 (zI σ 13 7) a2) 13 2 (zI σ 13 7) a3) 13 3 (zI σ 13 7) a4) 13 4 (zI σ 13 7) a5) 13 5 (zI σ 13 7) (-1)) 13 6 (zI σ 13 7) 0) 13 7 ((zI σ 13 7) + 1)) Q)
set_option maxHeartbeats 4000000 in
set_option maxRecDepth 100000 in
theorem kX0_add (l : Launch) (D : va_G) (dA : Nat → ClassId) (ad : Int → Nat → Nat) (a1 a2 a3 a4 a5 : Int) (σ : ZS) (Q : ZS → Prop) (sz : Nat) (hw : wpX0_add a1 a2 a3 a4 a5 σ Q) : Met l yX0_add (gws yX0_add cX0_add 6 none) (gR 1 0 0) (gPre D dA [.ref (ad 13 1000), .int (Int32.ofInt a1), .int (Int32.ofInt a2), .int (Int32.ofInt a3), .int (Int32.ofInt a4), .int (Int32.ofInt a5)] (zC dA ad σ) sz) (va_Qv Q (gAt D dA (va_A (zC dA ad σ) sz) (zC dA ad)) (va_A (zC dA ad σ) sz)) 0 0 (va_A (zC dA ad σ) sz) := by
  refine Met.ofW (cc := cX0_add) (maxL := 6) (ret := none) (by decide) rfl ?_
  intro p e s m args below meth c s₁ B hml hv
  obtain ⟨rfl, hsz, hP, hK, hD0⟩ := hv
  have hx := B.exec
  have hb := B.bytes
  have hr := B.returns
  have hts := atoms_spec (ws := gws yX0_add cX0_add 6 none) B.pre
  have hg : ∀ w ∈ gw, w.before _ s = true := fun w h => hts w (List.mem_cons_of_mem _ h)
  have hown : s.vm.findClass RX0 = some m.cls := findClass_of_methodNamed B.named
  have hlocks := B.notSynchronized
  subst hsz
  have hD := hD0.self (sz := s.heap.size)
  generalize hAe : va_A (zC dA ad σ) s.heap.size = A at hD ⊢
  have hA : ∀ q : Nat, s.heap.size ≤ q → A q := fun q h => by rw [← hAe]; exact Or.inr h
  have hS : va_S A s.heap s.heap [] := va_S.rf
  have hl := lv_entry ([.ref (ad 13 1000), .int (Int32.ofInt a1), .int (Int32.ofInt a2), .int (Int32.ofInt a3), .int (Int32.ofInt a4), .int (Int32.ofInt a5)]) (n := 6) (Nat.le_of_ble_eq_true rfl)
  rw [lg_entry_eq]
  generalize (lg_sl ([.ref (ad 13 1000), .int (Int32.ofInt a1), .int (Int32.ofInt a2), .int (Int32.ofInt a3), .int (Int32.ofInt a4), .int (Int32.ofInt a5)]) ++ List.replicate (6 - (lg_sl ([.ref (ad 13 1000), .int (Int32.ofInt a1), .int (Int32.ofInt a2), .int (Int32.ofInt a3), .int (Int32.ofInt a4), .int (Int32.ofInt a5)])).length) Slot.unset).toArray = ls at hl ⊢
  have hl : lv_has ls 6 [(0, .ref (ad 13 1000)), (1, .int (Int32.ofInt a1)), (2, .int (Int32.ofInt a2)), (3, .int (Int32.ofInt a3)), (4, .int (Int32.ofInt a4)), (5, .int (Int32.ofInt a5))] := hl
  have hret : ∀ (σ : ZS) (H : Heap) (locs : List Loc) (ls : Array Slot) (pc : Nat), Q σ → va_P D vwC (zC dA ad σ) H → va_D A (zC dA ad σ) → va_S A s.heap H locs → decode cX0_add pc = .ok (.return_, 1) → W p l e (gR 1 0 0) s m #[.ref (ad 13 1000), .int (Int32.ofInt a1), .int (Int32.ofInt a2), .int (Int32.ofInt a3), .int (Int32.ofInt a4), .int (Int32.ofInt a5)] below meth c H locs 0 0 (MQ below (va_Qv Q (gAt D dA A (zC dA ad)) A) #[.ref (ad 13 1000), .int (Int32.ofInt a1), .int (Int32.ofInt a2), .int (Int32.ofInt a3), .int (Int32.ofInt a4), .int (Int32.ofInt a5)] s 0 0 A) (F0 m pc ls []) := fun σ H locs ls pc hw hP hD hS hd => g_vret hx hb hr hlocks hK σ hP hD hS hw (Nat.le_of_ble_eq_true rfl) (Nat.le_of_ble_eq_true rfl) hd
  generalize MQ below (va_Qv Q (gAt D dA A (zC dA ad)) A) #[.ref (ad 13 1000), .int (Int32.ofInt a1), .int (Int32.ofInt a2), .int (Int32.ofInt a3), .int (Int32.ofInt a4), .int (Int32.ofInt a5)] s 0 0 A = QQ at hret ⊢
  have j92 : ∀ (σ : ZS), ∀ (H : Heap) (locs : List Loc) (ls : Array Slot), va_P D vwC (zC dA ad σ) H → va_D A (zC dA ad σ) → va_S A s.heap H locs → lv_has ls 6 [] → wpX0_add_92 σ Q → W p l e (gR 1 0 0) s m #[.ref (ad 13 1000), .int (Int32.ofInt a1), .int (Int32.ofInt a2), .int (Int32.ofInt a3), .int (Int32.ofInt a4), .int (Int32.ofInt a5)] below meth c H locs 0 0 QQ (F0 m 92 ls []) := by
    intro σ H locs ls hP hD hS hl hw
    unfold wpX0_add_92 at hw
    exact hret σ _ _ _ _ hw hP hD hS dX0_add_92
  unfold wpX0_add at hw
  refine lv_aload_n hx hb dX0_add_0 rfl (lv_at hl 0 rfl) ?_
  refine zgC13_7 hx hb hg hown hK hP q271 dX0_add_1 ?_
  refine lv_sipush (v := Int32.ofInt 248) hx hb dX0_add_4 (by decide) ?_
  obtain ⟨o1, hw⟩ := hw
  refine z_icmp_ge (tgt := 92) hx hb o1 (by decide) dX0_add_7 (by decide) (fun k2 => ?_) (fun k2 => ?_)
  · replace hw := hw.1 k2
    exact j92 σ _ _ _ hP hD hS (lv_sub hl [] rfl) hw
  · replace hw := hw.2 k2
    refine lv_aload_n hx hb dX0_add_10 rfl (lv_at hl 0 rfl) ?_
    refine zgC13_0 hx hb hg hown hK hP q257 dX0_add_11 ?_
    refine lv_aload_n hx hb dX0_add_14 rfl (lv_at hl 0 rfl) ?_
    refine zgC13_7 hx hb hg hown hK hP q271 dX0_add_15 ?_
    refine lv_iload_n hx hb dX0_add_18 rfl (lv_at hl 1 rfl) ?_
    obtain ⟨o3, hw⟩ := hw
    refine zsC13_0 (v := a1) hx hb o3 hK hP hD hS dX0_add_19 (fun H locs hP hD hS => ?_)
    refine lv_aload_n hx hb dX0_add_20 rfl (lv_at hl 0 rfl) ?_
    refine zgC13_1 hx hb hg hown hK hP q259 dX0_add_21 ?_
    refine lv_aload_n hx hb dX0_add_24 rfl (lv_at hl 0 rfl) ?_
    refine zgC13_7 hx hb hg hown hK hP q271 dX0_add_25 ?_
    refine g_nrm (y := Int32.ofInt (zI σ 13 7)) rfl ?_
    refine lv_iload_n hx hb dX0_add_28 rfl (lv_at hl 2 rfl) ?_
    refine zsC13_1 (v := a2) hx hb o3 hK hP hD hS dX0_add_29 (fun H locs hP hD hS => ?_)
    refine lv_aload_n hx hb dX0_add_30 rfl (lv_at hl 0 rfl) ?_
    refine zgC13_2 hx hb hg hown hK hP q261 dX0_add_31 ?_
    refine lv_aload_n hx hb dX0_add_34 rfl (lv_at hl 0 rfl) ?_
    refine zgC13_7 hx hb hg hown hK hP q271 dX0_add_35 ?_
    refine g_nrm (y := Int32.ofInt (zI σ 13 7)) rfl ?_
    refine lv_iload_n hx hb dX0_add_38 rfl (lv_at hl 3 rfl) ?_
    refine zsC13_2 (v := a3) hx hb o3 hK hP hD hS dX0_add_39 (fun H locs hP hD hS => ?_)
    refine lv_aload_n hx hb dX0_add_40 rfl (lv_at hl 0 rfl) ?_
    refine zgC13_3 hx hb hg hown hK hP q263 dX0_add_41 ?_
    refine lv_aload_n hx hb dX0_add_44 rfl (lv_at hl 0 rfl) ?_
    refine zgC13_7 hx hb hg hown hK hP q271 dX0_add_45 ?_
    refine g_nrm (y := Int32.ofInt (zI σ 13 7)) rfl ?_
    refine lv_iload hx hb dX0_add_48 (lv_at hl 4 rfl) ?_
    refine zsC13_3 (v := a4) hx hb o3 hK hP hD hS dX0_add_50 (fun H locs hP hD hS => ?_)
    refine lv_aload_n hx hb dX0_add_51 rfl (lv_at hl 0 rfl) ?_
    refine zgC13_4 hx hb hg hown hK hP q265 dX0_add_52 ?_
    refine lv_aload_n hx hb dX0_add_55 rfl (lv_at hl 0 rfl) ?_
    refine zgC13_7 hx hb hg hown hK hP q271 dX0_add_56 ?_
    refine g_nrm (y := Int32.ofInt (zI σ 13 7)) rfl ?_
    refine lv_iload hx hb dX0_add_59 (lv_at hl 5 rfl) ?_
    refine zsC13_4 (v := a5) hx hb o3 hK hP hD hS dX0_add_61 (fun H locs hP hD hS => ?_)
    refine lv_aload_n hx hb dX0_add_62 rfl (lv_at hl 0 rfl) ?_
    refine zgC13_5 hx hb hg hown hK hP q267 dX0_add_63 ?_
    refine lv_aload_n hx hb dX0_add_66 rfl (lv_at hl 0 rfl) ?_
    refine zgC13_7 hx hb hg hown hK hP q271 dX0_add_67 ?_
    refine g_nrm (y := Int32.ofInt (zI σ 13 7)) rfl ?_
    refine lv_iconst (v := Int32.ofInt (-1)) hx hb dX0_add_70 (by decide) ?_
    refine zsC13_5 (v := (-1)) hx hb o3 hK hP hD hS dX0_add_71 (fun H locs hP hD hS => ?_)
    refine lv_aload_n hx hb dX0_add_72 rfl (lv_at hl 0 rfl) ?_
    refine zgC13_6 hx hb hg hown hK hP q269 dX0_add_73 ?_
    refine lv_aload_n hx hb dX0_add_76 rfl (lv_at hl 0 rfl) ?_
    refine zgC13_7 hx hb hg hown hK hP q271 dX0_add_77 ?_
    refine g_nrm (y := Int32.ofInt (zI σ 13 7)) rfl ?_
    refine lv_iconst (v := Int32.ofInt 0) hx hb dX0_add_80 (by decide) ?_
    refine zsC13_6 (v := 0) hx hb o3 hK hP hD hS dX0_add_81 (fun H locs hP hD hS => ?_)
    refine lv_aload_n hx hb dX0_add_82 rfl (lv_at hl 0 rfl) ?_
    refine lv_dup hx hb dX0_add_83 rfl ?_
    refine zgC13_7 hx hb hg hown hK hP q271 dX0_add_84 ?_
    refine g_nrm (y := Int32.ofInt (zI σ 13 7)) rfl ?_
    refine lv_iconst (v := Int32.ofInt 1) hx hb dX0_add_87 (by decide) ?_
    refine z_iadd hx hb dX0_add_88 ?_
    refine zpC13_7 (v := ((zI σ 13 7) + 1)) hx hb hg hown hK hP hD hS q271 dX0_add_89 (fun H locs hP hD hS => ?_)
    exact j92 (zsI (zsA (zsA (zsA (zsA (zsA (zsA (zsA σ 13 0 (zI σ 13 7) a1) 13 1 (zI σ 13 7) a2) 13 2 (zI σ 13 7) a3) 13 3 (zI σ 13 7) a4) 13 4 (zI σ 13 7) a5) 13 5 (zI σ 13 7) (-1)) 13 6 (zI σ 13 7) 0) 13 7 ((zI σ 13 7) + 1)) _ _ _ hP hD hS (lv_sub hl [] rfl) hw
def wpX8_addNamed (a1 a2 a3 : Int) (σ : ZS) (Q : ZS → Prop) : Prop := (0 ≤ a3 ∧ a3 < 481) ∧ wpX0_add a1 a2 (zA σ 12 1 a3) (zA σ 12 2 a3) (-1) σ (fun (σ3 : ZS) => Q σ3)
set_option maxHeartbeats 4000000 in
set_option maxRecDepth 100000 in
theorem kX8_addNamed (l : Launch) (D : va_G) (dA : Nat → ClassId) (ad : Int → Nat → Nat) (a1 a2 a3 : Int) (σ : ZS) (Q : ZS → Prop) (sz : Nat) (hw : wpX8_addNamed a1 a2 a3 σ Q) : Met l yX8_addNamed (gws yX8_addNamed cX8_addNamed 4 none) (gR 2 0 0) (gPre D dA [.ref (ad 14 1000), .int (Int32.ofInt a1), .int (Int32.ofInt a2), .int (Int32.ofInt a3)] (zC dA ad σ) sz) (va_Qv Q (gAt D dA (va_A (zC dA ad σ) sz) (zC dA ad)) (va_A (zC dA ad σ) sz)) 0 0 (va_A (zC dA ad σ) sz) := by
  refine Met.ofW (cc := cX8_addNamed) (maxL := 4) (ret := none) (by decide) rfl ?_
  intro p e s m args below meth c s₁ B hml hv
  obtain ⟨rfl, hsz, hP, hK, hD0⟩ := hv
  have hx := B.exec
  have hb := B.bytes
  have hr := B.returns
  have hts := atoms_spec (ws := gws yX8_addNamed cX8_addNamed 4 none) B.pre
  have hg : ∀ w ∈ gw, w.before _ s = true := fun w h => hts w (List.mem_cons_of_mem _ h)
  have hown : s.vm.findClass RX8 = some m.cls := findClass_of_methodNamed B.named
  have hlocks := B.notSynchronized
  subst hsz
  have hD := hD0.self (sz := s.heap.size)
  generalize hAe : va_A (zC dA ad σ) s.heap.size = A at hD ⊢
  have hA : ∀ q : Nat, s.heap.size ≤ q → A q := fun q h => by rw [← hAe]; exact Or.inr h
  have hS : va_S A s.heap s.heap [] := va_S.rf
  have hl := lv_entry ([.ref (ad 14 1000), .int (Int32.ofInt a1), .int (Int32.ofInt a2), .int (Int32.ofInt a3)]) (n := 4) (Nat.le_of_ble_eq_true rfl)
  rw [lg_entry_eq]
  generalize (lg_sl ([.ref (ad 14 1000), .int (Int32.ofInt a1), .int (Int32.ofInt a2), .int (Int32.ofInt a3)]) ++ List.replicate (4 - (lg_sl ([.ref (ad 14 1000), .int (Int32.ofInt a1), .int (Int32.ofInt a2), .int (Int32.ofInt a3)])).length) Slot.unset).toArray = ls at hl ⊢
  have hl : lv_has ls 4 [(0, .ref (ad 14 1000)), (1, .int (Int32.ofInt a1)), (2, .int (Int32.ofInt a2)), (3, .int (Int32.ofInt a3))] := hl
  have hret : ∀ (σ : ZS) (H : Heap) (locs : List Loc) (ls : Array Slot) (pc : Nat), Q σ → va_P D vwC (zC dA ad σ) H → va_D A (zC dA ad σ) → va_S A s.heap H locs → decode cX8_addNamed pc = .ok (.return_, 1) → W p l e (gR 2 0 0) s m #[.ref (ad 14 1000), .int (Int32.ofInt a1), .int (Int32.ofInt a2), .int (Int32.ofInt a3)] below meth c H locs 0 0 (MQ below (va_Qv Q (gAt D dA A (zC dA ad)) A) #[.ref (ad 14 1000), .int (Int32.ofInt a1), .int (Int32.ofInt a2), .int (Int32.ofInt a3)] s 0 0 A) (F0 m pc ls []) := fun σ H locs ls pc hw hP hD hS hd => g_vret hx hb hr hlocks hK σ hP hD hS hw (Nat.le_of_ble_eq_true rfl) (Nat.le_of_ble_eq_true rfl) hd
  generalize MQ below (va_Qv Q (gAt D dA A (zC dA ad)) A) #[.ref (ad 14 1000), .int (Int32.ofInt a1), .int (Int32.ofInt a2), .int (Int32.ofInt a3)] s 0 0 A = QQ at hret ⊢
  unfold wpX8_addNamed at hw
  refine lv_aload_n hx hb dX8_addNamed_0 rfl (lv_at hl 0 rfl) ?_
  refine zgC14_1 hx hb hg hown hK hP q347 dX8_addNamed_1 ?_
  refine lv_iload_n hx hb dX8_addNamed_4 rfl (lv_at hl 1 rfl) ?_
  refine lv_iload_n hx hb dX8_addNamed_5 rfl (lv_at hl 2 rfl) ?_
  refine lv_aload_n hx hb dX8_addNamed_6 rfl (lv_at hl 0 rfl) ?_
  refine zgC14_0 hx hb hg hown hK hP q346 dX8_addNamed_7 ?_
  refine zgC12_1 hx hb hg hown hK hP q234 dX8_addNamed_10 ?_
  refine lv_iload_n hx hb dX8_addNamed_13 rfl (lv_at hl 3 rfl) ?_
  obtain ⟨o1, hw⟩ := hw
  refine zlC12_1 hx hb o1 hK hP dX8_addNamed_14 ?_
  refine lv_aload_n hx hb dX8_addNamed_15 rfl (lv_at hl 0 rfl) ?_
  refine zgC14_0 hx hb hg hown hK hP q346 dX8_addNamed_16 ?_
  refine zgC12_2 hx hb hg hown hK hP q236 dX8_addNamed_19 ?_
  refine lv_iload_n hx hb dX8_addNamed_22 rfl (lv_at hl 3 rfl) ?_
  refine zlC12_2 hx hb o1 hK hP dX8_addNamed_23 ?_
  refine lv_iconst (v := Int32.ofInt (-1)) hx hb dX8_addNamed_24 (by decide) ?_
  refine z_Vv (n := 5) (As := [.int (Int32.ofInt a1), .int (Int32.ofInt a2), .int (Int32.ofInt (zA σ 12 1 a3)), .int (Int32.ofInt (zA σ 12 2 a3)), .int (Int32.ofInt (-1))]) (rest := []) hx hb hml hg hown hK hP hD hS hA (kX0_add l D dA ad a1 a2 (zA σ 12 1 a3) (zA σ 12 2 a3) (-1) σ _ _ hw) (zoC13) rfl q962 q152 q959 q960 q961 (by decide +kernel) ⟨(Nat.le_of_ble_eq_true rfl), (Nat.le_of_ble_eq_true rfl)⟩ rfl hl.1 rfl (Nat.le_of_ble_eq_true rfl) dX8_addNamed_25 ⟨(Nat.le_of_ble_eq_true rfl), (Nat.le_of_ble_eq_true rfl)⟩ (fun σ3 H locs hw hP hD hS => ?_)
  exact hret σ3 _ _ _ _ hw hP hD hS dX8_addNamed_28
def wpX8_label (σ : ZS) (Q : Int → ZS → Prop) : Prop := (-2147483648 ≤ (zI σ 14 5) ∧ (zI σ 14 5) ≤ 2147483647) ∧ (¬ (zI σ 14 5) = 0 → wpX8_take 58 (zsI σ 14 4 ((zI σ 14 4) + 1)) (fun (x3 : Int) (σ4 : ZS) => (-2147483648 ≤ x3 ∧ x3 ≤ 2147483647) ∧ (¬ x3 = 0 → wpX8_addNamed 1 0 (zI σ 14 4) σ4 (fun (σ8 : ZS) => Q 1 σ8)) ∧ (x3 = 0 → Q 0 σ4))) ∧ ((zI σ 14 5) = 0 → Q 0 σ)
set_option maxHeartbeats 4000000 in
set_option maxRecDepth 100000 in
theorem kX8_label (l : Launch) (D : va_G) (dA : Nat → ClassId) (ad : Int → Nat → Nat) (σ : ZS) (Q : Int → ZS → Prop) (sz : Nat) (hw : wpX8_label σ Q) : Met l yX8_label (gws yX8_label cX8_label 2 (some .boolean)) (gR 3 0 0) (gPre D dA [.ref (ad 14 1000)] (zC dA ad σ) sz) (va_Qi (zQi Q) (gAt D dA (va_A (zC dA ad σ) sz) (zC dA ad)) (va_A (zC dA ad σ) sz)) 0 0 (va_A (zC dA ad σ) sz) := by
  refine Met.ofW (cc := cX8_label) (maxL := 2) (ret := (some .boolean)) (by decide) rfl ?_
  intro p e s m args below meth c s₁ B hml hv
  obtain ⟨rfl, hsz, hP, hK, hD0⟩ := hv
  have hx := B.exec
  have hb := B.bytes
  have hr := B.returns
  have hts := atoms_spec (ws := gws yX8_label cX8_label 2 (some .boolean)) B.pre
  have hg : ∀ w ∈ gw, w.before _ s = true := fun w h => hts w (List.mem_cons_of_mem _ h)
  have hown : s.vm.findClass RX8 = some m.cls := findClass_of_methodNamed B.named
  have hlocks := B.notSynchronized
  subst hsz
  have hD := hD0.self (sz := s.heap.size)
  generalize hAe : va_A (zC dA ad σ) s.heap.size = A at hD ⊢
  have hA : ∀ q : Nat, s.heap.size ≤ q → A q := fun q h => by rw [← hAe]; exact Or.inr h
  have hS : va_S A s.heap s.heap [] := va_S.rf
  have hl := lv_entry ([.ref (ad 14 1000)]) (n := 2) (Nat.le_of_ble_eq_true rfl)
  rw [lg_entry_eq]
  generalize (lg_sl ([.ref (ad 14 1000)]) ++ List.replicate (2 - (lg_sl ([.ref (ad 14 1000)])).length) Slot.unset).toArray = ls at hl ⊢
  have hl : lv_has ls 2 [(0, .ref (ad 14 1000))] := hl
  have hret : ∀ (v : Int) (σ : ZS) (H : Heap) (locs : List Loc) (ls : Array Slot) (pc : Nat), (0 ≤ v ∧ v ≤ 1) → Q v σ → va_P D vwC (zC dA ad σ) H → va_D A (zC dA ad σ) → va_S A s.heap H locs → decode cX8_label pc = .ok (.ireturn, 1) → W p l e (gR 3 0 0) s m #[.ref (ad 14 1000)] below meth c H locs 0 0 (MQ below (va_Qi (zQi Q) (gAt D dA A (zC dA ad)) A) #[.ref (ad 14 1000)] s 0 0 A) (F0 m pc ls [.int (Int32.ofInt v)]) := fun v σ H locs ls pc hv hw hP hD hS hd => g_iret hx hb hr (z_nb hv) hlocks hK σ hP hD hS ⟨v, rfl, hw⟩ (Nat.le_of_ble_eq_true rfl) (Nat.le_of_ble_eq_true rfl) hd
  generalize MQ below (va_Qi (zQi Q) (gAt D dA A (zC dA ad)) A) #[.ref (ad 14 1000)] s 0 0 A = QQ at hret ⊢
  unfold wpX8_label at hw
  refine lv_aload_n hx hb dX8_label_0 rfl (lv_at hl 0 rfl) ?_
  refine zgC14_5 hx hb hg hown hK hP q351 dX8_label_1 ?_
  obtain ⟨o1, hw⟩ := hw
  refine z_if_ne (tgt := 9) hx hb o1 dX8_label_4 (by decide) (fun k2 => ?_) (fun k2 => ?_)
  · replace hw := hw.1 k2
    refine lv_aload_n hx hb dX8_label_9 rfl (lv_at hl 0 rfl) ?_
    refine zgC14_4 hx hb hg hown hK hP q350 dX8_label_10 ?_
    refine lv_istore_n (lv' := [(1, .int (Int32.ofInt (zI σ 14 4))), (0, .ref (ad 14 1000))]) hx hb dX8_label_13 rfl hl (by decide) rfl (fun ls hl => ?_)
    refine lv_aload_n hx hb dX8_label_14 rfl (lv_at hl 1 rfl) ?_
    refine lv_dup hx hb dX8_label_15 rfl ?_
    refine zgC14_4 hx hb hg hown hK hP q350 dX8_label_16 ?_
    refine lv_iconst (v := Int32.ofInt 1) hx hb dX8_label_19 (by decide) ?_
    refine z_iadd hx hb dX8_label_20 ?_
    refine zpC14_4 (v := ((zI σ 14 4) + 1)) hx hb hg hown hK hP hD hS q350 dX8_label_21 (fun H locs hP hD hS => ?_)
    refine lv_aload_n hx hb dX8_label_24 rfl (lv_at hl 1 rfl) ?_
    refine lv_bipush (v := Int32.ofInt 58) hx hb dX8_label_25 (by decide) ?_
    refine z_Vi (n := 1) (As := [.int (Int32.ofInt 58)]) (rest := []) hx hb hml hg hown hK hP hD hS hA (kX8_take l D dA ad 58 (zsI σ 14 4 ((zI σ 14 4) + 1)) _ _ hw) (zoC14) rfl q954 q153 q951 q953 q7 (by decide +kernel) ⟨(Nat.le_of_ble_eq_true rfl), (Nat.le_of_ble_eq_true rfl)⟩ rfl hl.1 rfl (Nat.le_of_ble_eq_true rfl) dX8_label_27 ⟨(Nat.le_of_ble_eq_true rfl), (Nat.le_of_ble_eq_true rfl)⟩ (fun x3 σ4 H locs hw hP hD hS => ?_)
    obtain ⟨o5, hw⟩ := hw
    refine z_if_ne (tgt := 35) hx hb o5 dX8_label_30 (by decide) (fun k6 => ?_) (fun k6 => ?_)
    · replace hw := hw.1 k6
      refine lv_aload_n hx hb dX8_label_35 rfl (lv_at hl 1 rfl) ?_
      refine lv_iconst (v := Int32.ofInt 1) hx hb dX8_label_36 (by decide) ?_
      refine lv_iconst (v := Int32.ofInt 0) hx hb dX8_label_37 (by decide) ?_
      refine lv_iload_n hx hb dX8_label_38 rfl (lv_at hl 0 rfl) ?_
      refine z_Vv (n := 3) (As := [.int (Int32.ofInt 1), .int (Int32.ofInt 0), .int (Int32.ofInt (zI σ 14 4))]) (rest := []) hx hb hml hg hown hK hP hD hS hA (kX8_addNamed l D dA ad 1 0 (zI σ 14 4) σ4 _ _ hw) (zoC14) rfl q958 q153 q955 q957 q8 (by decide +kernel) ⟨(Nat.le_of_ble_eq_true rfl), (Nat.le_of_ble_eq_true rfl)⟩ rfl hl.1 rfl (Nat.le_of_ble_eq_true rfl) dX8_label_39 ⟨(Nat.le_of_ble_eq_true rfl), (Nat.le_of_ble_eq_true rfl)⟩ (fun σ8 H locs hw hP hD hS => ?_)
      refine lv_iconst (v := Int32.ofInt 1) hx hb dX8_label_42 (by decide) ?_
      exact hret 1 σ8 _ _ _ _ (by decide) hw hP hD hS dX8_label_43
    · replace hw := hw.2 k6
      refine lv_iconst (v := Int32.ofInt 0) hx hb dX8_label_33 (by decide) ?_
      exact hret 0 σ4 _ _ _ _ (by decide) hw hP hD hS dX8_label_34
  · replace hw := hw.2 k2
    refine lv_iconst (v := Int32.ofInt 0) hx hb dX8_label_7 (by decide) ?_
    exact hret 0 σ _ _ _ _ (by decide) hw hP hD hS dX8_label_8
def wpX8_value (σ : ZS) (Q : Int → ZS → Prop) : Prop := (0 ≤ (zI σ 14 4) ∧ (zI σ 14 4) < 481) ∧ Q (zA σ 12 1 (zI σ 14 4)) σ
set_option maxHeartbeats 4000000 in
set_option maxRecDepth 100000 in
theorem kX8_value (l : Launch) (D : va_G) (dA : Nat → ClassId) (ad : Int → Nat → Nat) (σ : ZS) (Q : Int → ZS → Prop) (sz : Nat) (hw : wpX8_value σ Q) : Met l yX8_value (gws yX8_value cX8_value 1 (some .int)) (gR 1 0 0) (gPre D dA [.ref (ad 14 1000)] (zC dA ad σ) sz) (va_Qi (zQi Q) (gAt D dA (va_A (zC dA ad σ) sz) (zC dA ad)) (va_A (zC dA ad σ) sz)) 0 0 (va_A (zC dA ad σ) sz) := by
  refine Met.ofW (cc := cX8_value) (maxL := 1) (ret := (some .int)) (by decide) rfl ?_
  intro p e s m args below meth c s₁ B hml hv
  obtain ⟨rfl, hsz, hP, hK, hD0⟩ := hv
  have hx := B.exec
  have hb := B.bytes
  have hr := B.returns
  have hts := atoms_spec (ws := gws yX8_value cX8_value 1 (some .int)) B.pre
  have hg : ∀ w ∈ gw, w.before _ s = true := fun w h => hts w (List.mem_cons_of_mem _ h)
  have hown : s.vm.findClass RX8 = some m.cls := findClass_of_methodNamed B.named
  have hlocks := B.notSynchronized
  subst hsz
  have hD := hD0.self (sz := s.heap.size)
  generalize hAe : va_A (zC dA ad σ) s.heap.size = A at hD ⊢
  have hA : ∀ q : Nat, s.heap.size ≤ q → A q := fun q h => by rw [← hAe]; exact Or.inr h
  have hS : va_S A s.heap s.heap [] := va_S.rf
  have hl := lv_entry ([.ref (ad 14 1000)]) (n := 1) (Nat.le_of_ble_eq_true rfl)
  rw [lg_entry_eq]
  generalize (lg_sl ([.ref (ad 14 1000)]) ++ List.replicate (1 - (lg_sl ([.ref (ad 14 1000)])).length) Slot.unset).toArray = ls at hl ⊢
  have hl : lv_has ls 1 [(0, .ref (ad 14 1000))] := hl
  have hret : ∀ (v : Int) (σ : ZS) (H : Heap) (locs : List Loc) (ls : Array Slot) (pc : Nat), Q v σ → va_P D vwC (zC dA ad σ) H → va_D A (zC dA ad σ) → va_S A s.heap H locs → decode cX8_value pc = .ok (.ireturn, 1) → W p l e (gR 1 0 0) s m #[.ref (ad 14 1000)] below meth c H locs 0 0 (MQ below (va_Qi (zQi Q) (gAt D dA A (zC dA ad)) A) #[.ref (ad 14 1000)] s 0 0 A) (F0 m pc ls [.int (Int32.ofInt v)]) := fun v σ H locs ls pc hw hP hD hS hd => g_iret hx hb hr rfl hlocks hK σ hP hD hS ⟨v, rfl, hw⟩ (Nat.le_of_ble_eq_true rfl) (Nat.le_of_ble_eq_true rfl) hd
  generalize MQ below (va_Qi (zQi Q) (gAt D dA A (zC dA ad)) A) #[.ref (ad 14 1000)] s 0 0 A = QQ at hret ⊢
  unfold wpX8_value at hw
  refine lv_aload_n hx hb dX8_value_0 rfl (lv_at hl 0 rfl) ?_
  refine zgC14_0 hx hb hg hown hK hP q346 dX8_value_1 ?_
  refine zgC12_1 hx hb hg hown hK hP q234 dX8_value_4 ?_
  refine lv_aload_n hx hb dX8_value_7 rfl (lv_at hl 0 rfl) ?_
  refine zgC14_4 hx hb hg hown hK hP q350 dX8_value_8 ?_
  obtain ⟨o1, hw⟩ := hw
  refine zlC12_1 hx hb o1 hK hP dX8_value_11 ?_
  exact hret (zA σ 12 1 (zI σ 14 4)) σ _ _ _ _ hw hP hD hS dX8_value_12
def wpX8_isAlign_24 (s0 : Int) (σ : ZS) (Q : Int → ZS → Prop) : Prop := (0 ≤ s0 ∧ s0 ≤ 1) ∧ Q s0 σ
def wpX8_isAlign_23 (σ : ZS) (Q : Int → ZS → Prop) : Prop := wpX8_isAlign_24 0 σ Q
def wpX8_isAlign (a0 : Int) (σ : ZS) (Q : Int → ZS → Prop) : Prop := (-2147483648 ≤ a0 ∧ a0 ≤ 2147483647) ∧ (a0 < 1 → wpX8_isAlign_23 σ Q) ∧ (¬ a0 < 1 → (16 < a0 → wpX8_isAlign_23 σ Q) ∧ (¬ 16 < a0 → wpJ6_bitCount_0f7a4 a0 σ (fun (x5 : Int) (σ6 : ZS) => (-2147483648 ≤ x5 ∧ x5 ≤ 2147483647) ∧ (¬ x5 = 1 → wpX8_isAlign_23 σ6 Q) ∧ (x5 = 1 → wpX8_isAlign_24 1 σ6 Q))))
set_option maxHeartbeats 4000000 in
set_option maxRecDepth 100000 in
theorem kX8_isAlign (l : Launch) (D : va_G) (dA : Nat → ClassId) (ad : Int → Nat → Nat) (a0 : Int) (σ : ZS) (Q : Int → ZS → Prop) (sz : Nat) (hw : wpX8_isAlign a0 σ Q) : Met l yX8_isAlign (gws yX8_isAlign cX8_isAlign 1 (some .boolean)) (gR 2 0 0) (gPre D dA [.int (Int32.ofInt a0)] (zC dA ad σ) sz) (va_Qi (zQi Q) (gAt D dA (va_A (zC dA ad σ) sz) (zC dA ad)) (va_A (zC dA ad σ) sz)) 0 0 (va_A (zC dA ad σ) sz) := by
  refine Met.ofW (cc := cX8_isAlign) (maxL := 1) (ret := (some .boolean)) (by decide) rfl ?_
  intro p e s m args below meth c s₁ B hml hv
  obtain ⟨rfl, hsz, hP, hK, hD0⟩ := hv
  have hx := B.exec
  have hb := B.bytes
  have hr := B.returns
  have hts := atoms_spec (ws := gws yX8_isAlign cX8_isAlign 1 (some .boolean)) B.pre
  have hg : ∀ w ∈ gw, w.before _ s = true := fun w h => hts w (List.mem_cons_of_mem _ h)
  have hown : s.vm.findClass RX8 = some m.cls := findClass_of_methodNamed B.named
  have hlocks := B.notSynchronized
  subst hsz
  have hD := hD0.self (sz := s.heap.size)
  generalize hAe : va_A (zC dA ad σ) s.heap.size = A at hD ⊢
  have hA : ∀ q : Nat, s.heap.size ≤ q → A q := fun q h => by rw [← hAe]; exact Or.inr h
  have hS : va_S A s.heap s.heap [] := va_S.rf
  have hl := lv_entry ([.int (Int32.ofInt a0)]) (n := 1) (Nat.le_of_ble_eq_true rfl)
  rw [lg_entry_eq]
  generalize (lg_sl ([.int (Int32.ofInt a0)]) ++ List.replicate (1 - (lg_sl ([.int (Int32.ofInt a0)])).length) Slot.unset).toArray = ls at hl ⊢
  have hl : lv_has ls 1 [(0, .int (Int32.ofInt a0))] := hl
  have hret : ∀ (v : Int) (σ : ZS) (H : Heap) (locs : List Loc) (ls : Array Slot) (pc : Nat), (0 ≤ v ∧ v ≤ 1) → Q v σ → va_P D vwC (zC dA ad σ) H → va_D A (zC dA ad σ) → va_S A s.heap H locs → decode cX8_isAlign pc = .ok (.ireturn, 1) → W p l e (gR 2 0 0) s m #[.int (Int32.ofInt a0)] below meth c H locs 0 0 (MQ below (va_Qi (zQi Q) (gAt D dA A (zC dA ad)) A) #[.int (Int32.ofInt a0)] s 0 0 A) (F0 m pc ls [.int (Int32.ofInt v)]) := fun v σ H locs ls pc hv hw hP hD hS hd => g_iret hx hb hr (z_nb hv) hlocks hK σ hP hD hS ⟨v, rfl, hw⟩ (Nat.le_of_ble_eq_true rfl) (Nat.le_of_ble_eq_true rfl) hd
  generalize MQ below (va_Qi (zQi Q) (gAt D dA A (zC dA ad)) A) #[.int (Int32.ofInt a0)] s 0 0 A = QQ at hret ⊢
  have j24 : ∀ (s0 : Int) (σ : ZS), ∀ (H : Heap) (locs : List Loc) (ls : Array Slot), va_P D vwC (zC dA ad σ) H → va_D A (zC dA ad σ) → va_S A s.heap H locs → lv_has ls 1 [] → wpX8_isAlign_24 s0 σ Q → W p l e (gR 2 0 0) s m #[.int (Int32.ofInt a0)] below meth c H locs 0 0 QQ (F0 m 24 ls [.int (Int32.ofInt s0)]) := by
    intro s0 σ H locs ls hP hD hS hl hw
    unfold wpX8_isAlign_24 at hw
    obtain ⟨o1, hw⟩ := hw
    exact hret s0 σ _ _ _ _ o1 hw hP hD hS dX8_isAlign_24
  have j23 : ∀ (σ : ZS), ∀ (H : Heap) (locs : List Loc) (ls : Array Slot), va_P D vwC (zC dA ad σ) H → va_D A (zC dA ad σ) → va_S A s.heap H locs → lv_has ls 1 [] → wpX8_isAlign_23 σ Q → W p l e (gR 2 0 0) s m #[.int (Int32.ofInt a0)] below meth c H locs 0 0 QQ (F0 m 23 ls []) := by
    intro σ H locs ls hP hD hS hl hw
    unfold wpX8_isAlign_23 at hw
    refine lv_iconst (v := Int32.ofInt 0) hx hb dX8_isAlign_23 (by decide) ?_
    exact j24 0 σ _ _ _ hP hD hS (lv_sub hl [] rfl) hw
  unfold wpX8_isAlign at hw
  refine lv_iload_n hx hb dX8_isAlign_0 rfl (lv_at hl 0 rfl) ?_
  refine lv_iconst (v := Int32.ofInt 1) hx hb dX8_isAlign_1 (by decide) ?_
  obtain ⟨o2, hw⟩ := hw
  refine z_icmp_lt (tgt := 23) hx hb o2 (by decide) dX8_isAlign_2 (by decide) (fun k3 => ?_) (fun k3 => ?_)
  · replace hw := hw.1 k3
    exact j23 σ _ _ _ hP hD hS (lv_sub hl [] rfl) hw
  · replace hw := hw.2 k3
    refine lv_iload_n hx hb dX8_isAlign_5 rfl (lv_at hl 0 rfl) ?_
    refine lv_bipush (v := Int32.ofInt 16) hx hb dX8_isAlign_6 (by decide) ?_
    refine z_icmp_gt (tgt := 23) hx hb o2 (by decide) dX8_isAlign_8 (by decide) (fun k4 => ?_) (fun k4 => ?_)
    · replace hw := hw.1 k4
      exact j23 σ _ _ _ hP hD hS (lv_sub hl [] rfl) hw
    · replace hw := hw.2 k4
      refine lv_iload_n hx hb dX8_isAlign_11 rfl (lv_at hl 0 rfl) ?_
      refine z_Si (n := 1) (As := [.int (Int32.ofInt a0)]) (rest := []) hx hb hml hg hown hK hP hD hS hA (kJ6_bitCount_0f7a4 l D dA ad a0 σ _ _ hw) q986 q174 q984 q985 (by decide +kernel) ⟨(Nat.le_of_ble_eq_true rfl), (Nat.le_of_ble_eq_true rfl)⟩ rfl hl.1 rfl (Nat.le_of_ble_eq_true rfl) dX8_isAlign_12 ⟨(Nat.le_of_ble_eq_true rfl), (Nat.le_of_ble_eq_true rfl)⟩ (fun x5 σ6 H locs hw hP hD hS => ?_)
      refine lv_iconst (v := Int32.ofInt 1) hx hb dX8_isAlign_15 (by decide) ?_
      obtain ⟨o7, hw⟩ := hw
      refine z_icmp_ne (tgt := 23) hx hb o7 (by decide) dX8_isAlign_16 (by decide) (fun k8 => ?_) (fun k8 => ?_)
      · replace hw := hw.1 k8
        exact j23 σ6 _ _ _ hP hD hS (lv_sub hl [] rfl) hw
      · replace hw := hw.2 k8
        refine lv_iconst (v := Int32.ofInt 1) hx hb dX8_isAlign_19 (by decide) ?_
        refine lv_goto (tgt := 24) hx hb dX8_isAlign_20 (by decide) ?_
        exact j24 1 σ6 _ _ _ hP hD hS (lv_sub hl [] rfl) hw
def wpX8_seg_33 (σ : ZS) (Q : Int → ZS → Prop) : Prop := Q 0 σ
def wpX8_seg (σ : ZS) (Q : Int → ZS → Prop) : Prop := wpX8_take 3 σ (fun (x1 : Int) (σ2 : ZS) => (-2147483648 ≤ x1 ∧ x1 ≤ 2147483647) ∧ (¬ x1 = 0 → wpX8_type σ2 (fun (x5 : Int) (σ6 : ZS) => (-2147483648 ≤ x5 ∧ x5 ≤ 2147483647) ∧ (¬ x5 = 2 → wpX8_seg_33 σ6 Q) ∧ (x5 = 2 → wpX8_value σ6 (fun (x9 : Int) (σ10 : ZS) => wpX8_isAlign x9 σ10 (fun (x11 : Int) (σ12 : ZS) => (-2147483648 ≤ x11 ∧ x11 ≤ 2147483647) ∧ (¬ x11 = 0 → wpX8_value σ12 (fun (x15 : Int) (σ16 : ZS) => wpX8_addNamed 0 x15 (zI σ 14 4) σ16 (fun (σ18 : ZS) => Q 1 (zsI (zsI σ18 14 4 ((zI σ18 14 4) + 1)) 14 5 1)))) ∧ (x11 = 0 → wpX8_seg_33 σ12 Q)))))) ∧ (x1 = 0 → Q 0 σ2))
set_option maxHeartbeats 4000000 in
set_option maxRecDepth 100000 in
theorem kX8_seg (l : Launch) (D : va_G) (dA : Nat → ClassId) (ad : Int → Nat → Nat) (σ : ZS) (Q : Int → ZS → Prop) (sz : Nat) (hw : wpX8_seg σ Q) : Met l yX8_seg (gws yX8_seg cX8_seg 2 (some .boolean)) (gR 3 0 0) (gPre D dA [.ref (ad 14 1000)] (zC dA ad σ) sz) (va_Qi (zQi Q) (gAt D dA (va_A (zC dA ad σ) sz) (zC dA ad)) (va_A (zC dA ad σ) sz)) 0 0 (va_A (zC dA ad σ) sz) := by
  refine Met.ofW (cc := cX8_seg) (maxL := 2) (ret := (some .boolean)) (by decide) rfl ?_
  intro p e s m args below meth c s₁ B hml hv
  obtain ⟨rfl, hsz, hP, hK, hD0⟩ := hv
  have hx := B.exec
  have hb := B.bytes
  have hr := B.returns
  have hts := atoms_spec (ws := gws yX8_seg cX8_seg 2 (some .boolean)) B.pre
  have hg : ∀ w ∈ gw, w.before _ s = true := fun w h => hts w (List.mem_cons_of_mem _ h)
  have hown : s.vm.findClass RX8 = some m.cls := findClass_of_methodNamed B.named
  have hlocks := B.notSynchronized
  subst hsz
  have hD := hD0.self (sz := s.heap.size)
  generalize hAe : va_A (zC dA ad σ) s.heap.size = A at hD ⊢
  have hA : ∀ q : Nat, s.heap.size ≤ q → A q := fun q h => by rw [← hAe]; exact Or.inr h
  have hS : va_S A s.heap s.heap [] := va_S.rf
  have hl := lv_entry ([.ref (ad 14 1000)]) (n := 2) (Nat.le_of_ble_eq_true rfl)
  rw [lg_entry_eq]
  generalize (lg_sl ([.ref (ad 14 1000)]) ++ List.replicate (2 - (lg_sl ([.ref (ad 14 1000)])).length) Slot.unset).toArray = ls at hl ⊢
  have hl : lv_has ls 2 [(0, .ref (ad 14 1000))] := hl
  have hret : ∀ (v : Int) (σ : ZS) (H : Heap) (locs : List Loc) (ls : Array Slot) (pc : Nat), (0 ≤ v ∧ v ≤ 1) → Q v σ → va_P D vwC (zC dA ad σ) H → va_D A (zC dA ad σ) → va_S A s.heap H locs → decode cX8_seg pc = .ok (.ireturn, 1) → W p l e (gR 3 0 0) s m #[.ref (ad 14 1000)] below meth c H locs 0 0 (MQ below (va_Qi (zQi Q) (gAt D dA A (zC dA ad)) A) #[.ref (ad 14 1000)] s 0 0 A) (F0 m pc ls [.int (Int32.ofInt v)]) := fun v σ H locs ls pc hv hw hP hD hS hd => g_iret hx hb hr (z_nb hv) hlocks hK σ hP hD hS ⟨v, rfl, hw⟩ (Nat.le_of_ble_eq_true rfl) (Nat.le_of_ble_eq_true rfl) hd
  generalize MQ below (va_Qi (zQi Q) (gAt D dA A (zC dA ad)) A) #[.ref (ad 14 1000)] s 0 0 A = QQ at hret ⊢
  have j33 : ∀ (σ : ZS), ∀ (H : Heap) (locs : List Loc) (ls : Array Slot), va_P D vwC (zC dA ad σ) H → va_D A (zC dA ad σ) → va_S A s.heap H locs → lv_has ls 2 [] → wpX8_seg_33 σ Q → W p l e (gR 3 0 0) s m #[.ref (ad 14 1000)] below meth c H locs 0 0 QQ (F0 m 33 ls []) := by
    intro σ H locs ls hP hD hS hl hw
    unfold wpX8_seg_33 at hw
    refine lv_iconst (v := Int32.ofInt 0) hx hb dX8_seg_33 (by decide) ?_
    exact hret 0 σ _ _ _ _ (by decide) hw hP hD hS dX8_seg_34
  unfold wpX8_seg at hw
  refine lv_aload_n hx hb dX8_seg_0 rfl (lv_at hl 0 rfl) ?_
  refine zgC14_4 hx hb hg hown hK hP q350 dX8_seg_1 ?_
  refine lv_istore_n (lv' := [(1, .int (Int32.ofInt (zI σ 14 4))), (0, .ref (ad 14 1000))]) hx hb dX8_seg_4 rfl hl (by decide) rfl (fun ls hl => ?_)
  refine lv_aload_n hx hb dX8_seg_5 rfl (lv_at hl 1 rfl) ?_
  refine lv_iconst (v := Int32.ofInt 3) hx hb dX8_seg_6 (by decide) ?_
  refine z_Vi (n := 1) (As := [.int (Int32.ofInt 3)]) (rest := []) hx hb hml hg hown hK hP hD hS hA (kX8_take l D dA ad 3 σ _ _ hw) (zoC14) rfl q954 q153 q951 q953 q7 (by decide +kernel) ⟨(Nat.le_of_ble_eq_true rfl), (Nat.le_of_ble_eq_true rfl)⟩ rfl hl.1 rfl (Nat.le_of_ble_eq_true rfl) dX8_seg_7 ⟨(Nat.le_of_ble_eq_true rfl), (Nat.le_of_ble_eq_true rfl)⟩ (fun x1 σ2 H locs hw hP hD hS => ?_)
  obtain ⟨o3, hw⟩ := hw
  refine z_if_ne (tgt := 15) hx hb o3 dX8_seg_10 (by decide) (fun k4 => ?_) (fun k4 => ?_)
  · replace hw := hw.1 k4
    refine lv_aload_n hx hb dX8_seg_15 rfl (lv_at hl 1 rfl) ?_
    refine z_Vi (n := 0) (As := []) (rest := []) hx hb hml hg hown hK hP hD hS hA (kX8_type l D dA ad σ2 _ _ hw) (zoC14) rfl q946 q153 q943 q945 q5 (by decide +kernel) ⟨(Nat.le_of_ble_eq_true rfl), (Nat.le_of_ble_eq_true rfl)⟩ rfl hl.1 rfl (Nat.le_of_ble_eq_true rfl) dX8_seg_16 ⟨(Nat.le_of_ble_eq_true rfl), (Nat.le_of_ble_eq_true rfl)⟩ (fun x5 σ6 H locs hw hP hD hS => ?_)
    refine lv_iconst (v := Int32.ofInt 2) hx hb dX8_seg_19 (by decide) ?_
    obtain ⟨o7, hw⟩ := hw
    refine z_icmp_ne (tgt := 33) hx hb o7 (by decide) dX8_seg_20 (by decide) (fun k8 => ?_) (fun k8 => ?_)
    · replace hw := hw.1 k8
      exact j33 σ6 _ _ _ hP hD hS (lv_sub hl [] rfl) hw
    · replace hw := hw.2 k8
      refine lv_aload_n hx hb dX8_seg_23 rfl (lv_at hl 1 rfl) ?_
      refine z_Vi (n := 0) (As := []) (rest := []) hx hb hml hg hown hK hP hD hS hA (kX8_value l D dA ad σ6 _ _ hw) (zoC14) rfl q966 q153 q963 q965 q9 (by decide +kernel) ⟨(Nat.le_of_ble_eq_true rfl), (Nat.le_of_ble_eq_true rfl)⟩ rfl hl.1 rfl (Nat.le_of_ble_eq_true rfl) dX8_seg_24 ⟨(Nat.le_of_ble_eq_true rfl), (Nat.le_of_ble_eq_true rfl)⟩ (fun x9 σ10 H locs hw hP hD hS => ?_)
      refine z_Si (n := 1) (As := [.int (Int32.ofInt x9)]) (rest := []) hx hb hml hg hown hK hP hD hS hA (kX8_isAlign l D dA ad x9 σ10 _ _ hw) q983 q153 q981 q982 (by decide +kernel) ⟨(Nat.le_of_ble_eq_true rfl), (Nat.le_of_ble_eq_true rfl)⟩ rfl hl.1 rfl (Nat.le_of_ble_eq_true rfl) dX8_seg_27 ⟨(Nat.le_of_ble_eq_true rfl), (Nat.le_of_ble_eq_true rfl)⟩ (fun x11 σ12 H locs hw hP hD hS => ?_)
      obtain ⟨o13, hw⟩ := hw
      refine z_if_ne (tgt := 35) hx hb o13 dX8_seg_30 (by decide) (fun k14 => ?_) (fun k14 => ?_)
      · replace hw := hw.1 k14
        refine lv_aload_n hx hb dX8_seg_35 rfl (lv_at hl 1 rfl) ?_
        refine lv_iconst (v := Int32.ofInt 0) hx hb dX8_seg_36 (by decide) ?_
        refine lv_aload_n hx hb dX8_seg_37 rfl (lv_at hl 1 rfl) ?_
        refine z_Vi (n := 0) (As := []) (rest := [.int (Int32.ofInt 0), .ref (ad 14 1000)]) hx hb hml hg hown hK hP hD hS hA (kX8_value l D dA ad σ12 _ _ hw) (zoC14) rfl q966 q153 q963 q965 q9 (by decide +kernel) ⟨(Nat.le_of_ble_eq_true rfl), (Nat.le_of_ble_eq_true rfl)⟩ rfl hl.1 rfl (Nat.le_of_ble_eq_true rfl) dX8_seg_38 ⟨(Nat.le_of_ble_eq_true rfl), (Nat.le_of_ble_eq_true rfl)⟩ (fun x15 σ16 H locs hw hP hD hS => ?_)
        refine lv_iload_n hx hb dX8_seg_41 rfl (lv_at hl 0 rfl) ?_
        refine z_Vv (n := 3) (As := [.int (Int32.ofInt 0), .int (Int32.ofInt x15), .int (Int32.ofInt (zI σ 14 4))]) (rest := []) hx hb hml hg hown hK hP hD hS hA (kX8_addNamed l D dA ad 0 x15 (zI σ 14 4) σ16 _ _ hw) (zoC14) rfl q958 q153 q955 q957 q8 (by decide +kernel) ⟨(Nat.le_of_ble_eq_true rfl), (Nat.le_of_ble_eq_true rfl)⟩ rfl hl.1 rfl (Nat.le_of_ble_eq_true rfl) dX8_seg_42 ⟨(Nat.le_of_ble_eq_true rfl), (Nat.le_of_ble_eq_true rfl)⟩ (fun σ18 H locs hw hP hD hS => ?_)
        refine lv_aload_n hx hb dX8_seg_45 rfl (lv_at hl 1 rfl) ?_
        refine lv_dup hx hb dX8_seg_46 rfl ?_
        refine zgC14_4 hx hb hg hown hK hP q350 dX8_seg_47 ?_
        refine lv_iconst (v := Int32.ofInt 1) hx hb dX8_seg_50 (by decide) ?_
        refine z_iadd hx hb dX8_seg_51 ?_
        refine zpC14_4 (v := ((zI σ18 14 4) + 1)) hx hb hg hown hK hP hD hS q350 dX8_seg_52 (fun H locs hP hD hS => ?_)
        refine lv_aload_n hx hb dX8_seg_55 rfl (lv_at hl 1 rfl) ?_
        refine lv_iconst (v := Int32.ofInt 1) hx hb dX8_seg_56 (by decide) ?_
        refine zpC14_5 (v := 1) hx hb hg hown (by decide) hK hP hD hS q351 dX8_seg_57 (fun H locs hP hD hS => ?_)
        refine lv_iconst (v := Int32.ofInt 1) hx hb dX8_seg_60 (by decide) ?_
        exact hret 1 (zsI (zsI σ18 14 4 ((zI σ18 14 4) + 1)) 14 5 1) _ _ _ _ (by decide) hw hP hD hS dX8_seg_61
      · replace hw := hw.2 k14
        exact j33 σ12 _ _ _ hP hD hS (lv_sub hl [] rfl) hw
  · replace hw := hw.2 k4
    refine lv_iconst (v := Int32.ofInt 0) hx hb dX8_seg_13 (by decide) ?_
    exact hret 0 σ2 _ _ _ _ (by decide) hw hP hD hS dX8_seg_14
def wpX8_named_34 (v1 v2 v3 s0 : Int) (σ : ZS) (Q : Int → ZS → Prop) : Prop := (0 ≤ v3 ∧ v3 < 481) ∧ wpX0_add v1 v2 (zA σ 12 1 v3) (zA σ 12 2 v3) s0 σ (fun (σ3 : ZS) => Q 1 σ3)
def wpX8_named (a1 a2 : Int) (σ : ZS) (Q : Int → ZS → Prop) : Prop := wpX8_take 3 σ (fun (x4 : Int) (σ5 : ZS) => (-2147483648 ≤ x4 ∧ x4 ≤ 2147483647) ∧ (¬ x4 = 0 → (-2147483648 ≤ (zI σ 14 4) ∧ (zI σ 14 4) ≤ 2147483647) ∧ ((zI σ 14 4) ≤ 0 → wpX8_named_34 a1 a2 (zI σ 14 4) (-1) σ5 Q) ∧ (¬ (zI σ 14 4) ≤ 0 → (0 ≤ ((zI σ 14 4) - 1) ∧ ((zI σ 14 4) - 1) < 481) ∧ wpX8_named_34 a1 a2 (zI σ 14 4) (zA σ5 12 2 ((zI σ 14 4) - 1)) σ5 Q)) ∧ (x4 = 0 → Q 0 σ5))
set_option maxHeartbeats 4000000 in
set_option maxRecDepth 100000 in
theorem kX8_named (l : Launch) (D : va_G) (dA : Nat → ClassId) (ad : Int → Nat → Nat) (a1 a2 : Int) (σ : ZS) (Q : Int → ZS → Prop) (sz : Nat) (hw : wpX8_named a1 a2 σ Q) : Met l yX8_named (gws yX8_named cX8_named 5 (some .boolean)) (gR 2 0 0) (gPre D dA [.ref (ad 14 1000), .int (Int32.ofInt a1), .int (Int32.ofInt a2)] (zC dA ad σ) sz) (va_Qi (zQi Q) (gAt D dA (va_A (zC dA ad σ) sz) (zC dA ad)) (va_A (zC dA ad σ) sz)) 0 0 (va_A (zC dA ad σ) sz) := by
  refine Met.ofW (cc := cX8_named) (maxL := 5) (ret := (some .boolean)) (by decide) rfl ?_
  intro p e s m args below meth c s₁ B hml hv
  obtain ⟨rfl, hsz, hP, hK, hD0⟩ := hv
  have hx := B.exec
  have hb := B.bytes
  have hr := B.returns
  have hts := atoms_spec (ws := gws yX8_named cX8_named 5 (some .boolean)) B.pre
  have hg : ∀ w ∈ gw, w.before _ s = true := fun w h => hts w (List.mem_cons_of_mem _ h)
  have hown : s.vm.findClass RX8 = some m.cls := findClass_of_methodNamed B.named
  have hlocks := B.notSynchronized
  subst hsz
  have hD := hD0.self (sz := s.heap.size)
  generalize hAe : va_A (zC dA ad σ) s.heap.size = A at hD ⊢
  have hA : ∀ q : Nat, s.heap.size ≤ q → A q := fun q h => by rw [← hAe]; exact Or.inr h
  have hS : va_S A s.heap s.heap [] := va_S.rf
  have hl := lv_entry ([.ref (ad 14 1000), .int (Int32.ofInt a1), .int (Int32.ofInt a2)]) (n := 5) (Nat.le_of_ble_eq_true rfl)
  rw [lg_entry_eq]
  generalize (lg_sl ([.ref (ad 14 1000), .int (Int32.ofInt a1), .int (Int32.ofInt a2)]) ++ List.replicate (5 - (lg_sl ([.ref (ad 14 1000), .int (Int32.ofInt a1), .int (Int32.ofInt a2)])).length) Slot.unset).toArray = ls at hl ⊢
  have hl : lv_has ls 5 [(0, .ref (ad 14 1000)), (1, .int (Int32.ofInt a1)), (2, .int (Int32.ofInt a2))] := hl
  have hret : ∀ (v : Int) (σ : ZS) (H : Heap) (locs : List Loc) (ls : Array Slot) (pc : Nat), (0 ≤ v ∧ v ≤ 1) → Q v σ → va_P D vwC (zC dA ad σ) H → va_D A (zC dA ad σ) → va_S A s.heap H locs → decode cX8_named pc = .ok (.ireturn, 1) → W p l e (gR 2 0 0) s m #[.ref (ad 14 1000), .int (Int32.ofInt a1), .int (Int32.ofInt a2)] below meth c H locs 0 0 (MQ below (va_Qi (zQi Q) (gAt D dA A (zC dA ad)) A) #[.ref (ad 14 1000), .int (Int32.ofInt a1), .int (Int32.ofInt a2)] s 0 0 A) (F0 m pc ls [.int (Int32.ofInt v)]) := fun v σ H locs ls pc hv hw hP hD hS hd => g_iret hx hb hr (z_nb hv) hlocks hK σ hP hD hS ⟨v, rfl, hw⟩ (Nat.le_of_ble_eq_true rfl) (Nat.le_of_ble_eq_true rfl) hd
  generalize MQ below (va_Qi (zQi Q) (gAt D dA A (zC dA ad)) A) #[.ref (ad 14 1000), .int (Int32.ofInt a1), .int (Int32.ofInt a2)] s 0 0 A = QQ at hret ⊢
  have j34 : ∀ (v1 v2 v3 s0 : Int) (σ : ZS), ∀ (H : Heap) (locs : List Loc) (ls : Array Slot), va_P D vwC (zC dA ad σ) H → va_D A (zC dA ad σ) → va_S A s.heap H locs → lv_has ls 5 [(0, .ref (ad 14 1000)), (1, .int (Int32.ofInt v1)), (2, .int (Int32.ofInt v2)), (3, .int (Int32.ofInt v3))] → wpX8_named_34 v1 v2 v3 s0 σ Q → W p l e (gR 2 0 0) s m #[.ref (ad 14 1000), .int (Int32.ofInt a1), .int (Int32.ofInt a2)] below meth c H locs 0 0 QQ (F0 m 34 ls [.int (Int32.ofInt s0)]) := by
    intro v1 v2 v3 s0 σ H locs ls hP hD hS hl hw
    unfold wpX8_named_34 at hw
    refine lv_istore (lv' := [(4, .int (Int32.ofInt s0)), (0, .ref (ad 14 1000)), (1, .int (Int32.ofInt v1)), (2, .int (Int32.ofInt v2)), (3, .int (Int32.ofInt v3))]) hx hb dX8_named_34 hl (by decide) rfl (fun ls hl => ?_)
    refine lv_aload_n hx hb dX8_named_36 rfl (lv_at hl 1 rfl) ?_
    refine zgC14_1 hx hb hg hown hK hP q347 dX8_named_37 ?_
    refine lv_iload_n hx hb dX8_named_40 rfl (lv_at hl 2 rfl) ?_
    refine lv_iload_n hx hb dX8_named_41 rfl (lv_at hl 3 rfl) ?_
    refine lv_aload_n hx hb dX8_named_42 rfl (lv_at hl 1 rfl) ?_
    refine zgC14_0 hx hb hg hown hK hP q346 dX8_named_43 ?_
    refine zgC12_1 hx hb hg hown hK hP q234 dX8_named_46 ?_
    refine lv_iload_n hx hb dX8_named_49 rfl (lv_at hl 4 rfl) ?_
    obtain ⟨o1, hw⟩ := hw
    refine zlC12_1 hx hb o1 hK hP dX8_named_50 ?_
    refine lv_aload_n hx hb dX8_named_51 rfl (lv_at hl 1 rfl) ?_
    refine zgC14_0 hx hb hg hown hK hP q346 dX8_named_52 ?_
    refine zgC12_2 hx hb hg hown hK hP q236 dX8_named_55 ?_
    refine lv_iload_n hx hb dX8_named_58 rfl (lv_at hl 4 rfl) ?_
    refine zlC12_2 hx hb o1 hK hP dX8_named_59 ?_
    refine lv_iload hx hb dX8_named_60 (lv_at hl 0 rfl) ?_
    refine z_Vv (n := 5) (As := [.int (Int32.ofInt v1), .int (Int32.ofInt v2), .int (Int32.ofInt (zA σ 12 1 v3)), .int (Int32.ofInt (zA σ 12 2 v3)), .int (Int32.ofInt s0)]) (rest := []) hx hb hml hg hown hK hP hD hS hA (kX0_add l D dA ad v1 v2 (zA σ 12 1 v3) (zA σ 12 2 v3) s0 σ _ _ hw) (zoC13) rfl q962 q152 q959 q960 q961 (by decide +kernel) ⟨(Nat.le_of_ble_eq_true rfl), (Nat.le_of_ble_eq_true rfl)⟩ rfl hl.1 rfl (Nat.le_of_ble_eq_true rfl) dX8_named_62 ⟨(Nat.le_of_ble_eq_true rfl), (Nat.le_of_ble_eq_true rfl)⟩ (fun σ3 H locs hw hP hD hS => ?_)
    refine lv_iconst (v := Int32.ofInt 1) hx hb dX8_named_65 (by decide) ?_
    exact hret 1 σ3 _ _ _ _ (by decide) hw hP hD hS dX8_named_66
  unfold wpX8_named at hw
  refine lv_aload_n hx hb dX8_named_0 rfl (lv_at hl 0 rfl) ?_
  refine zgC14_4 hx hb hg hown hK hP q350 dX8_named_1 ?_
  refine lv_istore_n (lv' := [(3, .int (Int32.ofInt (zI σ 14 4))), (0, .ref (ad 14 1000)), (1, .int (Int32.ofInt a1)), (2, .int (Int32.ofInt a2))]) hx hb dX8_named_4 rfl hl (by decide) rfl (fun ls hl => ?_)
  refine lv_aload_n hx hb dX8_named_5 rfl (lv_at hl 1 rfl) ?_
  refine lv_iconst (v := Int32.ofInt 3) hx hb dX8_named_6 (by decide) ?_
  refine z_Vi (n := 1) (As := [.int (Int32.ofInt 3)]) (rest := []) hx hb hml hg hown hK hP hD hS hA (kX8_take l D dA ad 3 σ _ _ hw) (zoC14) rfl q954 q153 q951 q953 q7 (by decide +kernel) ⟨(Nat.le_of_ble_eq_true rfl), (Nat.le_of_ble_eq_true rfl)⟩ rfl hl.1 rfl (Nat.le_of_ble_eq_true rfl) dX8_named_7 ⟨(Nat.le_of_ble_eq_true rfl), (Nat.le_of_ble_eq_true rfl)⟩ (fun x4 σ5 H locs hw hP hD hS => ?_)
  obtain ⟨o6, hw⟩ := hw
  refine z_if_ne (tgt := 15) hx hb o6 dX8_named_10 (by decide) (fun k7 => ?_) (fun k7 => ?_)
  · replace hw := hw.1 k7
    refine lv_iload_n hx hb dX8_named_15 rfl (lv_at hl 0 rfl) ?_
    obtain ⟨o8, hw⟩ := hw
    refine z_if_le (tgt := 33) hx hb o8 dX8_named_16 (by decide) (fun k9 => ?_) (fun k9 => ?_)
    · replace hw := hw.1 k9
      refine lv_iconst (v := Int32.ofInt (-1)) hx hb dX8_named_33 (by decide) ?_
      exact j34 a1 a2 (zI σ 14 4) (-1) σ5 _ _ _ hP hD hS (lv_sub hl [1, 2, 3, 0] rfl) hw
    · replace hw := hw.2 k9
      refine lv_aload_n hx hb dX8_named_19 rfl (lv_at hl 1 rfl) ?_
      refine zgC14_0 hx hb hg hown hK hP q346 dX8_named_20 ?_
      refine zgC12_2 hx hb hg hown hK hP q236 dX8_named_23 ?_
      refine lv_iload_n hx hb dX8_named_26 rfl (lv_at hl 0 rfl) ?_
      refine lv_iconst (v := Int32.ofInt 1) hx hb dX8_named_27 (by decide) ?_
      refine z_isub hx hb dX8_named_28 ?_
      obtain ⟨o10, hw⟩ := hw
      refine zlC12_2 hx hb o10 hK hP dX8_named_29 ?_
      refine lv_goto (tgt := 34) hx hb dX8_named_30 (by decide) ?_
      exact j34 a1 a2 (zI σ 14 4) (zA σ5 12 2 ((zI σ 14 4) - 1)) σ5 _ _ _ hP hD hS (lv_sub hl [1, 2, 3, 0] rfl) hw
  · replace hw := hw.2 k7
    refine lv_iconst (v := Int32.ofInt 0) hx hb dX8_named_13 (by decide) ?_
    exact hret 0 σ5 _ _ _ _ (by decide) hw hP hD hS dX8_named_14
def wpX7_clear (g0 a1 : Int) (σ : ZS) (Q : ZS → Prop) : Prop := (5 ≤ g0 ∧ g0 ≤ 6) ∧ Q (zsI (zsI (zsI (zsI (zsI (zsI (zsI (zsI σ g0 0 a1) g0 1 0) g0 2 0) g0 3 (-1)) g0 4 (-1)) g0 5 0) g0 6 0) g0 7 0)
set_option maxHeartbeats 4000000 in
set_option maxRecDepth 100000 in
theorem kX7_clear (l : Launch) (D : va_G) (dA : Nat → ClassId) (ad : Int → Nat → Nat) (g0 a1 : Int) (σ : ZS) (Q : ZS → Prop) (sz : Nat) (hw : wpX7_clear g0 a1 σ Q) : Met l yX7_clear (gws yX7_clear cX7_clear 2 none) (gR 1 0 0) (gPre D dA [.ref (ad g0 1000), .int (Int32.ofInt a1)] (zC dA ad σ) sz) (va_Qv Q (gAt D dA (va_A (zC dA ad σ) sz) (zC dA ad)) (va_A (zC dA ad σ) sz)) 0 0 (va_A (zC dA ad σ) sz) := by
  refine Met.ofW (cc := cX7_clear) (maxL := 2) (ret := none) (by decide) rfl ?_
  intro p e s m args below meth c s₁ B hml hv
  obtain ⟨rfl, hsz, hP, hK, hD0⟩ := hv
  have hx := B.exec
  have hb := B.bytes
  have hr := B.returns
  have hts := atoms_spec (ws := gws yX7_clear cX7_clear 2 none) B.pre
  have hg : ∀ w ∈ gw, w.before _ s = true := fun w h => hts w (List.mem_cons_of_mem _ h)
  have hown : s.vm.findClass RX7 = some m.cls := findClass_of_methodNamed B.named
  have hlocks := B.notSynchronized
  subst hsz
  have hD := hD0.self (sz := s.heap.size)
  generalize hAe : va_A (zC dA ad σ) s.heap.size = A at hD ⊢
  have hA : ∀ q : Nat, s.heap.size ≤ q → A q := fun q h => by rw [← hAe]; exact Or.inr h
  have hS : va_S A s.heap s.heap [] := va_S.rf
  have hl := lv_entry ([.ref (ad g0 1000), .int (Int32.ofInt a1)]) (n := 2) (Nat.le_of_ble_eq_true rfl)
  rw [lg_entry_eq]
  generalize (lg_sl ([.ref (ad g0 1000), .int (Int32.ofInt a1)]) ++ List.replicate (2 - (lg_sl ([.ref (ad g0 1000), .int (Int32.ofInt a1)])).length) Slot.unset).toArray = ls at hl ⊢
  have hl : lv_has ls 2 [(0, .ref (ad g0 1000)), (1, .int (Int32.ofInt a1))] := hl
  have hret : ∀ (σ : ZS) (H : Heap) (locs : List Loc) (ls : Array Slot) (pc : Nat), Q σ → va_P D vwC (zC dA ad σ) H → va_D A (zC dA ad σ) → va_S A s.heap H locs → decode cX7_clear pc = .ok (.return_, 1) → W p l e (gR 1 0 0) s m #[.ref (ad g0 1000), .int (Int32.ofInt a1)] below meth c H locs 0 0 (MQ below (va_Qv Q (gAt D dA A (zC dA ad)) A) #[.ref (ad g0 1000), .int (Int32.ofInt a1)] s 0 0 A) (F0 m pc ls []) := fun σ H locs ls pc hw hP hD hS hd => g_vret hx hb hr hlocks hK σ hP hD hS hw (Nat.le_of_ble_eq_true rfl) (Nat.le_of_ble_eq_true rfl) hd
  generalize MQ below (va_Qv Q (gAt D dA A (zC dA ad)) A) #[.ref (ad g0 1000), .int (Int32.ofInt a1)] s 0 0 A = QQ at hret ⊢
  unfold wpX7_clear at hw
  refine lv_aload_n hx hb dX7_clear_0 rfl (lv_at hl 0 rfl) ?_
  refine lv_iload_n hx hb dX7_clear_1 rfl (lv_at hl 1 rfl) ?_
  obtain ⟨o1, hw⟩ := hw
  refine zpCO_0 (v := a1) hx hb hg hown o1 hK hP hD hS q307 dX7_clear_2 (fun H locs hP hD hS => ?_)
  refine lv_aload_n hx hb dX7_clear_5 rfl (lv_at hl 0 rfl) ?_
  refine lv_iconst (v := Int32.ofInt 0) hx hb dX7_clear_6 (by decide) ?_
  refine zpCO_1 (v := 0) hx hb hg hown o1 hK hP hD hS q310 dX7_clear_7 (fun H locs hP hD hS => ?_)
  refine lv_aload_n hx hb dX7_clear_10 rfl (lv_at hl 0 rfl) ?_
  refine lv_iconst (v := Int32.ofInt 0) hx hb dX7_clear_11 (by decide) ?_
  refine zpCO_2 (v := 0) hx hb hg hown o1 hK hP hD hS q313 dX7_clear_12 (fun H locs hP hD hS => ?_)
  refine lv_aload_n hx hb dX7_clear_15 rfl (lv_at hl 0 rfl) ?_
  refine lv_iconst (v := Int32.ofInt (-1)) hx hb dX7_clear_16 (by decide) ?_
  refine zpCO_3 (v := (-1)) hx hb hg hown o1 hK hP hD hS q316 dX7_clear_17 (fun H locs hP hD hS => ?_)
  refine lv_aload_n hx hb dX7_clear_20 rfl (lv_at hl 0 rfl) ?_
  refine lv_iconst (v := Int32.ofInt (-1)) hx hb dX7_clear_21 (by decide) ?_
  refine zpCO_4 (v := (-1)) hx hb hg hown o1 hK hP hD hS q319 dX7_clear_22 (fun H locs hP hD hS => ?_)
  refine lv_aload_n hx hb dX7_clear_25 rfl (lv_at hl 0 rfl) ?_
  refine lv_iconst (v := Int32.ofInt 0) hx hb dX7_clear_26 (by decide) ?_
  refine zpCO_5 (v := 0) hx hb hg hown o1 (by decide) hK hP hD hS q322 dX7_clear_27 (fun H locs hP hD hS => ?_)
  refine lv_aload_n hx hb dX7_clear_30 rfl (lv_at hl 0 rfl) ?_
  refine lv_iconst (v := Int32.ofInt 0) hx hb dX7_clear_31 (by decide) ?_
  refine zpCO_6 (v := 0) hx hb hg hown o1 hK hP hD hS q325 dX7_clear_32 (fun H locs hP hD hS => ?_)
  refine lv_aload_n hx hb dX7_clear_35 rfl (lv_at hl 0 rfl) ?_
  refine lv_iconst (v := Int32.ofInt 0) hx hb dX7_clear_36 (by decide) ?_
  refine zpCO_7 (v := 0) hx hb hg hown o1 hK hP hD hS q327 dX7_clear_37 (fun H locs hP hD hS => ?_)
  exact hret (zsI (zsI (zsI (zsI (zsI (zsI (zsI (zsI σ g0 0 a1) g0 1 0) g0 2 0) g0 3 (-1)) g0 4 (-1)) g0 5 0) g0 6 0) g0 7 0) _ _ _ _ hw hP hD hS dX7_clear_40
