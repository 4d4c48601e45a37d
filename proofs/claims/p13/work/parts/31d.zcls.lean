theorem q23 : Cond.selects RX8 yX8_mov yX8_mov ∈ gw := gw_in (i := 23) (by decide +kernel) rfl
theorem q24 : Cond.selects RX8 yX8_arithmetic yX8_arithmetic ∈ gw := gw_in (i := 24) (by decide +kernel) rfl
theorem q25 : Cond.selects RX8 yX8_onRegister yX8_onRegister ∈ gw := gw_in (i := 25) (by decide +kernel) rfl
theorem q26 : Cond.selects RX8 yX8_single yX8_single ∈ gw := gw_in (i := 26) (by decide +kernel) rfl
theorem q31 : Cond.selects RX2 yX2_blame yX2_blame ∈ gw := gw_in (i := 31) (by decide +kernel) rfl
theorem q155 : Cond.initialized RX2 ∈ gw := gw_in (i := 155) (by decide +kernel) rfl
theorem q197 : Cond.fieldLink RX2 71 "SegmentBench$Names" "role" "[I" ∈ gw := gw_in (i := 197) (by decide +kernel) rfl
theorem q206 : Cond.fieldLink RX2 33 "SegmentBench$Names" "crowdedAt" "I" ∈ gw := gw_in (i := 206) (by decide +kernel) rfl
theorem q262 : Cond.fieldLink RX2 74 "SegmentBench$Draft" "name" "[I" ∈ gw := gw_in (i := 262) (by decide +kernel) rfl
theorem q264 : Cond.fieldLink RX2 50 "SegmentBench$Draft" "place" "[I" ∈ gw := gw_in (i := 264) (by decide +kernel) rfl
theorem q308 : Cond.fieldLink RX0 59 "SegmentBench$Operand" "kind" "I" ∈ gw := gw_in (i := 308) (by decide +kernel) rfl
theorem q309 : Cond.fieldLink RX8 141 "SegmentBench$Operand" "kind" "I" ∈ gw := gw_in (i := 309) (by decide +kernel) rfl
theorem q311 : Cond.fieldLink RX0 62 "SegmentBench$Operand" "code" "I" ∈ gw := gw_in (i := 311) (by decide +kernel) rfl
theorem q349 : Cond.fieldLink RX8 24 "SegmentBench$Parse\x72" "right" "LSegmentBench$Operand;" ∈ gw := gw_in (i := 349) (by decide +kernel) rfl
theorem q371 : Cond.fieldLink RX2 9 "SegmentBench$Layout" "draft" "LSegmentBench$Draft;" ∈ gw := gw_in (i := 371) (by decide +kernel) rfl
theorem q372 : Cond.fieldLink RX2 15 "SegmentBench$Layout" "names" "LSegmentBench$Names;" ∈ gw := gw_in (i := 372) (by decide +kernel) rfl
theorem q376 : Cond.fieldLink RX2 30 "SegmentBench$Layout" "wrong" "I" ∈ gw := gw_in (i := 376) (by decide +kernel) rfl
theorem q608 : Cond.fieldLink RX10 17 "SegmentBench" "kind" "I" ∈ gw := gw_in (i := 608) (by decide +kernel) rfl
theorem q609 : Cond.fieldLink RX10 20 "SegmentBench" "place" "I" ∈ gw := gw_in (i := 609) (by decide +kernel) rfl
theorem q1039 : Cond.methodLink RX8 105 yX8_mov ∈ gw := gw_in (i := 1039) (by decide +kernel) rfl
theorem q1041 : Cond.instanceMethod yX8_mov ∈ gw := gw_in (i := 1041) (by decide +kernel) rfl
theorem q1042 : Cond.code yX8_mov cX8_mov 2 (some .boolean) ∈ gw := gw_in (i := 1042) (by decide +kernel) rfl
theorem q1043 : Cond.methodLink RX8 147 yX0_addWithM ∈ gw := gw_in (i := 1043) (by decide +kernel) rfl
theorem q1044 : Cond.instanceMethod yX0_addWithM ∈ gw := gw_in (i := 1044) (by decide +kernel) rfl
theorem q1045 : Cond.selects RX0 yX0_addWithM yX0_addWithM ∈ gw := gw_in (i := 1045) (by decide +kernel) rfl
theorem q1046 : Cond.code yX0_addWithM cX0_addWithM 5 none ∈ gw := gw_in (i := 1046) (by decide +kernel) rfl
theorem q1047 : Cond.methodLink RX0 55 yX0_addByte ∈ gw := gw_in (i := 1047) (by decide +kernel) rfl
theorem q1048 : Cond.instanceMethod yX0_addByte ∈ gw := gw_in (i := 1048) (by decide +kernel) rfl
theorem q1049 : Cond.selects RX0 yX0_addByte yX0_addByte ∈ gw := gw_in (i := 1049) (by decide +kernel) rfl
theorem q1050 : Cond.code yX0_addByte cX0_addByte 2 none ∈ gw := gw_in (i := 1050) (by decide +kernel) rfl
theorem q1051 : Cond.methodLink RX0 65 yX7_displacementSize ∈ gw := gw_in (i := 1051) (by decide +kernel) rfl
theorem q1052 : Cond.instanceMethod yX7_displacementSize ∈ gw := gw_in (i := 1052) (by decide +kernel) rfl
theorem q1053 : Cond.selects RX7 yX7_displacementSize yX7_displacementSize ∈ gw := gw_in (i := 1053) (by decide +kernel) rfl
theorem q1054 : Cond.code yX7_displacementSize cX7_displacementSize 2 (some .int) ∈ gw := gw_in (i := 1054) (by decide +kernel) rfl
theorem q1055 : Cond.methodLink RX7 41 yX7_isBare ∈ gw := gw_in (i := 1055) (by decide +kernel) rfl
theorem q1056 : Cond.instanceMethod yX7_isBare ∈ gw := gw_in (i := 1056) (by decide +kernel) rfl
theorem q1057 : Cond.selects RX7 yX7_isBare yX7_isBare ∈ gw := gw_in (i := 1057) (by decide +kernel) rfl
theorem q1058 : Cond.code yX7_isBare cX7_isBare 1 (some .boolean) ∈ gw := gw_in (i := 1058) (by decide +kernel) rfl
theorem q1059 : Cond.methodLink RX7 45 yX7_signedNumber ∈ gw := gw_in (i := 1059) (by decide +kernel) rfl
theorem q1060 : Cond.instanceMethod yX7_signedNumber ∈ gw := gw_in (i := 1060) (by decide +kernel) rfl
theorem q1061 : Cond.selects RX7 yX7_signedNumber yX7_signedNumber ∈ gw := gw_in (i := 1061) (by decide +kernel) rfl
theorem q1062 : Cond.code yX7_signedNumber cX7_signedNumber 1 (some .int) ∈ gw := gw_in (i := 1062) (by decide +kernel) rfl
theorem q1063 : Cond.methodLink RX7 49 yX7_mode ∈ gw := gw_in (i := 1063) (by decide +kernel) rfl
theorem q1064 : Cond.instanceMethod yX7_mode ∈ gw := gw_in (i := 1064) (by decide +kernel) rfl
theorem q1065 : Cond.selects RX7 yX7_mode yX7_mode ∈ gw := gw_in (i := 1065) (by decide +kernel) rfl
theorem q1066 : Cond.code yX7_mode cX7_mode 1 (some .int) ∈ gw := gw_in (i := 1066) (by decide +kernel) rfl
theorem q1067 : Cond.methodLink RX7 52 yX2_isShort ∈ gw := gw_in (i := 1067) (by decide +kernel) rfl
theorem q1068 : Cond.static yX2_isShort ∈ gw := gw_in (i := 1068) (by decide +kernel) rfl
theorem q1069 : Cond.code yX2_isShort cX2_isShort 1 (some .boolean) ∈ gw := gw_in (i := 1069) (by decide +kernel) rfl
theorem q1070 : Cond.methodLink RX0 69 yX7_isBare ∈ gw := gw_in (i := 1070) (by decide +kernel) rfl
theorem q1071 : Cond.methodLink RX0 73 yX7_mode ∈ gw := gw_in (i := 1071) (by decide +kernel) rfl
theorem q1072 : Cond.methodLink RX0 76 yX0_addValue ∈ gw := gw_in (i := 1072) (by decide +kernel) rfl
theorem q1073 : Cond.methodLink RX8 120 yX0_addByte ∈ gw := gw_in (i := 1073) (by decide +kernel) rfl
theorem q1074 : Cond.methodLink RX8 108 yX8_arithmetic ∈ gw := gw_in (i := 1074) (by decide +kernel) rfl
theorem q1076 : Cond.instanceMethod yX8_arithmetic ∈ gw := gw_in (i := 1076) (by decide +kernel) rfl
theorem q1077 : Cond.code yX8_arithmetic cX8_arithmetic 3 (some .boolean) ∈ gw := gw_in (i := 1077) (by decide +kernel) rfl
theorem q1078 : Cond.methodLink RX8 111 yX8_onRegister ∈ gw := gw_in (i := 1078) (by decide +kernel) rfl
theorem q1080 : Cond.instanceMethod yX8_onRegister ∈ gw := gw_in (i := 1080) (by decide +kernel) rfl
theorem q1081 : Cond.code yX8_onRegister cX8_onRegister 4 (some .boolean) ∈ gw := gw_in (i := 1081) (by decide +kernel) rfl
theorem q1082 : Cond.methodLink RX8 115 yX8_single ∈ gw := gw_in (i := 1082) (by decide +kernel) rfl
theorem q1084 : Cond.instanceMethod yX8_single ∈ gw := gw_in (i := 1084) (by decide +kernel) rfl
theorem q1085 : Cond.code yX8_single cX8_single 3 (some .boolean) ∈ gw := gw_in (i := 1085) (by decide +kernel) rfl
theorem q1122 : Cond.methodLink RX2 53 yX2_blame ∈ gw := gw_in (i := 1122) (by decide +kernel) rfl
theorem q1124 : Cond.instanceMethod yX2_blame ∈ gw := gw_in (i := 1124) (by decide +kernel) rfl
theorem q1125 : Cond.code yX2_blame cX2_blame 2 none ∈ gw := gw_in (i := 1125) (by decide +kernel) rfl
theorem dX7_signedNumber_0 : decode cX7_signedNumber 0 = .ok (.aload_n 0, 1) := by decide +kernel
theorem dX7_signedNumber_1 : decode cX7_signedNumber 1 = .ok (.getfield 20, 3) := by decide +kernel
theorem dX7_signedNumber_4 : decode cX7_signedNumber 4 = .ok (.i2s, 1) := by decide +kernel
theorem dX7_signedNumber_5 : decode cX7_signedNumber 5 = .ok (.ireturn, 1) := by decide +kernel
theorem dX7_mode_0 : decode cX7_mode 0 = .ok (.aload_n 0, 1) := by decide +kernel
theorem dX7_mode_1 : decode cX7_mode 1 = .ok (.getfield 33, 3) := by decide +kernel
theorem dX7_mode_4 : decode cX7_mode 4 = .ok (.ifCond .ne 22, 3) := by decide +kernel
theorem dX7_mode_26 : decode cX7_mode 26 = .ok (.aload_n 0, 1) := by decide +kernel
theorem dX7_mode_27 : decode cX7_mode 27 = .ok (.getfield 36, 3) := by decide +kernel
theorem dX7_mode_30 : decode cX7_mode 30 = .ok (.ifCond .ne 19, 3) := by decide +kernel
theorem dX7_mode_49 : decode cX7_mode 49 = .ok (.aload_n 0, 1) := by decide +kernel
theorem dX7_mode_50 : decode cX7_mode 50 = .ok (.getfield 33, 3) := by decide +kernel
theorem dX7_mode_53 : decode cX7_mode 53 = .ok (.iconst 3, 1) := by decide +kernel
theorem dX7_mode_54 : decode cX7_mode 54 = .ok (.if_icmp .ne 7, 3) := by decide +kernel
theorem dX7_mode_61 : decode cX7_mode 61 = .ok (.iconst 2, 1) := by decide +kernel
theorem dX7_mode_57 : decode cX7_mode 57 = .ok (.iconst 0, 1) := by decide +kernel
theorem dX7_mode_58 : decode cX7_mode 58 = .ok (.goto 4, 3) := by decide +kernel
theorem dX7_mode_33 : decode cX7_mode 33 = .ok (.aload_n 0, 1) := by decide +kernel
theorem dX7_mode_34 : decode cX7_mode 34 = .ok (.getfield 33, 3) := by decide +kernel
theorem dX7_mode_37 : decode cX7_mode 37 = .ok (.iconst 3, 1) := by decide +kernel
theorem dX7_mode_38 : decode cX7_mode 38 = .ok (.if_icmp .ne 8, 3) := by decide +kernel
theorem dX7_mode_46 : decode cX7_mode 46 = .ok (.bipush 6, 2) := by decide +kernel
theorem dX7_mode_41 : decode cX7_mode 41 = .ok (.bipush 7, 2) := by decide +kernel
theorem dX7_mode_43 : decode cX7_mode 43 = .ok (.goto 5, 3) := by decide +kernel
theorem dX7_mode_7 : decode cX7_mode 7 = .ok (.aload_n 0, 1) := by decide +kernel
theorem dX7_mode_8 : decode cX7_mode 8 = .ok (.getfield 36, 3) := by decide +kernel
theorem dX7_mode_11 : decode cX7_mode 11 = .ok (.ifCond .ne 8, 3) := by decide +kernel
theorem dX7_mode_19 : decode cX7_mode 19 = .ok (.aload_n 0, 1) := by decide +kernel
theorem dX7_mode_20 : decode cX7_mode 20 = .ok (.getfield 36, 3) := by decide +kernel
theorem dX7_mode_23 : decode cX7_mode 23 = .ok (.iconst 2, 1) := by decide +kernel
theorem dX7_mode_24 : decode cX7_mode 24 = .ok (.isub, 1) := by decide +kernel
theorem dX7_mode_14 : decode cX7_mode 14 = .ok (.bipush 6, 2) := by decide +kernel
theorem dX7_mode_16 : decode cX7_mode 16 = .ok (.goto 9, 3) := by decide +kernel
theorem dX7_mode_62 : decode cX7_mode 62 = .ok (.aload_n 0, 1) := by decide +kernel
theorem dX7_mode_63 : decode cX7_mode 63 = .ok (.getfield 36, 3) := by decide +kernel
theorem dX7_mode_66 : decode cX7_mode 66 = .ok (.iadd, 1) := by decide +kernel
theorem dX7_mode_67 : decode cX7_mode 67 = .ok (.bipush 6, 2) := by decide +kernel
theorem dX7_mode_69 : decode cX7_mode 69 = .ok (.isub, 1) := by decide +kernel
theorem dX7_mode_70 : decode cX7_mode 70 = .ok (.ireturn, 1) := by decide +kernel
theorem dX7_mode_48 : decode cX7_mode 48 = .ok (.ireturn, 1) := by decide +kernel
theorem dX7_mode_25 : decode cX7_mode 25 = .ok (.ireturn, 1) := by decide +kernel
theorem dX2_isShort_0 : decode cX2_isShort 0 = .ok (.iload_n 0, 1) := by decide +kernel
theorem dX2_isShort_1 : decode cX2_isShort 1 = .ok (.bipush (-128), 2) := by decide +kernel
theorem dX2_isShort_3 : decode cX2_isShort 3 = .ok (.if_icmp .lt 13, 3) := by decide +kernel
theorem dX2_isShort_6 : decode cX2_isShort 6 = .ok (.iload_n 0, 1) := by decide +kernel
theorem dX2_isShort_7 : decode cX2_isShort 7 = .ok (.bipush 127, 2) := by decide +kernel
theorem dX2_isShort_9 : decode cX2_isShort 9 = .ok (.if_icmp .gt 7, 3) := by decide +kernel
theorem dX2_isShort_12 : decode cX2_isShort 12 = .ok (.iconst 1, 1) := by decide +kernel
theorem dX2_isShort_13 : decode cX2_isShort 13 = .ok (.goto 4, 3) := by decide +kernel
theorem dX2_isShort_16 : decode cX2_isShort 16 = .ok (.iconst 0, 1) := by decide +kernel
theorem dX2_isShort_17 : decode cX2_isShort 17 = .ok (.ireturn, 1) := by decide +kernel
theorem dX7_displacementSize_0 : decode cX7_displacementSize 0 = .ok (.aload_n 0, 1) := by decide +kernel
theorem dX7_displacementSize_1 : decode cX7_displacementSize 1 = .ok (.invokevirtual 41, 3) := by decide +kernel
theorem dX7_displacementSize_4 : decode cX7_displacementSize 4 = .ok (.ifCond .ne 10, 3) := by decide +kernel
theorem dX7_displacementSize_7 : decode cX7_displacementSize 7 = .ok (.aload_n 0, 1) := by decide +kernel
theorem dX7_displacementSize_8 : decode cX7_displacementSize 8 = .ok (.getfield 23, 3) := by decide +kernel
theorem dX7_displacementSize_11 : decode cX7_displacementSize 11 = .ok (.ifCond .lt 5, 3) := by decide +kernel
theorem dX7_displacementSize_16 : decode cX7_displacementSize 16 = .ok (.aload_n 0, 1) := by decide +kernel
theorem dX7_displacementSize_17 : decode cX7_displacementSize 17 = .ok (.invokevirtual 45, 3) := by decide +kernel
theorem dX7_displacementSize_20 : decode cX7_displacementSize 20 = .ok (.istore_n 1, 1) := by decide +kernel
theorem dX7_displacementSize_21 : decode cX7_displacementSize 21 = .ok (.iload_n 1, 1) := by decide +kernel
theorem dX7_displacementSize_22 : decode cX7_displacementSize 22 = .ok (.ifCond .ne 14, 3) := by decide +kernel
theorem dX7_displacementSize_25 : decode cX7_displacementSize 25 = .ok (.aload_n 0, 1) := by decide +kernel
theorem dX7_displacementSize_26 : decode cX7_displacementSize 26 = .ok (.invokevirtual 49, 3) := by decide +kernel
theorem dX7_displacementSize_29 : decode cX7_displacementSize 29 = .ok (.bipush 6, 2) := by decide +kernel
theorem dX7_displacementSize_31 : decode cX7_displacementSize 31 = .ok (.if_icmp .eq 5, 3) := by decide +kernel
theorem dX7_displacementSize_34 : decode cX7_displacementSize 34 = .ok (.iconst 0, 1) := by decide +kernel
theorem dX7_displacementSize_35 : decode cX7_displacementSize 35 = .ok (.ireturn, 1) := by decide +kernel
theorem dX7_displacementSize_14 : decode cX7_displacementSize 14 = .ok (.iconst 2, 1) := by decide +kernel
theorem dX7_displacementSize_15 : decode cX7_displacementSize 15 = .ok (.ireturn, 1) := by decide +kernel
theorem dX7_displacementSize_36 : decode cX7_displacementSize 36 = .ok (.iload_n 1, 1) := by decide +kernel
theorem dX7_displacementSize_37 : decode cX7_displacementSize 37 = .ok (.invokestatic 52, 3) := by decide +kernel
theorem dX7_displacementSize_40 : decode cX7_displacementSize 40 = .ok (.ifCond .eq 7, 3) := by decide +kernel
theorem dX7_displacementSize_47 : decode cX7_displacementSize 47 = .ok (.iconst 2, 1) := by decide +kernel
theorem dX7_displacementSize_43 : decode cX7_displacementSize 43 = .ok (.iconst 1, 1) := by decide +kernel
theorem dX7_displacementSize_44 : decode cX7_displacementSize 44 = .ok (.goto 4, 3) := by decide +kernel
theorem dX7_displacementSize_48 : decode cX7_displacementSize 48 = .ok (.ireturn, 1) := by decide +kernel
theorem dX0_addWithM_0 : decode cX0_addWithM 0 = .ok (.aload_n 0, 1) := by decide +kernel
theorem dX0_addWithM_1 : decode cX0_addWithM 1 = .ok (.iload_n 1, 1) := by decide +kernel
theorem dX0_addWithM_2 : decode cX0_addWithM 2 = .ok (.invokevirtual 55, 3) := by decide +kernel
theorem dX0_addWithM_5 : decode cX0_addWithM 5 = .ok (.aload_n 2, 1) := by decide +kernel
theorem dX0_addWithM_6 : decode cX0_addWithM 6 = .ok (.getfield 59, 3) := by decide +kernel
theorem dX0_addWithM_9 : decode cX0_addWithM 9 = .ok (.iconst 1, 1) := by decide +kernel
theorem dX0_addWithM_10 : decode cX0_addWithM 10 = .ok (.if_icmp .ne 21, 3) := by decide +kernel
theorem dX0_addWithM_31 : decode cX0_addWithM 31 = .ok (.aload_n 2, 1) := by decide +kernel
theorem dX0_addWithM_32 : decode cX0_addWithM 32 = .ok (.invokevirtual 65, 3) := by decide +kernel
theorem dX0_addWithM_35 : decode cX0_addWithM 35 = .ok (.istore 4, 2) := by decide +kernel
theorem dX0_addWithM_37 : decode cX0_addWithM 37 = .ok (.aload_n 0, 1) := by decide +kernel
theorem dX0_addWithM_38 : decode cX0_addWithM 38 = .ok (.bipush 64, 2) := by decide +kernel
theorem dX0_addWithM_40 : decode cX0_addWithM 40 = .ok (.aload_n 2, 1) := by decide +kernel
theorem dX0_addWithM_41 : decode cX0_addWithM 41 = .ok (.invokevirtual 69, 3) := by decide +kernel
theorem dX0_addWithM_44 : decode cX0_addWithM 44 = .ok (.ifCond .eq 7, 3) := by decide +kernel
theorem dX0_addWithM_51 : decode cX0_addWithM 51 = .ok (.iload 4, 2) := by decide +kernel
theorem dX0_addWithM_47 : decode cX0_addWithM 47 = .ok (.iconst 0, 1) := by decide +kernel
theorem dX0_addWithM_48 : decode cX0_addWithM 48 = .ok (.goto 5, 3) := by decide +kernel
theorem dX0_addWithM_13 : decode cX0_addWithM 13 = .ok (.aload_n 0, 1) := by decide +kernel
theorem dX0_addWithM_14 : decode cX0_addWithM 14 = .ok (.sipush 192, 3) := by decide +kernel
theorem dX0_addWithM_17 : decode cX0_addWithM 17 = .ok (.bipush 8, 2) := by decide +kernel
theorem dX0_addWithM_19 : decode cX0_addWithM 19 = .ok (.iload_n 3, 1) := by decide +kernel
theorem dX0_addWithM_20 : decode cX0_addWithM 20 = .ok (.imul, 1) := by decide +kernel
theorem dX0_addWithM_21 : decode cX0_addWithM 21 = .ok (.iadd, 1) := by decide +kernel
theorem dX0_addWithM_22 : decode cX0_addWithM 22 = .ok (.aload_n 2, 1) := by decide +kernel
theorem dX0_addWithM_23 : decode cX0_addWithM 23 = .ok (.getfield 62, 3) := by decide +kernel
theorem dX0_addWithM_26 : decode cX0_addWithM 26 = .ok (.iadd, 1) := by decide +kernel
theorem dX0_addWithM_27 : decode cX0_addWithM 27 = .ok (.invokevirtual 55, 3) := by decide +kernel
theorem dX0_addWithM_30 : decode cX0_addWithM 30 = .ok (.return_, 1) := by decide +kernel
theorem dX0_addWithM_53 : decode cX0_addWithM 53 = .ok (.imul, 1) := by decide +kernel
theorem dX0_addWithM_54 : decode cX0_addWithM 54 = .ok (.bipush 8, 2) := by decide +kernel
theorem dX0_addWithM_56 : decode cX0_addWithM 56 = .ok (.iload_n 3, 1) := by decide +kernel
theorem dX0_addWithM_57 : decode cX0_addWithM 57 = .ok (.imul, 1) := by decide +kernel
theorem dX0_addWithM_58 : decode cX0_addWithM 58 = .ok (.iadd, 1) := by decide +kernel
theorem dX0_addWithM_59 : decode cX0_addWithM 59 = .ok (.aload_n 2, 1) := by decide +kernel
theorem dX0_addWithM_60 : decode cX0_addWithM 60 = .ok (.invokevirtual 73, 3) := by decide +kernel
theorem dX0_addWithM_63 : decode cX0_addWithM 63 = .ok (.iadd, 1) := by decide +kernel
theorem dX0_addWithM_64 : decode cX0_addWithM 64 = .ok (.invokevirtual 55, 3) := by decide +kernel
theorem dX0_addWithM_67 : decode cX0_addWithM 67 = .ok (.iload 4, 2) := by decide +kernel
theorem dX0_addWithM_69 : decode cX0_addWithM 69 = .ok (.iconst 1, 1) := by decide +kernel
theorem dX0_addWithM_70 : decode cX0_addWithM 70 = .ok (.if_icmp .ne 14, 3) := by decide +kernel
theorem dX0_addWithM_84 : decode cX0_addWithM 84 = .ok (.iload 4, 2) := by decide +kernel
theorem dX0_addWithM_86 : decode cX0_addWithM 86 = .ok (.iconst 2, 1) := by decide +kernel
theorem dX0_addWithM_87 : decode cX0_addWithM 87 = .ok (.if_icmp .ne 8, 3) := by decide +kernel
theorem dX0_addWithM_90 : decode cX0_addWithM 90 = .ok (.aload_n 0, 1) := by decide +kernel
theorem dX0_addWithM_91 : decode cX0_addWithM 91 = .ok (.aload_n 2, 1) := by decide +kernel
theorem dX0_addWithM_92 : decode cX0_addWithM 92 = .ok (.invokevirtual 76, 3) := by decide +kernel
theorem dX0_addWithM_73 : decode cX0_addWithM 73 = .ok (.aload_n 0, 1) := by decide +kernel
theorem dX0_addWithM_74 : decode cX0_addWithM 74 = .ok (.aload_n 2, 1) := by decide +kernel
theorem dX0_addWithM_75 : decode cX0_addWithM 75 = .ok (.getfield 45, 3) := by decide +kernel
theorem dX0_addWithM_78 : decode cX0_addWithM 78 = .ok (.invokevirtual 55, 3) := by decide +kernel
theorem dX0_addWithM_81 : decode cX0_addWithM 81 = .ok (.goto 14, 3) := by decide +kernel
theorem dX0_addWithM_95 : decode cX0_addWithM 95 = .ok (.return_, 1) := by decide +kernel
theorem dX8_mov_0 : decode cX8_mov 0 = .ok (.aload_n 0, 1) := by decide +kernel
theorem dX8_mov_1 : decode cX8_mov 1 = .ok (.aload_n 0, 1) := by decide +kernel
theorem dX8_mov_2 : decode cX8_mov 2 = .ok (.getfield 20, 3) := by decide +kernel
theorem dX8_mov_5 : decode cX8_mov 5 = .ok (.bipush 11, 2) := by decide +kernel
theorem dX8_mov_7 : decode cX8_mov 7 = .ok (.invokevirtual 133, 3) := by decide +kernel
theorem dX8_mov_10 : decode cX8_mov 10 = .ok (.ifCond .eq 12, 3) := by decide +kernel
theorem dX8_mov_13 : decode cX8_mov 13 = .ok (.aload_n 0, 1) := by decide +kernel
theorem dX8_mov_14 : decode cX8_mov 14 = .ok (.bipush 44, 2) := by decide +kernel
theorem dX8_mov_16 : decode cX8_mov 16 = .ok (.invokevirtual 72, 3) := by decide +kernel
theorem dX8_mov_19 : decode cX8_mov 19 = .ok (.ifCond .ne 5, 3) := by decide +kernel
theorem dX8_mov_24 : decode cX8_mov 24 = .ok (.bipush 29, 2) := by decide +kernel
theorem dX8_mov_26 : decode cX8_mov 26 = .ok (.istore_n 1, 1) := by decide +kernel
theorem dX8_mov_27 : decode cX8_mov 27 = .ok (.aload_n 0, 1) := by decide +kernel
theorem dX8_mov_28 : decode cX8_mov 28 = .ok (.getfield 20, 3) := by decide +kernel
theorem dX8_mov_31 : decode cX8_mov 31 = .ok (.getfield 141, 3) := by decide +kernel
theorem dX8_mov_34 : decode cX8_mov 34 = .ok (.iconst 1, 1) := by decide +kernel
theorem dX8_mov_35 : decode cX8_mov 35 = .ok (.if_icmp .ne 10, 3) := by decide +kernel
theorem dX8_mov_45 : decode cX8_mov 45 = .ok (.aload_n 0, 1) := by decide +kernel
theorem dX8_mov_46 : decode cX8_mov 46 = .ok (.getfield 20, 3) := by decide +kernel
theorem dX8_mov_49 : decode cX8_mov 49 = .ok (.getfield 141, 3) := by decide +kernel
theorem dX8_mov_52 : decode cX8_mov 52 = .ok (.bipush 8, 2) := by decide +kernel
theorem dX8_mov_54 : decode cX8_mov 54 = .ok (.if_icmp .ne 5, 3) := by decide +kernel
theorem dX8_mov_57 : decode cX8_mov 57 = .ok (.iconst 3, 1) := by decide +kernel
theorem dX8_mov_58 : decode cX8_mov 58 = .ok (.istore_n 1, 1) := by decide +kernel
theorem dX8_mov_38 : decode cX8_mov 38 = .ok (.iload_n 1, 1) := by decide +kernel
theorem dX8_mov_39 : decode cX8_mov 39 = .ok (.iconst 2, 1) := by decide +kernel
theorem dX8_mov_40 : decode cX8_mov 40 = .ok (.ior, 1) := by decide +kernel
theorem dX8_mov_41 : decode cX8_mov 41 = .ok (.istore_n 1, 1) := by decide +kernel
theorem dX8_mov_42 : decode cX8_mov 42 = .ok (.goto 17, 3) := by decide +kernel
theorem dX8_mov_22 : decode cX8_mov 22 = .ok (.iconst 0, 1) := by decide +kernel
theorem dX8_mov_23 : decode cX8_mov 23 = .ok (.ireturn, 1) := by decide +kernel
theorem dX8_mov_59 : decode cX8_mov 59 = .ok (.aload_n 0, 1) := by decide +kernel
theorem dX8_mov_60 : decode cX8_mov 60 = .ok (.aload_n 0, 1) := by decide +kernel
theorem dX8_mov_61 : decode cX8_mov 61 = .ok (.getfield 24, 3) := by decide +kernel
theorem dX8_mov_64 : decode cX8_mov 64 = .ok (.iload_n 1, 1) := by decide +kernel
theorem dX8_mov_65 : decode cX8_mov 65 = .ok (.invokevirtual 133, 3) := by decide +kernel
theorem dX8_mov_68 : decode cX8_mov 68 = .ok (.ifCond .ne 5, 3) := by decide +kernel
theorem dX8_mov_73 : decode cX8_mov 73 = .ok (.aload_n 0, 1) := by decide +kernel
theorem dX8_mov_74 : decode cX8_mov 74 = .ok (.getfield 20, 3) := by decide +kernel
theorem dX8_mov_77 : decode cX8_mov 77 = .ok (.getfield 141, 3) := by decide +kernel
theorem dX8_mov_80 : decode cX8_mov 80 = .ok (.bipush 8, 2) := by decide +kernel
theorem dX8_mov_82 : decode cX8_mov 82 = .ok (.if_icmp .ne 27, 3) := by decide +kernel
theorem dX8_mov_109 : decode cX8_mov 109 = .ok (.aload_n 0, 1) := by decide +kernel
theorem dX8_mov_110 : decode cX8_mov 110 = .ok (.getfield 24, 3) := by decide +kernel
theorem dX8_mov_113 : decode cX8_mov 113 = .ok (.getfield 141, 3) := by decide +kernel
theorem dX8_mov_116 : decode cX8_mov 116 = .ok (.bipush 8, 2) := by decide +kernel
theorem dX8_mov_118 : decode cX8_mov 118 = .ok (.if_icmp .ne 27, 3) := by decide +kernel
theorem dX8_mov_145 : decode cX8_mov 145 = .ok (.aload_n 0, 1) := by decide +kernel
theorem dX8_mov_146 : decode cX8_mov 146 = .ok (.getfield 24, 3) := by decide +kernel
theorem dX8_mov_149 : decode cX8_mov 149 = .ok (.getfield 141, 3) := by decide +kernel
theorem dX8_mov_152 : decode cX8_mov 152 = .ok (.iconst 4, 1) := by decide +kernel
theorem dX8_mov_153 : decode cX8_mov 153 = .ok (.if_icmp .ne 64, 3) := by decide +kernel
theorem dX8_mov_217 : decode cX8_mov 217 = .ok (.aload_n 0, 1) := by decide +kernel
theorem dX8_mov_218 : decode cX8_mov 218 = .ok (.getfield 20, 3) := by decide +kernel
theorem dX8_mov_221 : decode cX8_mov 221 = .ok (.getfield 141, 3) := by decide +kernel
theorem dX8_mov_224 : decode cX8_mov 224 = .ok (.iconst 1, 1) := by decide +kernel
theorem dX8_mov_225 : decode cX8_mov 225 = .ok (.if_icmp .ne 27, 3) := by decide +kernel
theorem dX8_mov_252 : decode cX8_mov 252 = .ok (.aload_n 0, 1) := by decide +kernel
theorem dX8_mov_253 : decode cX8_mov 253 = .ok (.getfield 13, 3) := by decide +kernel
theorem dX8_mov_256 : decode cX8_mov 256 = .ok (.sipush 137, 3) := by decide +kernel
theorem dX8_mov_259 : decode cX8_mov 259 = .ok (.aload_n 0, 1) := by decide +kernel
theorem dX8_mov_260 : decode cX8_mov 260 = .ok (.getfield 20, 3) := by decide +kernel
theorem dX8_mov_263 : decode cX8_mov 263 = .ok (.aload_n 0, 1) := by decide +kernel
theorem dX8_mov_264 : decode cX8_mov 264 = .ok (.getfield 24, 3) := by decide +kernel
theorem dX8_mov_267 : decode cX8_mov 267 = .ok (.getfield 144, 3) := by decide +kernel
theorem dX8_mov_270 : decode cX8_mov 270 = .ok (.invokevirtual 147, 3) := by decide +kernel
theorem dX8_mov_228 : decode cX8_mov 228 = .ok (.aload_n 0, 1) := by decide +kernel
theorem dX8_mov_229 : decode cX8_mov 229 = .ok (.getfield 13, 3) := by decide +kernel
theorem dX8_mov_232 : decode cX8_mov 232 = .ok (.sipush 139, 3) := by decide +kernel
theorem dX8_mov_235 : decode cX8_mov 235 = .ok (.aload_n 0, 1) := by decide +kernel
theorem dX8_mov_236 : decode cX8_mov 236 = .ok (.getfield 24, 3) := by decide +kernel
theorem dX8_mov_239 : decode cX8_mov 239 = .ok (.aload_n 0, 1) := by decide +kernel
theorem dX8_mov_240 : decode cX8_mov 240 = .ok (.getfield 20, 3) := by decide +kernel
theorem dX8_mov_243 : decode cX8_mov 243 = .ok (.getfield 144, 3) := by decide +kernel
theorem dX8_mov_246 : decode cX8_mov 246 = .ok (.invokevirtual 147, 3) := by decide +kernel
theorem dX8_mov_249 : decode cX8_mov 249 = .ok (.goto 24, 3) := by decide +kernel
theorem dX8_mov_156 : decode cX8_mov 156 = .ok (.aload_n 0, 1) := by decide +kernel
theorem dX8_mov_157 : decode cX8_mov 157 = .ok (.getfield 20, 3) := by decide +kernel
theorem dX8_mov_160 : decode cX8_mov 160 = .ok (.getfield 141, 3) := by decide +kernel
theorem dX8_mov_163 : decode cX8_mov 163 = .ok (.iconst 1, 1) := by decide +kernel
theorem dX8_mov_164 : decode cX8_mov 164 = .ok (.if_icmp .ne 24, 3) := by decide +kernel
theorem dX8_mov_188 : decode cX8_mov 188 = .ok (.aload_n 0, 1) := by decide +kernel
theorem dX8_mov_189 : decode cX8_mov 189 = .ok (.getfield 13, 3) := by decide +kernel
theorem dX8_mov_192 : decode cX8_mov 192 = .ok (.sipush 199, 3) := by decide +kernel
theorem dX8_mov_195 : decode cX8_mov 195 = .ok (.aload_n 0, 1) := by decide +kernel
theorem dX8_mov_196 : decode cX8_mov 196 = .ok (.getfield 20, 3) := by decide +kernel
theorem dX8_mov_199 : decode cX8_mov 199 = .ok (.iconst 0, 1) := by decide +kernel
theorem dX8_mov_200 : decode cX8_mov 200 = .ok (.invokevirtual 147, 3) := by decide +kernel
theorem dX8_mov_167 : decode cX8_mov 167 = .ok (.aload_n 0, 1) := by decide +kernel
theorem dX8_mov_168 : decode cX8_mov 168 = .ok (.getfield 13, 3) := by decide +kernel
theorem dX8_mov_171 : decode cX8_mov 171 = .ok (.sipush 184, 3) := by decide +kernel
theorem dX8_mov_174 : decode cX8_mov 174 = .ok (.aload_n 0, 1) := by decide +kernel
theorem dX8_mov_175 : decode cX8_mov 175 = .ok (.getfield 20, 3) := by decide +kernel
theorem dX8_mov_178 : decode cX8_mov 178 = .ok (.getfield 144, 3) := by decide +kernel
theorem dX8_mov_181 : decode cX8_mov 181 = .ok (.iadd, 1) := by decide +kernel
theorem dX8_mov_182 : decode cX8_mov 182 = .ok (.invokevirtual 120, 3) := by decide +kernel
theorem dX8_mov_185 : decode cX8_mov 185 = .ok (.goto 18, 3) := by decide +kernel
theorem dX8_mov_121 : decode cX8_mov 121 = .ok (.aload_n 0, 1) := by decide +kernel
theorem dX8_mov_122 : decode cX8_mov 122 = .ok (.getfield 13, 3) := by decide +kernel
theorem dX8_mov_125 : decode cX8_mov 125 = .ok (.sipush 140, 3) := by decide +kernel
theorem dX8_mov_128 : decode cX8_mov 128 = .ok (.aload_n 0, 1) := by decide +kernel
theorem dX8_mov_129 : decode cX8_mov 129 = .ok (.getfield 20, 3) := by decide +kernel
theorem dX8_mov_132 : decode cX8_mov 132 = .ok (.aload_n 0, 1) := by decide +kernel
theorem dX8_mov_133 : decode cX8_mov 133 = .ok (.getfield 24, 3) := by decide +kernel
theorem dX8_mov_136 : decode cX8_mov 136 = .ok (.getfield 144, 3) := by decide +kernel
theorem dX8_mov_139 : decode cX8_mov 139 = .ok (.invokevirtual 147, 3) := by decide +kernel
theorem dX8_mov_142 : decode cX8_mov 142 = .ok (.goto 131, 3) := by decide +kernel
theorem dX8_mov_85 : decode cX8_mov 85 = .ok (.aload_n 0, 1) := by decide +kernel
theorem dX8_mov_86 : decode cX8_mov 86 = .ok (.getfield 13, 3) := by decide +kernel
theorem dX8_mov_89 : decode cX8_mov 89 = .ok (.sipush 142, 3) := by decide +kernel
theorem dX8_mov_92 : decode cX8_mov 92 = .ok (.aload_n 0, 1) := by decide +kernel
theorem dX8_mov_93 : decode cX8_mov 93 = .ok (.getfield 24, 3) := by decide +kernel
theorem dX8_mov_96 : decode cX8_mov 96 = .ok (.aload_n 0, 1) := by decide +kernel
theorem dX8_mov_97 : decode cX8_mov 97 = .ok (.getfield 20, 3) := by decide +kernel
theorem dX8_mov_100 : decode cX8_mov 100 = .ok (.getfield 144, 3) := by decide +kernel
theorem dX8_mov_103 : decode cX8_mov 103 = .ok (.invokevirtual 147, 3) := by decide +kernel
theorem dX8_mov_106 : decode cX8_mov 106 = .ok (.goto 167, 3) := by decide +kernel
theorem dX8_mov_71 : decode cX8_mov 71 = .ok (.iconst 0, 1) := by decide +kernel
theorem dX8_mov_72 : decode cX8_mov 72 = .ok (.ireturn, 1) := by decide +kernel
theorem dX8_mov_273 : decode cX8_mov 273 = .ok (.iconst 1, 1) := by decide +kernel
theorem dX8_mov_274 : decode cX8_mov 274 = .ok (.ireturn, 1) := by decide +kernel
theorem dX8_mov_203 : decode cX8_mov 203 = .ok (.aload_n 0, 1) := by decide +kernel
theorem dX8_mov_204 : decode cX8_mov 204 = .ok (.getfield 13, 3) := by decide +kernel
theorem dX8_mov_207 : decode cX8_mov 207 = .ok (.aload_n 0, 1) := by decide +kernel
theorem dX8_mov_208 : decode cX8_mov 208 = .ok (.getfield 24, 3) := by decide +kernel
theorem dX8_mov_211 : decode cX8_mov 211 = .ok (.invokevirtual 137, 3) := by decide +kernel
theorem dX8_mov_214 : decode cX8_mov 214 = .ok (.goto 59, 3) := by decide +kernel
theorem dX8_arithmetic_0 : decode cX8_arithmetic 0 = .ok (.aload_n 0, 1) := by decide +kernel
theorem dX8_arithmetic_1 : decode cX8_arithmetic 1 = .ok (.aload_n 0, 1) := by decide +kernel
theorem dX8_arithmetic_2 : decode cX8_arithmetic 2 = .ok (.getfield 20, 3) := by decide +kernel
theorem dX8_arithmetic_5 : decode cX8_arithmetic 5 = .ok (.iconst 3, 1) := by decide +kernel
theorem dX8_arithmetic_6 : decode cX8_arithmetic 6 = .ok (.invokevirtual 133, 3) := by decide +kernel
theorem dX8_arithmetic_9 : decode cX8_arithmetic 9 = .ok (.ifCond .eq 12, 3) := by decide +kernel
theorem dX8_arithmetic_12 : decode cX8_arithmetic 12 = .ok (.aload_n 0, 1) := by decide +kernel
theorem dX8_arithmetic_13 : decode cX8_arithmetic 13 = .ok (.bipush 44, 2) := by decide +kernel
theorem dX8_arithmetic_15 : decode cX8_arithmetic 15 = .ok (.invokevirtual 72, 3) := by decide +kernel
theorem dX8_arithmetic_18 : decode cX8_arithmetic 18 = .ok (.ifCond .ne 5, 3) := by decide +kernel
theorem dX8_arithmetic_23 : decode cX8_arithmetic 23 = .ok (.iconst 5, 1) := by decide +kernel
theorem dX8_arithmetic_24 : decode cX8_arithmetic 24 = .ok (.istore_n 2, 1) := by decide +kernel
theorem dX8_arithmetic_25 : decode cX8_arithmetic 25 = .ok (.aload_n 0, 1) := by decide +kernel
theorem dX8_arithmetic_26 : decode cX8_arithmetic 26 = .ok (.getfield 20, 3) := by decide +kernel
theorem dX8_arithmetic_29 : decode cX8_arithmetic 29 = .ok (.getfield 141, 3) := by decide +kernel
theorem dX8_arithmetic_32 : decode cX8_arithmetic 32 = .ok (.iconst 1, 1) := by decide +kernel
theorem dX8_arithmetic_33 : decode cX8_arithmetic 33 = .ok (.if_icmp .ne 7, 3) := by decide +kernel
theorem dX8_arithmetic_36 : decode cX8_arithmetic 36 = .ok (.iload_n 2, 1) := by decide +kernel
theorem dX8_arithmetic_37 : decode cX8_arithmetic 37 = .ok (.iconst 2, 1) := by decide +kernel
theorem dX8_arithmetic_38 : decode cX8_arithmetic 38 = .ok (.ior, 1) := by decide +kernel
theorem dX8_arithmetic_39 : decode cX8_arithmetic 39 = .ok (.istore_n 2, 1) := by decide +kernel
theorem dX8_arithmetic_21 : decode cX8_arithmetic 21 = .ok (.iconst 0, 1) := by decide +kernel
theorem dX8_arithmetic_22 : decode cX8_arithmetic 22 = .ok (.ireturn, 1) := by decide +kernel
theorem dX8_arithmetic_40 : decode cX8_arithmetic 40 = .ok (.aload_n 0, 1) := by decide +kernel
theorem dX8_arithmetic_41 : decode cX8_arithmetic 41 = .ok (.aload_n 0, 1) := by decide +kernel
theorem dX8_arithmetic_42 : decode cX8_arithmetic 42 = .ok (.getfield 24, 3) := by decide +kernel
theorem dX8_arithmetic_45 : decode cX8_arithmetic 45 = .ok (.iload_n 2, 1) := by decide +kernel
theorem dX8_arithmetic_46 : decode cX8_arithmetic 46 = .ok (.invokevirtual 133, 3) := by decide +kernel
theorem dX8_arithmetic_49 : decode cX8_arithmetic 49 = .ok (.ifCond .ne 5, 3) := by decide +kernel
theorem dX8_arithmetic_54 : decode cX8_arithmetic 54 = .ok (.aload_n 0, 1) := by decide +kernel
theorem dX8_arithmetic_55 : decode cX8_arithmetic 55 = .ok (.getfield 24, 3) := by decide +kernel
theorem dX8_arithmetic_58 : decode cX8_arithmetic 58 = .ok (.getfield 141, 3) := by decide +kernel
theorem dX8_arithmetic_61 : decode cX8_arithmetic 61 = .ok (.iconst 4, 1) := by decide +kernel
theorem dX8_arithmetic_62 : decode cX8_arithmetic 62 = .ok (.if_icmp .ne 32, 3) := by decide +kernel
theorem dX8_arithmetic_94 : decode cX8_arithmetic 94 = .ok (.aload_n 0, 1) := by decide +kernel
theorem dX8_arithmetic_95 : decode cX8_arithmetic 95 = .ok (.getfield 20, 3) := by decide +kernel
theorem dX8_arithmetic_98 : decode cX8_arithmetic 98 = .ok (.getfield 141, 3) := by decide +kernel
theorem dX8_arithmetic_101 : decode cX8_arithmetic 101 = .ok (.iconst 1, 1) := by decide +kernel
theorem dX8_arithmetic_102 : decode cX8_arithmetic 102 = .ok (.if_icmp .ne 30, 3) := by decide +kernel
theorem dX8_arithmetic_132 : decode cX8_arithmetic 132 = .ok (.aload_n 0, 1) := by decide +kernel
theorem dX8_arithmetic_133 : decode cX8_arithmetic 133 = .ok (.getfield 13, 3) := by decide +kernel
theorem dX8_arithmetic_136 : decode cX8_arithmetic 136 = .ok (.bipush 8, 2) := by decide +kernel
theorem dX8_arithmetic_138 : decode cX8_arithmetic 138 = .ok (.iload_n 1, 1) := by decide +kernel
theorem dX8_arithmetic_139 : decode cX8_arithmetic 139 = .ok (.imul, 1) := by decide +kernel
theorem dX8_arithmetic_140 : decode cX8_arithmetic 140 = .ok (.iconst 1, 1) := by decide +kernel
theorem dX8_arithmetic_141 : decode cX8_arithmetic 141 = .ok (.iadd, 1) := by decide +kernel
theorem dX8_arithmetic_142 : decode cX8_arithmetic 142 = .ok (.aload_n 0, 1) := by decide +kernel
theorem dX8_arithmetic_143 : decode cX8_arithmetic 143 = .ok (.getfield 20, 3) := by decide +kernel
theorem dX8_arithmetic_146 : decode cX8_arithmetic 146 = .ok (.aload_n 0, 1) := by decide +kernel
theorem dX8_arithmetic_147 : decode cX8_arithmetic 147 = .ok (.getfield 24, 3) := by decide +kernel
theorem dX8_arithmetic_150 : decode cX8_arithmetic 150 = .ok (.getfield 144, 3) := by decide +kernel
theorem dX8_arithmetic_153 : decode cX8_arithmetic 153 = .ok (.invokevirtual 147, 3) := by decide +kernel
theorem dX8_arithmetic_105 : decode cX8_arithmetic 105 = .ok (.aload_n 0, 1) := by decide +kernel
theorem dX8_arithmetic_106 : decode cX8_arithmetic 106 = .ok (.getfield 13, 3) := by decide +kernel
theorem dX8_arithmetic_109 : decode cX8_arithmetic 109 = .ok (.bipush 8, 2) := by decide +kernel
theorem dX8_arithmetic_111 : decode cX8_arithmetic 111 = .ok (.iload_n 1, 1) := by decide +kernel
theorem dX8_arithmetic_112 : decode cX8_arithmetic 112 = .ok (.imul, 1) := by decide +kernel
theorem dX8_arithmetic_113 : decode cX8_arithmetic 113 = .ok (.iconst 3, 1) := by decide +kernel
theorem dX8_arithmetic_114 : decode cX8_arithmetic 114 = .ok (.iadd, 1) := by decide +kernel
theorem dX8_arithmetic_115 : decode cX8_arithmetic 115 = .ok (.aload_n 0, 1) := by decide +kernel
theorem dX8_arithmetic_116 : decode cX8_arithmetic 116 = .ok (.getfield 24, 3) := by decide +kernel
theorem dX8_arithmetic_119 : decode cX8_arithmetic 119 = .ok (.aload_n 0, 1) := by decide +kernel
theorem dX8_arithmetic_120 : decode cX8_arithmetic 120 = .ok (.getfield 20, 3) := by decide +kernel
theorem dX8_arithmetic_123 : decode cX8_arithmetic 123 = .ok (.getfield 144, 3) := by decide +kernel
theorem dX8_arithmetic_126 : decode cX8_arithmetic 126 = .ok (.invokevirtual 147, 3) := by decide +kernel
theorem dX8_arithmetic_129 : decode cX8_arithmetic 129 = .ok (.goto 27, 3) := by decide +kernel
theorem dX8_arithmetic_65 : decode cX8_arithmetic 65 = .ok (.aload_n 0, 1) := by decide +kernel
theorem dX8_arithmetic_66 : decode cX8_arithmetic 66 = .ok (.getfield 13, 3) := by decide +kernel
theorem dX8_arithmetic_69 : decode cX8_arithmetic 69 = .ok (.sipush 129, 3) := by decide +kernel
theorem dX8_arithmetic_72 : decode cX8_arithmetic 72 = .ok (.aload_n 0, 1) := by decide +kernel
theorem dX8_arithmetic_73 : decode cX8_arithmetic 73 = .ok (.getfield 20, 3) := by decide +kernel
theorem dX8_arithmetic_76 : decode cX8_arithmetic 76 = .ok (.iload_n 1, 1) := by decide +kernel
theorem dX8_arithmetic_77 : decode cX8_arithmetic 77 = .ok (.invokevirtual 147, 3) := by decide +kernel
theorem dX8_arithmetic_80 : decode cX8_arithmetic 80 = .ok (.aload_n 0, 1) := by decide +kernel
theorem dX8_arithmetic_81 : decode cX8_arithmetic 81 = .ok (.getfield 13, 3) := by decide +kernel
theorem dX8_arithmetic_84 : decode cX8_arithmetic 84 = .ok (.aload_n 0, 1) := by decide +kernel
theorem dX8_arithmetic_85 : decode cX8_arithmetic 85 = .ok (.getfield 24, 3) := by decide +kernel
theorem dX8_arithmetic_88 : decode cX8_arithmetic 88 = .ok (.invokevirtual 137, 3) := by decide +kernel
theorem dX8_arithmetic_91 : decode cX8_arithmetic 91 = .ok (.goto 65, 3) := by decide +kernel
theorem dX8_arithmetic_52 : decode cX8_arithmetic 52 = .ok (.iconst 0, 1) := by decide +kernel
theorem dX8_arithmetic_53 : decode cX8_arithmetic 53 = .ok (.ireturn, 1) := by decide +kernel
theorem dX8_arithmetic_156 : decode cX8_arithmetic 156 = .ok (.iconst 1, 1) := by decide +kernel
theorem dX8_arithmetic_157 : decode cX8_arithmetic 157 = .ok (.ireturn, 1) := by decide +kernel
theorem dX8_onRegister_0 : decode cX8_onRegister 0 = .ok (.aload_n 0, 1) := by decide +kernel
theorem dX8_onRegister_1 : decode cX8_onRegister 1 = .ok (.aload_n 0, 1) := by decide +kernel
theorem dX8_onRegister_2 : decode cX8_onRegister 2 = .ok (.getfield 20, 3) := by decide +kernel
theorem dX8_onRegister_5 : decode cX8_onRegister 5 = .ok (.iload_n 3, 1) := by decide +kernel
theorem dX8_onRegister_6 : decode cX8_onRegister 6 = .ok (.invokevirtual 133, 3) := by decide +kernel
theorem dX8_onRegister_9 : decode cX8_onRegister 9 = .ok (.ifCond .ne 5, 3) := by decide +kernel
theorem dX8_onRegister_14 : decode cX8_onRegister 14 = .ok (.aload_n 0, 1) := by decide +kernel
theorem dX8_onRegister_15 : decode cX8_onRegister 15 = .ok (.getfield 13, 3) := by decide +kernel
theorem dX8_onRegister_18 : decode cX8_onRegister 18 = .ok (.aload_n 0, 1) := by decide +kernel
theorem dX8_onRegister_19 : decode cX8_onRegister 19 = .ok (.getfield 20, 3) := by decide +kernel
theorem dX8_onRegister_22 : decode cX8_onRegister 22 = .ok (.getfield 141, 3) := by decide +kernel
theorem dX8_onRegister_25 : decode cX8_onRegister 25 = .ok (.iconst 1, 1) := by decide +kernel
theorem dX8_onRegister_26 : decode cX8_onRegister 26 = .ok (.if_icmp .ne 15, 3) := by decide +kernel
theorem dX8_onRegister_41 : decode cX8_onRegister 41 = .ok (.iload_n 2, 1) := by decide +kernel
theorem dX8_onRegister_42 : decode cX8_onRegister 42 = .ok (.bipush 8, 2) := by decide +kernel
theorem dX8_onRegister_44 : decode cX8_onRegister 44 = .ok (.aload_n 0, 1) := by decide +kernel
theorem dX8_onRegister_45 : decode cX8_onRegister 45 = .ok (.getfield 20, 3) := by decide +kernel
theorem dX8_onRegister_48 : decode cX8_onRegister 48 = .ok (.getfield 144, 3) := by decide +kernel
theorem dX8_onRegister_51 : decode cX8_onRegister 51 = .ok (.imul, 1) := by decide +kernel
theorem dX8_onRegister_52 : decode cX8_onRegister 52 = .ok (.iadd, 1) := by decide +kernel
theorem dX8_onRegister_29 : decode cX8_onRegister 29 = .ok (.iload_n 1, 1) := by decide +kernel
theorem dX8_onRegister_30 : decode cX8_onRegister 30 = .ok (.aload_n 0, 1) := by decide +kernel
theorem dX8_onRegister_31 : decode cX8_onRegister 31 = .ok (.getfield 20, 3) := by decide +kernel
theorem dX8_onRegister_34 : decode cX8_onRegister 34 = .ok (.getfield 144, 3) := by decide +kernel
theorem dX8_onRegister_37 : decode cX8_onRegister 37 = .ok (.iadd, 1) := by decide +kernel
theorem dX8_onRegister_38 : decode cX8_onRegister 38 = .ok (.goto 15, 3) := by decide +kernel
theorem dX8_onRegister_12 : decode cX8_onRegister 12 = .ok (.iconst 0, 1) := by decide +kernel
theorem dX8_onRegister_13 : decode cX8_onRegister 13 = .ok (.ireturn, 1) := by decide +kernel
theorem dX8_onRegister_53 : decode cX8_onRegister 53 = .ok (.invokevirtual 120, 3) := by decide +kernel
theorem dX8_onRegister_56 : decode cX8_onRegister 56 = .ok (.iconst 1, 1) := by decide +kernel
theorem dX8_onRegister_57 : decode cX8_onRegister 57 = .ok (.ireturn, 1) := by decide +kernel
theorem dX8_single_0 : decode cX8_single 0 = .ok (.aload_n 0, 1) := by decide +kernel
theorem dX8_single_1 : decode cX8_single 1 = .ok (.aload_n 0, 1) := by decide +kernel
theorem dX8_single_2 : decode cX8_single 2 = .ok (.getfield 20, 3) := by decide +kernel
theorem dX8_single_5 : decode cX8_single 5 = .ok (.iconst 3, 1) := by decide +kernel
theorem dX8_single_6 : decode cX8_single 6 = .ok (.invokevirtual 133, 3) := by decide +kernel
theorem dX8_single_9 : decode cX8_single 9 = .ok (.ifCond .ne 5, 3) := by decide +kernel
theorem dX8_single_14 : decode cX8_single 14 = .ok (.aload_n 0, 1) := by decide +kernel
theorem dX8_single_15 : decode cX8_single 15 = .ok (.getfield 13, 3) := by decide +kernel
theorem dX8_single_18 : decode cX8_single 18 = .ok (.iload_n 1, 1) := by decide +kernel
theorem dX8_single_19 : decode cX8_single 19 = .ok (.aload_n 0, 1) := by decide +kernel
theorem dX8_single_20 : decode cX8_single 20 = .ok (.getfield 20, 3) := by decide +kernel
theorem dX8_single_23 : decode cX8_single 23 = .ok (.iload_n 2, 1) := by decide +kernel
theorem dX8_single_24 : decode cX8_single 24 = .ok (.invokevirtual 147, 3) := by decide +kernel
theorem dX8_single_27 : decode cX8_single 27 = .ok (.iconst 1, 1) := by decide +kernel
theorem dX8_single_28 : decode cX8_single 28 = .ok (.ireturn, 1) := by decide +kernel
theorem dX8_single_12 : decode cX8_single 12 = .ok (.iconst 0, 1) := by decide +kernel
theorem dX8_single_13 : decode cX8_single 13 = .ok (.ireturn, 1) := by decide +kernel
theorem dX8_instruction_0 : decode cX8_instruction 0 = .ok (.aload_n 0, 1) := by decide +kernel
theorem dX8_instruction_1 : decode cX8_instruction 1 = .ok (.dup, 1) := by decide +kernel
theorem dX8_instruction_2 : decode cX8_instruction 2 = .ok (.getfield 27, 3) := by decide +kernel
theorem dX8_instruction_5 : decode cX8_instruction 5 = .ok (.iconst 1, 1) := by decide +kernel
theorem dX8_instruction_6 : decode cX8_instruction 6 = .ok (.iadd, 1) := by decide +kernel
theorem dX8_instruction_7 : decode cX8_instruction 7 = .ok (.putfield 27, 3) := by decide +kernel
theorem dX8_instruction_10 : decode cX8_instruction 10 = .ok (.iload_n 1, 1) := by decide +kernel
theorem dX8_instruction_11 : decode cX8_instruction 11 = .ok (.tableswitch 163 6 17 #[61, 66, 72, 80, 90, 100, 114, 122, 130, 138, 163, 146], 61) := by decide +kernel
theorem dX8_instruction_72 : decode cX8_instruction 72 = .ok (.aload_n 0, 1) := by decide +kernel
theorem dX8_instruction_73 : decode cX8_instruction 73 = .ok (.invokevirtual 105, 3) := by decide +kernel
theorem dX8_instruction_76 : decode cX8_instruction 76 = .ok (.ireturn, 1) := by decide +kernel
theorem dX8_instruction_77 : decode cX8_instruction 77 = .ok (.aload_n 0, 1) := by decide +kernel
theorem dX8_instruction_78 : decode cX8_instruction 78 = .ok (.iload_n 2, 1) := by decide +kernel
theorem dX8_instruction_79 : decode cX8_instruction 79 = .ok (.invokevirtual 108, 3) := by decide +kernel
theorem dX8_instruction_82 : decode cX8_instruction 82 = .ok (.ireturn, 1) := by decide +kernel
theorem dX8_instruction_83 : decode cX8_instruction 83 = .ok (.aload_n 0, 1) := by decide +kernel
theorem dX8_instruction_84 : decode cX8_instruction 84 = .ok (.iload_n 2, 1) := by decide +kernel
theorem dX8_instruction_85 : decode cX8_instruction 85 = .ok (.iconst 0, 1) := by decide +kernel
theorem dX8_instruction_86 : decode cX8_instruction 86 = .ok (.iconst 1, 1) := by decide +kernel
theorem dX8_instruction_87 : decode cX8_instruction 87 = .ok (.invokevirtual 111, 3) := by decide +kernel
theorem dX8_instruction_90 : decode cX8_instruction 90 = .ok (.ireturn, 1) := by decide +kernel
theorem dX8_instruction_91 : decode cX8_instruction 91 = .ok (.aload_n 0, 1) := by decide +kernel
theorem dX8_instruction_92 : decode cX8_instruction 92 = .ok (.iload_n 2, 1) := by decide +kernel
theorem dX8_instruction_93 : decode cX8_instruction 93 = .ok (.bipush 6, 2) := by decide +kernel
theorem dX8_instruction_95 : decode cX8_instruction 95 = .ok (.bipush 25, 2) := by decide +kernel
theorem dX8_instruction_97 : decode cX8_instruction 97 = .ok (.invokevirtual 111, 3) := by decide +kernel
theorem dX8_instruction_100 : decode cX8_instruction 100 = .ok (.ireturn, 1) := by decide +kernel
theorem dX8_instruction_101 : decode cX8_instruction 101 = .ok (.aload_n 0, 1) := by decide +kernel
theorem dX8_instruction_102 : decode cX8_instruction 102 = .ok (.iload_n 2, 1) := by decide +kernel
theorem dX8_instruction_103 : decode cX8_instruction 103 = .ok (.bipush 7, 2) := by decide +kernel
theorem dX8_instruction_105 : decode cX8_instruction 105 = .ok (.bipush 9, 2) := by decide +kernel
theorem dX8_instruction_107 : decode cX8_instruction 107 = .ok (.invokevirtual 111, 3) := by decide +kernel
theorem dX8_instruction_110 : decode cX8_instruction 110 = .ok (.ireturn, 1) := by decide +kernel
theorem dX8_instruction_111 : decode cX8_instruction 111 = .ok (.aload_n 0, 1) := by decide +kernel
theorem dX8_instruction_112 : decode cX8_instruction 112 = .ok (.iload_n 2, 1) := by decide +kernel
theorem dX8_instruction_113 : decode cX8_instruction 113 = .ok (.sipush 255, 3) := by decide +kernel
theorem dX8_instruction_116 : decode cX8_instruction 116 = .ok (.iand, 1) := by decide +kernel
theorem dX8_instruction_117 : decode cX8_instruction 117 = .ok (.iload_n 2, 1) := by decide +kernel
theorem dX8_instruction_118 : decode cX8_instruction 118 = .ok (.bipush 8, 2) := by decide +kernel
theorem dX8_instruction_120 : decode cX8_instruction 120 = .ok (.ishr, 1) := by decide +kernel
theorem dX8_instruction_121 : decode cX8_instruction 121 = .ok (.invokevirtual 115, 3) := by decide +kernel
theorem dX8_instruction_124 : decode cX8_instruction 124 = .ok (.ireturn, 1) := by decide +kernel
theorem dX8_instruction_125 : decode cX8_instruction 125 = .ok (.aload_n 0, 1) := by decide +kernel
theorem dX8_instruction_126 : decode cX8_instruction 126 = .ok (.bipush 9, 2) := by decide +kernel
theorem dX8_instruction_128 : decode cX8_instruction 128 = .ok (.iconst 2, 1) := by decide +kernel
theorem dX8_instruction_129 : decode cX8_instruction 129 = .ok (.invokevirtual 93, 3) := by decide +kernel
theorem dX8_instruction_132 : decode cX8_instruction 132 = .ok (.ireturn, 1) := by decide +kernel
theorem dX8_instruction_133 : decode cX8_instruction 133 = .ok (.aload_n 0, 1) := by decide +kernel
theorem dX8_instruction_134 : decode cX8_instruction 134 = .ok (.bipush 10, 2) := by decide +kernel
theorem dX8_instruction_136 : decode cX8_instruction 136 = .ok (.iload_n 2, 1) := by decide +kernel
theorem dX8_instruction_137 : decode cX8_instruction 137 = .ok (.invokevirtual 93, 3) := by decide +kernel
theorem dX8_instruction_140 : decode cX8_instruction 140 = .ok (.ireturn, 1) := by decide +kernel
theorem dX8_instruction_141 : decode cX8_instruction 141 = .ok (.aload_n 0, 1) := by decide +kernel
theorem dX8_instruction_142 : decode cX8_instruction 142 = .ok (.bipush 11, 2) := by decide +kernel
theorem dX8_instruction_144 : decode cX8_instruction 144 = .ok (.iconst 0, 1) := by decide +kernel
theorem dX8_instruction_145 : decode cX8_instruction 145 = .ok (.invokevirtual 93, 3) := by decide +kernel
theorem dX8_instruction_148 : decode cX8_instruction 148 = .ok (.ireturn, 1) := by decide +kernel
theorem dX8_instruction_149 : decode cX8_instruction 149 = .ok (.aload_n 0, 1) := by decide +kernel
theorem dX8_instruction_150 : decode cX8_instruction 150 = .ok (.bipush 12, 2) := by decide +kernel
theorem dX8_instruction_152 : decode cX8_instruction 152 = .ok (.iconst 0, 1) := by decide +kernel
theorem dX8_instruction_153 : decode cX8_instruction 153 = .ok (.invokevirtual 93, 3) := by decide +kernel
theorem dX8_instruction_156 : decode cX8_instruction 156 = .ok (.ireturn, 1) := by decide +kernel
theorem dX8_instruction_157 : decode cX8_instruction 157 = .ok (.aload_n 0, 1) := by decide +kernel
theorem dX8_instruction_158 : decode cX8_instruction 158 = .ok (.getfield 13, 3) := by decide +kernel
theorem dX8_instruction_161 : decode cX8_instruction 161 = .ok (.iload_n 2, 1) := by decide +kernel
theorem dX8_instruction_162 : decode cX8_instruction 162 = .ok (.invokevirtual 120, 3) := by decide +kernel
theorem dX8_instruction_165 : decode cX8_instruction 165 = .ok (.aload_n 0, 1) := by decide +kernel
theorem dX8_instruction_166 : decode cX8_instruction 166 = .ok (.iconst 4, 1) := by decide +kernel
theorem dX8_instruction_167 : decode cX8_instruction 167 = .ok (.sipush 256, 3) := by decide +kernel
theorem dX8_instruction_170 : decode cX8_instruction 170 = .ok (.invokevirtual 102, 3) := by decide +kernel
theorem dX8_instruction_173 : decode cX8_instruction 173 = .ok (.ireturn, 1) := by decide +kernel
theorem dX8_instruction_174 : decode cX8_instruction 174 = .ok (.aload_n 0, 1) := by decide +kernel
theorem dX8_instruction_175 : decode cX8_instruction 175 = .ok (.getfield 13, 3) := by decide +kernel
theorem dX8_instruction_178 : decode cX8_instruction 178 = .ok (.iload_n 2, 1) := by decide +kernel
theorem dX8_instruction_179 : decode cX8_instruction 179 = .ok (.invokevirtual 120, 3) := by decide +kernel
theorem dX8_instruction_182 : decode cX8_instruction 182 = .ok (.iconst 1, 1) := by decide +kernel
theorem dX8_instruction_183 : decode cX8_instruction 183 = .ok (.ireturn, 1) := by decide +kernel
theorem dX10_tell_0 : decode cX10_tell 0 = .ok (.aload_n 0, 1) := by decide +kernel
theorem dX10_tell_1 : decode cX10_tell 1 = .ok (.iload_n 1, 1) := by decide +kernel
theorem dX10_tell_2 : decode cX10_tell 2 = .ok (.putfield 17, 3) := by decide +kernel
theorem dX10_tell_5 : decode cX10_tell 5 = .ok (.aload_n 0, 1) := by decide +kernel
theorem dX10_tell_6 : decode cX10_tell 6 = .ok (.iload_n 2, 1) := by decide +kernel
theorem dX10_tell_7 : decode cX10_tell 7 = .ok (.putfield 20, 3) := by decide +kernel
theorem dX10_tell_10 : decode cX10_tell 10 = .ok (.return_, 1) := by decide +kernel
theorem dX2_blame_0 : decode cX2_blame 0 = .ok (.aload_n 0, 1) := by decide +kernel
theorem dX2_blame_1 : decode cX2_blame 1 = .ok (.getfield 30, 3) := by decide +kernel
theorem dX2_blame_4 : decode cX2_blame 4 = .ok (.ifCond .lt 11, 3) := by decide +kernel
theorem dX2_blame_7 : decode cX2_blame 7 = .ok (.iload_n 1, 1) := by decide +kernel
theorem dX2_blame_8 : decode cX2_blame 8 = .ok (.aload_n 0, 1) := by decide +kernel
theorem dX2_blame_9 : decode cX2_blame 9 = .ok (.getfield 30, 3) := by decide +kernel
theorem dX2_blame_12 : decode cX2_blame 12 = .ok (.if_icmp .ge 8, 3) := by decide +kernel
theorem dX2_blame_15 : decode cX2_blame 15 = .ok (.aload_n 0, 1) := by decide +kernel
theorem dX2_blame_16 : decode cX2_blame 16 = .ok (.iload_n 1, 1) := by decide +kernel
theorem dX2_blame_17 : decode cX2_blame 17 = .ok (.putfield 30, 3) := by decide +kernel
theorem dX2_blame_20 : decode cX2_blame 20 = .ok (.return_, 1) := by decide +kernel
theorem dX2_mayDeclare_0 : decode cX2_mayDeclare 0 = .ok (.aload_n 0, 1) := by decide +kernel
theorem dX2_mayDeclare_1 : decode cX2_mayDeclare 1 = .ok (.getfield 9, 3) := by decide +kernel
theorem dX2_mayDeclare_4 : decode cX2_mayDeclare 4 = .ok (.getfield 50, 3) := by decide +kernel
theorem dX2_mayDeclare_7 : decode cX2_mayDeclare 7 = .ok (.iload_n 1, 1) := by decide +kernel
theorem dX2_mayDeclare_8 : decode cX2_mayDeclare 8 = .ok (.iaload, 1) := by decide +kernel
theorem dX2_mayDeclare_9 : decode cX2_mayDeclare 9 = .ok (.istore_n 2, 1) := by decide +kernel
theorem dX2_mayDeclare_10 : decode cX2_mayDeclare 10 = .ok (.aload_n 0, 1) := by decide +kernel
theorem dX2_mayDeclare_11 : decode cX2_mayDeclare 11 = .ok (.getfield 15, 3) := by decide +kernel
theorem dX2_mayDeclare_14 : decode cX2_mayDeclare 14 = .ok (.getfield 71, 3) := by decide +kernel
theorem dX2_mayDeclare_17 : decode cX2_mayDeclare 17 = .ok (.aload_n 0, 1) := by decide +kernel
theorem dX2_mayDeclare_18 : decode cX2_mayDeclare 18 = .ok (.getfield 9, 3) := by decide +kernel
theorem dX2_mayDeclare_21 : decode cX2_mayDeclare 21 = .ok (.getfield 74, 3) := by decide +kernel
theorem dX2_mayDeclare_24 : decode cX2_mayDeclare 24 = .ok (.iload_n 1, 1) := by decide +kernel
theorem dX2_mayDeclare_25 : decode cX2_mayDeclare 25 = .ok (.iaload, 1) := by decide +kernel
theorem dX2_mayDeclare_26 : decode cX2_mayDeclare 26 = .ok (.iaload, 1) := by decide +kernel
theorem dX2_mayDeclare_27 : decode cX2_mayDeclare 27 = .ok (.ifCond .ne 16, 3) := by decide +kernel
theorem dX2_mayDeclare_30 : decode cX2_mayDeclare 30 = .ok (.iload_n 2, 1) := by decide +kernel
theorem dX2_mayDeclare_31 : decode cX2_mayDeclare 31 = .ok (.aload_n 0, 1) := by decide +kernel
theorem dX2_mayDeclare_32 : decode cX2_mayDeclare 32 = .ok (.getfield 15, 3) := by decide +kernel
theorem dX2_mayDeclare_35 : decode cX2_mayDeclare 35 = .ok (.getfield 33, 3) := by decide +kernel
theorem dX2_mayDeclare_38 : decode cX2_mayDeclare 38 = .ok (.if_icmp .eq 5, 3) := by decide +kernel
theorem dX2_mayDeclare_41 : decode cX2_mayDeclare 41 = .ok (.iconst 1, 1) := by decide +kernel
theorem dX2_mayDeclare_42 : decode cX2_mayDeclare 42 = .ok (.ireturn, 1) := by decide +kernel
theorem dX2_mayDeclare_43 : decode cX2_mayDeclare 43 = .ok (.aload_n 0, 1) := by decide +kernel
theorem dX2_mayDeclare_44 : decode cX2_mayDeclare 44 = .ok (.iload_n 2, 1) := by decide +kernel
theorem dX2_mayDeclare_45 : decode cX2_mayDeclare 45 = .ok (.invokevirtual 53, 3) := by decide +kernel
theorem dX2_mayDeclare_48 : decode cX2_mayDeclare 48 = .ok (.iconst 0, 1) := by decide +kernel
theorem dX2_mayDeclare_49 : decode cX2_mayDeclare 49 = .ok (.ireturn, 1) := by decide +kernel
def wpX7_signedNumber (g0 : Int) (σ : ZS) (Q : Int → ZS → Prop) : Prop := (5 ≤ g0 ∧ g0 ≤ 6) ∧ Q (((zI σ g0 2) + 32768) % 65536 - 32768) σ
set_option maxHeartbeats 4000000 in
set_option maxRecDepth 100000 in
theorem kX7_signedNumber (l : Launch) (D : va_G) (dA : Nat → ClassId) (ad : Int → Nat → Nat) (g0 : Int) (σ : ZS) (Q : Int → ZS → Prop) (sz : Nat) (hw : wpX7_signedNumber g0 σ Q) : Met l yX7_signedNumber (gws yX7_signedNumber cX7_signedNumber 1 (some .int)) (gR 1 0 0) (gPre D dA [.ref (ad g0 1000)] (zC dA ad σ) sz) (va_Qi (zQi Q) (gAt D dA (va_A (zC dA ad σ) sz) (zC dA ad)) (va_A (zC dA ad σ) sz)) 0 0 (va_A (zC dA ad σ) sz) := by
  refine Met.ofW (cc := cX7_signedNumber) (maxL := 1) (ret := (some .int)) (by decide) rfl ?_
  intro p e s m args below meth c s₁ B hml hv
  obtain ⟨rfl, hsz, hP, hK, hD0⟩ := hv
  have hx := B.exec
  have hb := B.bytes
  have hr := B.returns
  have hts := atoms_spec (ws := gws yX7_signedNumber cX7_signedNumber 1 (some .int)) B.pre
  have hg : ∀ w ∈ gw, w.before _ s = true := fun w h => hts w (List.mem_cons_of_mem _ h)
  have hown : s.vm.findClass RX7 = some m.cls := findClass_of_methodNamed B.named
  have hlocks := B.notSynchronized
  subst hsz
  have hD := hD0.self (sz := s.heap.size)
  generalize hAe : va_A (zC dA ad σ) s.heap.size = A at hD ⊢
  have hA : ∀ q : Nat, s.heap.size ≤ q → A q := fun q h => by rw [← hAe]; exact Or.inr h
  have hS : va_S A s.heap s.heap [] := va_S.rf
  have hl := lv_entry ([.ref (ad g0 1000)]) (n := 1) (Nat.le_of_ble_eq_true rfl)
  rw [lg_entry_eq]
  generalize (lg_sl ([.ref (ad g0 1000)]) ++ List.replicate (1 - (lg_sl ([.ref (ad g0 1000)])).length) Slot.unset).toArray = ls at hl ⊢
  have hl : lv_has ls 1 [(0, .ref (ad g0 1000))] := hl
  have hret : ∀ (v : Int) (σ : ZS) (H : Heap) (locs : List Loc) (ls : Array Slot) (pc : Nat), Q v σ → va_P D vwC (zC dA ad σ) H → va_D A (zC dA ad σ) → va_S A s.heap H locs → decode cX7_signedNumber pc = .ok (.ireturn, 1) → W p l e (gR 1 0 0) s m #[.ref (ad g0 1000)] below meth c H locs 0 0 (MQ below (va_Qi (zQi Q) (gAt D dA A (zC dA ad)) A) #[.ref (ad g0 1000)] s 0 0 A) (F0 m pc ls [.int (Int32.ofInt v)]) := fun v σ H locs ls pc hw hP hD hS hd => g_iret hx hb hr rfl hlocks hK σ hP hD hS ⟨v, rfl, hw⟩ (Nat.le_of_ble_eq_true rfl) (Nat.le_of_ble_eq_true rfl) hd
  generalize MQ below (va_Qi (zQi Q) (gAt D dA A (zC dA ad)) A) #[.ref (ad g0 1000)] s 0 0 A = QQ at hret ⊢
  unfold wpX7_signedNumber at hw
  refine lv_aload_n hx hb dX7_signedNumber_0 rfl (lv_at hl 0 rfl) ?_
  obtain ⟨o1, hw⟩ := hw
  refine zgCO_2 hx hb hg hown o1 hK hP q313 dX7_signedNumber_1 ?_
  refine z_i2s hx hb dX7_signedNumber_4 ?_
  exact hret (((zI σ g0 2) + 32768) % 65536 - 32768) σ _ _ _ _ hw hP hD hS dX7_signedNumber_5
def wpX7_mode_62 (v0 s0 : Int) (σ : ZS) (Q : Int → ZS → Prop) : Prop := (5 ≤ v0 ∧ v0 ≤ 6) ∧ Q ((s0 + (zI σ v0 7)) - 6) σ
def wpX7_mode_48 (s0 : Int) (σ : ZS) (Q : Int → ZS → Prop) : Prop := Q s0 σ
def wpX7_mode_25 (s0 : Int) (σ : ZS) (Q : Int → ZS → Prop) : Prop := Q s0 σ
def wpX7_mode (g0 : Int) (σ : ZS) (Q : Int → ZS → Prop) : Prop := (5 ≤ g0 ∧ g0 ≤ 6) ∧ (-2147483648 ≤ (zI σ g0 6) ∧ (zI σ g0 6) ≤ 2147483647) ∧ (¬ (zI σ g0 6) = 0 → (-2147483648 ≤ (zI σ g0 7) ∧ (zI σ g0 7) ≤ 2147483647) ∧ (¬ (zI σ g0 7) = 0 → (¬ (zI σ g0 6) = 3 → wpX7_mode_62 g0 2 σ Q) ∧ ((zI σ g0 6) = 3 → wpX7_mode_62 g0 0 σ Q)) ∧ ((zI σ g0 7) = 0 → (¬ (zI σ g0 6) = 3 → wpX7_mode_48 6 σ Q) ∧ ((zI σ g0 6) = 3 → wpX7_mode_48 7 σ Q))) ∧ ((zI σ g0 6) = 0 → (-2147483648 ≤ (zI σ g0 7) ∧ (zI σ g0 7) ≤ 2147483647) ∧ (¬ (zI σ g0 7) = 0 → wpX7_mode_25 ((zI σ g0 7) - 2) σ Q) ∧ ((zI σ g0 7) = 0 → wpX7_mode_25 6 σ Q))
set_option maxHeartbeats 4000000 in
set_option maxRecDepth 100000 in
theorem kX7_mode (l : Launch) (D : va_G) (dA : Nat → ClassId) (ad : Int → Nat → Nat) (g0 : Int) (σ : ZS) (Q : Int → ZS → Prop) (sz : Nat) (hw : wpX7_mode g0 σ Q) : Met l yX7_mode (gws yX7_mode cX7_mode 1 (some .int)) (gR 1 0 0) (gPre D dA [.ref (ad g0 1000)] (zC dA ad σ) sz) (va_Qi (zQi Q) (gAt D dA (va_A (zC dA ad σ) sz) (zC dA ad)) (va_A (zC dA ad σ) sz)) 0 0 (va_A (zC dA ad σ) sz) := by
  refine Met.ofW (cc := cX7_mode) (maxL := 1) (ret := (some .int)) (by decide) rfl ?_
  intro p e s m args below meth c s₁ B hml hv
  obtain ⟨rfl, hsz, hP, hK, hD0⟩ := hv
  have hx := B.exec
  have hb := B.bytes
  have hr := B.returns
  have hts := atoms_spec (ws := gws yX7_mode cX7_mode 1 (some .int)) B.pre
  have hg : ∀ w ∈ gw, w.before _ s = true := fun w h => hts w (List.mem_cons_of_mem _ h)
  have hown : s.vm.findClass RX7 = some m.cls := findClass_of_methodNamed B.named
  have hlocks := B.notSynchronized
  subst hsz
  have hD := hD0.self (sz := s.heap.size)
  generalize hAe : va_A (zC dA ad σ) s.heap.size = A at hD ⊢
  have hA : ∀ q : Nat, s.heap.size ≤ q → A q := fun q h => by rw [← hAe]; exact Or.inr h
  have hS : va_S A s.heap s.heap [] := va_S.rf
  have hl := lv_entry ([.ref (ad g0 1000)]) (n := 1) (Nat.le_of_ble_eq_true rfl)
  rw [lg_entry_eq]
  generalize (lg_sl ([.ref (ad g0 1000)]) ++ List.replicate (1 - (lg_sl ([.ref (ad g0 1000)])).length) Slot.unset).toArray = ls at hl ⊢
  have hl : lv_has ls 1 [(0, .ref (ad g0 1000))] := hl
  have hret : ∀ (v : Int) (σ : ZS) (H : Heap) (locs : List Loc) (ls : Array Slot) (pc : Nat), Q v σ → va_P D vwC (zC dA ad σ) H → va_D A (zC dA ad σ) → va_S A s.heap H locs → decode cX7_mode pc = .ok (.ireturn, 1) → W p l e (gR 1 0 0) s m #[.ref (ad g0 1000)] below meth c H locs 0 0 (MQ below (va_Qi (zQi Q) (gAt D dA A (zC dA ad)) A) #[.ref (ad g0 1000)] s 0 0 A) (F0 m pc ls [.int (Int32.ofInt v)]) := fun v σ H locs ls pc hw hP hD hS hd => g_iret hx hb hr rfl hlocks hK σ hP hD hS ⟨v, rfl, hw⟩ (Nat.le_of_ble_eq_true rfl) (Nat.le_of_ble_eq_true rfl) hd
  generalize MQ below (va_Qi (zQi Q) (gAt D dA A (zC dA ad)) A) #[.ref (ad g0 1000)] s 0 0 A = QQ at hret ⊢
  have j62 : ∀ (v0 s0 : Int) (σ : ZS), ∀ (H : Heap) (locs : List Loc) (ls : Array Slot), va_P D vwC (zC dA ad σ) H → va_D A (zC dA ad σ) → va_S A s.heap H locs → lv_has ls 1 [(0, .ref (ad v0 1000))] → wpX7_mode_62 v0 s0 σ Q → W p l e (gR 1 0 0) s m #[.ref (ad g0 1000)] below meth c H locs 0 0 QQ (F0 m 62 ls [.int (Int32.ofInt s0)]) := by
    intro v0 s0 σ H locs ls hP hD hS hl hw
    unfold wpX7_mode_62 at hw
    refine lv_aload_n hx hb dX7_mode_62 rfl (lv_at hl 0 rfl) ?_
    obtain ⟨o1, hw⟩ := hw
    refine zgCO_7 hx hb hg hown o1 hK hP q327 dX7_mode_63 ?_
    refine z_iadd hx hb dX7_mode_66 ?_
    refine lv_bipush (v := Int32.ofInt 6) hx hb dX7_mode_67 (by decide) ?_
    refine z_isub hx hb dX7_mode_69 ?_
    exact hret ((s0 + (zI σ v0 7)) - 6) σ _ _ _ _ hw hP hD hS dX7_mode_70
  have j48 : ∀ (s0 : Int) (σ : ZS), ∀ (H : Heap) (locs : List Loc) (ls : Array Slot), va_P D vwC (zC dA ad σ) H → va_D A (zC dA ad σ) → va_S A s.heap H locs → lv_has ls 1 [] → wpX7_mode_48 s0 σ Q → W p l e (gR 1 0 0) s m #[.ref (ad g0 1000)] below meth c H locs 0 0 QQ (F0 m 48 ls [.int (Int32.ofInt s0)]) := by
    intro s0 σ H locs ls hP hD hS hl hw
    unfold wpX7_mode_48 at hw
    exact hret s0 σ _ _ _ _ hw hP hD hS dX7_mode_48
  have j25 : ∀ (s0 : Int) (σ : ZS), ∀ (H : Heap) (locs : List Loc) (ls : Array Slot), va_P D vwC (zC dA ad σ) H → va_D A (zC dA ad σ) → va_S A s.heap H locs → lv_has ls 1 [] → wpX7_mode_25 s0 σ Q → W p l e (gR 1 0 0) s m #[.ref (ad g0 1000)] below meth c H locs 0 0 QQ (F0 m 25 ls [.int (Int32.ofInt s0)]) := by
    intro s0 σ H locs ls hP hD hS hl hw
    unfold wpX7_mode_25 at hw
    exact hret s0 σ _ _ _ _ hw hP hD hS dX7_mode_25
  unfold wpX7_mode at hw
  refine lv_aload_n hx hb dX7_mode_0 rfl (lv_at hl 0 rfl) ?_
  obtain ⟨o2, hw⟩ := hw
  refine zgCO_6 hx hb hg hown o2 hK hP q325 dX7_mode_1 ?_
  obtain ⟨o3, hw⟩ := hw
  refine z_if_ne (tgt := 26) hx hb o3 dX7_mode_4 (by decide) (fun k4 => ?_) (fun k4 => ?_)
  · replace hw := hw.1 k4
    refine lv_aload_n hx hb dX7_mode_26 rfl (lv_at hl 0 rfl) ?_
    refine zgCO_7 hx hb hg hown o2 hK hP q327 dX7_mode_27 ?_
    obtain ⟨o5, hw⟩ := hw
    refine z_if_ne (tgt := 49) hx hb o5 dX7_mode_30 (by decide) (fun k6 => ?_) (fun k6 => ?_)
    · replace hw := hw.1 k6
      refine lv_aload_n hx hb dX7_mode_49 rfl (lv_at hl 0 rfl) ?_
      refine zgCO_6 hx hb hg hown o2 hK hP q325 dX7_mode_50 ?_
      refine lv_iconst (v := Int32.ofInt 3) hx hb dX7_mode_53 (by decide) ?_
      refine z_icmp_ne (tgt := 61) hx hb o3 (by decide) dX7_mode_54 (by decide) (fun k7 => ?_) (fun k7 => ?_)
      · replace hw := hw.1 k7
        refine lv_iconst (v := Int32.ofInt 2) hx hb dX7_mode_61 (by decide) ?_
        exact j62 g0 2 σ _ _ _ hP hD hS (lv_sub hl [0] rfl) hw
      · replace hw := hw.2 k7
        refine lv_iconst (v := Int32.ofInt 0) hx hb dX7_mode_57 (by decide) ?_
        refine lv_goto (tgt := 62) hx hb dX7_mode_58 (by decide) ?_
        exact j62 g0 0 σ _ _ _ hP hD hS (lv_sub hl [0] rfl) hw
    · replace hw := hw.2 k6
      refine lv_aload_n hx hb dX7_mode_33 rfl (lv_at hl 0 rfl) ?_
      refine zgCO_6 hx hb hg hown o2 hK hP q325 dX7_mode_34 ?_
      refine lv_iconst (v := Int32.ofInt 3) hx hb dX7_mode_37 (by decide) ?_
      refine z_icmp_ne (tgt := 46) hx hb o3 (by decide) dX7_mode_38 (by decide) (fun k8 => ?_) (fun k8 => ?_)
      · replace hw := hw.1 k8
        refine lv_bipush (v := Int32.ofInt 6) hx hb dX7_mode_46 (by decide) ?_
        exact j48 6 σ _ _ _ hP hD hS (lv_sub hl [] rfl) hw
      · replace hw := hw.2 k8
        refine lv_bipush (v := Int32.ofInt 7) hx hb dX7_mode_41 (by decide) ?_
        refine lv_goto (tgt := 48) hx hb dX7_mode_43 (by decide) ?_
        exact j48 7 σ _ _ _ hP hD hS (lv_sub hl [] rfl) hw
  · replace hw := hw.2 k4
    refine lv_aload_n hx hb dX7_mode_7 rfl (lv_at hl 0 rfl) ?_
    refine zgCO_7 hx hb hg hown o2 hK hP q327 dX7_mode_8 ?_
    obtain ⟨o9, hw⟩ := hw
    refine z_if_ne (tgt := 19) hx hb o9 dX7_mode_11 (by decide) (fun k10 => ?_) (fun k10 => ?_)
    · replace hw := hw.1 k10
      refine lv_aload_n hx hb dX7_mode_19 rfl (lv_at hl 0 rfl) ?_
      refine zgCO_7 hx hb hg hown o2 hK hP q327 dX7_mode_20 ?_
      refine lv_iconst (v := Int32.ofInt 2) hx hb dX7_mode_23 (by decide) ?_
      refine z_isub hx hb dX7_mode_24 ?_
      exact j25 ((zI σ g0 7) - 2) σ _ _ _ hP hD hS (lv_sub hl [] rfl) hw
    · replace hw := hw.2 k10
      refine lv_bipush (v := Int32.ofInt 6) hx hb dX7_mode_14 (by decide) ?_
      refine lv_goto (tgt := 25) hx hb dX7_mode_16 (by decide) ?_
      exact j25 6 σ _ _ _ hP hD hS (lv_sub hl [] rfl) hw
def wpX2_isShort_17 (s0 : Int) (σ : ZS) (Q : Int → ZS → Prop) : Prop := (0 ≤ s0 ∧ s0 ≤ 1) ∧ Q s0 σ
def wpX2_isShort_16 (σ : ZS) (Q : Int → ZS → Prop) : Prop := wpX2_isShort_17 0 σ Q
def wpX2_isShort (a0 : Int) (σ : ZS) (Q : Int → ZS → Prop) : Prop := (-2147483648 ≤ a0 ∧ a0 ≤ 2147483647) ∧ (a0 < (-128) → wpX2_isShort_16 σ Q) ∧ (¬ a0 < (-128) → (127 < a0 → wpX2_isShort_16 σ Q) ∧ (¬ 127 < a0 → wpX2_isShort_17 1 σ Q))
set_option maxHeartbeats 4000000 in
set_option maxRecDepth 100000 in
theorem kX2_isShort (l : Launch) (D : va_G) (dA : Nat → ClassId) (ad : Int → Nat → Nat) (a0 : Int) (σ : ZS) (Q : Int → ZS → Prop) (sz : Nat) (hw : wpX2_isShort a0 σ Q) : Met l yX2_isShort (gws yX2_isShort cX2_isShort 1 (some .boolean)) (gR 1 0 0) (gPre D dA [.int (Int32.ofInt a0)] (zC dA ad σ) sz) (va_Qi (zQi Q) (gAt D dA (va_A (zC dA ad σ) sz) (zC dA ad)) (va_A (zC dA ad σ) sz)) 0 0 (va_A (zC dA ad σ) sz) := by
  refine Met.ofW (cc := cX2_isShort) (maxL := 1) (ret := (some .boolean)) (by decide) rfl ?_
  intro p e s m args below meth c s₁ B hml hv
  obtain ⟨rfl, hsz, hP, hK, hD0⟩ := hv
  have hx := B.exec
  have hb := B.bytes
  have hr := B.returns
  have hts := atoms_spec (ws := gws yX2_isShort cX2_isShort 1 (some .boolean)) B.pre
  have hg : ∀ w ∈ gw, w.before _ s = true := fun w h => hts w (List.mem_cons_of_mem _ h)
  have hown : s.vm.findClass RX2 = some m.cls := findClass_of_methodNamed B.named
  have hlocks := B.notSynchronized
  subst hsz
  have hD := hD0.self (sz := s.heap.size)
  generalize hAe : va_A (zC dA ad σ) s.heap.size = A at hD ⊢
  have hA : ∀ q : Nat, s.heap.size ≤ q → A q := fun q h => by rw [← hAe]; exact Or.inr h
  have hS : va_S A s.heap s.heap [] := va_S.rf
  have hl := lv_entry ([.int (Int32.ofInt a0)]) (n := 1) (Nat.le_of_ble_eq_true rfl)
  rw [lg_entry_eq]
  generalize (lg_sl ([.int (Int32.ofInt a0)]) ++ List.replicate (1 - (lg_sl ([.int (Int32.ofInt a0)])).length) Slot.unset).toArray = ls at hl ⊢
  have hl : lv_has ls 1 [(0, .int (Int32.ofInt a0))] := hl
  have hret : ∀ (v : Int) (σ : ZS) (H : Heap) (locs : List Loc) (ls : Array Slot) (pc : Nat), (0 ≤ v ∧ v ≤ 1) → Q v σ → va_P D vwC (zC dA ad σ) H → va_D A (zC dA ad σ) → va_S A s.heap H locs → decode cX2_isShort pc = .ok (.ireturn, 1) → W p l e (gR 1 0 0) s m #[.int (Int32.ofInt a0)] below meth c H locs 0 0 (MQ below (va_Qi (zQi Q) (gAt D dA A (zC dA ad)) A) #[.int (Int32.ofInt a0)] s 0 0 A) (F0 m pc ls [.int (Int32.ofInt v)]) := fun v σ H locs ls pc hv hw hP hD hS hd => g_iret hx hb hr (z_nb hv) hlocks hK σ hP hD hS ⟨v, rfl, hw⟩ (Nat.le_of_ble_eq_true rfl) (Nat.le_of_ble_eq_true rfl) hd
  generalize MQ below (va_Qi (zQi Q) (gAt D dA A (zC dA ad)) A) #[.int (Int32.ofInt a0)] s 0 0 A = QQ at hret ⊢
  have j17 : ∀ (s0 : Int) (σ : ZS), ∀ (H : Heap) (locs : List Loc) (ls : Array Slot), va_P D vwC (zC dA ad σ) H → va_D A (zC dA ad σ) → va_S A s.heap H locs → lv_has ls 1 [] → wpX2_isShort_17 s0 σ Q → W p l e (gR 1 0 0) s m #[.int (Int32.ofInt a0)] below meth c H locs 0 0 QQ (F0 m 17 ls [.int (Int32.ofInt s0)]) := by
    intro s0 σ H locs ls hP hD hS hl hw
    unfold wpX2_isShort_17 at hw
    obtain ⟨o1, hw⟩ := hw
    exact hret s0 σ _ _ _ _ o1 hw hP hD hS dX2_isShort_17
  have j16 : ∀ (σ : ZS), ∀ (H : Heap) (locs : List Loc) (ls : Array Slot), va_P D vwC (zC dA ad σ) H → va_D A (zC dA ad σ) → va_S A s.heap H locs → lv_has ls 1 [] → wpX2_isShort_16 σ Q → W p l e (gR 1 0 0) s m #[.int (Int32.ofInt a0)] below meth c H locs 0 0 QQ (F0 m 16 ls []) := by
    intro σ H locs ls hP hD hS hl hw
    unfold wpX2_isShort_16 at hw
    refine lv_iconst (v := Int32.ofInt 0) hx hb dX2_isShort_16 (by decide) ?_
    exact j17 0 σ _ _ _ hP hD hS (lv_sub hl [] rfl) hw
  unfold wpX2_isShort at hw
  refine lv_iload_n hx hb dX2_isShort_0 rfl (lv_at hl 0 rfl) ?_
  refine lv_bipush (v := Int32.ofInt (-128)) hx hb dX2_isShort_1 (by decide) ?_
  obtain ⟨o2, hw⟩ := hw
  refine z_icmp_lt (tgt := 16) hx hb o2 (by decide) dX2_isShort_3 (by decide) (fun k3 => ?_) (fun k3 => ?_)
  · replace hw := hw.1 k3
    exact j16 σ _ _ _ hP hD hS (lv_sub hl [] rfl) hw
  · replace hw := hw.2 k3
    refine lv_iload_n hx hb dX2_isShort_6 rfl (lv_at hl 0 rfl) ?_
    refine lv_bipush (v := Int32.ofInt 127) hx hb dX2_isShort_7 (by decide) ?_
    refine z_icmp_gt (tgt := 16) hx hb o2 (by decide) dX2_isShort_9 (by decide) (fun k4 => ?_) (fun k4 => ?_)
    · replace hw := hw.1 k4
      exact j16 σ _ _ _ hP hD hS (lv_sub hl [] rfl) hw
    · replace hw := hw.2 k4
      refine lv_iconst (v := Int32.ofInt 1) hx hb dX2_isShort_12 (by decide) ?_
      refine lv_goto (tgt := 17) hx hb dX2_isShort_13 (by decide) ?_
      exact j17 1 σ _ _ _ hP hD hS (lv_sub hl [] rfl) hw
def wpX7_displacementSize_48 (s0 : Int) (σ : ZS) (Q : Int → ZS → Prop) : Prop := Q s0 σ
def wpX7_displacementSize_36 (v1 : Int) (σ : ZS) (Q : Int → ZS → Prop) : Prop := wpX2_isShort v1 σ (fun (x1 : Int) (σ2 : ZS) => (-2147483648 ≤ x1 ∧ x1 ≤ 2147483647) ∧ (x1 = 0 → wpX7_displacementSize_48 2 σ2 Q) ∧ (¬ x1 = 0 → wpX7_displacementSize_48 1 σ2 Q))
def wpX7_displacementSize_14 (σ : ZS) (Q : Int → ZS → Prop) : Prop := Q 2 σ
def wpX7_displacementSize (g0 : Int) (σ : ZS) (Q : Int → ZS → Prop) : Prop := (5 ≤ g0 ∧ g0 ≤ 6) ∧ wpX7_isBare g0 σ (fun (x6 : Int) (σ7 : ZS) => (-2147483648 ≤ x6 ∧ x6 ≤ 2147483647) ∧ (¬ x6 = 0 → wpX7_displacementSize_14 σ7 Q) ∧ (x6 = 0 → (-2147483648 ≤ (zI σ7 g0 3) ∧ (zI σ7 g0 3) ≤ 2147483647) ∧ ((zI σ7 g0 3) < 0 → wpX7_signedNumber g0 σ7 (fun (x12 : Int) (σ13 : ZS) => (-2147483648 ≤ x12 ∧ x12 ≤ 2147483647) ∧ (¬ x12 = 0 → wpX7_displacementSize_36 x12 σ13 Q) ∧ (x12 = 0 → wpX7_mode g0 σ13 (fun (x16 : Int) (σ17 : ZS) => (-2147483648 ≤ x16 ∧ x16 ≤ 2147483647) ∧ (x16 = 6 → wpX7_displacementSize_36 x12 σ17 Q) ∧ (¬ x16 = 6 → Q 0 σ17))))) ∧ (¬ (zI σ7 g0 3) < 0 → wpX7_displacementSize_14 σ7 Q)))
set_option maxHeartbeats 4000000 in
set_option maxRecDepth 100000 in
theorem kX7_displacementSize (l : Launch) (D : va_G) (dA : Nat → ClassId) (ad : Int → Nat → Nat) (g0 : Int) (σ : ZS) (Q : Int → ZS → Prop) (sz : Nat) (hw : wpX7_displacementSize g0 σ Q) : Met l yX7_displacementSize (gws yX7_displacementSize cX7_displacementSize 2 (some .int)) (gR 2 0 0) (gPre D dA [.ref (ad g0 1000)] (zC dA ad σ) sz) (va_Qi (zQi Q) (gAt D dA (va_A (zC dA ad σ) sz) (zC dA ad)) (va_A (zC dA ad σ) sz)) 0 0 (va_A (zC dA ad σ) sz) := by
  refine Met.ofW (cc := cX7_displacementSize) (maxL := 2) (ret := (some .int)) (by decide) rfl ?_
  intro p e s m args below meth c s₁ B hml hv
  obtain ⟨rfl, hsz, hP, hK, hD0⟩ := hv
  have hx := B.exec
  have hb := B.bytes
  have hr := B.returns
  have hts := atoms_spec (ws := gws yX7_displacementSize cX7_displacementSize 2 (some .int)) B.pre
  have hg : ∀ w ∈ gw, w.before _ s = true := fun w h => hts w (List.mem_cons_of_mem _ h)
  have hown : s.vm.findClass RX7 = some m.cls := findClass_of_methodNamed B.named
  have hlocks := B.notSynchronized
  subst hsz
  have hD := hD0.self (sz := s.heap.size)
  generalize hAe : va_A (zC dA ad σ) s.heap.size = A at hD ⊢
  have hA : ∀ q : Nat, s.heap.size ≤ q → A q := fun q h => by rw [← hAe]; exact Or.inr h
  have hS : va_S A s.heap s.heap [] := va_S.rf
  have hl := lv_entry ([.ref (ad g0 1000)]) (n := 2) (Nat.le_of_ble_eq_true rfl)
  rw [lg_entry_eq]
  generalize (lg_sl ([.ref (ad g0 1000)]) ++ List.replicate (2 - (lg_sl ([.ref (ad g0 1000)])).length) Slot.unset).toArray = ls at hl ⊢
  have hl : lv_has ls 2 [(0, .ref (ad g0 1000))] := hl
  have hret : ∀ (v : Int) (σ : ZS) (H : Heap) (locs : List Loc) (ls : Array Slot) (pc : Nat), Q v σ → va_P D vwC (zC dA ad σ) H → va_D A (zC dA ad σ) → va_S A s.heap H locs → decode cX7_displacementSize pc = .ok (.ireturn, 1) → W p l e (gR 2 0 0) s m #[.ref (ad g0 1000)] below meth c H locs 0 0 (MQ below (va_Qi (zQi Q) (gAt D dA A (zC dA ad)) A) #[.ref (ad g0 1000)] s 0 0 A) (F0 m pc ls [.int (Int32.ofInt v)]) := fun v σ H locs ls pc hw hP hD hS hd => g_iret hx hb hr rfl hlocks hK σ hP hD hS ⟨v, rfl, hw⟩ (Nat.le_of_ble_eq_true rfl) (Nat.le_of_ble_eq_true rfl) hd
  generalize MQ below (va_Qi (zQi Q) (gAt D dA A (zC dA ad)) A) #[.ref (ad g0 1000)] s 0 0 A = QQ at hret ⊢
  have j48 : ∀ (s0 : Int) (σ : ZS), ∀ (H : Heap) (locs : List Loc) (ls : Array Slot), va_P D vwC (zC dA ad σ) H → va_D A (zC dA ad σ) → va_S A s.heap H locs → lv_has ls 2 [] → wpX7_displacementSize_48 s0 σ Q → W p l e (gR 2 0 0) s m #[.ref (ad g0 1000)] below meth c H locs 0 0 QQ (F0 m 48 ls [.int (Int32.ofInt s0)]) := by
    intro s0 σ H locs ls hP hD hS hl hw
    unfold wpX7_displacementSize_48 at hw
    exact hret s0 σ _ _ _ _ hw hP hD hS dX7_displacementSize_48
  have j36 : ∀ (v1 : Int) (σ : ZS), ∀ (H : Heap) (locs : List Loc) (ls : Array Slot), va_P D vwC (zC dA ad σ) H → va_D A (zC dA ad σ) → va_S A s.heap H locs → lv_has ls 2 [(1, .int (Int32.ofInt v1))] → wpX7_displacementSize_36 v1 σ Q → W p l e (gR 2 0 0) s m #[.ref (ad g0 1000)] below meth c H locs 0 0 QQ (F0 m 36 ls []) := by
    intro v1 σ H locs ls hP hD hS hl hw
    unfold wpX7_displacementSize_36 at hw
    refine lv_iload_n hx hb dX7_displacementSize_36 rfl (lv_at hl 0 rfl) ?_
    refine z_Si (n := 1) (As := [.int (Int32.ofInt v1)]) (rest := []) hx hb hml hg hown hK hP hD hS hA (kX2_isShort l D dA ad v1 σ _ _ hw) q1069 q155 q1067 q1068 (by decide +kernel) ⟨(Nat.le_of_ble_eq_true rfl), (Nat.le_of_ble_eq_true rfl)⟩ rfl hl.1 rfl (Nat.le_of_ble_eq_true rfl) dX7_displacementSize_37 ⟨(Nat.le_of_ble_eq_true rfl), (Nat.le_of_ble_eq_true rfl)⟩ (fun x1 σ2 H locs hw hP hD hS => ?_)
    obtain ⟨o3, hw⟩ := hw
    refine z_if_eq (tgt := 47) hx hb o3 dX7_displacementSize_40 (by decide) (fun k4 => ?_) (fun k4 => ?_)
    · replace hw := hw.1 k4
      refine lv_iconst (v := Int32.ofInt 2) hx hb dX7_displacementSize_47 (by decide) ?_
      exact j48 2 σ2 _ _ _ hP hD hS (lv_sub hl [] rfl) hw
    · replace hw := hw.2 k4
      refine lv_iconst (v := Int32.ofInt 1) hx hb dX7_displacementSize_43 (by decide) ?_
      refine lv_goto (tgt := 48) hx hb dX7_displacementSize_44 (by decide) ?_
      exact j48 1 σ2 _ _ _ hP hD hS (lv_sub hl [] rfl) hw
  have j14 : ∀ (σ : ZS), ∀ (H : Heap) (locs : List Loc) (ls : Array Slot), va_P D vwC (zC dA ad σ) H → va_D A (zC dA ad σ) → va_S A s.heap H locs → lv_has ls 2 [] → wpX7_displacementSize_14 σ Q → W p l e (gR 2 0 0) s m #[.ref (ad g0 1000)] below meth c H locs 0 0 QQ (F0 m 14 ls []) := by
    intro σ H locs ls hP hD hS hl hw
    unfold wpX7_displacementSize_14 at hw
    refine lv_iconst (v := Int32.ofInt 2) hx hb dX7_displacementSize_14 (by decide) ?_
    exact hret 2 σ _ _ _ _ hw hP hD hS dX7_displacementSize_15
  unfold wpX7_displacementSize at hw
  refine lv_aload_n hx hb dX7_displacementSize_0 rfl (lv_at hl 0 rfl) ?_
  obtain ⟨o5, hw⟩ := hw
  refine z_Vi (n := 0) (As := []) (rest := []) hx hb hml hg hown hK hP hD hS hA (kX7_isBare l D dA ad g0 σ _ _ hw) (zoCO o5) rfl q1058 q154 q1055 q1056 q1057 (by decide +kernel) ⟨(Nat.le_of_ble_eq_true rfl), (Nat.le_of_ble_eq_true rfl)⟩ rfl hl.1 rfl (Nat.le_of_ble_eq_true rfl) dX7_displacementSize_1 ⟨(Nat.le_of_ble_eq_true rfl), (Nat.le_of_ble_eq_true rfl)⟩ (fun x6 σ7 H locs hw hP hD hS => ?_)
  obtain ⟨o8, hw⟩ := hw
  refine z_if_ne (tgt := 14) hx hb o8 dX7_displacementSize_4 (by decide) (fun k9 => ?_) (fun k9 => ?_)
  · replace hw := hw.1 k9
    exact j14 σ7 _ _ _ hP hD hS (lv_sub hl [] rfl) hw
  · replace hw := hw.2 k9
    refine lv_aload_n hx hb dX7_displacementSize_7 rfl (lv_at hl 0 rfl) ?_
    refine zgCO_3 hx hb hg hown o5 hK hP q316 dX7_displacementSize_8 ?_
    obtain ⟨o10, hw⟩ := hw
    refine z_if_lt (tgt := 16) hx hb o10 dX7_displacementSize_11 (by decide) (fun k11 => ?_) (fun k11 => ?_)
    · replace hw := hw.1 k11
      refine lv_aload_n hx hb dX7_displacementSize_16 rfl (lv_at hl 0 rfl) ?_
      refine z_Vi (n := 0) (As := []) (rest := []) hx hb hml hg hown hK hP hD hS hA (kX7_signedNumber l D dA ad g0 σ7 _ _ hw) (zoCO o5) rfl q1062 q154 q1059 q1060 q1061 (by decide +kernel) ⟨(Nat.le_of_ble_eq_true rfl), (Nat.le_of_ble_eq_true rfl)⟩ rfl hl.1 rfl (Nat.le_of_ble_eq_true rfl) dX7_displacementSize_17 ⟨(Nat.le_of_ble_eq_true rfl), (Nat.le_of_ble_eq_true rfl)⟩ (fun x12 σ13 H locs hw hP hD hS => ?_)
      refine lv_istore_n (lv' := [(1, .int (Int32.ofInt x12)), (0, .ref (ad g0 1000))]) hx hb dX7_displacementSize_20 rfl hl (by decide) rfl (fun ls hl => ?_)
      refine lv_iload_n hx hb dX7_displacementSize_21 rfl (lv_at hl 0 rfl) ?_
      obtain ⟨o14, hw⟩ := hw
      refine z_if_ne (tgt := 36) hx hb o14 dX7_displacementSize_22 (by decide) (fun k15 => ?_) (fun k15 => ?_)
      · replace hw := hw.1 k15
        exact j36 x12 σ13 _ _ _ hP hD hS (lv_sub hl [0] rfl) hw
      · replace hw := hw.2 k15
        refine lv_aload_n hx hb dX7_displacementSize_25 rfl (lv_at hl 1 rfl) ?_
        refine z_Vi (n := 0) (As := []) (rest := []) hx hb hml hg hown hK hP hD hS hA (kX7_mode l D dA ad g0 σ13 _ _ hw) (zoCO o5) rfl q1066 q154 q1063 q1064 q1065 (by decide +kernel) ⟨(Nat.le_of_ble_eq_true rfl), (Nat.le_of_ble_eq_true rfl)⟩ rfl hl.1 rfl (Nat.le_of_ble_eq_true rfl) dX7_displacementSize_26 ⟨(Nat.le_of_ble_eq_true rfl), (Nat.le_of_ble_eq_true rfl)⟩ (fun x16 σ17 H locs hw hP hD hS => ?_)
        refine lv_bipush (v := Int32.ofInt 6) hx hb dX7_displacementSize_29 (by decide) ?_
        obtain ⟨o18, hw⟩ := hw
        refine z_icmp_eq (tgt := 36) hx hb o18 (by decide) dX7_displacementSize_31 (by decide) (fun k19 => ?_) (fun k19 => ?_)
        · replace hw := hw.1 k19
          exact j36 x12 σ17 _ _ _ hP hD hS (lv_sub hl [0] rfl) hw
        · replace hw := hw.2 k19
          refine lv_iconst (v := Int32.ofInt 0) hx hb dX7_displacementSize_34 (by decide) ?_
          exact hret 0 σ17 _ _ _ _ hw hP hD hS dX7_displacementSize_35
    · replace hw := hw.2 k11
      exact j14 σ7 _ _ _ hP hD hS (lv_sub hl [] rfl) hw
def wpX0_addWithM_95 (σ : ZS) (Q : ZS → Prop) : Prop := Q σ
def wpX0_addWithM_53 (v2 v3 v4 s2 s1 : Int) (σ : ZS) (Q : ZS → Prop) : Prop := (5 ≤ v2 ∧ v2 ≤ 6) ∧ wpX7_mode v2 σ (fun (x2 : Int) (σ3 : ZS) => wpX0_addByte (((s1 * s2) + (8 * v3)) + x2) σ3 (fun (σ5 : ZS) => (-2147483648 ≤ v4 ∧ v4 ≤ 2147483647) ∧ (¬ v4 = 1 → (¬ v4 = 2 → wpX0_addWithM_95 σ5 Q) ∧ (v4 = 2 → wpX0_addValue v2 σ5 (fun (σ10 : ZS) => wpX0_addWithM_95 σ10 Q))) ∧ (v4 = 1 → wpX0_addByte (zI σ5 v2 2) σ5 (fun (σ12 : ZS) => wpX0_addWithM_95 σ12 Q))))
def wpX0_addWithM (a1 g2 a3 : Int) (σ : ZS) (Q : ZS → Prop) : Prop := wpX0_addByte a1 σ (fun (σ14 : ZS) => (5 ≤ g2 ∧ g2 ≤ 6) ∧ (-2147483648 ≤ (zI σ14 g2 0) ∧ (zI σ14 g2 0) ≤ 2147483647) ∧ (¬ (zI σ14 g2 0) = 1 → wpX7_displacementSize g2 σ14 (fun (x18 : Int) (σ19 : ZS) => wpX7_isBare g2 σ19 (fun (x20 : Int) (σ21 : ZS) => (-2147483648 ≤ x20 ∧ x20 ≤ 2147483647) ∧ (x20 = 0 → wpX0_addWithM_53 g2 a3 x18 x18 64 σ21 Q) ∧ (¬ x20 = 0 → wpX0_addWithM_53 g2 a3 x18 0 64 σ21 Q)))) ∧ ((zI σ14 g2 0) = 1 → wpX0_addByte ((192 + (8 * a3)) + (zI σ14 g2 1)) σ14 (fun (σ25 : ZS) => Q σ25)))
set_option maxHeartbeats 4000000 in
set_option maxRecDepth 100000 in
theorem kX0_addWithM (l : Launch) (D : va_G) (dA : Nat → ClassId) (ad : Int → Nat → Nat) (a1 g2 a3 : Int) (σ : ZS) (Q : ZS → Prop) (sz : Nat) (hw : wpX0_addWithM a1 g2 a3 σ Q) : Met l yX0_addWithM (gws yX0_addWithM cX0_addWithM 5 none) (gR 3 0 0) (gPre D dA [.ref (ad 13 1000), .int (Int32.ofInt a1), .ref (ad g2 1000), .int (Int32.ofInt a3)] (zC dA ad σ) sz) (va_Qv Q (gAt D dA (va_A (zC dA ad σ) sz) (zC dA ad)) (va_A (zC dA ad σ) sz)) 0 0 (va_A (zC dA ad σ) sz) := by
  refine Met.ofW (cc := cX0_addWithM) (maxL := 5) (ret := none) (by decide) rfl ?_
  intro p e s m args below meth c s₁ B hml hv
  obtain ⟨rfl, hsz, hP, hK, hD0⟩ := hv
  have hx := B.exec
  have hb := B.bytes
  have hr := B.returns
  have hts := atoms_spec (ws := gws yX0_addWithM cX0_addWithM 5 none) B.pre
  have hg : ∀ w ∈ gw, w.before _ s = true := fun w h => hts w (List.mem_cons_of_mem _ h)
  have hown : s.vm.findClass RX0 = some m.cls := findClass_of_methodNamed B.named
  have hlocks := B.notSynchronized
  subst hsz
  have hD := hD0.self (sz := s.heap.size)
  generalize hAe : va_A (zC dA ad σ) s.heap.size = A at hD ⊢
  have hA : ∀ q : Nat, s.heap.size ≤ q → A q := fun q h => by rw [← hAe]; exact Or.inr h
  have hS : va_S A s.heap s.heap [] := va_S.rf
  have hl := lv_entry ([.ref (ad 13 1000), .int (Int32.ofInt a1), .ref (ad g2 1000), .int (Int32.ofInt a3)]) (n := 5) (Nat.le_of_ble_eq_true rfl)
  rw [lg_entry_eq]
  generalize (lg_sl ([.ref (ad 13 1000), .int (Int32.ofInt a1), .ref (ad g2 1000), .int (Int32.ofInt a3)]) ++ List.replicate (5 - (lg_sl ([.ref (ad 13 1000), .int (Int32.ofInt a1), .ref (ad g2 1000), .int (Int32.ofInt a3)])).length) Slot.unset).toArray = ls at hl ⊢
  have hl : lv_has ls 5 [(0, .ref (ad 13 1000)), (1, .int (Int32.ofInt a1)), (2, .ref (ad g2 1000)), (3, .int (Int32.ofInt a3))] := hl
  have hret : ∀ (σ : ZS) (H : Heap) (locs : List Loc) (ls : Array Slot) (pc : Nat), Q σ → va_P D vwC (zC dA ad σ) H → va_D A (zC dA ad σ) → va_S A s.heap H locs → decode cX0_addWithM pc = .ok (.return_, 1) → W p l e (gR 3 0 0) s m #[.ref (ad 13 1000), .int (Int32.ofInt a1), .ref (ad g2 1000), .int (Int32.ofInt a3)] below meth c H locs 0 0 (MQ below (va_Qv Q (gAt D dA A (zC dA ad)) A) #[.ref (ad 13 1000), .int (Int32.ofInt a1), .ref (ad g2 1000), .int (Int32.ofInt a3)] s 0 0 A) (F0 m pc ls []) := fun σ H locs ls pc hw hP hD hS hd => g_vret hx hb hr hlocks hK σ hP hD hS hw (Nat.le_of_ble_eq_true rfl) (Nat.le_of_ble_eq_true rfl) hd
  generalize MQ below (va_Qv Q (gAt D dA A (zC dA ad)) A) #[.ref (ad 13 1000), .int (Int32.ofInt a1), .ref (ad g2 1000), .int (Int32.ofInt a3)] s 0 0 A = QQ at hret ⊢
  have j95 : ∀ (σ : ZS), ∀ (H : Heap) (locs : List Loc) (ls : Array Slot), va_P D vwC (zC dA ad σ) H → va_D A (zC dA ad σ) → va_S A s.heap H locs → lv_has ls 5 [] → wpX0_addWithM_95 σ Q → W p l e (gR 3 0 0) s m #[.ref (ad 13 1000), .int (Int32.ofInt a1), .ref (ad g2 1000), .int (Int32.ofInt a3)] below meth c H locs 0 0 QQ (F0 m 95 ls []) := by
    intro σ H locs ls hP hD hS hl hw
    unfold wpX0_addWithM_95 at hw
    exact hret σ _ _ _ _ hw hP hD hS dX0_addWithM_95
  have j53 : ∀ (v2 v3 v4 s2 s1 : Int) (σ : ZS), ∀ (H : Heap) (locs : List Loc) (ls : Array Slot), va_P D vwC (zC dA ad σ) H → va_D A (zC dA ad σ) → va_S A s.heap H locs → lv_has ls 5 [(0, .ref (ad 13 1000)), (2, .ref (ad v2 1000)), (3, .int (Int32.ofInt v3)), (4, .int (Int32.ofInt v4))] → wpX0_addWithM_53 v2 v3 v4 s2 s1 σ Q → W p l e (gR 3 0 0) s m #[.ref (ad 13 1000), .int (Int32.ofInt a1), .ref (ad g2 1000), .int (Int32.ofInt a3)] below meth c H locs 0 0 QQ (F0 m 53 ls [.int (Int32.ofInt s2), .int (Int32.ofInt s1), .ref (ad 13 1000)]) := by
    intro v2 v3 v4 s2 s1 σ H locs ls hP hD hS hl hw
    unfold wpX0_addWithM_53 at hw
    refine z_imul hx hb dX0_addWithM_53 ?_
    refine lv_bipush (v := Int32.ofInt 8) hx hb dX0_addWithM_54 (by decide) ?_
    refine lv_iload_n hx hb dX0_addWithM_56 rfl (lv_at hl 2 rfl) ?_
    refine z_imul hx hb dX0_addWithM_57 ?_
    refine z_iadd hx hb dX0_addWithM_58 ?_
    refine lv_aload_n hx hb dX0_addWithM_59 rfl (lv_at hl 1 rfl) ?_
    obtain ⟨o1, hw⟩ := hw
    refine z_Vi (n := 0) (As := []) (rest := [.int (Int32.ofInt ((s1 * s2) + (8 * v3))), .ref (ad 13 1000)]) hx hb hml hg hown hK hP hD hS hA (kX7_mode l D dA ad v2 σ _ _ hw) (zoCO o1) rfl q1066 q154 q1071 q1064 q1065 (by decide +kernel) ⟨(Nat.le_of_ble_eq_true rfl), (Nat.le_of_ble_eq_true rfl)⟩ rfl hl.1 rfl (Nat.le_of_ble_eq_true rfl) dX0_addWithM_60 ⟨(Nat.le_of_ble_eq_true rfl), (Nat.le_of_ble_eq_true rfl)⟩ (fun x2 σ3 H locs hw hP hD hS => ?_)
    refine z_iadd hx hb dX0_addWithM_63 ?_
    refine z_Vv (n := 1) (As := [.int (Int32.ofInt (((s1 * s2) + (8 * v3)) + x2))]) (rest := []) hx hb hml hg hown hK hP hD hS hA (kX0_addByte l D dA ad (((s1 * s2) + (8 * v3)) + x2) σ3 _ _ hw) (zoC13) rfl q1050 q152 q1047 q1048 q1049 (by decide +kernel) ⟨(Nat.le_of_ble_eq_true rfl), (Nat.le_of_ble_eq_true rfl)⟩ rfl hl.1 rfl (Nat.le_of_ble_eq_true rfl) dX0_addWithM_64 ⟨(Nat.le_of_ble_eq_true rfl), (Nat.le_of_ble_eq_true rfl)⟩ (fun σ5 H locs hw hP hD hS => ?_)
    refine lv_iload hx hb dX0_addWithM_67 (lv_at hl 3 rfl) ?_
    refine lv_iconst (v := Int32.ofInt 1) hx hb dX0_addWithM_69 (by decide) ?_
    obtain ⟨o6, hw⟩ := hw
    refine z_icmp_ne (tgt := 84) hx hb o6 (by decide) dX0_addWithM_70 (by decide) (fun k7 => ?_) (fun k7 => ?_)
    · replace hw := hw.1 k7
      refine lv_iload hx hb dX0_addWithM_84 (lv_at hl 3 rfl) ?_
      refine lv_iconst (v := Int32.ofInt 2) hx hb dX0_addWithM_86 (by decide) ?_
      refine z_icmp_ne (tgt := 95) hx hb o6 (by decide) dX0_addWithM_87 (by decide) (fun k8 => ?_) (fun k8 => ?_)
      · replace hw := hw.1 k8
        exact j95 σ5 _ _ _ hP hD hS (lv_sub hl [] rfl) hw
      · replace hw := hw.2 k8
        refine lv_aload_n hx hb dX0_addWithM_90 rfl (lv_at hl 0 rfl) ?_
        refine lv_aload_n hx hb dX0_addWithM_91 rfl (lv_at hl 1 rfl) ?_
        refine z_Vv (n := 1) (As := [.ref (ad v2 1000)]) (rest := []) hx hb hml hg hown hK hP hD hS hA (kX0_addValue l D dA ad v2 σ5 _ _ hw) (zoC13) rfl q1023 q152 q1072 q1021 q1022 (by decide +kernel) ⟨(Nat.le_of_ble_eq_true rfl), (Nat.le_of_ble_eq_true rfl)⟩ rfl hl.1 rfl (Nat.le_of_ble_eq_true rfl) dX0_addWithM_92 ⟨(Nat.le_of_ble_eq_true rfl), (Nat.le_of_ble_eq_true rfl)⟩ (fun σ10 H locs hw hP hD hS => ?_)
        exact j95 σ10 _ _ _ hP hD hS (lv_sub hl [] rfl) hw
    · replace hw := hw.2 k7
      refine lv_aload_n hx hb dX0_addWithM_73 rfl (lv_at hl 0 rfl) ?_
      refine lv_aload_n hx hb dX0_addWithM_74 rfl (lv_at hl 1 rfl) ?_
      refine zgCO_2 hx hb hg hown o1 hK hP q314 dX0_addWithM_75 ?_
      refine z_Vv (n := 1) (As := [.int (Int32.ofInt (zI σ5 v2 2))]) (rest := []) hx hb hml hg hown hK hP hD hS hA (kX0_addByte l D dA ad (zI σ5 v2 2) σ5 _ _ hw) (zoC13) rfl q1050 q152 q1047 q1048 q1049 (by decide +kernel) ⟨(Nat.le_of_ble_eq_true rfl), (Nat.le_of_ble_eq_true rfl)⟩ rfl hl.1 rfl (Nat.le_of_ble_eq_true rfl) dX0_addWithM_78 ⟨(Nat.le_of_ble_eq_true rfl), (Nat.le_of_ble_eq_true rfl)⟩ (fun σ12 H locs hw hP hD hS => ?_)
      refine lv_goto (tgt := 95) hx hb dX0_addWithM_81 (by decide) ?_
      exact j95 σ12 _ _ _ hP hD hS (lv_sub hl [] rfl) hw
  unfold wpX0_addWithM at hw
  refine lv_aload_n hx hb dX0_addWithM_0 rfl (lv_at hl 0 rfl) ?_
  refine lv_iload_n hx hb dX0_addWithM_1 rfl (lv_at hl 1 rfl) ?_
  refine z_Vv (n := 1) (As := [.int (Int32.ofInt a1)]) (rest := []) hx hb hml hg hown hK hP hD hS hA (kX0_addByte l D dA ad a1 σ _ _ hw) (zoC13) rfl q1050 q152 q1047 q1048 q1049 (by decide +kernel) ⟨(Nat.le_of_ble_eq_true rfl), (Nat.le_of_ble_eq_true rfl)⟩ rfl hl.1 rfl (Nat.le_of_ble_eq_true rfl) dX0_addWithM_2 ⟨(Nat.le_of_ble_eq_true rfl), (Nat.le_of_ble_eq_true rfl)⟩ (fun σ14 H locs hw hP hD hS => ?_)
  refine lv_aload_n hx hb dX0_addWithM_5 rfl (lv_at hl 2 rfl) ?_
  obtain ⟨o15, hw⟩ := hw
  refine zgCO_0 hx hb hg hown o15 hK hP q308 dX0_addWithM_6 ?_
  refine lv_iconst (v := Int32.ofInt 1) hx hb dX0_addWithM_9 (by decide) ?_
  obtain ⟨o16, hw⟩ := hw
  refine z_icmp_ne (tgt := 31) hx hb o16 (by decide) dX0_addWithM_10 (by decide) (fun k17 => ?_) (fun k17 => ?_)
  · replace hw := hw.1 k17
    refine lv_aload_n hx hb dX0_addWithM_31 rfl (lv_at hl 2 rfl) ?_
    refine z_Vi (n := 0) (As := []) (rest := []) hx hb hml hg hown hK hP hD hS hA (kX7_displacementSize l D dA ad g2 σ14 _ _ hw) (zoCO o15) rfl q1054 q154 q1051 q1052 q1053 (by decide +kernel) ⟨(Nat.le_of_ble_eq_true rfl), (Nat.le_of_ble_eq_true rfl)⟩ rfl hl.1 rfl (Nat.le_of_ble_eq_true rfl) dX0_addWithM_32 ⟨(Nat.le_of_ble_eq_true rfl), (Nat.le_of_ble_eq_true rfl)⟩ (fun x18 σ19 H locs hw hP hD hS => ?_)
    refine lv_istore (lv' := [(4, .int (Int32.ofInt x18)), (0, .ref (ad 13 1000)), (1, .int (Int32.ofInt a1)), (2, .ref (ad g2 1000)), (3, .int (Int32.ofInt a3))]) hx hb dX0_addWithM_35 hl (by decide) rfl (fun ls hl => ?_)
    refine lv_aload_n hx hb dX0_addWithM_37 rfl (lv_at hl 1 rfl) ?_
    refine lv_bipush (v := Int32.ofInt 64) hx hb dX0_addWithM_38 (by decide) ?_
    refine lv_aload_n hx hb dX0_addWithM_40 rfl (lv_at hl 3 rfl) ?_
    refine z_Vi (n := 0) (As := []) (rest := [.int (Int32.ofInt 64), .ref (ad 13 1000)]) hx hb hml hg hown hK hP hD hS hA (kX7_isBare l D dA ad g2 σ19 _ _ hw) (zoCO o15) rfl q1058 q154 q1070 q1056 q1057 (by decide +kernel) ⟨(Nat.le_of_ble_eq_true rfl), (Nat.le_of_ble_eq_true rfl)⟩ rfl hl.1 rfl (Nat.le_of_ble_eq_true rfl) dX0_addWithM_41 ⟨(Nat.le_of_ble_eq_true rfl), (Nat.le_of_ble_eq_true rfl)⟩ (fun x20 σ21 H locs hw hP hD hS => ?_)
    obtain ⟨o22, hw⟩ := hw
    refine z_if_eq (tgt := 51) hx hb o22 dX0_addWithM_44 (by decide) (fun k23 => ?_) (fun k23 => ?_)
    · replace hw := hw.1 k23
      refine lv_iload hx hb dX0_addWithM_51 (lv_at hl 0 rfl) ?_
      exact j53 g2 a3 x18 x18 64 σ21 _ _ _ hP hD hS (lv_sub hl [1, 3, 4, 0] rfl) hw
    · replace hw := hw.2 k23
      refine lv_iconst (v := Int32.ofInt 0) hx hb dX0_addWithM_47 (by decide) ?_
      refine lv_goto (tgt := 53) hx hb dX0_addWithM_48 (by decide) ?_
      exact j53 g2 a3 x18 0 64 σ21 _ _ _ hP hD hS (lv_sub hl [1, 3, 4, 0] rfl) hw
  · replace hw := hw.2 k17
    refine lv_aload_n hx hb dX0_addWithM_13 rfl (lv_at hl 0 rfl) ?_
    refine lv_sipush (v := Int32.ofInt 192) hx hb dX0_addWithM_14 (by decide) ?_
    refine lv_bipush (v := Int32.ofInt 8) hx hb dX0_addWithM_17 (by decide) ?_
    refine lv_iload_n hx hb dX0_addWithM_19 rfl (lv_at hl 3 rfl) ?_
    refine z_imul hx hb dX0_addWithM_20 ?_
    refine z_iadd hx hb dX0_addWithM_21 ?_
    refine lv_aload_n hx hb dX0_addWithM_22 rfl (lv_at hl 2 rfl) ?_
    refine zgCO_1 hx hb hg hown o15 hK hP q311 dX0_addWithM_23 ?_
    refine z_iadd hx hb dX0_addWithM_26 ?_
    refine z_Vv (n := 1) (As := [.int (Int32.ofInt ((192 + (8 * a3)) + (zI σ14 g2 1)))]) (rest := []) hx hb hml hg hown hK hP hD hS hA (kX0_addByte l D dA ad ((192 + (8 * a3)) + (zI σ14 g2 1)) σ14 _ _ hw) (zoC13) rfl q1050 q152 q1047 q1048 q1049 (by decide +kernel) ⟨(Nat.le_of_ble_eq_true rfl), (Nat.le_of_ble_eq_true rfl)⟩ rfl hl.1 rfl (Nat.le_of_ble_eq_true rfl) dX0_addWithM_27 ⟨(Nat.le_of_ble_eq_true rfl), (Nat.le_of_ble_eq_true rfl)⟩ (fun σ25 H locs hw hP hD hS => ?_)
    exact hret σ25 _ _ _ _ hw hP hD hS dX0_addWithM_30
def wpX8_mov_273 (σ : ZS) (Q : Int → ZS → Prop) : Prop := Q 1 σ
def wpX8_mov_203 (σ : ZS) (Q : Int → ZS → Prop) : Prop := wpX0_addValue 6 σ (fun (σ2 : ZS) => wpX8_mov_273 σ2 Q)
def wpX8_mov_59 (v1 : Int) (σ : ZS) (Q : Int → ZS → Prop) : Prop := wpX8_operand 6 v1 σ (fun (x3 : Int) (σ4 : ZS) => (-2147483648 ≤ x3 ∧ x3 ≤ 2147483647) ∧ (¬ x3 = 0 → (-2147483648 ≤ (zI σ4 5 0) ∧ (zI σ4 5 0) ≤ 2147483647) ∧ (¬ (zI σ4 5 0) = 8 → (-2147483648 ≤ (zI σ4 6 0) ∧ (zI σ4 6 0) ≤ 2147483647) ∧ (¬ (zI σ4 6 0) = 8 → (¬ (zI σ4 6 0) = 4 → (¬ (zI σ4 5 0) = 1 → wpX0_addWithM 137 5 (zI σ4 6 1) σ4 (fun (σ14 : ZS) => wpX8_mov_273 σ14 Q)) ∧ ((zI σ4 5 0) = 1 → wpX0_addWithM 139 6 (zI σ4 5 1) σ4 (fun (σ16 : ZS) => wpX8_mov_273 σ16 Q))) ∧ ((zI σ4 6 0) = 4 → (¬ (zI σ4 5 0) = 1 → wpX0_addWithM 199 5 0 σ4 (fun (σ19 : ZS) => wpX8_mov_203 σ19 Q)) ∧ ((zI σ4 5 0) = 1 → wpX0_addByte (184 + (zI σ4 5 1)) σ4 (fun (σ21 : ZS) => wpX8_mov_203 σ21 Q)))) ∧ ((zI σ4 6 0) = 8 → wpX0_addWithM 140 5 (zI σ4 6 1) σ4 (fun (σ23 : ZS) => wpX8_mov_273 σ23 Q))) ∧ ((zI σ4 5 0) = 8 → wpX0_addWithM 142 6 (zI σ4 5 1) σ4 (fun (σ25 : ZS) => wpX8_mov_273 σ25 Q))) ∧ (x3 = 0 → Q 0 σ4))
def wpX8_mov_22 (σ : ZS) (Q : Int → ZS → Prop) : Prop := Q 0 σ
def wpX8_mov (σ : ZS) (Q : Int → ZS → Prop) : Prop := wpX8_operand 5 11 σ (fun (x26 : Int) (σ27 : ZS) => (-2147483648 ≤ x26 ∧ x26 ≤ 2147483647) ∧ (x26 = 0 → wpX8_mov_22 σ27 Q) ∧ (¬ x26 = 0 → wpX8_take 44 σ27 (fun (x30 : Int) (σ31 : ZS) => (-2147483648 ≤ x30 ∧ x30 ≤ 2147483647) ∧ (¬ x30 = 0 → (-2147483648 ≤ (zI σ31 5 0) ∧ (zI σ31 5 0) ≤ 2147483647) ∧ (¬ (zI σ31 5 0) = 1 → (¬ (zI σ31 5 0) = 8 → wpX8_mov_59 29 σ31 Q) ∧ ((zI σ31 5 0) = 8 → wpX8_mov_59 3 σ31 Q)) ∧ ((zI σ31 5 0) = 1 → wpX8_mov_59 (zor 29 2) σ31 Q)) ∧ (x30 = 0 → wpX8_mov_22 σ31 Q))))
set_option maxHeartbeats 4000000 in
set_option maxRecDepth 100000 in
theorem kX8_mov (l : Launch) (D : va_G) (dA : Nat → ClassId) (ad : Int → Nat → Nat) (σ : ZS) (Q : Int → ZS → Prop) (sz : Nat) (hw : wpX8_mov σ Q) : Met l yX8_mov (gws yX8_mov cX8_mov 2 (some .boolean)) (gR 4 0 0) (gPre D dA [.ref (ad 14 1000)] (zC dA ad σ) sz) (va_Qi (zQi Q) (gAt D dA (va_A (zC dA ad σ) sz) (zC dA ad)) (va_A (zC dA ad σ) sz)) 0 0 (va_A (zC dA ad σ) sz) := by
  refine Met.ofW (cc := cX8_mov) (maxL := 2) (ret := (some .boolean)) (by decide) rfl ?_
  intro p e s m args below meth c s₁ B hml hv
  obtain ⟨rfl, hsz, hP, hK, hD0⟩ := hv
  have hx := B.exec
  have hb := B.bytes
  have hr := B.returns
  have hts := atoms_spec (ws := gws yX8_mov cX8_mov 2 (some .boolean)) B.pre
  have hg : ∀ w ∈ gw, w.before _ s = true := fun w h => hts w (List.mem_cons_of_mem _ h)
  have hown : s.vm.findClass RX8 = some m.cls := findClass_of_methodNamed B.named
  have hlocks := B.notSynchronized
  subst hsz
  have hD := hD0.self (sz := s.heap.size)
  generalize hAe : va_A (zC dA ad σ) s.heap.size = A at hD ⊢
  have hA : ∀ q : Nat, s.heap.size ≤ q → A q := fun q h => by rw [← hAe]; exact Or.inr h
  have hS : va_S A s.heap s.heap [] := va_S.rf
  have hl := lv_entry ([.ref (ad 14 1000)]) (n := 2) (Nat.le_of_ble_eq_true rfl)
  rw [lg_entry_eq]
  generalize (lg_sl ([.ref (ad 14 1000)]) ++ List.replicate (2 - (lg_sl ([.ref (ad 14 1000)])).length) Slot.unset).toArray = ls at hl ⊢
  have hl : lv_has ls 2 [(0, .ref (ad 14 1000))] := hl
  have hret : ∀ (v : Int) (σ : ZS) (H : Heap) (locs : List Loc) (ls : Array Slot) (pc : Nat), (0 ≤ v ∧ v ≤ 1) → Q v σ → va_P D vwC (zC dA ad σ) H → va_D A (zC dA ad σ) → va_S A s.heap H locs → decode cX8_mov pc = .ok (.ireturn, 1) → W p l e (gR 4 0 0) s m #[.ref (ad 14 1000)] below meth c H locs 0 0 (MQ below (va_Qi (zQi Q) (gAt D dA A (zC dA ad)) A) #[.ref (ad 14 1000)] s 0 0 A) (F0 m pc ls [.int (Int32.ofInt v)]) := fun v σ H locs ls pc hv hw hP hD hS hd => g_iret hx hb hr (z_nb hv) hlocks hK σ hP hD hS ⟨v, rfl, hw⟩ (Nat.le_of_ble_eq_true rfl) (Nat.le_of_ble_eq_true rfl) hd
  generalize MQ below (va_Qi (zQi Q) (gAt D dA A (zC dA ad)) A) #[.ref (ad 14 1000)] s 0 0 A = QQ at hret ⊢
  have j273 : ∀ (σ : ZS), ∀ (H : Heap) (locs : List Loc) (ls : Array Slot), va_P D vwC (zC dA ad σ) H → va_D A (zC dA ad σ) → va_S A s.heap H locs → lv_has ls 2 [] → wpX8_mov_273 σ Q → W p l e (gR 4 0 0) s m #[.ref (ad 14 1000)] below meth c H locs 0 0 QQ (F0 m 273 ls []) := by
    intro σ H locs ls hP hD hS hl hw
    unfold wpX8_mov_273 at hw
    refine lv_iconst (v := Int32.ofInt 1) hx hb dX8_mov_273 (by decide) ?_
    exact hret 1 σ _ _ _ _ (by decide) hw hP hD hS dX8_mov_274
  have j203 : ∀ (σ : ZS), ∀ (H : Heap) (locs : List Loc) (ls : Array Slot), va_P D vwC (zC dA ad σ) H → va_D A (zC dA ad σ) → va_S A s.heap H locs → lv_has ls 2 [(0, .ref (ad 14 1000))] → wpX8_mov_203 σ Q → W p l e (gR 4 0 0) s m #[.ref (ad 14 1000)] below meth c H locs 0 0 QQ (F0 m 203 ls []) := by
    intro σ H locs ls hP hD hS hl hw
    unfold wpX8_mov_203 at hw
    refine lv_aload_n hx hb dX8_mov_203 rfl (lv_at hl 0 rfl) ?_
    refine zgC14_1 hx hb hg hown hK hP q347 dX8_mov_204 ?_
    refine lv_aload_n hx hb dX8_mov_207 rfl (lv_at hl 0 rfl) ?_
    refine zgC14_3 hx hb hg hown hK hP q349 dX8_mov_208 ?_
    refine z_Vv (n := 1) (As := [.ref (ad 6 1000)]) (rest := []) hx hb hml hg hown hK hP hD hS hA (kX0_addValue l D dA ad 6 σ _ _ hw) (zoC13) rfl q1023 q152 q1020 q1021 q1022 (by decide +kernel) ⟨(Nat.le_of_ble_eq_true rfl), (Nat.le_of_ble_eq_true rfl)⟩ rfl hl.1 rfl (Nat.le_of_ble_eq_true rfl) dX8_mov_211 ⟨(Nat.le_of_ble_eq_true rfl), (Nat.le_of_ble_eq_true rfl)⟩ (fun σ2 H locs hw hP hD hS => ?_)
    refine lv_goto (tgt := 273) hx hb dX8_mov_214 (by decide) ?_
    exact j273 σ2 _ _ _ hP hD hS (lv_sub hl [] rfl) hw
  have j59 : ∀ (v1 : Int) (σ : ZS), ∀ (H : Heap) (locs : List Loc) (ls : Array Slot), va_P D vwC (zC dA ad σ) H → va_D A (zC dA ad σ) → va_S A s.heap H locs → lv_has ls 2 [(0, .ref (ad 14 1000)), (1, .int (Int32.ofInt v1))] → wpX8_mov_59 v1 σ Q → W p l e (gR 4 0 0) s m #[.ref (ad 14 1000)] below meth c H locs 0 0 QQ (F0 m 59 ls []) := by
    intro v1 σ H locs ls hP hD hS hl hw
    unfold wpX8_mov_59 at hw
    refine lv_aload_n hx hb dX8_mov_59 rfl (lv_at hl 0 rfl) ?_
    refine lv_aload_n hx hb dX8_mov_60 rfl (lv_at hl 0 rfl) ?_
    refine zgC14_3 hx hb hg hown hK hP q349 dX8_mov_61 ?_
    refine lv_iload_n hx hb dX8_mov_64 rfl (lv_at hl 1 rfl) ?_
    refine z_Vi (n := 2) (As := [.ref (ad 6 1000), .int (Int32.ofInt v1)]) (rest := []) hx hb hml hg hown hK hP hD hS hA (kX8_operand l D dA ad 6 v1 σ _ _ hw) (zoC14) rfl q1001 q153 q998 q1000 q15 (by decide +kernel) ⟨(Nat.le_of_ble_eq_true rfl), (Nat.le_of_ble_eq_true rfl)⟩ rfl hl.1 rfl (Nat.le_of_ble_eq_true rfl) dX8_mov_65 ⟨(Nat.le_of_ble_eq_true rfl), (Nat.le_of_ble_eq_true rfl)⟩ (fun x3 σ4 H locs hw hP hD hS => ?_)
    obtain ⟨o5, hw⟩ := hw
    refine z_if_ne (tgt := 73) hx hb o5 dX8_mov_68 (by decide) (fun k6 => ?_) (fun k6 => ?_)
    · replace hw := hw.1 k6
      refine lv_aload_n hx hb dX8_mov_73 rfl (lv_at hl 0 rfl) ?_
      refine zgC14_2 hx hb hg hown hK hP q348 dX8_mov_74 ?_
      refine zgCO_0 hx hb hg hown (by decide) hK hP q309 dX8_mov_77 ?_
      refine lv_bipush (v := Int32.ofInt 8) hx hb dX8_mov_80 (by decide) ?_
      obtain ⟨o7, hw⟩ := hw
      refine z_icmp_ne (tgt := 109) hx hb o7 (by decide) dX8_mov_82 (by decide) (fun k8 => ?_) (fun k8 => ?_)
      · replace hw := hw.1 k8
        refine lv_aload_n hx hb dX8_mov_109 rfl (lv_at hl 0 rfl) ?_
        refine zgC14_3 hx hb hg hown hK hP q349 dX8_mov_110 ?_
        refine zgCO_0 hx hb hg hown (by decide) hK hP q309 dX8_mov_113 ?_
        refine lv_bipush (v := Int32.ofInt 8) hx hb dX8_mov_116 (by decide) ?_
        obtain ⟨o9, hw⟩ := hw
        refine z_icmp_ne (tgt := 145) hx hb o9 (by decide) dX8_mov_118 (by decide) (fun k10 => ?_) (fun k10 => ?_)
        · replace hw := hw.1 k10
          refine lv_aload_n hx hb dX8_mov_145 rfl (lv_at hl 0 rfl) ?_
          refine zgC14_3 hx hb hg hown hK hP q349 dX8_mov_146 ?_
          refine zgCO_0 hx hb hg hown (by decide) hK hP q309 dX8_mov_149 ?_
          refine lv_iconst (v := Int32.ofInt 4) hx hb dX8_mov_152 (by decide) ?_
          refine z_icmp_ne (tgt := 217) hx hb o9 (by decide) dX8_mov_153 (by decide) (fun k11 => ?_) (fun k11 => ?_)
          · replace hw := hw.1 k11
            refine lv_aload_n hx hb dX8_mov_217 rfl (lv_at hl 0 rfl) ?_
            refine zgC14_2 hx hb hg hown hK hP q348 dX8_mov_218 ?_
            refine zgCO_0 hx hb hg hown (by decide) hK hP q309 dX8_mov_221 ?_
            refine lv_iconst (v := Int32.ofInt 1) hx hb dX8_mov_224 (by decide) ?_
            refine z_icmp_ne (tgt := 252) hx hb o7 (by decide) dX8_mov_225 (by decide) (fun k12 => ?_) (fun k12 => ?_)
            · replace hw := hw.1 k12
              refine lv_aload_n hx hb dX8_mov_252 rfl (lv_at hl 0 rfl) ?_
              refine zgC14_1 hx hb hg hown hK hP q347 dX8_mov_253 ?_
              refine lv_sipush (v := Int32.ofInt 137) hx hb dX8_mov_256 (by decide) ?_
              refine lv_aload_n hx hb dX8_mov_259 rfl (lv_at hl 0 rfl) ?_
              refine zgC14_2 hx hb hg hown hK hP q348 dX8_mov_260 ?_
              refine lv_aload_n hx hb dX8_mov_263 rfl (lv_at hl 0 rfl) ?_
              refine zgC14_3 hx hb hg hown hK hP q349 dX8_mov_264 ?_
              refine zgCO_1 hx hb hg hown (by decide) hK hP q312 dX8_mov_267 ?_
              refine z_Vv (n := 3) (As := [.int (Int32.ofInt 137), .ref (ad 5 1000), .int (Int32.ofInt (zI σ4 6 1))]) (rest := []) hx hb hml hg hown hK hP hD hS hA (kX0_addWithM l D dA ad 137 5 (zI σ4 6 1) σ4 _ _ hw) (zoC13) rfl q1046 q152 q1043 q1044 q1045 (by decide +kernel) ⟨(Nat.le_of_ble_eq_true rfl), (Nat.le_of_ble_eq_true rfl)⟩ rfl hl.1 rfl (Nat.le_of_ble_eq_true rfl) dX8_mov_270 ⟨(Nat.le_of_ble_eq_true rfl), (Nat.le_of_ble_eq_true rfl)⟩ (fun σ14 H locs hw hP hD hS => ?_)
              exact j273 σ14 _ _ _ hP hD hS (lv_sub hl [] rfl) hw
            · replace hw := hw.2 k12
              refine lv_aload_n hx hb dX8_mov_228 rfl (lv_at hl 0 rfl) ?_
              refine zgC14_1 hx hb hg hown hK hP q347 dX8_mov_229 ?_
              refine lv_sipush (v := Int32.ofInt 139) hx hb dX8_mov_232 (by decide) ?_
              refine lv_aload_n hx hb dX8_mov_235 rfl (lv_at hl 0 rfl) ?_
              refine zgC14_3 hx hb hg hown hK hP q349 dX8_mov_236 ?_
              refine lv_aload_n hx hb dX8_mov_239 rfl (lv_at hl 0 rfl) ?_
              refine zgC14_2 hx hb hg hown hK hP q348 dX8_mov_240 ?_
              refine zgCO_1 hx hb hg hown (by decide) hK hP q312 dX8_mov_243 ?_
              refine z_Vv (n := 3) (As := [.int (Int32.ofInt 139), .ref (ad 6 1000), .int (Int32.ofInt (zI σ4 5 1))]) (rest := []) hx hb hml hg hown hK hP hD hS hA (kX0_addWithM l D dA ad 139 6 (zI σ4 5 1) σ4 _ _ hw) (zoC13) rfl q1046 q152 q1043 q1044 q1045 (by decide +kernel) ⟨(Nat.le_of_ble_eq_true rfl), (Nat.le_of_ble_eq_true rfl)⟩ rfl hl.1 rfl (Nat.le_of_ble_eq_true rfl) dX8_mov_246 ⟨(Nat.le_of_ble_eq_true rfl), (Nat.le_of_ble_eq_true rfl)⟩ (fun σ16 H locs hw hP hD hS => ?_)
              refine lv_goto (tgt := 273) hx hb dX8_mov_249 (by decide) ?_
              exact j273 σ16 _ _ _ hP hD hS (lv_sub hl [] rfl) hw
          · replace hw := hw.2 k11
            refine lv_aload_n hx hb dX8_mov_156 rfl (lv_at hl 0 rfl) ?_
            refine zgC14_2 hx hb hg hown hK hP q348 dX8_mov_157 ?_
            refine zgCO_0 hx hb hg hown (by decide) hK hP q309 dX8_mov_160 ?_
            refine lv_iconst (v := Int32.ofInt 1) hx hb dX8_mov_163 (by decide) ?_
            refine z_icmp_ne (tgt := 188) hx hb o7 (by decide) dX8_mov_164 (by decide) (fun k17 => ?_) (fun k17 => ?_)
            · replace hw := hw.1 k17
              refine lv_aload_n hx hb dX8_mov_188 rfl (lv_at hl 0 rfl) ?_
              refine zgC14_1 hx hb hg hown hK hP q347 dX8_mov_189 ?_
              refine lv_sipush (v := Int32.ofInt 199) hx hb dX8_mov_192 (by decide) ?_
              refine lv_aload_n hx hb dX8_mov_195 rfl (lv_at hl 0 rfl) ?_
              refine zgC14_2 hx hb hg hown hK hP q348 dX8_mov_196 ?_
              refine lv_iconst (v := Int32.ofInt 0) hx hb dX8_mov_199 (by decide) ?_
              refine z_Vv (n := 3) (As := [.int (Int32.ofInt 199), .ref (ad 5 1000), .int (Int32.ofInt 0)]) (rest := []) hx hb hml hg hown hK hP hD hS hA (kX0_addWithM l D dA ad 199 5 0 σ4 _ _ hw) (zoC13) rfl q1046 q152 q1043 q1044 q1045 (by decide +kernel) ⟨(Nat.le_of_ble_eq_true rfl), (Nat.le_of_ble_eq_true rfl)⟩ rfl hl.1 rfl (Nat.le_of_ble_eq_true rfl) dX8_mov_200 ⟨(Nat.le_of_ble_eq_true rfl), (Nat.le_of_ble_eq_true rfl)⟩ (fun σ19 H locs hw hP hD hS => ?_)
              exact j203 σ19 _ _ _ hP hD hS (lv_sub hl [0] rfl) hw
            · replace hw := hw.2 k17
              refine lv_aload_n hx hb dX8_mov_167 rfl (lv_at hl 0 rfl) ?_
              refine zgC14_1 hx hb hg hown hK hP q347 dX8_mov_168 ?_
              refine lv_sipush (v := Int32.ofInt 184) hx hb dX8_mov_171 (by decide) ?_
              refine lv_aload_n hx hb dX8_mov_174 rfl (lv_at hl 0 rfl) ?_
              refine zgC14_2 hx hb hg hown hK hP q348 dX8_mov_175 ?_
              refine zgCO_1 hx hb hg hown (by decide) hK hP q312 dX8_mov_178 ?_
              refine z_iadd hx hb dX8_mov_181 ?_
              refine z_Vv (n := 1) (As := [.int (Int32.ofInt (184 + (zI σ4 5 1)))]) (rest := []) hx hb hml hg hown hK hP hD hS hA (kX0_addByte l D dA ad (184 + (zI σ4 5 1)) σ4 _ _ hw) (zoC13) rfl q1050 q152 q1073 q1048 q1049 (by decide +kernel) ⟨(Nat.le_of_ble_eq_true rfl), (Nat.le_of_ble_eq_true rfl)⟩ rfl hl.1 rfl (Nat.le_of_ble_eq_true rfl) dX8_mov_182 ⟨(Nat.le_of_ble_eq_true rfl), (Nat.le_of_ble_eq_true rfl)⟩ (fun σ21 H locs hw hP hD hS => ?_)
              refine lv_goto (tgt := 203) hx hb dX8_mov_185 (by decide) ?_
              exact j203 σ21 _ _ _ hP hD hS (lv_sub hl [0] rfl) hw
        · replace hw := hw.2 k10
          refine lv_aload_n hx hb dX8_mov_121 rfl (lv_at hl 0 rfl) ?_
          refine zgC14_1 hx hb hg hown hK hP q347 dX8_mov_122 ?_
          refine lv_sipush (v := Int32.ofInt 140) hx hb dX8_mov_125 (by decide) ?_
          refine lv_aload_n hx hb dX8_mov_128 rfl (lv_at hl 0 rfl) ?_
          refine zgC14_2 hx hb hg hown hK hP q348 dX8_mov_129 ?_
          refine lv_aload_n hx hb dX8_mov_132 rfl (lv_at hl 0 rfl) ?_
          refine zgC14_3 hx hb hg hown hK hP q349 dX8_mov_133 ?_
          refine zgCO_1 hx hb hg hown (by decide) hK hP q312 dX8_mov_136 ?_
          refine z_Vv (n := 3) (As := [.int (Int32.ofInt 140), .ref (ad 5 1000), .int (Int32.ofInt (zI σ4 6 1))]) (rest := []) hx hb hml hg hown hK hP hD hS hA (kX0_addWithM l D dA ad 140 5 (zI σ4 6 1) σ4 _ _ hw) (zoC13) rfl q1046 q152 q1043 q1044 q1045 (by decide +kernel) ⟨(Nat.le_of_ble_eq_true rfl), (Nat.le_of_ble_eq_true rfl)⟩ rfl hl.1 rfl (Nat.le_of_ble_eq_true rfl) dX8_mov_139 ⟨(Nat.le_of_ble_eq_true rfl), (Nat.le_of_ble_eq_true rfl)⟩ (fun σ23 H locs hw hP hD hS => ?_)
          refine lv_goto (tgt := 273) hx hb dX8_mov_142 (by decide) ?_
          exact j273 σ23 _ _ _ hP hD hS (lv_sub hl [] rfl) hw
      · replace hw := hw.2 k8
        refine lv_aload_n hx hb dX8_mov_85 rfl (lv_at hl 0 rfl) ?_
        refine zgC14_1 hx hb hg hown hK hP q347 dX8_mov_86 ?_
        refine lv_sipush (v := Int32.ofInt 142) hx hb dX8_mov_89 (by decide) ?_
        refine lv_aload_n hx hb dX8_mov_92 rfl (lv_at hl 0 rfl) ?_
        refine zgC14_3 hx hb hg hown hK hP q349 dX8_mov_93 ?_
        refine lv_aload_n hx hb dX8_mov_96 rfl (lv_at hl 0 rfl) ?_
        refine zgC14_2 hx hb hg hown hK hP q348 dX8_mov_97 ?_
        refine zgCO_1 hx hb hg hown (by decide) hK hP q312 dX8_mov_100 ?_
        refine z_Vv (n := 3) (As := [.int (Int32.ofInt 142), .ref (ad 6 1000), .int (Int32.ofInt (zI σ4 5 1))]) (rest := []) hx hb hml hg hown hK hP hD hS hA (kX0_addWithM l D dA ad 142 6 (zI σ4 5 1) σ4 _ _ hw) (zoC13) rfl q1046 q152 q1043 q1044 q1045 (by decide +kernel) ⟨(Nat.le_of_ble_eq_true rfl), (Nat.le_of_ble_eq_true rfl)⟩ rfl hl.1 rfl (Nat.le_of_ble_eq_true rfl) dX8_mov_103 ⟨(Nat.le_of_ble_eq_true rfl), (Nat.le_of_ble_eq_true rfl)⟩ (fun σ25 H locs hw hP hD hS => ?_)
        refine lv_goto (tgt := 273) hx hb dX8_mov_106 (by decide) ?_
        exact j273 σ25 _ _ _ hP hD hS (lv_sub hl [] rfl) hw
    · replace hw := hw.2 k6
      refine lv_iconst (v := Int32.ofInt 0) hx hb dX8_mov_71 (by decide) ?_
      exact hret 0 σ4 _ _ _ _ (by decide) hw hP hD hS dX8_mov_72
  have j22 : ∀ (σ : ZS), ∀ (H : Heap) (locs : List Loc) (ls : Array Slot), va_P D vwC (zC dA ad σ) H → va_D A (zC dA ad σ) → va_S A s.heap H locs → lv_has ls 2 [] → wpX8_mov_22 σ Q → W p l e (gR 4 0 0) s m #[.ref (ad 14 1000)] below meth c H locs 0 0 QQ (F0 m 22 ls []) := by
    intro σ H locs ls hP hD hS hl hw
    unfold wpX8_mov_22 at hw
    refine lv_iconst (v := Int32.ofInt 0) hx hb dX8_mov_22 (by decide) ?_
    exact hret 0 σ _ _ _ _ (by decide) hw hP hD hS dX8_mov_23
  unfold wpX8_mov at hw
  refine lv_aload_n hx hb dX8_mov_0 rfl (lv_at hl 0 rfl) ?_
  refine lv_aload_n hx hb dX8_mov_1 rfl (lv_at hl 0 rfl) ?_
  refine zgC14_2 hx hb hg hown hK hP q348 dX8_mov_2 ?_
  refine lv_bipush (v := Int32.ofInt 11) hx hb dX8_mov_5 (by decide) ?_
  refine z_Vi (n := 2) (As := [.ref (ad 5 1000), .int (Int32.ofInt 11)]) (rest := []) hx hb hml hg hown hK hP hD hS hA (kX8_operand l D dA ad 5 11 σ _ _ hw) (zoC14) rfl q1001 q153 q998 q1000 q15 (by decide +kernel) ⟨(Nat.le_of_ble_eq_true rfl), (Nat.le_of_ble_eq_true rfl)⟩ rfl hl.1 rfl (Nat.le_of_ble_eq_true rfl) dX8_mov_7 ⟨(Nat.le_of_ble_eq_true rfl), (Nat.le_of_ble_eq_true rfl)⟩ (fun x26 σ27 H locs hw hP hD hS => ?_)
  obtain ⟨o28, hw⟩ := hw
  refine z_if_eq (tgt := 22) hx hb o28 dX8_mov_10 (by decide) (fun k29 => ?_) (fun k29 => ?_)
  · replace hw := hw.1 k29
    exact j22 σ27 _ _ _ hP hD hS (lv_sub hl [] rfl) hw
  · replace hw := hw.2 k29
    refine lv_aload_n hx hb dX8_mov_13 rfl (lv_at hl 0 rfl) ?_
    refine lv_bipush (v := Int32.ofInt 44) hx hb dX8_mov_14 (by decide) ?_
    refine z_Vi (n := 1) (As := [.int (Int32.ofInt 44)]) (rest := []) hx hb hml hg hown hK hP hD hS hA (kX8_take l D dA ad 44 σ27 _ _ hw) (zoC14) rfl q954 q153 q951 q953 q7 (by decide +kernel) ⟨(Nat.le_of_ble_eq_true rfl), (Nat.le_of_ble_eq_true rfl)⟩ rfl hl.1 rfl (Nat.le_of_ble_eq_true rfl) dX8_mov_16 ⟨(Nat.le_of_ble_eq_true rfl), (Nat.le_of_ble_eq_true rfl)⟩ (fun x30 σ31 H locs hw hP hD hS => ?_)
    obtain ⟨o32, hw⟩ := hw
    refine z_if_ne (tgt := 24) hx hb o32 dX8_mov_19 (by decide) (fun k33 => ?_) (fun k33 => ?_)
    · replace hw := hw.1 k33
      refine lv_bipush (v := Int32.ofInt 29) hx hb dX8_mov_24 (by decide) ?_
      refine lv_istore_n (lv' := [(1, .int (Int32.ofInt 29)), (0, .ref (ad 14 1000))]) hx hb dX8_mov_26 rfl hl (by decide) rfl (fun ls hl => ?_)
      refine lv_aload_n hx hb dX8_mov_27 rfl (lv_at hl 1 rfl) ?_
      refine zgC14_2 hx hb hg hown hK hP q348 dX8_mov_28 ?_
      refine zgCO_0 hx hb hg hown (by decide) hK hP q309 dX8_mov_31 ?_
      refine lv_iconst (v := Int32.ofInt 1) hx hb dX8_mov_34 (by decide) ?_
      obtain ⟨o34, hw⟩ := hw
      refine z_icmp_ne (tgt := 45) hx hb o34 (by decide) dX8_mov_35 (by decide) (fun k35 => ?_) (fun k35 => ?_)
      · replace hw := hw.1 k35
        refine lv_aload_n hx hb dX8_mov_45 rfl (lv_at hl 1 rfl) ?_
        refine zgC14_2 hx hb hg hown hK hP q348 dX8_mov_46 ?_
        refine zgCO_0 hx hb hg hown (by decide) hK hP q309 dX8_mov_49 ?_
        refine lv_bipush (v := Int32.ofInt 8) hx hb dX8_mov_52 (by decide) ?_
        refine z_icmp_ne (tgt := 59) hx hb o34 (by decide) dX8_mov_54 (by decide) (fun k36 => ?_) (fun k36 => ?_)
        · replace hw := hw.1 k36
          exact j59 29 σ31 _ _ _ hP hD hS (lv_sub hl [1, 0] rfl) hw
        · replace hw := hw.2 k36
          refine lv_iconst (v := Int32.ofInt 3) hx hb dX8_mov_57 (by decide) ?_
          refine lv_istore_n (lv' := [(1, .int (Int32.ofInt 3)), (0, .ref (ad 14 1000))]) hx hb dX8_mov_58 rfl hl (by decide) rfl (fun ls hl => ?_)
          exact j59 3 σ31 _ _ _ hP hD hS (lv_sub hl [1, 0] rfl) hw
      · replace hw := hw.2 k35
        refine lv_iload_n hx hb dX8_mov_38 rfl (lv_at hl 0 rfl) ?_
        refine lv_iconst (v := Int32.ofInt 2) hx hb dX8_mov_39 (by decide) ?_
        refine z_ior hx hb dX8_mov_40 ?_
        refine lv_istore_n (lv' := [(1, .int (Int32.ofInt (zor 29 2))), (0, .ref (ad 14 1000))]) hx hb dX8_mov_41 rfl hl (by decide) rfl (fun ls hl => ?_)
        refine lv_goto (tgt := 59) hx hb dX8_mov_42 (by decide) ?_
        exact j59 (zor 29 2) σ31 _ _ _ hP hD hS (lv_sub hl [1, 0] rfl) hw
    · replace hw := hw.2 k33
      exact j22 σ31 _ _ _ hP hD hS (lv_sub hl [] rfl) hw
def wpX8_arithmetic_156 (σ : ZS) (Q : Int → ZS → Prop) : Prop := Q 1 σ
def wpX8_arithmetic_40 (v1 v2 : Int) (σ : ZS) (Q : Int → ZS → Prop) : Prop := wpX8_operand 6 v2 σ (fun (x1 : Int) (σ2 : ZS) => (-2147483648 ≤ x1 ∧ x1 ≤ 2147483647) ∧ (¬ x1 = 0 → (-2147483648 ≤ (zI σ2 6 0) ∧ (zI σ2 6 0) ≤ 2147483647) ∧ (¬ (zI σ2 6 0) = 4 → (-2147483648 ≤ (zI σ2 5 0) ∧ (zI σ2 5 0) ≤ 2147483647) ∧ (¬ (zI σ2 5 0) = 1 → wpX0_addWithM ((8 * v1) + 1) 5 (zI σ2 6 1) σ2 (fun (σ10 : ZS) => wpX8_arithmetic_156 σ10 Q)) ∧ ((zI σ2 5 0) = 1 → wpX0_addWithM ((8 * v1) + 3) 6 (zI σ2 5 1) σ2 (fun (σ12 : ZS) => wpX8_arithmetic_156 σ12 Q))) ∧ ((zI σ2 6 0) = 4 → wpX0_addWithM 129 5 v1 σ2 (fun (σ14 : ZS) => wpX0_addValue 6 σ14 (fun (σ16 : ZS) => wpX8_arithmetic_156 σ16 Q)))) ∧ (x1 = 0 → Q 0 σ2))
def wpX8_arithmetic_21 (σ : ZS) (Q : Int → ZS → Prop) : Prop := Q 0 σ
def wpX8_arithmetic (a1 : Int) (σ : ZS) (Q : Int → ZS → Prop) : Prop := wpX8_operand 5 3 σ (fun (x17 : Int) (σ18 : ZS) => (-2147483648 ≤ x17 ∧ x17 ≤ 2147483647) ∧ (x17 = 0 → wpX8_arithmetic_21 σ18 Q) ∧ (¬ x17 = 0 → wpX8_take 44 σ18 (fun (x21 : Int) (σ22 : ZS) => (-2147483648 ≤ x21 ∧ x21 ≤ 2147483647) ∧ (¬ x21 = 0 → (-2147483648 ≤ (zI σ22 5 0) ∧ (zI σ22 5 0) ≤ 2147483647) ∧ (¬ (zI σ22 5 0) = 1 → wpX8_arithmetic_40 a1 5 σ22 Q) ∧ ((zI σ22 5 0) = 1 → wpX8_arithmetic_40 a1 (zor 5 2) σ22 Q)) ∧ (x21 = 0 → wpX8_arithmetic_21 σ22 Q))))
set_option maxHeartbeats 4000000 in
set_option maxRecDepth 100000 in
theorem kX8_arithmetic (l : Launch) (D : va_G) (dA : Nat → ClassId) (ad : Int → Nat → Nat) (a1 : Int) (σ : ZS) (Q : Int → ZS → Prop) (sz : Nat) (hw : wpX8_arithmetic a1 σ Q) : Met l yX8_arithmetic (gws yX8_arithmetic cX8_arithmetic 3 (some .boolean)) (gR 4 0 0) (gPre D dA [.ref (ad 14 1000), .int (Int32.ofInt a1)] (zC dA ad σ) sz) (va_Qi (zQi Q) (gAt D dA (va_A (zC dA ad σ) sz) (zC dA ad)) (va_A (zC dA ad σ) sz)) 0 0 (va_A (zC dA ad σ) sz) := by
  refine Met.ofW (cc := cX8_arithmetic) (maxL := 3) (ret := (some .boolean)) (by decide) rfl ?_
  intro p e s m args below meth c s₁ B hml hv
  obtain ⟨rfl, hsz, hP, hK, hD0⟩ := hv
  have hx := B.exec
  have hb := B.bytes
  have hr := B.returns
  have hts := atoms_spec (ws := gws yX8_arithmetic cX8_arithmetic 3 (some .boolean)) B.pre
  have hg : ∀ w ∈ gw, w.before _ s = true := fun w h => hts w (List.mem_cons_of_mem _ h)
  have hown : s.vm.findClass RX8 = some m.cls := findClass_of_methodNamed B.named
  have hlocks := B.notSynchronized
  subst hsz
  have hD := hD0.self (sz := s.heap.size)
  generalize hAe : va_A (zC dA ad σ) s.heap.size = A at hD ⊢
  have hA : ∀ q : Nat, s.heap.size ≤ q → A q := fun q h => by rw [← hAe]; exact Or.inr h
  have hS : va_S A s.heap s.heap [] := va_S.rf
  have hl := lv_entry ([.ref (ad 14 1000), .int (Int32.ofInt a1)]) (n := 3) (Nat.le_of_ble_eq_true rfl)
  rw [lg_entry_eq]
  generalize (lg_sl ([.ref (ad 14 1000), .int (Int32.ofInt a1)]) ++ List.replicate (3 - (lg_sl ([.ref (ad 14 1000), .int (Int32.ofInt a1)])).length) Slot.unset).toArray = ls at hl ⊢
  have hl : lv_has ls 3 [(0, .ref (ad 14 1000)), (1, .int (Int32.ofInt a1))] := hl
  have hret : ∀ (v : Int) (σ : ZS) (H : Heap) (locs : List Loc) (ls : Array Slot) (pc : Nat), (0 ≤ v ∧ v ≤ 1) → Q v σ → va_P D vwC (zC dA ad σ) H → va_D A (zC dA ad σ) → va_S A s.heap H locs → decode cX8_arithmetic pc = .ok (.ireturn, 1) → W p l e (gR 4 0 0) s m #[.ref (ad 14 1000), .int (Int32.ofInt a1)] below meth c H locs 0 0 (MQ below (va_Qi (zQi Q) (gAt D dA A (zC dA ad)) A) #[.ref (ad 14 1000), .int (Int32.ofInt a1)] s 0 0 A) (F0 m pc ls [.int (Int32.ofInt v)]) := fun v σ H locs ls pc hv hw hP hD hS hd => g_iret hx hb hr (z_nb hv) hlocks hK σ hP hD hS ⟨v, rfl, hw⟩ (Nat.le_of_ble_eq_true rfl) (Nat.le_of_ble_eq_true rfl) hd
  generalize MQ below (va_Qi (zQi Q) (gAt D dA A (zC dA ad)) A) #[.ref (ad 14 1000), .int (Int32.ofInt a1)] s 0 0 A = QQ at hret ⊢
  have j156 : ∀ (σ : ZS), ∀ (H : Heap) (locs : List Loc) (ls : Array Slot), va_P D vwC (zC dA ad σ) H → va_D A (zC dA ad σ) → va_S A s.heap H locs → lv_has ls 3 [] → wpX8_arithmetic_156 σ Q → W p l e (gR 4 0 0) s m #[.ref (ad 14 1000), .int (Int32.ofInt a1)] below meth c H locs 0 0 QQ (F0 m 156 ls []) := by
    intro σ H locs ls hP hD hS hl hw
    unfold wpX8_arithmetic_156 at hw
    refine lv_iconst (v := Int32.ofInt 1) hx hb dX8_arithmetic_156 (by decide) ?_
    exact hret 1 σ _ _ _ _ (by decide) hw hP hD hS dX8_arithmetic_157
  have j40 : ∀ (v1 v2 : Int) (σ : ZS), ∀ (H : Heap) (locs : List Loc) (ls : Array Slot), va_P D vwC (zC dA ad σ) H → va_D A (zC dA ad σ) → va_S A s.heap H locs → lv_has ls 3 [(0, .ref (ad 14 1000)), (1, .int (Int32.ofInt v1)), (2, .int (Int32.ofInt v2))] → wpX8_arithmetic_40 v1 v2 σ Q → W p l e (gR 4 0 0) s m #[.ref (ad 14 1000), .int (Int32.ofInt a1)] below meth c H locs 0 0 QQ (F0 m 40 ls []) := by
    intro v1 v2 σ H locs ls hP hD hS hl hw
    unfold wpX8_arithmetic_40 at hw
    refine lv_aload_n hx hb dX8_arithmetic_40 rfl (lv_at hl 0 rfl) ?_
    refine lv_aload_n hx hb dX8_arithmetic_41 rfl (lv_at hl 0 rfl) ?_
    refine zgC14_3 hx hb hg hown hK hP q349 dX8_arithmetic_42 ?_
    refine lv_iload_n hx hb dX8_arithmetic_45 rfl (lv_at hl 2 rfl) ?_
    refine z_Vi (n := 2) (As := [.ref (ad 6 1000), .int (Int32.ofInt v2)]) (rest := []) hx hb hml hg hown hK hP hD hS hA (kX8_operand l D dA ad 6 v2 σ _ _ hw) (zoC14) rfl q1001 q153 q998 q1000 q15 (by decide +kernel) ⟨(Nat.le_of_ble_eq_true rfl), (Nat.le_of_ble_eq_true rfl)⟩ rfl hl.1 rfl (Nat.le_of_ble_eq_true rfl) dX8_arithmetic_46 ⟨(Nat.le_of_ble_eq_true rfl), (Nat.le_of_ble_eq_true rfl)⟩ (fun x1 σ2 H locs hw hP hD hS => ?_)
    obtain ⟨o3, hw⟩ := hw
    refine z_if_ne (tgt := 54) hx hb o3 dX8_arithmetic_49 (by decide) (fun k4 => ?_) (fun k4 => ?_)
    · replace hw := hw.1 k4
      refine lv_aload_n hx hb dX8_arithmetic_54 rfl (lv_at hl 0 rfl) ?_
      refine zgC14_3 hx hb hg hown hK hP q349 dX8_arithmetic_55 ?_
      refine zgCO_0 hx hb hg hown (by decide) hK hP q309 dX8_arithmetic_58 ?_
      refine lv_iconst (v := Int32.ofInt 4) hx hb dX8_arithmetic_61 (by decide) ?_
      obtain ⟨o5, hw⟩ := hw
      refine z_icmp_ne (tgt := 94) hx hb o5 (by decide) dX8_arithmetic_62 (by decide) (fun k6 => ?_) (fun k6 => ?_)
      · replace hw := hw.1 k6
        refine lv_aload_n hx hb dX8_arithmetic_94 rfl (lv_at hl 0 rfl) ?_
        refine zgC14_2 hx hb hg hown hK hP q348 dX8_arithmetic_95 ?_
        refine zgCO_0 hx hb hg hown (by decide) hK hP q309 dX8_arithmetic_98 ?_
        refine lv_iconst (v := Int32.ofInt 1) hx hb dX8_arithmetic_101 (by decide) ?_
        obtain ⟨o7, hw⟩ := hw
        refine z_icmp_ne (tgt := 132) hx hb o7 (by decide) dX8_arithmetic_102 (by decide) (fun k8 => ?_) (fun k8 => ?_)
        · replace hw := hw.1 k8
          refine lv_aload_n hx hb dX8_arithmetic_132 rfl (lv_at hl 0 rfl) ?_
          refine zgC14_1 hx hb hg hown hK hP q347 dX8_arithmetic_133 ?_
          refine lv_bipush (v := Int32.ofInt 8) hx hb dX8_arithmetic_136 (by decide) ?_
          refine lv_iload_n hx hb dX8_arithmetic_138 rfl (lv_at hl 1 rfl) ?_
          refine z_imul hx hb dX8_arithmetic_139 ?_
          refine lv_iconst (v := Int32.ofInt 1) hx hb dX8_arithmetic_140 (by decide) ?_
          refine z_iadd hx hb dX8_arithmetic_141 ?_
          refine lv_aload_n hx hb dX8_arithmetic_142 rfl (lv_at hl 0 rfl) ?_
          refine zgC14_2 hx hb hg hown hK hP q348 dX8_arithmetic_143 ?_
          refine lv_aload_n hx hb dX8_arithmetic_146 rfl (lv_at hl 0 rfl) ?_
          refine zgC14_3 hx hb hg hown hK hP q349 dX8_arithmetic_147 ?_
          refine zgCO_1 hx hb hg hown (by decide) hK hP q312 dX8_arithmetic_150 ?_
          refine z_Vv (n := 3) (As := [.int (Int32.ofInt ((8 * v1) + 1)), .ref (ad 5 1000), .int (Int32.ofInt (zI σ2 6 1))]) (rest := []) hx hb hml hg hown hK hP hD hS hA (kX0_addWithM l D dA ad ((8 * v1) + 1) 5 (zI σ2 6 1) σ2 _ _ hw) (zoC13) rfl q1046 q152 q1043 q1044 q1045 (by decide +kernel) ⟨(Nat.le_of_ble_eq_true rfl), (Nat.le_of_ble_eq_true rfl)⟩ rfl hl.1 rfl (Nat.le_of_ble_eq_true rfl) dX8_arithmetic_153 ⟨(Nat.le_of_ble_eq_true rfl), (Nat.le_of_ble_eq_true rfl)⟩ (fun σ10 H locs hw hP hD hS => ?_)
          exact j156 σ10 _ _ _ hP hD hS (lv_sub hl [] rfl) hw
        · replace hw := hw.2 k8
          refine lv_aload_n hx hb dX8_arithmetic_105 rfl (lv_at hl 0 rfl) ?_
          refine zgC14_1 hx hb hg hown hK hP q347 dX8_arithmetic_106 ?_
          refine lv_bipush (v := Int32.ofInt 8) hx hb dX8_arithmetic_109 (by decide) ?_
          refine lv_iload_n hx hb dX8_arithmetic_111 rfl (lv_at hl 1 rfl) ?_
          refine z_imul hx hb dX8_arithmetic_112 ?_
          refine lv_iconst (v := Int32.ofInt 3) hx hb dX8_arithmetic_113 (by decide) ?_
          refine z_iadd hx hb dX8_arithmetic_114 ?_
          refine lv_aload_n hx hb dX8_arithmetic_115 rfl (lv_at hl 0 rfl) ?_
          refine zgC14_3 hx hb hg hown hK hP q349 dX8_arithmetic_116 ?_
          refine lv_aload_n hx hb dX8_arithmetic_119 rfl (lv_at hl 0 rfl) ?_
          refine zgC14_2 hx hb hg hown hK hP q348 dX8_arithmetic_120 ?_
          refine zgCO_1 hx hb hg hown (by decide) hK hP q312 dX8_arithmetic_123 ?_
          refine z_Vv (n := 3) (As := [.int (Int32.ofInt ((8 * v1) + 3)), .ref (ad 6 1000), .int (Int32.ofInt (zI σ2 5 1))]) (rest := []) hx hb hml hg hown hK hP hD hS hA (kX0_addWithM l D dA ad ((8 * v1) + 3) 6 (zI σ2 5 1) σ2 _ _ hw) (zoC13) rfl q1046 q152 q1043 q1044 q1045 (by decide +kernel) ⟨(Nat.le_of_ble_eq_true rfl), (Nat.le_of_ble_eq_true rfl)⟩ rfl hl.1 rfl (Nat.le_of_ble_eq_true rfl) dX8_arithmetic_126 ⟨(Nat.le_of_ble_eq_true rfl), (Nat.le_of_ble_eq_true rfl)⟩ (fun σ12 H locs hw hP hD hS => ?_)
          refine lv_goto (tgt := 156) hx hb dX8_arithmetic_129 (by decide) ?_
          exact j156 σ12 _ _ _ hP hD hS (lv_sub hl [] rfl) hw
      · replace hw := hw.2 k6
        refine lv_aload_n hx hb dX8_arithmetic_65 rfl (lv_at hl 0 rfl) ?_
        refine zgC14_1 hx hb hg hown hK hP q347 dX8_arithmetic_66 ?_
        refine lv_sipush (v := Int32.ofInt 129) hx hb dX8_arithmetic_69 (by decide) ?_
        refine lv_aload_n hx hb dX8_arithmetic_72 rfl (lv_at hl 0 rfl) ?_
        refine zgC14_2 hx hb hg hown hK hP q348 dX8_arithmetic_73 ?_
        refine lv_iload_n hx hb dX8_arithmetic_76 rfl (lv_at hl 1 rfl) ?_
        refine z_Vv (n := 3) (As := [.int (Int32.ofInt 129), .ref (ad 5 1000), .int (Int32.ofInt v1)]) (rest := []) hx hb hml hg hown hK hP hD hS hA (kX0_addWithM l D dA ad 129 5 v1 σ2 _ _ hw) (zoC13) rfl q1046 q152 q1043 q1044 q1045 (by decide +kernel) ⟨(Nat.le_of_ble_eq_true rfl), (Nat.le_of_ble_eq_true rfl)⟩ rfl hl.1 rfl (Nat.le_of_ble_eq_true rfl) dX8_arithmetic_77 ⟨(Nat.le_of_ble_eq_true rfl), (Nat.le_of_ble_eq_true rfl)⟩ (fun σ14 H locs hw hP hD hS => ?_)
        refine lv_aload_n hx hb dX8_arithmetic_80 rfl (lv_at hl 0 rfl) ?_
        refine zgC14_1 hx hb hg hown hK hP q347 dX8_arithmetic_81 ?_
        refine lv_aload_n hx hb dX8_arithmetic_84 rfl (lv_at hl 0 rfl) ?_
        refine zgC14_3 hx hb hg hown hK hP q349 dX8_arithmetic_85 ?_
        refine z_Vv (n := 1) (As := [.ref (ad 6 1000)]) (rest := []) hx hb hml hg hown hK hP hD hS hA (kX0_addValue l D dA ad 6 σ14 _ _ hw) (zoC13) rfl q1023 q152 q1020 q1021 q1022 (by decide +kernel) ⟨(Nat.le_of_ble_eq_true rfl), (Nat.le_of_ble_eq_true rfl)⟩ rfl hl.1 rfl (Nat.le_of_ble_eq_true rfl) dX8_arithmetic_88 ⟨(Nat.le_of_ble_eq_true rfl), (Nat.le_of_ble_eq_true rfl)⟩ (fun σ16 H locs hw hP hD hS => ?_)
        refine lv_goto (tgt := 156) hx hb dX8_arithmetic_91 (by decide) ?_
        exact j156 σ16 _ _ _ hP hD hS (lv_sub hl [] rfl) hw
    · replace hw := hw.2 k4
      refine lv_iconst (v := Int32.ofInt 0) hx hb dX8_arithmetic_52 (by decide) ?_
      exact hret 0 σ2 _ _ _ _ (by decide) hw hP hD hS dX8_arithmetic_53
  have j21 : ∀ (σ : ZS), ∀ (H : Heap) (locs : List Loc) (ls : Array Slot), va_P D vwC (zC dA ad σ) H → va_D A (zC dA ad σ) → va_S A s.heap H locs → lv_has ls 3 [] → wpX8_arithmetic_21 σ Q → W p l e (gR 4 0 0) s m #[.ref (ad 14 1000), .int (Int32.ofInt a1)] below meth c H locs 0 0 QQ (F0 m 21 ls []) := by
    intro σ H locs ls hP hD hS hl hw
    unfold wpX8_arithmetic_21 at hw
    refine lv_iconst (v := Int32.ofInt 0) hx hb dX8_arithmetic_21 (by decide) ?_
    exact hret 0 σ _ _ _ _ (by decide) hw hP hD hS dX8_arithmetic_22
  unfold wpX8_arithmetic at hw
  refine lv_aload_n hx hb dX8_arithmetic_0 rfl (lv_at hl 0 rfl) ?_
  refine lv_aload_n hx hb dX8_arithmetic_1 rfl (lv_at hl 0 rfl) ?_
  refine zgC14_2 hx hb hg hown hK hP q348 dX8_arithmetic_2 ?_
  refine lv_iconst (v := Int32.ofInt 3) hx hb dX8_arithmetic_5 (by decide) ?_
  refine z_Vi (n := 2) (As := [.ref (ad 5 1000), .int (Int32.ofInt 3)]) (rest := []) hx hb hml hg hown hK hP hD hS hA (kX8_operand l D dA ad 5 3 σ _ _ hw) (zoC14) rfl q1001 q153 q998 q1000 q15 (by decide +kernel) ⟨(Nat.le_of_ble_eq_true rfl), (Nat.le_of_ble_eq_true rfl)⟩ rfl hl.1 rfl (Nat.le_of_ble_eq_true rfl) dX8_arithmetic_6 ⟨(Nat.le_of_ble_eq_true rfl), (Nat.le_of_ble_eq_true rfl)⟩ (fun x17 σ18 H locs hw hP hD hS => ?_)
  obtain ⟨o19, hw⟩ := hw
  refine z_if_eq (tgt := 21) hx hb o19 dX8_arithmetic_9 (by decide) (fun k20 => ?_) (fun k20 => ?_)
  · replace hw := hw.1 k20
    exact j21 σ18 _ _ _ hP hD hS (lv_sub hl [] rfl) hw
  · replace hw := hw.2 k20
    refine lv_aload_n hx hb dX8_arithmetic_12 rfl (lv_at hl 0 rfl) ?_
    refine lv_bipush (v := Int32.ofInt 44) hx hb dX8_arithmetic_13 (by decide) ?_
    refine z_Vi (n := 1) (As := [.int (Int32.ofInt 44)]) (rest := []) hx hb hml hg hown hK hP hD hS hA (kX8_take l D dA ad 44 σ18 _ _ hw) (zoC14) rfl q954 q153 q951 q953 q7 (by decide +kernel) ⟨(Nat.le_of_ble_eq_true rfl), (Nat.le_of_ble_eq_true rfl)⟩ rfl hl.1 rfl (Nat.le_of_ble_eq_true rfl) dX8_arithmetic_15 ⟨(Nat.le_of_ble_eq_true rfl), (Nat.le_of_ble_eq_true rfl)⟩ (fun x21 σ22 H locs hw hP hD hS => ?_)
    obtain ⟨o23, hw⟩ := hw
    refine z_if_ne (tgt := 23) hx hb o23 dX8_arithmetic_18 (by decide) (fun k24 => ?_) (fun k24 => ?_)
    · replace hw := hw.1 k24
      refine lv_iconst (v := Int32.ofInt 5) hx hb dX8_arithmetic_23 (by decide) ?_
      refine lv_istore_n (lv' := [(2, .int (Int32.ofInt 5)), (0, .ref (ad 14 1000)), (1, .int (Int32.ofInt a1))]) hx hb dX8_arithmetic_24 rfl hl (by decide) rfl (fun ls hl => ?_)
      refine lv_aload_n hx hb dX8_arithmetic_25 rfl (lv_at hl 1 rfl) ?_
      refine zgC14_2 hx hb hg hown hK hP q348 dX8_arithmetic_26 ?_
      refine zgCO_0 hx hb hg hown (by decide) hK hP q309 dX8_arithmetic_29 ?_
      refine lv_iconst (v := Int32.ofInt 1) hx hb dX8_arithmetic_32 (by decide) ?_
      obtain ⟨o25, hw⟩ := hw
      refine z_icmp_ne (tgt := 40) hx hb o25 (by decide) dX8_arithmetic_33 (by decide) (fun k26 => ?_) (fun k26 => ?_)
      · replace hw := hw.1 k26
        exact j40 a1 5 σ22 _ _ _ hP hD hS (lv_sub hl [1, 2, 0] rfl) hw
      · replace hw := hw.2 k26
        refine lv_iload_n hx hb dX8_arithmetic_36 rfl (lv_at hl 0 rfl) ?_
        refine lv_iconst (v := Int32.ofInt 2) hx hb dX8_arithmetic_37 (by decide) ?_
        refine z_ior hx hb dX8_arithmetic_38 ?_
        refine lv_istore_n (lv' := [(2, .int (Int32.ofInt (zor 5 2))), (0, .ref (ad 14 1000)), (1, .int (Int32.ofInt a1))]) hx hb dX8_arithmetic_39 rfl hl (by decide) rfl (fun ls hl => ?_)
        exact j40 a1 (zor 5 2) σ22 _ _ _ hP hD hS (lv_sub hl [1, 2, 0] rfl) hw
    · replace hw := hw.2 k24
      exact j21 σ22 _ _ _ hP hD hS (lv_sub hl [] rfl) hw
def wpX8_onRegister_53 (s1 : Int) (σ : ZS) (Q : Int → ZS → Prop) : Prop := wpX0_addByte s1 σ (fun (σ2 : ZS) => Q 1 σ2)
def wpX8_onRegister (a1 a2 a3 : Int) (σ : ZS) (Q : Int → ZS → Prop) : Prop := wpX8_operand 5 a3 σ (fun (x3 : Int) (σ4 : ZS) => (-2147483648 ≤ x3 ∧ x3 ≤ 2147483647) ∧ (¬ x3 = 0 → (-2147483648 ≤ (zI σ4 5 0) ∧ (zI σ4 5 0) ≤ 2147483647) ∧ (¬ (zI σ4 5 0) = 1 → wpX8_onRegister_53 (a2 + (8 * (zI σ4 5 1))) σ4 Q) ∧ ((zI σ4 5 0) = 1 → wpX8_onRegister_53 (a1 + (zI σ4 5 1)) σ4 Q)) ∧ (x3 = 0 → Q 0 σ4))
set_option maxHeartbeats 4000000 in
set_option maxRecDepth 100000 in
theorem kX8_onRegister (l : Launch) (D : va_G) (dA : Nat → ClassId) (ad : Int → Nat → Nat) (a1 a2 a3 : Int) (σ : ZS) (Q : Int → ZS → Prop) (sz : Nat) (hw : wpX8_onRegister a1 a2 a3 σ Q) : Met l yX8_onRegister (gws yX8_onRegister cX8_onRegister 4 (some .boolean)) (gR 4 0 0) (gPre D dA [.ref (ad 14 1000), .int (Int32.ofInt a1), .int (Int32.ofInt a2), .int (Int32.ofInt a3)] (zC dA ad σ) sz) (va_Qi (zQi Q) (gAt D dA (va_A (zC dA ad σ) sz) (zC dA ad)) (va_A (zC dA ad σ) sz)) 0 0 (va_A (zC dA ad σ) sz) := by
  refine Met.ofW (cc := cX8_onRegister) (maxL := 4) (ret := (some .boolean)) (by decide) rfl ?_
  intro p e s m args below meth c s₁ B hml hv
  obtain ⟨rfl, hsz, hP, hK, hD0⟩ := hv
  have hx := B.exec
  have hb := B.bytes
  have hr := B.returns
  have hts := atoms_spec (ws := gws yX8_onRegister cX8_onRegister 4 (some .boolean)) B.pre
  have hg : ∀ w ∈ gw, w.before _ s = true := fun w h => hts w (List.mem_cons_of_mem _ h)
  have hown : s.vm.findClass RX8 = some m.cls := findClass_of_methodNamed B.named
  have hlocks := B.notSynchronized
  subst hsz
  have hD := hD0.self (sz := s.heap.size)
  generalize hAe : va_A (zC dA ad σ) s.heap.size = A at hD ⊢
  have hA : ∀ q : Nat, s.heap.size ≤ q → A q := fun q h => by rw [← hAe]; exact Or.inr h
  have hS : va_S A s.heap s.heap [] := va_S.rf
  have hl := lv_entry ([.ref (ad 14 1000), .int (Int32.ofInt a1), .int (Int32.ofInt a2), .int (Int32.ofInt a3)]) (n := 4) (Nat.le_of_ble_eq_true rfl)
  rw [lg_entry_eq]
  generalize (lg_sl ([.ref (ad 14 1000), .int (Int32.ofInt a1), .int (Int32.ofInt a2), .int (Int32.ofInt a3)]) ++ List.replicate (4 - (lg_sl ([.ref (ad 14 1000), .int (Int32.ofInt a1), .int (Int32.ofInt a2), .int (Int32.ofInt a3)])).length) Slot.unset).toArray = ls at hl ⊢
  have hl : lv_has ls 4 [(0, .ref (ad 14 1000)), (1, .int (Int32.ofInt a1)), (2, .int (Int32.ofInt a2)), (3, .int (Int32.ofInt a3))] := hl
  have hret : ∀ (v : Int) (σ : ZS) (H : Heap) (locs : List Loc) (ls : Array Slot) (pc : Nat), (0 ≤ v ∧ v ≤ 1) → Q v σ → va_P D vwC (zC dA ad σ) H → va_D A (zC dA ad σ) → va_S A s.heap H locs → decode cX8_onRegister pc = .ok (.ireturn, 1) → W p l e (gR 4 0 0) s m #[.ref (ad 14 1000), .int (Int32.ofInt a1), .int (Int32.ofInt a2), .int (Int32.ofInt a3)] below meth c H locs 0 0 (MQ below (va_Qi (zQi Q) (gAt D dA A (zC dA ad)) A) #[.ref (ad 14 1000), .int (Int32.ofInt a1), .int (Int32.ofInt a2), .int (Int32.ofInt a3)] s 0 0 A) (F0 m pc ls [.int (Int32.ofInt v)]) := fun v σ H locs ls pc hv hw hP hD hS hd => g_iret hx hb hr (z_nb hv) hlocks hK σ hP hD hS ⟨v, rfl, hw⟩ (Nat.le_of_ble_eq_true rfl) (Nat.le_of_ble_eq_true rfl) hd
  generalize MQ below (va_Qi (zQi Q) (gAt D dA A (zC dA ad)) A) #[.ref (ad 14 1000), .int (Int32.ofInt a1), .int (Int32.ofInt a2), .int (Int32.ofInt a3)] s 0 0 A = QQ at hret ⊢
  have j53 : ∀ (s1 : Int) (σ : ZS), ∀ (H : Heap) (locs : List Loc) (ls : Array Slot), va_P D vwC (zC dA ad σ) H → va_D A (zC dA ad σ) → va_S A s.heap H locs → lv_has ls 4 [] → wpX8_onRegister_53 s1 σ Q → W p l e (gR 4 0 0) s m #[.ref (ad 14 1000), .int (Int32.ofInt a1), .int (Int32.ofInt a2), .int (Int32.ofInt a3)] below meth c H locs 0 0 QQ (F0 m 53 ls [.int (Int32.ofInt s1), .ref (ad 13 1000)]) := by
    intro s1 σ H locs ls hP hD hS hl hw
    unfold wpX8_onRegister_53 at hw
    refine z_Vv (n := 1) (As := [.int (Int32.ofInt s1)]) (rest := []) hx hb hml hg hown hK hP hD hS hA (kX0_addByte l D dA ad s1 σ _ _ hw) (zoC13) rfl q1050 q152 q1073 q1048 q1049 (by decide +kernel) ⟨(Nat.le_of_ble_eq_true rfl), (Nat.le_of_ble_eq_true rfl)⟩ rfl hl.1 rfl (Nat.le_of_ble_eq_true rfl) dX8_onRegister_53 ⟨(Nat.le_of_ble_eq_true rfl), (Nat.le_of_ble_eq_true rfl)⟩ (fun σ2 H locs hw hP hD hS => ?_)
    refine lv_iconst (v := Int32.ofInt 1) hx hb dX8_onRegister_56 (by decide) ?_
    exact hret 1 σ2 _ _ _ _ (by decide) hw hP hD hS dX8_onRegister_57
  unfold wpX8_onRegister at hw
  refine lv_aload_n hx hb dX8_onRegister_0 rfl (lv_at hl 0 rfl) ?_
  refine lv_aload_n hx hb dX8_onRegister_1 rfl (lv_at hl 0 rfl) ?_
  refine zgC14_2 hx hb hg hown hK hP q348 dX8_onRegister_2 ?_
  refine lv_iload_n hx hb dX8_onRegister_5 rfl (lv_at hl 3 rfl) ?_
  refine z_Vi (n := 2) (As := [.ref (ad 5 1000), .int (Int32.ofInt a3)]) (rest := []) hx hb hml hg hown hK hP hD hS hA (kX8_operand l D dA ad 5 a3 σ _ _ hw) (zoC14) rfl q1001 q153 q998 q1000 q15 (by decide +kernel) ⟨(Nat.le_of_ble_eq_true rfl), (Nat.le_of_ble_eq_true rfl)⟩ rfl hl.1 rfl (Nat.le_of_ble_eq_true rfl) dX8_onRegister_6 ⟨(Nat.le_of_ble_eq_true rfl), (Nat.le_of_ble_eq_true rfl)⟩ (fun x3 σ4 H locs hw hP hD hS => ?_)
  obtain ⟨o5, hw⟩ := hw
  refine z_if_ne (tgt := 14) hx hb o5 dX8_onRegister_9 (by decide) (fun k6 => ?_) (fun k6 => ?_)
  · replace hw := hw.1 k6
    refine lv_aload_n hx hb dX8_onRegister_14 rfl (lv_at hl 0 rfl) ?_
    refine zgC14_1 hx hb hg hown hK hP q347 dX8_onRegister_15 ?_
    refine lv_aload_n hx hb dX8_onRegister_18 rfl (lv_at hl 0 rfl) ?_
    refine zgC14_2 hx hb hg hown hK hP q348 dX8_onRegister_19 ?_
    refine zgCO_0 hx hb hg hown (by decide) hK hP q309 dX8_onRegister_22 ?_
    refine lv_iconst (v := Int32.ofInt 1) hx hb dX8_onRegister_25 (by decide) ?_
    obtain ⟨o7, hw⟩ := hw
    refine z_icmp_ne (tgt := 41) hx hb o7 (by decide) dX8_onRegister_26 (by decide) (fun k8 => ?_) (fun k8 => ?_)
    · replace hw := hw.1 k8
      refine lv_iload_n hx hb dX8_onRegister_41 rfl (lv_at hl 2 rfl) ?_
      refine lv_bipush (v := Int32.ofInt 8) hx hb dX8_onRegister_42 (by decide) ?_
      refine lv_aload_n hx hb dX8_onRegister_44 rfl (lv_at hl 0 rfl) ?_
      refine zgC14_2 hx hb hg hown hK hP q348 dX8_onRegister_45 ?_
      refine zgCO_1 hx hb hg hown (by decide) hK hP q312 dX8_onRegister_48 ?_
      refine z_imul hx hb dX8_onRegister_51 ?_
      refine z_iadd hx hb dX8_onRegister_52 ?_
      exact j53 (a2 + (8 * (zI σ4 5 1))) σ4 _ _ _ hP hD hS (lv_sub hl [] rfl) hw
    · replace hw := hw.2 k8
      refine lv_iload_n hx hb dX8_onRegister_29 rfl (lv_at hl 1 rfl) ?_
      refine lv_aload_n hx hb dX8_onRegister_30 rfl (lv_at hl 0 rfl) ?_
      refine zgC14_2 hx hb hg hown hK hP q348 dX8_onRegister_31 ?_
      refine zgCO_1 hx hb hg hown (by decide) hK hP q312 dX8_onRegister_34 ?_
      refine z_iadd hx hb dX8_onRegister_37 ?_
      refine lv_goto (tgt := 53) hx hb dX8_onRegister_38 (by decide) ?_
      exact j53 (a1 + (zI σ4 5 1)) σ4 _ _ _ hP hD hS (lv_sub hl [] rfl) hw
  · replace hw := hw.2 k6
    refine lv_iconst (v := Int32.ofInt 0) hx hb dX8_onRegister_12 (by decide) ?_
    exact hret 0 σ4 _ _ _ _ (by decide) hw hP hD hS dX8_onRegister_13
def wpX8_single (a1 a2 : Int) (σ : ZS) (Q : Int → ZS → Prop) : Prop := wpX8_operand 5 3 σ (fun (x1 : Int) (σ2 : ZS) => (-2147483648 ≤ x1 ∧ x1 ≤ 2147483647) ∧ (¬ x1 = 0 → wpX0_addWithM a1 5 a2 σ2 (fun (σ6 : ZS) => Q 1 σ6)) ∧ (x1 = 0 → Q 0 σ2))
set_option maxHeartbeats 4000000 in
set_option maxRecDepth 100000 in
theorem kX8_single (l : Launch) (D : va_G) (dA : Nat → ClassId) (ad : Int → Nat → Nat) (a1 a2 : Int) (σ : ZS) (Q : Int → ZS → Prop) (sz : Nat) (hw : wpX8_single a1 a2 σ Q) : Met l yX8_single (gws yX8_single cX8_single 3 (some .boolean)) (gR 4 0 0) (gPre D dA [.ref (ad 14 1000), .int (Int32.ofInt a1), .int (Int32.ofInt a2)] (zC dA ad σ) sz) (va_Qi (zQi Q) (gAt D dA (va_A (zC dA ad σ) sz) (zC dA ad)) (va_A (zC dA ad σ) sz)) 0 0 (va_A (zC dA ad σ) sz) := by
  refine Met.ofW (cc := cX8_single) (maxL := 3) (ret := (some .boolean)) (by decide) rfl ?_
  intro p e s m args below meth c s₁ B hml hv
  obtain ⟨rfl, hsz, hP, hK, hD0⟩ := hv
  have hx := B.exec
  have hb := B.bytes
  have hr := B.returns
  have hts := atoms_spec (ws := gws yX8_single cX8_single 3 (some .boolean)) B.pre
  have hg : ∀ w ∈ gw, w.before _ s = true := fun w h => hts w (List.mem_cons_of_mem _ h)
  have hown : s.vm.findClass RX8 = some m.cls := findClass_of_methodNamed B.named
  have hlocks := B.notSynchronized
  subst hsz
  have hD := hD0.self (sz := s.heap.size)
  generalize hAe : va_A (zC dA ad σ) s.heap.size = A at hD ⊢
  have hA : ∀ q : Nat, s.heap.size ≤ q → A q := fun q h => by rw [← hAe]; exact Or.inr h
  have hS : va_S A s.heap s.heap [] := va_S.rf
  have hl := lv_entry ([.ref (ad 14 1000), .int (Int32.ofInt a1), .int (Int32.ofInt a2)]) (n := 3) (Nat.le_of_ble_eq_true rfl)
  rw [lg_entry_eq]
  generalize (lg_sl ([.ref (ad 14 1000), .int (Int32.ofInt a1), .int (Int32.ofInt a2)]) ++ List.replicate (3 - (lg_sl ([.ref (ad 14 1000), .int (Int32.ofInt a1), .int (Int32.ofInt a2)])).length) Slot.unset).toArray = ls at hl ⊢
  have hl : lv_has ls 3 [(0, .ref (ad 14 1000)), (1, .int (Int32.ofInt a1)), (2, .int (Int32.ofInt a2))] := hl
  have hret : ∀ (v : Int) (σ : ZS) (H : Heap) (locs : List Loc) (ls : Array Slot) (pc : Nat), (0 ≤ v ∧ v ≤ 1) → Q v σ → va_P D vwC (zC dA ad σ) H → va_D A (zC dA ad σ) → va_S A s.heap H locs → decode cX8_single pc = .ok (.ireturn, 1) → W p l e (gR 4 0 0) s m #[.ref (ad 14 1000), .int (Int32.ofInt a1), .int (Int32.ofInt a2)] below meth c H locs 0 0 (MQ below (va_Qi (zQi Q) (gAt D dA A (zC dA ad)) A) #[.ref (ad 14 1000), .int (Int32.ofInt a1), .int (Int32.ofInt a2)] s 0 0 A) (F0 m pc ls [.int (Int32.ofInt v)]) := fun v σ H locs ls pc hv hw hP hD hS hd => g_iret hx hb hr (z_nb hv) hlocks hK σ hP hD hS ⟨v, rfl, hw⟩ (Nat.le_of_ble_eq_true rfl) (Nat.le_of_ble_eq_true rfl) hd
  generalize MQ below (va_Qi (zQi Q) (gAt D dA A (zC dA ad)) A) #[.ref (ad 14 1000), .int (Int32.ofInt a1), .int (Int32.ofInt a2)] s 0 0 A = QQ at hret ⊢
  unfold wpX8_single at hw
  refine lv_aload_n hx hb dX8_single_0 rfl (lv_at hl 0 rfl) ?_
  refine lv_aload_n hx hb dX8_single_1 rfl (lv_at hl 0 rfl) ?_
  refine zgC14_2 hx hb hg hown hK hP q348 dX8_single_2 ?_
  refine lv_iconst (v := Int32.ofInt 3) hx hb dX8_single_5 (by decide) ?_
  refine z_Vi (n := 2) (As := [.ref (ad 5 1000), .int (Int32.ofInt 3)]) (rest := []) hx hb hml hg hown hK hP hD hS hA (kX8_operand l D dA ad 5 3 σ _ _ hw) (zoC14) rfl q1001 q153 q998 q1000 q15 (by decide +kernel) ⟨(Nat.le_of_ble_eq_true rfl), (Nat.le_of_ble_eq_true rfl)⟩ rfl hl.1 rfl (Nat.le_of_ble_eq_true rfl) dX8_single_6 ⟨(Nat.le_of_ble_eq_true rfl), (Nat.le_of_ble_eq_true rfl)⟩ (fun x1 σ2 H locs hw hP hD hS => ?_)
  obtain ⟨o3, hw⟩ := hw
  refine z_if_ne (tgt := 14) hx hb o3 dX8_single_9 (by decide) (fun k4 => ?_) (fun k4 => ?_)
  · replace hw := hw.1 k4
    refine lv_aload_n hx hb dX8_single_14 rfl (lv_at hl 0 rfl) ?_
    refine zgC14_1 hx hb hg hown hK hP q347 dX8_single_15 ?_
    refine lv_iload_n hx hb dX8_single_18 rfl (lv_at hl 1 rfl) ?_
    refine lv_aload_n hx hb dX8_single_19 rfl (lv_at hl 0 rfl) ?_
    refine zgC14_2 hx hb hg hown hK hP q348 dX8_single_20 ?_
    refine lv_iload_n hx hb dX8_single_23 rfl (lv_at hl 2 rfl) ?_
    refine z_Vv (n := 3) (As := [.int (Int32.ofInt a1), .ref (ad 5 1000), .int (Int32.ofInt a2)]) (rest := []) hx hb hml hg hown hK hP hD hS hA (kX0_addWithM l D dA ad a1 5 a2 σ2 _ _ hw) (zoC13) rfl q1046 q152 q1043 q1044 q1045 (by decide +kernel) ⟨(Nat.le_of_ble_eq_true rfl), (Nat.le_of_ble_eq_true rfl)⟩ rfl hl.1 rfl (Nat.le_of_ble_eq_true rfl) dX8_single_24 ⟨(Nat.le_of_ble_eq_true rfl), (Nat.le_of_ble_eq_true rfl)⟩ (fun σ6 H locs hw hP hD hS => ?_)
    refine lv_iconst (v := Int32.ofInt 1) hx hb dX8_single_27 (by decide) ?_
    exact hret 1 σ6 _ _ _ _ (by decide) hw hP hD hS dX8_single_28
  · replace hw := hw.2 k4
    refine lv_iconst (v := Int32.ofInt 0) hx hb dX8_single_12 (by decide) ?_
    exact hret 0 σ2 _ _ _ _ (by decide) hw hP hD hS dX8_single_13
def wpX8_instruction_174 (v2 : Int) (σ : ZS) (Q : Int → ZS → Prop) : Prop := wpX0_addByte v2 σ (fun (σ2 : ZS) => Q 1 σ2)
def wpX8_instruction (a1 a2 : Int) (σ : ZS) (Q : Int → ZS → Prop) : Prop := (-2147483648 ≤ a1 ∧ a1 ≤ 2147483647) ∧ (a1 = 6 → wpX8_mov (zsI σ 14 4 ((zI σ 14 4) + 1)) (fun (x6 : Int) (σ7 : ZS) => (0 ≤ x6 ∧ x6 ≤ 1) ∧ Q x6 σ7)) ∧ (¬ a1 = 6 → (a1 = 7 → wpX8_arithmetic a2 (zsI σ 14 4 ((zI σ 14 4) + 1)) (fun (x10 : Int) (σ11 : ZS) => (0 ≤ x10 ∧ x10 ≤ 1) ∧ Q x10 σ11)) ∧ (¬ a1 = 7 → (a1 = 8 → wpX8_onRegister a2 0 1 (zsI σ 14 4 ((zI σ 14 4) + 1)) (fun (x14 : Int) (σ15 : ZS) => (0 ≤ x14 ∧ x14 ≤ 1) ∧ Q x14 σ15)) ∧ (¬ a1 = 8 → (a1 = 9 → wpX8_onRegister a2 6 25 (zsI σ 14 4 ((zI σ 14 4) + 1)) (fun (x18 : Int) (σ19 : ZS) => (0 ≤ x18 ∧ x18 ≤ 1) ∧ Q x18 σ19)) ∧ (¬ a1 = 9 → (a1 = 10 → wpX8_onRegister a2 7 9 (zsI σ 14 4 ((zI σ 14 4) + 1)) (fun (x22 : Int) (σ23 : ZS) => (0 ≤ x22 ∧ x22 ≤ 1) ∧ Q x22 σ23)) ∧ (¬ a1 = 10 → (a1 = 11 → (-2147483648 ≤ a2 ∧ a2 ≤ 2147483647) ∧ wpX8_single (a2 % 256) (a2 / 256) (zsI σ 14 4 ((zI σ 14 4) + 1)) (fun (x27 : Int) (σ28 : ZS) => (0 ≤ x27 ∧ x27 ≤ 1) ∧ Q x27 σ28)) ∧ (¬ a1 = 11 → (a1 = 12 → wpX8_named 9 2 (zsI σ 14 4 ((zI σ 14 4) + 1)) (fun (x31 : Int) (σ32 : ZS) => (0 ≤ x31 ∧ x31 ≤ 1) ∧ Q x31 σ32)) ∧ (¬ a1 = 12 → (a1 = 13 → wpX8_named 10 a2 (zsI σ 14 4 ((zI σ 14 4) + 1)) (fun (x35 : Int) (σ36 : ZS) => (0 ≤ x35 ∧ x35 ≤ 1) ∧ Q x35 σ36)) ∧ (¬ a1 = 13 → (a1 = 14 → wpX8_named 11 0 (zsI σ 14 4 ((zI σ 14 4) + 1)) (fun (x39 : Int) (σ40 : ZS) => (0 ≤ x39 ∧ x39 ≤ 1) ∧ Q x39 σ40)) ∧ (¬ a1 = 14 → (a1 = 15 → wpX8_named 12 0 (zsI σ 14 4 ((zI σ 14 4) + 1)) (fun (x43 : Int) (σ44 : ZS) => (0 ≤ x43 ∧ x43 ≤ 1) ∧ Q x43 σ44)) ∧ (¬ a1 = 15 → (a1 = 16 → wpX8_instruction_174 a2 (zsI σ 14 4 ((zI σ 14 4) + 1)) Q) ∧ (¬ a1 = 16 → (a1 = 17 → wpX0_addByte a2 (zsI σ 14 4 ((zI σ 14 4) + 1)) (fun (σ49 : ZS) => wpX8_numbered 4 256 σ49 (fun (x50 : Int) (σ51 : ZS) => (0 ≤ x50 ∧ x50 ≤ 1) ∧ Q x50 σ51))) ∧ (¬ a1 = 17 → wpX8_instruction_174 a2 (zsI σ 14 4 ((zI σ 14 4) + 1)) Q))))))))))))
set_option maxHeartbeats 4000000 in
set_option maxRecDepth 100000 in
theorem kX8_instruction (l : Launch) (D : va_G) (dA : Nat → ClassId) (ad : Int → Nat → Nat) (a1 a2 : Int) (σ : ZS) (Q : Int → ZS → Prop) (sz : Nat) (hw : wpX8_instruction a1 a2 σ Q) : Met l yX8_instruction (gws yX8_instruction cX8_instruction 3 (some .boolean)) (gR 5 0 0) (gPre D dA [.ref (ad 14 1000), .int (Int32.ofInt a1), .int (Int32.ofInt a2)] (zC dA ad σ) sz) (va_Qi (zQi Q) (gAt D dA (va_A (zC dA ad σ) sz) (zC dA ad)) (va_A (zC dA ad σ) sz)) 0 0 (va_A (zC dA ad σ) sz) := by
  refine Met.ofW (cc := cX8_instruction) (maxL := 3) (ret := (some .boolean)) (by decide) rfl ?_
  intro p e s m args below meth c s₁ B hml hv
  obtain ⟨rfl, hsz, hP, hK, hD0⟩ := hv
  have hx := B.exec
  have hb := B.bytes
  have hr := B.returns
  have hts := atoms_spec (ws := gws yX8_instruction cX8_instruction 3 (some .boolean)) B.pre
  have hg : ∀ w ∈ gw, w.before _ s = true := fun w h => hts w (List.mem_cons_of_mem _ h)
  have hown : s.vm.findClass RX8 = some m.cls := findClass_of_methodNamed B.named
  have hlocks := B.notSynchronized
  subst hsz
  have hD := hD0.self (sz := s.heap.size)
  generalize hAe : va_A (zC dA ad σ) s.heap.size = A at hD ⊢
  have hA : ∀ q : Nat, s.heap.size ≤ q → A q := fun q h => by rw [← hAe]; exact Or.inr h
  have hS : va_S A s.heap s.heap [] := va_S.rf
  have hl := lv_entry ([.ref (ad 14 1000), .int (Int32.ofInt a1), .int (Int32.ofInt a2)]) (n := 3) (Nat.le_of_ble_eq_true rfl)
  rw [lg_entry_eq]
  generalize (lg_sl ([.ref (ad 14 1000), .int (Int32.ofInt a1), .int (Int32.ofInt a2)]) ++ List.replicate (3 - (lg_sl ([.ref (ad 14 1000), .int (Int32.ofInt a1), .int (Int32.ofInt a2)])).length) Slot.unset).toArray = ls at hl ⊢
  have hl : lv_has ls 3 [(0, .ref (ad 14 1000)), (1, .int (Int32.ofInt a1)), (2, .int (Int32.ofInt a2))] := hl
  have hret : ∀ (v : Int) (σ : ZS) (H : Heap) (locs : List Loc) (ls : Array Slot) (pc : Nat), (0 ≤ v ∧ v ≤ 1) → Q v σ → va_P D vwC (zC dA ad σ) H → va_D A (zC dA ad σ) → va_S A s.heap H locs → decode cX8_instruction pc = .ok (.ireturn, 1) → W p l e (gR 5 0 0) s m #[.ref (ad 14 1000), .int (Int32.ofInt a1), .int (Int32.ofInt a2)] below meth c H locs 0 0 (MQ below (va_Qi (zQi Q) (gAt D dA A (zC dA ad)) A) #[.ref (ad 14 1000), .int (Int32.ofInt a1), .int (Int32.ofInt a2)] s 0 0 A) (F0 m pc ls [.int (Int32.ofInt v)]) := fun v σ H locs ls pc hv hw hP hD hS hd => g_iret hx hb hr (z_nb hv) hlocks hK σ hP hD hS ⟨v, rfl, hw⟩ (Nat.le_of_ble_eq_true rfl) (Nat.le_of_ble_eq_true rfl) hd
  generalize MQ below (va_Qi (zQi Q) (gAt D dA A (zC dA ad)) A) #[.ref (ad 14 1000), .int (Int32.ofInt a1), .int (Int32.ofInt a2)] s 0 0 A = QQ at hret ⊢
  have j174 : ∀ (v2 : Int) (σ : ZS), ∀ (H : Heap) (locs : List Loc) (ls : Array Slot), va_P D vwC (zC dA ad σ) H → va_D A (zC dA ad σ) → va_S A s.heap H locs → lv_has ls 3 [(0, .ref (ad 14 1000)), (2, .int (Int32.ofInt v2))] → wpX8_instruction_174 v2 σ Q → W p l e (gR 5 0 0) s m #[.ref (ad 14 1000), .int (Int32.ofInt a1), .int (Int32.ofInt a2)] below meth c H locs 0 0 QQ (F0 m 174 ls []) := by
    intro v2 σ H locs ls hP hD hS hl hw
    unfold wpX8_instruction_174 at hw
    refine lv_aload_n hx hb dX8_instruction_174 rfl (lv_at hl 0 rfl) ?_
    refine zgC14_1 hx hb hg hown hK hP q347 dX8_instruction_175 ?_
    refine lv_iload_n hx hb dX8_instruction_178 rfl (lv_at hl 1 rfl) ?_
    refine z_Vv (n := 1) (As := [.int (Int32.ofInt v2)]) (rest := []) hx hb hml hg hown hK hP hD hS hA (kX0_addByte l D dA ad v2 σ _ _ hw) (zoC13) rfl q1050 q152 q1073 q1048 q1049 (by decide +kernel) ⟨(Nat.le_of_ble_eq_true rfl), (Nat.le_of_ble_eq_true rfl)⟩ rfl hl.1 rfl (Nat.le_of_ble_eq_true rfl) dX8_instruction_179 ⟨(Nat.le_of_ble_eq_true rfl), (Nat.le_of_ble_eq_true rfl)⟩ (fun σ2 H locs hw hP hD hS => ?_)
    refine lv_iconst (v := Int32.ofInt 1) hx hb dX8_instruction_182 (by decide) ?_
    exact hret 1 σ2 _ _ _ _ (by decide) hw hP hD hS dX8_instruction_183
  unfold wpX8_instruction at hw
  refine lv_aload_n hx hb dX8_instruction_0 rfl (lv_at hl 0 rfl) ?_
  refine lv_dup hx hb dX8_instruction_1 rfl ?_
  refine zgC14_4 hx hb hg hown hK hP q350 dX8_instruction_2 ?_
  refine lv_iconst (v := Int32.ofInt 1) hx hb dX8_instruction_5 (by decide) ?_
  refine z_iadd hx hb dX8_instruction_6 ?_
  refine zpC14_4 (v := ((zI σ 14 4) + 1)) hx hb hg hown hK hP hD hS q350 dX8_instruction_7 (fun H locs hP hD hS => ?_)
  refine lv_iload_n hx hb dX8_instruction_10 rfl (lv_at hl 1 rfl) ?_
  obtain ⟨o3, hw⟩ := hw
  have t4 := z_ti o3
  by_cases s5 : a1 = 6
  · replace hw := hw.1 s5
    refine lv_tableIn (tgt := 72) hx hb dX8_instruction_11 (by rw [t4, s5]; decide) (by rw [t4, s5]; decide) (by rw [t4, s5]; rfl) (by decide) ?_
    refine lv_aload_n hx hb dX8_instruction_72 rfl (lv_at hl 0 rfl) ?_
    refine z_Vi (n := 0) (As := []) (rest := []) hx hb hml hg hown hK hP hD hS hA (kX8_mov l D dA ad (zsI σ 14 4 ((zI σ 14 4) + 1)) _ _ hw) (zoC14) rfl q1042 q153 q1039 q1041 q23 (by decide +kernel) ⟨(Nat.le_of_ble_eq_true rfl), (Nat.le_of_ble_eq_true rfl)⟩ rfl hl.1 rfl (Nat.le_of_ble_eq_true rfl) dX8_instruction_73 ⟨(Nat.le_of_ble_eq_true rfl), (Nat.le_of_ble_eq_true rfl)⟩ (fun x6 σ7 H locs hw hP hD hS => ?_)
    obtain ⟨o8, hw⟩ := hw
    exact hret x6 σ7 _ _ _ _ o8 hw hP hD hS dX8_instruction_76
  replace hw := hw.2 s5
  by_cases s9 : a1 = 7
  · replace hw := hw.1 s9
    refine lv_tableIn (tgt := 77) hx hb dX8_instruction_11 (by rw [t4, s9]; decide) (by rw [t4, s9]; decide) (by rw [t4, s9]; rfl) (by decide) ?_
    refine lv_aload_n hx hb dX8_instruction_77 rfl (lv_at hl 0 rfl) ?_
    refine lv_iload_n hx hb dX8_instruction_78 rfl (lv_at hl 2 rfl) ?_
    refine z_Vi (n := 1) (As := [.int (Int32.ofInt a2)]) (rest := []) hx hb hml hg hown hK hP hD hS hA (kX8_arithmetic l D dA ad a2 (zsI σ 14 4 ((zI σ 14 4) + 1)) _ _ hw) (zoC14) rfl q1077 q153 q1074 q1076 q24 (by decide +kernel) ⟨(Nat.le_of_ble_eq_true rfl), (Nat.le_of_ble_eq_true rfl)⟩ rfl hl.1 rfl (Nat.le_of_ble_eq_true rfl) dX8_instruction_79 ⟨(Nat.le_of_ble_eq_true rfl), (Nat.le_of_ble_eq_true rfl)⟩ (fun x10 σ11 H locs hw hP hD hS => ?_)
    obtain ⟨o12, hw⟩ := hw
    exact hret x10 σ11 _ _ _ _ o12 hw hP hD hS dX8_instruction_82
  replace hw := hw.2 s9
  by_cases s13 : a1 = 8
  · replace hw := hw.1 s13
    refine lv_tableIn (tgt := 83) hx hb dX8_instruction_11 (by rw [t4, s13]; decide) (by rw [t4, s13]; decide) (by rw [t4, s13]; rfl) (by decide) ?_
    refine lv_aload_n hx hb dX8_instruction_83 rfl (lv_at hl 0 rfl) ?_
    refine lv_iload_n hx hb dX8_instruction_84 rfl (lv_at hl 2 rfl) ?_
    refine lv_iconst (v := Int32.ofInt 0) hx hb dX8_instruction_85 (by decide) ?_
    refine lv_iconst (v := Int32.ofInt 1) hx hb dX8_instruction_86 (by decide) ?_
    refine z_Vi (n := 3) (As := [.int (Int32.ofInt a2), .int (Int32.ofInt 0), .int (Int32.ofInt 1)]) (rest := []) hx hb hml hg hown hK hP hD hS hA (kX8_onRegister l D dA ad a2 0 1 (zsI σ 14 4 ((zI σ 14 4) + 1)) _ _ hw) (zoC14) rfl q1081 q153 q1078 q1080 q25 (by decide +kernel) ⟨(Nat.le_of_ble_eq_true rfl), (Nat.le_of_ble_eq_true rfl)⟩ rfl hl.1 rfl (Nat.le_of_ble_eq_true rfl) dX8_instruction_87 ⟨(Nat.le_of_ble_eq_true rfl), (Nat.le_of_ble_eq_true rfl)⟩ (fun x14 σ15 H locs hw hP hD hS => ?_)
    obtain ⟨o16, hw⟩ := hw
    exact hret x14 σ15 _ _ _ _ o16 hw hP hD hS dX8_instruction_90
  replace hw := hw.2 s13
  by_cases s17 : a1 = 9
  · replace hw := hw.1 s17
    refine lv_tableIn (tgt := 91) hx hb dX8_instruction_11 (by rw [t4, s17]; decide) (by rw [t4, s17]; decide) (by rw [t4, s17]; rfl) (by decide) ?_
    refine lv_aload_n hx hb dX8_instruction_91 rfl (lv_at hl 0 rfl) ?_
    refine lv_iload_n hx hb dX8_instruction_92 rfl (lv_at hl 2 rfl) ?_
    refine lv_bipush (v := Int32.ofInt 6) hx hb dX8_instruction_93 (by decide) ?_
    refine lv_bipush (v := Int32.ofInt 25) hx hb dX8_instruction_95 (by decide) ?_
    refine z_Vi (n := 3) (As := [.int (Int32.ofInt a2), .int (Int32.ofInt 6), .int (Int32.ofInt 25)]) (rest := []) hx hb hml hg hown hK hP hD hS hA (kX8_onRegister l D dA ad a2 6 25 (zsI σ 14 4 ((zI σ 14 4) + 1)) _ _ hw) (zoC14) rfl q1081 q153 q1078 q1080 q25 (by decide +kernel) ⟨(Nat.le_of_ble_eq_true rfl), (Nat.le_of_ble_eq_true rfl)⟩ rfl hl.1 rfl (Nat.le_of_ble_eq_true rfl) dX8_instruction_97 ⟨(Nat.le_of_ble_eq_true rfl), (Nat.le_of_ble_eq_true rfl)⟩ (fun x18 σ19 H locs hw hP hD hS => ?_)
    obtain ⟨o20, hw⟩ := hw
    exact hret x18 σ19 _ _ _ _ o20 hw hP hD hS dX8_instruction_100
  replace hw := hw.2 s17
  by_cases s21 : a1 = 10
  · replace hw := hw.1 s21
    refine lv_tableIn (tgt := 101) hx hb dX8_instruction_11 (by rw [t4, s21]; decide) (by rw [t4, s21]; decide) (by rw [t4, s21]; rfl) (by decide) ?_
    refine lv_aload_n hx hb dX8_instruction_101 rfl (lv_at hl 0 rfl) ?_
    refine lv_iload_n hx hb dX8_instruction_102 rfl (lv_at hl 2 rfl) ?_
    refine lv_bipush (v := Int32.ofInt 7) hx hb dX8_instruction_103 (by decide) ?_
    refine lv_bipush (v := Int32.ofInt 9) hx hb dX8_instruction_105 (by decide) ?_
    refine z_Vi (n := 3) (As := [.int (Int32.ofInt a2), .int (Int32.ofInt 7), .int (Int32.ofInt 9)]) (rest := []) hx hb hml hg hown hK hP hD hS hA (kX8_onRegister l D dA ad a2 7 9 (zsI σ 14 4 ((zI σ 14 4) + 1)) _ _ hw) (zoC14) rfl q1081 q153 q1078 q1080 q25 (by decide +kernel) ⟨(Nat.le_of_ble_eq_true rfl), (Nat.le_of_ble_eq_true rfl)⟩ rfl hl.1 rfl (Nat.le_of_ble_eq_true rfl) dX8_instruction_107 ⟨(Nat.le_of_ble_eq_true rfl), (Nat.le_of_ble_eq_true rfl)⟩ (fun x22 σ23 H locs hw hP hD hS => ?_)
    obtain ⟨o24, hw⟩ := hw
    exact hret x22 σ23 _ _ _ _ o24 hw hP hD hS dX8_instruction_110
  replace hw := hw.2 s21
  by_cases s25 : a1 = 11
  · replace hw := hw.1 s25
    refine lv_tableIn (tgt := 111) hx hb dX8_instruction_11 (by rw [t4, s25]; decide) (by rw [t4, s25]; decide) (by rw [t4, s25]; rfl) (by decide) ?_
    refine lv_aload_n hx hb dX8_instruction_111 rfl (lv_at hl 0 rfl) ?_
    refine lv_iload_n hx hb dX8_instruction_112 rfl (lv_at hl 2 rfl) ?_
    refine lv_sipush (v := Int32.ofInt 255) hx hb dX8_instruction_113 (by decide) ?_
    refine z_iandK (M := 256) hx hb 8 (by decide) (by decide) (by decide) dX8_instruction_116 ?_
    refine lv_iload_n hx hb dX8_instruction_117 rfl (lv_at hl 2 rfl) ?_
    refine lv_bipush (v := Int32.ofInt 8) hx hb dX8_instruction_118 (by decide) ?_
    obtain ⟨o26, hw⟩ := hw
    refine z_ishrK (M := 256) hx hb 8 (by decide) (by decide) (by decide) o26 dX8_instruction_120 ?_
    refine z_Vi (n := 2) (As := [.int (Int32.ofInt (a2 % 256)), .int (Int32.ofInt (a2 / 256))]) (rest := []) hx hb hml hg hown hK hP hD hS hA (kX8_single l D dA ad (a2 % 256) (a2 / 256) (zsI σ 14 4 ((zI σ 14 4) + 1)) _ _ hw) (zoC14) rfl q1085 q153 q1082 q1084 q26 (by decide +kernel) ⟨(Nat.le_of_ble_eq_true rfl), (Nat.le_of_ble_eq_true rfl)⟩ rfl hl.1 rfl (Nat.le_of_ble_eq_true rfl) dX8_instruction_121 ⟨(Nat.le_of_ble_eq_true rfl), (Nat.le_of_ble_eq_true rfl)⟩ (fun x27 σ28 H locs hw hP hD hS => ?_)
    obtain ⟨o29, hw⟩ := hw
    exact hret x27 σ28 _ _ _ _ o29 hw hP hD hS dX8_instruction_124
  replace hw := hw.2 s25
  by_cases s30 : a1 = 12
  · replace hw := hw.1 s30
    refine lv_tableIn (tgt := 125) hx hb dX8_instruction_11 (by rw [t4, s30]; decide) (by rw [t4, s30]; decide) (by rw [t4, s30]; rfl) (by decide) ?_
    refine lv_aload_n hx hb dX8_instruction_125 rfl (lv_at hl 0 rfl) ?_
    refine lv_bipush (v := Int32.ofInt 9) hx hb dX8_instruction_126 (by decide) ?_
    refine lv_iconst (v := Int32.ofInt 2) hx hb dX8_instruction_128 (by decide) ?_
    refine z_Vi (n := 2) (As := [.int (Int32.ofInt 9), .int (Int32.ofInt 2)]) (rest := []) hx hb hml hg hown hK hP hD hS hA (kX8_named l D dA ad 9 2 (zsI σ 14 4 ((zI σ 14 4) + 1)) _ _ hw) (zoC14) rfl q993 q153 q990 q992 q13 (by decide +kernel) ⟨(Nat.le_of_ble_eq_true rfl), (Nat.le_of_ble_eq_true rfl)⟩ rfl hl.1 rfl (Nat.le_of_ble_eq_true rfl) dX8_instruction_129 ⟨(Nat.le_of_ble_eq_true rfl), (Nat.le_of_ble_eq_true rfl)⟩ (fun x31 σ32 H locs hw hP hD hS => ?_)
    obtain ⟨o33, hw⟩ := hw
    exact hret x31 σ32 _ _ _ _ o33 hw hP hD hS dX8_instruction_132
  replace hw := hw.2 s30
  by_cases s34 : a1 = 13
  · replace hw := hw.1 s34
    refine lv_tableIn (tgt := 133) hx hb dX8_instruction_11 (by rw [t4, s34]; decide) (by rw [t4, s34]; decide) (by rw [t4, s34]; rfl) (by decide) ?_
    refine lv_aload_n hx hb dX8_instruction_133 rfl (lv_at hl 0 rfl) ?_
    refine lv_bipush (v := Int32.ofInt 10) hx hb dX8_instruction_134 (by decide) ?_
    refine lv_iload_n hx hb dX8_instruction_136 rfl (lv_at hl 2 rfl) ?_
    refine z_Vi (n := 2) (As := [.int (Int32.ofInt 10), .int (Int32.ofInt a2)]) (rest := []) hx hb hml hg hown hK hP hD hS hA (kX8_named l D dA ad 10 a2 (zsI σ 14 4 ((zI σ 14 4) + 1)) _ _ hw) (zoC14) rfl q993 q153 q990 q992 q13 (by decide +kernel) ⟨(Nat.le_of_ble_eq_true rfl), (Nat.le_of_ble_eq_true rfl)⟩ rfl hl.1 rfl (Nat.le_of_ble_eq_true rfl) dX8_instruction_137 ⟨(Nat.le_of_ble_eq_true rfl), (Nat.le_of_ble_eq_true rfl)⟩ (fun x35 σ36 H locs hw hP hD hS => ?_)
    obtain ⟨o37, hw⟩ := hw
    exact hret x35 σ36 _ _ _ _ o37 hw hP hD hS dX8_instruction_140
  replace hw := hw.2 s34
  by_cases s38 : a1 = 14
  · replace hw := hw.1 s38
    refine lv_tableIn (tgt := 141) hx hb dX8_instruction_11 (by rw [t4, s38]; decide) (by rw [t4, s38]; decide) (by rw [t4, s38]; rfl) (by decide) ?_
    refine lv_aload_n hx hb dX8_instruction_141 rfl (lv_at hl 0 rfl) ?_
    refine lv_bipush (v := Int32.ofInt 11) hx hb dX8_instruction_142 (by decide) ?_
    refine lv_iconst (v := Int32.ofInt 0) hx hb dX8_instruction_144 (by decide) ?_
    refine z_Vi (n := 2) (As := [.int (Int32.ofInt 11), .int (Int32.ofInt 0)]) (rest := []) hx hb hml hg hown hK hP hD hS hA (kX8_named l D dA ad 11 0 (zsI σ 14 4 ((zI σ 14 4) + 1)) _ _ hw) (zoC14) rfl q993 q153 q990 q992 q13 (by decide +kernel) ⟨(Nat.le_of_ble_eq_true rfl), (Nat.le_of_ble_eq_true rfl)⟩ rfl hl.1 rfl (Nat.le_of_ble_eq_true rfl) dX8_instruction_145 ⟨(Nat.le_of_ble_eq_true rfl), (Nat.le_of_ble_eq_true rfl)⟩ (fun x39 σ40 H locs hw hP hD hS => ?_)
    obtain ⟨o41, hw⟩ := hw
    exact hret x39 σ40 _ _ _ _ o41 hw hP hD hS dX8_instruction_148
  replace hw := hw.2 s38
  by_cases s42 : a1 = 15
  · replace hw := hw.1 s42
    refine lv_tableIn (tgt := 149) hx hb dX8_instruction_11 (by rw [t4, s42]; decide) (by rw [t4, s42]; decide) (by rw [t4, s42]; rfl) (by decide) ?_
    refine lv_aload_n hx hb dX8_instruction_149 rfl (lv_at hl 0 rfl) ?_
    refine lv_bipush (v := Int32.ofInt 12) hx hb dX8_instruction_150 (by decide) ?_
    refine lv_iconst (v := Int32.ofInt 0) hx hb dX8_instruction_152 (by decide) ?_
    refine z_Vi (n := 2) (As := [.int (Int32.ofInt 12), .int (Int32.ofInt 0)]) (rest := []) hx hb hml hg hown hK hP hD hS hA (kX8_named l D dA ad 12 0 (zsI σ 14 4 ((zI σ 14 4) + 1)) _ _ hw) (zoC14) rfl q993 q153 q990 q992 q13 (by decide +kernel) ⟨(Nat.le_of_ble_eq_true rfl), (Nat.le_of_ble_eq_true rfl)⟩ rfl hl.1 rfl (Nat.le_of_ble_eq_true rfl) dX8_instruction_153 ⟨(Nat.le_of_ble_eq_true rfl), (Nat.le_of_ble_eq_true rfl)⟩ (fun x43 σ44 H locs hw hP hD hS => ?_)
    obtain ⟨o45, hw⟩ := hw
    exact hret x43 σ44 _ _ _ _ o45 hw hP hD hS dX8_instruction_156
  replace hw := hw.2 s42
  by_cases s46 : a1 = 16
  · replace hw := hw.1 s46
    refine lv_tableIn (tgt := 174) hx hb dX8_instruction_11 (by rw [t4, s46]; decide) (by rw [t4, s46]; decide) (by rw [t4, s46]; rfl) (by decide) ?_
    exact j174 a2 (zsI σ 14 4 ((zI σ 14 4) + 1)) _ _ _ hP hD hS (lv_sub hl [0, 2] rfl) hw
  replace hw := hw.2 s46
  by_cases s47 : a1 = 17
  · replace hw := hw.1 s47
    refine lv_tableIn (tgt := 157) hx hb dX8_instruction_11 (by rw [t4, s47]; decide) (by rw [t4, s47]; decide) (by rw [t4, s47]; rfl) (by decide) ?_
    refine lv_aload_n hx hb dX8_instruction_157 rfl (lv_at hl 0 rfl) ?_
    refine zgC14_1 hx hb hg hown hK hP q347 dX8_instruction_158 ?_
    refine lv_iload_n hx hb dX8_instruction_161 rfl (lv_at hl 2 rfl) ?_
    refine z_Vv (n := 1) (As := [.int (Int32.ofInt a2)]) (rest := []) hx hb hml hg hown hK hP hD hS hA (kX0_addByte l D dA ad a2 (zsI σ 14 4 ((zI σ 14 4) + 1)) _ _ hw) (zoC13) rfl q1050 q152 q1073 q1048 q1049 (by decide +kernel) ⟨(Nat.le_of_ble_eq_true rfl), (Nat.le_of_ble_eq_true rfl)⟩ rfl hl.1 rfl (Nat.le_of_ble_eq_true rfl) dX8_instruction_162 ⟨(Nat.le_of_ble_eq_true rfl), (Nat.le_of_ble_eq_true rfl)⟩ (fun σ49 H locs hw hP hD hS => ?_)
    refine lv_aload_n hx hb dX8_instruction_165 rfl (lv_at hl 0 rfl) ?_
    refine lv_iconst (v := Int32.ofInt 4) hx hb dX8_instruction_166 (by decide) ?_
    refine lv_sipush (v := Int32.ofInt 256) hx hb dX8_instruction_167 (by decide) ?_
    refine z_Vi (n := 2) (As := [.int (Int32.ofInt 4), .int (Int32.ofInt 256)]) (rest := []) hx hb hml hg hown hK hP hD hS hA (kX8_numbered l D dA ad 4 256 σ49 _ _ hw) (zoC14) rfl q1032 q153 q1029 q1031 q21 (by decide +kernel) ⟨(Nat.le_of_ble_eq_true rfl), (Nat.le_of_ble_eq_true rfl)⟩ rfl hl.1 rfl (Nat.le_of_ble_eq_true rfl) dX8_instruction_170 ⟨(Nat.le_of_ble_eq_true rfl), (Nat.le_of_ble_eq_true rfl)⟩ (fun x50 σ51 H locs hw hP hD hS => ?_)
    obtain ⟨o52, hw⟩ := hw
    exact hret x50 σ51 _ _ _ _ o52 hw hP hD hS dX8_instruction_173
  replace hw := hw.2 s47
  refine lv_tableOut (tgt := 174) hx hb dX8_instruction_11 (by rw [t4]; clear hw; omega) (by decide) ?_
  exact j174 a2 (zsI σ 14 4 ((zI σ 14 4) + 1)) _ _ _ hP hD hS (lv_sub hl [0, 2] rfl) hw
def wpX10_tell (a1 a2 : Int) (σ : ZS) (Q : ZS → Prop) : Prop := Q (zsI (zsI σ 10 2 a1) 10 3 a2)
set_option maxHeartbeats 4000000 in
set_option maxRecDepth 100000 in
theorem kX10_tell (l : Launch) (D : va_G) (dA : Nat → ClassId) (ad : Int → Nat → Nat) (a1 a2 : Int) (σ : ZS) (Q : ZS → Prop) (sz : Nat) (hw : wpX10_tell a1 a2 σ Q) : Met l yX10_tell (gws yX10_tell cX10_tell 3 none) (gR 1 0 0) (gPre D dA [.ref (ad 10 1000), .int (Int32.ofInt a1), .int (Int32.ofInt a2)] (zC dA ad σ) sz) (va_Qv Q (gAt D dA (va_A (zC dA ad σ) sz) (zC dA ad)) (va_A (zC dA ad σ) sz)) 0 0 (va_A (zC dA ad σ) sz) := by
  refine Met.ofW (cc := cX10_tell) (maxL := 3) (ret := none) (by decide) rfl ?_
  intro p e s m args below meth c s₁ B hml hv
  obtain ⟨rfl, hsz, hP, hK, hD0⟩ := hv
  have hx := B.exec
  have hb := B.bytes
  have hr := B.returns
  have hts := atoms_spec (ws := gws yX10_tell cX10_tell 3 none) B.pre
  have hg : ∀ w ∈ gw, w.before _ s = true := fun w h => hts w (List.mem_cons_of_mem _ h)
  have hown : s.vm.findClass RX10 = some m.cls := findClass_of_methodNamed B.named
  have hlocks := B.notSynchronized
  subst hsz
  have hD := hD0.self (sz := s.heap.size)
  generalize hAe : va_A (zC dA ad σ) s.heap.size = A at hD ⊢
  have hA : ∀ q : Nat, s.heap.size ≤ q → A q := fun q h => by rw [← hAe]; exact Or.inr h
  have hS : va_S A s.heap s.heap [] := va_S.rf
  have hl := lv_entry ([.ref (ad 10 1000), .int (Int32.ofInt a1), .int (Int32.ofInt a2)]) (n := 3) (Nat.le_of_ble_eq_true rfl)
  rw [lg_entry_eq]
  generalize (lg_sl ([.ref (ad 10 1000), .int (Int32.ofInt a1), .int (Int32.ofInt a2)]) ++ List.replicate (3 - (lg_sl ([.ref (ad 10 1000), .int (Int32.ofInt a1), .int (Int32.ofInt a2)])).length) Slot.unset).toArray = ls at hl ⊢
  have hl : lv_has ls 3 [(0, .ref (ad 10 1000)), (1, .int (Int32.ofInt a1)), (2, .int (Int32.ofInt a2))] := hl
  have hret : ∀ (σ : ZS) (H : Heap) (locs : List Loc) (ls : Array Slot) (pc : Nat), Q σ → va_P D vwC (zC dA ad σ) H → va_D A (zC dA ad σ) → va_S A s.heap H locs → decode cX10_tell pc = .ok (.return_, 1) → W p l e (gR 1 0 0) s m #[.ref (ad 10 1000), .int (Int32.ofInt a1), .int (Int32.ofInt a2)] below meth c H locs 0 0 (MQ below (va_Qv Q (gAt D dA A (zC dA ad)) A) #[.ref (ad 10 1000), .int (Int32.ofInt a1), .int (Int32.ofInt a2)] s 0 0 A) (F0 m pc ls []) := fun σ H locs ls pc hw hP hD hS hd => g_vret hx hb hr hlocks hK σ hP hD hS hw (Nat.le_of_ble_eq_true rfl) (Nat.le_of_ble_eq_true rfl) hd
  generalize MQ below (va_Qv Q (gAt D dA A (zC dA ad)) A) #[.ref (ad 10 1000), .int (Int32.ofInt a1), .int (Int32.ofInt a2)] s 0 0 A = QQ at hret ⊢
  unfold wpX10_tell at hw
  refine lv_aload_n hx hb dX10_tell_0 rfl (lv_at hl 0 rfl) ?_
  refine lv_iload_n hx hb dX10_tell_1 rfl (lv_at hl 1 rfl) ?_
  refine zpC10_2 (v := a1) hx hb hg hown hK hP hD hS q608 dX10_tell_2 (fun H locs hP hD hS => ?_)
  refine lv_aload_n hx hb dX10_tell_5 rfl (lv_at hl 0 rfl) ?_
  refine lv_iload_n hx hb dX10_tell_6 rfl (lv_at hl 2 rfl) ?_
  refine zpC10_3 (v := a2) hx hb hg hown hK hP hD hS q609 dX10_tell_7 (fun H locs hP hD hS => ?_)
  exact hret (zsI (zsI σ 10 2 a1) 10 3 a2) _ _ _ _ hw hP hD hS dX10_tell_10
def wpX2_blame_20 (σ : ZS) (Q : ZS → Prop) : Prop := Q σ
def wpX2_blame_15 (v1 : Int) (σ : ZS) (Q : ZS → Prop) : Prop := wpX2_blame_20 (zsI σ 15 5 v1) Q
def wpX2_blame (a1 : Int) (σ : ZS) (Q : ZS → Prop) : Prop := (-2147483648 ≤ (zI σ 15 5) ∧ (zI σ 15 5) ≤ 2147483647) ∧ ((zI σ 15 5) < 0 → wpX2_blame_15 a1 σ Q) ∧ (¬ (zI σ 15 5) < 0 → (-2147483648 ≤ a1 ∧ a1 ≤ 2147483647) ∧ ((zI σ 15 5) ≤ a1 → wpX2_blame_20 σ Q) ∧ (¬ (zI σ 15 5) ≤ a1 → wpX2_blame_15 a1 σ Q))
set_option maxHeartbeats 4000000 in
set_option maxRecDepth 100000 in
theorem kX2_blame (l : Launch) (D : va_G) (dA : Nat → ClassId) (ad : Int → Nat → Nat) (a1 : Int) (σ : ZS) (Q : ZS → Prop) (sz : Nat) (hw : wpX2_blame a1 σ Q) : Met l yX2_blame (gws yX2_blame cX2_blame 2 none) (gR 1 0 0) (gPre D dA [.ref (ad 15 1000), .int (Int32.ofInt a1)] (zC dA ad σ) sz) (va_Qv Q (gAt D dA (va_A (zC dA ad σ) sz) (zC dA ad)) (va_A (zC dA ad σ) sz)) 0 0 (va_A (zC dA ad σ) sz) := by
  refine Met.ofW (cc := cX2_blame) (maxL := 2) (ret := none) (by decide) rfl ?_
  intro p e s m args below meth c s₁ B hml hv
  obtain ⟨rfl, hsz, hP, hK, hD0⟩ := hv
  have hx := B.exec
  have hb := B.bytes
  have hr := B.returns
  have hts := atoms_spec (ws := gws yX2_blame cX2_blame 2 none) B.pre
  have hg : ∀ w ∈ gw, w.before _ s = true := fun w h => hts w (List.mem_cons_of_mem _ h)
  have hown : s.vm.findClass RX2 = some m.cls := findClass_of_methodNamed B.named
  have hlocks := B.notSynchronized
  subst hsz
  have hD := hD0.self (sz := s.heap.size)
  generalize hAe : va_A (zC dA ad σ) s.heap.size = A at hD ⊢
  have hA : ∀ q : Nat, s.heap.size ≤ q → A q := fun q h => by rw [← hAe]; exact Or.inr h
  have hS : va_S A s.heap s.heap [] := va_S.rf
  have hl := lv_entry ([.ref (ad 15 1000), .int (Int32.ofInt a1)]) (n := 2) (Nat.le_of_ble_eq_true rfl)
  rw [lg_entry_eq]
  generalize (lg_sl ([.ref (ad 15 1000), .int (Int32.ofInt a1)]) ++ List.replicate (2 - (lg_sl ([.ref (ad 15 1000), .int (Int32.ofInt a1)])).length) Slot.unset).toArray = ls at hl ⊢
  have hl : lv_has ls 2 [(0, .ref (ad 15 1000)), (1, .int (Int32.ofInt a1))] := hl
  have hret : ∀ (σ : ZS) (H : Heap) (locs : List Loc) (ls : Array Slot) (pc : Nat), Q σ → va_P D vwC (zC dA ad σ) H → va_D A (zC dA ad σ) → va_S A s.heap H locs → decode cX2_blame pc = .ok (.return_, 1) → W p l e (gR 1 0 0) s m #[.ref (ad 15 1000), .int (Int32.ofInt a1)] below meth c H locs 0 0 (MQ below (va_Qv Q (gAt D dA A (zC dA ad)) A) #[.ref (ad 15 1000), .int (Int32.ofInt a1)] s 0 0 A) (F0 m pc ls []) := fun σ H locs ls pc hw hP hD hS hd => g_vret hx hb hr hlocks hK σ hP hD hS hw (Nat.le_of_ble_eq_true rfl) (Nat.le_of_ble_eq_true rfl) hd
  generalize MQ below (va_Qv Q (gAt D dA A (zC dA ad)) A) #[.ref (ad 15 1000), .int (Int32.ofInt a1)] s 0 0 A = QQ at hret ⊢
  have j20 : ∀ (σ : ZS), ∀ (H : Heap) (locs : List Loc) (ls : Array Slot), va_P D vwC (zC dA ad σ) H → va_D A (zC dA ad σ) → va_S A s.heap H locs → lv_has ls 2 [] → wpX2_blame_20 σ Q → W p l e (gR 1 0 0) s m #[.ref (ad 15 1000), .int (Int32.ofInt a1)] below meth c H locs 0 0 QQ (F0 m 20 ls []) := by
    intro σ H locs ls hP hD hS hl hw
    unfold wpX2_blame_20 at hw
    exact hret σ _ _ _ _ hw hP hD hS dX2_blame_20
  have j15 : ∀ (v1 : Int) (σ : ZS), ∀ (H : Heap) (locs : List Loc) (ls : Array Slot), va_P D vwC (zC dA ad σ) H → va_D A (zC dA ad σ) → va_S A s.heap H locs → lv_has ls 2 [(0, .ref (ad 15 1000)), (1, .int (Int32.ofInt v1))] → wpX2_blame_15 v1 σ Q → W p l e (gR 1 0 0) s m #[.ref (ad 15 1000), .int (Int32.ofInt a1)] below meth c H locs 0 0 QQ (F0 m 15 ls []) := by
    intro v1 σ H locs ls hP hD hS hl hw
    unfold wpX2_blame_15 at hw
    refine lv_aload_n hx hb dX2_blame_15 rfl (lv_at hl 0 rfl) ?_
    refine lv_iload_n hx hb dX2_blame_16 rfl (lv_at hl 1 rfl) ?_
    refine zpC15_5 (v := v1) hx hb hg hown hK hP hD hS q376 dX2_blame_17 (fun H locs hP hD hS => ?_)
    exact j20 (zsI σ 15 5 v1) _ _ _ hP hD hS (lv_sub hl [] rfl) hw
  unfold wpX2_blame at hw
  refine lv_aload_n hx hb dX2_blame_0 rfl (lv_at hl 0 rfl) ?_
  refine zgC15_5 hx hb hg hown hK hP q376 dX2_blame_1 ?_
  obtain ⟨o1, hw⟩ := hw
  refine z_if_lt (tgt := 15) hx hb o1 dX2_blame_4 (by decide) (fun k2 => ?_) (fun k2 => ?_)
  · replace hw := hw.1 k2
    exact j15 a1 σ _ _ _ hP hD hS (lv_sub hl [0, 1] rfl) hw
  · replace hw := hw.2 k2
    refine lv_iload_n hx hb dX2_blame_7 rfl (lv_at hl 1 rfl) ?_
    refine lv_aload_n hx hb dX2_blame_8 rfl (lv_at hl 0 rfl) ?_
    refine zgC15_5 hx hb hg hown hK hP q376 dX2_blame_9 ?_
    obtain ⟨o3, hw⟩ := hw
    refine z_icmp_ge (tgt := 20) hx hb o3 o1 dX2_blame_12 (by decide) (fun k4 => ?_) (fun k4 => ?_)
    · replace hw := hw.1 k4
      exact j20 σ _ _ _ hP hD hS (lv_sub hl [] rfl) hw
    · replace hw := hw.2 k4
      exact j15 a1 σ _ _ _ hP hD hS (lv_sub hl [0, 1] rfl) hw
def wpX2_mayDeclare_43 (v2 : Int) (σ : ZS) (Q : Int → ZS → Prop) : Prop := wpX2_blame v2 σ (fun (σ2 : ZS) => Q 0 σ2)
def wpX2_mayDeclare (a1 : Int) (σ : ZS) (Q : Int → ZS → Prop) : Prop := (0 ≤ a1 ∧ a1 < 248) ∧ (0 ≤ (zA σ 13 2 a1) ∧ (zA σ 13 2 a1) < 240) ∧ (-2147483648 ≤ (zA σ 11 1 (zA σ 13 2 a1)) ∧ (zA σ 11 1 (zA σ 13 2 a1)) ≤ 2147483647) ∧ (¬ (zA σ 11 1 (zA σ 13 2 a1)) = 0 → wpX2_mayDeclare_43 (zA σ 13 3 a1) σ Q) ∧ ((zA σ 11 1 (zA σ 13 2 a1)) = 0 → (-2147483648 ≤ (zA σ 13 3 a1) ∧ (zA σ 13 3 a1) ≤ 2147483647) ∧ (-2147483648 ≤ (zI σ 11 6) ∧ (zI σ 11 6) ≤ 2147483647) ∧ ((zA σ 13 3 a1) = (zI σ 11 6) → wpX2_mayDeclare_43 (zA σ 13 3 a1) σ Q) ∧ (¬ (zA σ 13 3 a1) = (zI σ 11 6) → Q 1 σ))
set_option maxHeartbeats 4000000 in
set_option maxRecDepth 100000 in
theorem kX2_mayDeclare (l : Launch) (D : va_G) (dA : Nat → ClassId) (ad : Int → Nat → Nat) (a1 : Int) (σ : ZS) (Q : Int → ZS → Prop) (sz : Nat) (hw : wpX2_mayDeclare a1 σ Q) : Met l yX2_mayDeclare (gws yX2_mayDeclare cX2_mayDeclare 3 (some .boolean)) (gR 2 0 0) (gPre D dA [.ref (ad 15 1000), .int (Int32.ofInt a1)] (zC dA ad σ) sz) (va_Qi (zQi Q) (gAt D dA (va_A (zC dA ad σ) sz) (zC dA ad)) (va_A (zC dA ad σ) sz)) 0 0 (va_A (zC dA ad σ) sz) := by
  refine Met.ofW (cc := cX2_mayDeclare) (maxL := 3) (ret := (some .boolean)) (by decide) rfl ?_
  intro p e s m args below meth c s₁ B hml hv
  obtain ⟨rfl, hsz, hP, hK, hD0⟩ := hv
  have hx := B.exec
  have hb := B.bytes
  have hr := B.returns
  have hts := atoms_spec (ws := gws yX2_mayDeclare cX2_mayDeclare 3 (some .boolean)) B.pre
  have hg : ∀ w ∈ gw, w.before _ s = true := fun w h => hts w (List.mem_cons_of_mem _ h)
  have hown : s.vm.findClass RX2 = some m.cls := findClass_of_methodNamed B.named
  have hlocks := B.notSynchronized
  subst hsz
  have hD := hD0.self (sz := s.heap.size)
  generalize hAe : va_A (zC dA ad σ) s.heap.size = A at hD ⊢
  have hA : ∀ q : Nat, s.heap.size ≤ q → A q := fun q h => by rw [← hAe]; exact Or.inr h
  have hS : va_S A s.heap s.heap [] := va_S.rf
  have hl := lv_entry ([.ref (ad 15 1000), .int (Int32.ofInt a1)]) (n := 3) (Nat.le_of_ble_eq_true rfl)
  rw [lg_entry_eq]
  generalize (lg_sl ([.ref (ad 15 1000), .int (Int32.ofInt a1)]) ++ List.replicate (3 - (lg_sl ([.ref (ad 15 1000), .int (Int32.ofInt a1)])).length) Slot.unset).toArray = ls at hl ⊢
  have hl : lv_has ls 3 [(0, .ref (ad 15 1000)), (1, .int (Int32.ofInt a1))] := hl
  have hret : ∀ (v : Int) (σ : ZS) (H : Heap) (locs : List Loc) (ls : Array Slot) (pc : Nat), (0 ≤ v ∧ v ≤ 1) → Q v σ → va_P D vwC (zC dA ad σ) H → va_D A (zC dA ad σ) → va_S A s.heap H locs → decode cX2_mayDeclare pc = .ok (.ireturn, 1) → W p l e (gR 2 0 0) s m #[.ref (ad 15 1000), .int (Int32.ofInt a1)] below meth c H locs 0 0 (MQ below (va_Qi (zQi Q) (gAt D dA A (zC dA ad)) A) #[.ref (ad 15 1000), .int (Int32.ofInt a1)] s 0 0 A) (F0 m pc ls [.int (Int32.ofInt v)]) := fun v σ H locs ls pc hv hw hP hD hS hd => g_iret hx hb hr (z_nb hv) hlocks hK σ hP hD hS ⟨v, rfl, hw⟩ (Nat.le_of_ble_eq_true rfl) (Nat.le_of_ble_eq_true rfl) hd
  generalize MQ below (va_Qi (zQi Q) (gAt D dA A (zC dA ad)) A) #[.ref (ad 15 1000), .int (Int32.ofInt a1)] s 0 0 A = QQ at hret ⊢
  have j43 : ∀ (v2 : Int) (σ : ZS), ∀ (H : Heap) (locs : List Loc) (ls : Array Slot), va_P D vwC (zC dA ad σ) H → va_D A (zC dA ad σ) → va_S A s.heap H locs → lv_has ls 3 [(0, .ref (ad 15 1000)), (2, .int (Int32.ofInt v2))] → wpX2_mayDeclare_43 v2 σ Q → W p l e (gR 2 0 0) s m #[.ref (ad 15 1000), .int (Int32.ofInt a1)] below meth c H locs 0 0 QQ (F0 m 43 ls []) := by
    intro v2 σ H locs ls hP hD hS hl hw
    unfold wpX2_mayDeclare_43 at hw
    refine lv_aload_n hx hb dX2_mayDeclare_43 rfl (lv_at hl 0 rfl) ?_
    refine lv_iload_n hx hb dX2_mayDeclare_44 rfl (lv_at hl 1 rfl) ?_
    refine z_Vv (n := 1) (As := [.int (Int32.ofInt v2)]) (rest := []) hx hb hml hg hown hK hP hD hS hA (kX2_blame l D dA ad v2 σ _ _ hw) (zoC15) rfl q1125 q155 q1122 q1124 q31 (by decide +kernel) ⟨(Nat.le_of_ble_eq_true rfl), (Nat.le_of_ble_eq_true rfl)⟩ rfl hl.1 rfl (Nat.le_of_ble_eq_true rfl) dX2_mayDeclare_45 ⟨(Nat.le_of_ble_eq_true rfl), (Nat.le_of_ble_eq_true rfl)⟩ (fun σ2 H locs hw hP hD hS => ?_)
    refine lv_iconst (v := Int32.ofInt 0) hx hb dX2_mayDeclare_48 (by decide) ?_
    exact hret 0 σ2 _ _ _ _ (by decide) hw hP hD hS dX2_mayDeclare_49
  unfold wpX2_mayDeclare at hw
  refine lv_aload_n hx hb dX2_mayDeclare_0 rfl (lv_at hl 0 rfl) ?_
  refine zgC15_0 hx hb hg hown hK hP q371 dX2_mayDeclare_1 ?_
  refine zgC13_3 hx hb hg hown hK hP q264 dX2_mayDeclare_4 ?_
  refine lv_iload_n hx hb dX2_mayDeclare_7 rfl (lv_at hl 1 rfl) ?_
  obtain ⟨o3, hw⟩ := hw
  refine zlC13_3 hx hb o3 hK hP dX2_mayDeclare_8 ?_
  refine lv_istore_n (lv' := [(2, .int (Int32.ofInt (zA σ 13 3 a1))), (0, .ref (ad 15 1000)), (1, .int (Int32.ofInt a1))]) hx hb dX2_mayDeclare_9 rfl hl (by decide) rfl (fun ls hl => ?_)
  refine lv_aload_n hx hb dX2_mayDeclare_10 rfl (lv_at hl 1 rfl) ?_
  refine zgC15_1 hx hb hg hown hK hP q372 dX2_mayDeclare_11 ?_
  refine zgC11_1 hx hb hg hown hK hP q197 dX2_mayDeclare_14 ?_
  refine lv_aload_n hx hb dX2_mayDeclare_17 rfl (lv_at hl 1 rfl) ?_
  refine zgC15_0 hx hb hg hown hK hP q371 dX2_mayDeclare_18 ?_
  refine zgC13_2 hx hb hg hown hK hP q262 dX2_mayDeclare_21 ?_
  refine lv_iload_n hx hb dX2_mayDeclare_24 rfl (lv_at hl 2 rfl) ?_
  refine zlC13_2 hx hb o3 hK hP dX2_mayDeclare_25 ?_
  obtain ⟨o4, hw⟩ := hw
  refine zlC11_1 hx hb o4 hK hP dX2_mayDeclare_26 ?_
  obtain ⟨o5, hw⟩ := hw
  refine z_if_ne (tgt := 43) hx hb o5 dX2_mayDeclare_27 (by decide) (fun k6 => ?_) (fun k6 => ?_)
  · replace hw := hw.1 k6
    exact j43 (zA σ 13 3 a1) σ _ _ _ hP hD hS (lv_sub hl [1, 0] rfl) hw
  · replace hw := hw.2 k6
    refine lv_iload_n hx hb dX2_mayDeclare_30 rfl (lv_at hl 0 rfl) ?_
    refine lv_aload_n hx hb dX2_mayDeclare_31 rfl (lv_at hl 1 rfl) ?_
    refine zgC15_1 hx hb hg hown hK hP q372 dX2_mayDeclare_32 ?_
    refine zgC11_6 hx hb hg hown hK hP q206 dX2_mayDeclare_35 ?_
    obtain ⟨o7, hw⟩ := hw
    obtain ⟨o8, hw⟩ := hw
    refine z_icmp_eq (tgt := 43) hx hb o7 o8 dX2_mayDeclare_38 (by decide) (fun k9 => ?_) (fun k9 => ?_)
    · replace hw := hw.1 k9
      exact j43 (zA σ 13 3 a1) σ _ _ _ hP hD hS (lv_sub hl [1, 0] rfl) hw
    · replace hw := hw.2 k9
      refine lv_iconst (v := Int32.ofInt 1) hx hb dX2_mayDeclare_41 (by decide) ?_
      exact hret 1 σ _ _ _ _ (by decide) hw hP hD hS dX2_mayDeclare_42
