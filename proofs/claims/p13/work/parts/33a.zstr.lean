theorem q166 : Cond.initialized RJ0 ∈ gw := gw_in (i := 166) (by decide +kernel) rfl
theorem q169 : Cond.initialized RJ1 ∈ gw := gw_in (i := 169) (by decide +kernel) rfl
theorem q170 : Cond.initialized RJ3 ∈ gw := gw_in (i := 170) (by decide +kernel) rfl
theorem q819 : Cond.instanceMethod yJ0_length_8abf5 ∈ gw := gw_in (i := 819) (by decide +kernel) rfl
theorem q820 : Cond.selects RJ0 yJ0_length_8abf5 yJ0_length_8abf5 ∈ gw := gw_in (i := 820) (by decide +kernel) rfl
theorem q821 : Cond.code yJ0_length_8abf5 cJ0_length_8abf5 1 (some .int) ∈ gw := gw_in (i := 821) (by decide +kernel) rfl
theorem q822 : Cond.methodLink RJ0 335 yJ0_coder_7d493 ∈ gw := gw_in (i := 822) (by decide +kernel) rfl
theorem q823 : Cond.instanceMethod yJ0_coder_7d493 ∈ gw := gw_in (i := 823) (by decide +kernel) rfl
theorem q824 : Cond.selects RJ0 yJ0_coder_7d493 yJ0_coder_7d493 ∈ gw := gw_in (i := 824) (by decide +kernel) rfl
theorem q825 : Cond.code yJ0_coder_7d493 cJ0_coder_7d493 1 (some .byte) ∈ gw := gw_in (i := 825) (by decide +kernel) rfl
theorem q826 : Cond.fieldLink RJ0 38 "java/lang/String" "COMPACT_STRINGS" "Z" ∈ gw := gw_in (i := 826) (by decide +kernel) rfl
theorem q832 : Cond.methodLink RJ0 492 yJ0_isLatin1_aae02 ∈ gw := gw_in (i := 832) (by decide +kernel) rfl
theorem q833 : Cond.instanceMethod yJ0_isLatin1_aae02 ∈ gw := gw_in (i := 833) (by decide +kernel) rfl
theorem q834 : Cond.selects RJ0 yJ0_isLatin1_aae02 yJ0_isLatin1_aae02 ∈ gw := gw_in (i := 834) (by decide +kernel) rfl
theorem q835 : Cond.code yJ0_isLatin1_aae02 cJ0_isLatin1_aae02 1 (some .boolean) ∈ gw := gw_in (i := 835) (by decide +kernel) rfl
theorem q836 : Cond.methodLink RJ0 495 yJ1_charAt_3b067 ∈ gw := gw_in (i := 836) (by decide +kernel) rfl
theorem q837 : Cond.static yJ1_charAt_3b067 ∈ gw := gw_in (i := 837) (by decide +kernel) rfl
theorem q838 : Cond.code yJ1_charAt_3b067 cJ1_charAt_3b067 2 (some .char) ∈ gw := gw_in (i := 838) (by decide +kernel) rfl
theorem q839 : Cond.methodLink RJ1 9 yJ0_checkIndex_df160 ∈ gw := gw_in (i := 839) (by decide +kernel) rfl
theorem q840 : Cond.static yJ0_checkIndex_df160 ∈ gw := gw_in (i := 840) (by decide +kernel) rfl
theorem q841 : Cond.code yJ0_checkIndex_df160 cJ0_checkIndex_df160 2 none ∈ gw := gw_in (i := 841) (by decide +kernel) rfl
theorem q842 : Cond.fieldLink RJ0 1053 "jdk/internal/util/Preconditions" "SIOOBE_FORMATTER" "Ljava/util/function/BiFunction;" ∈ gw := gw_in (i := 842) (by decide +kernel) rfl
theorem q844 : Cond.methodLink RJ0 1059 yJ3_checkIndex_8e157 ∈ gw := gw_in (i := 844) (by decide +kernel) rfl
theorem q845 : Cond.static yJ3_checkIndex_8e157 ∈ gw := gw_in (i := 845) (by decide +kernel) rfl
theorem q846 : Cond.code yJ3_checkIndex_8e157 cJ3_checkIndex_8e157 3 (some .int) ∈ gw := gw_in (i := 846) (by decide +kernel) rfl
theorem q886 : Cond.methodLink RJ0 633 yJ0_indexOf_7cf53 ∈ gw := gw_in (i := 886) (by decide +kernel) rfl
theorem q887 : Cond.instanceMethod yJ0_indexOf_7cf53 ∈ gw := gw_in (i := 887) (by decide +kernel) rfl
theorem q888 : Cond.selects RJ0 yJ0_indexOf_7cf53 yJ0_indexOf_7cf53 ∈ gw := gw_in (i := 888) (by decide +kernel) rfl
theorem q889 : Cond.code yJ0_indexOf_7cf53 cJ0_indexOf_7cf53 3 (some .int) ∈ gw := gw_in (i := 889) (by decide +kernel) rfl
theorem q890 : Cond.methodLink RJ0 505 yJ0_length_8abf5 ∈ gw := gw_in (i := 890) (by decide +kernel) rfl
theorem q891 : Cond.methodLink RJ0 637 yJ1_indexOf_4cfef ∈ gw := gw_in (i := 891) (by decide +kernel) rfl
theorem q892 : Cond.static yJ1_indexOf_4cfef ∈ gw := gw_in (i := 892) (by decide +kernel) rfl
theorem q893 : Cond.code yJ1_indexOf_4cfef cJ1_indexOf_4cfef 4 (some .int) ∈ gw := gw_in (i := 893) (by decide +kernel) rfl
theorem q894 : Cond.methodLink RJ1 88 yJ1_canEncode_9a6ad ∈ gw := gw_in (i := 894) (by decide +kernel) rfl
theorem q895 : Cond.static yJ1_canEncode_9a6ad ∈ gw := gw_in (i := 895) (by decide +kernel) rfl
theorem q896 : Cond.code yJ1_canEncode_9a6ad cJ1_canEncode_9a6ad 1 (some .boolean) ∈ gw := gw_in (i := 896) (by decide +kernel) rfl
theorem q897 : Cond.methodLink RJ1 92 Lib.Math.max.name ∈ gw := gw_in (i := 897) (by decide +kernel) rfl
theorem q900 : Cond.methodLink RJ1 38 Lib.Math.min.name ∈ gw := gw_in (i := 900) (by decide +kernel) rfl
theorem q901 : Cond.methodLink RJ1 95 yJ1_indexOfChar_4cfef ∈ gw := gw_in (i := 901) (by decide +kernel) rfl
theorem q902 : Cond.static yJ1_indexOfChar_4cfef ∈ gw := gw_in (i := 902) (by decide +kernel) rfl
theorem q903 : Cond.code yJ1_indexOfChar_4cfef cJ1_indexOfChar_4cfef 6 (some .int) ∈ gw := gw_in (i := 903) (by decide +kernel) rfl
theorem q2258 : Cond.fieldLink RJ0 9 "java/lang/String" "value" "[B" ∈ gw := gw_in (i := 2258) (by decide +kernel) rfl
theorem q2259 : Cond.fieldLink RJ0 15 "java/lang/String" "code\x72" "B" ∈ gw := gw_in (i := 2259) (by decide +kernel) rfl
theorem dJ1_canEncode_9a6ad_0 : decode cJ1_canEncode_9a6ad 0 = .ok (.iload_n 0, 1) := by decide +kernel
theorem dJ1_canEncode_9a6ad_1 : decode cJ1_canEncode_9a6ad 1 = .ok (.ifCond .lt 14, 3) := by decide +kernel
theorem dJ1_canEncode_9a6ad_4 : decode cJ1_canEncode_9a6ad 4 = .ok (.iload_n 0, 1) := by decide +kernel
theorem dJ1_canEncode_9a6ad_5 : decode cJ1_canEncode_9a6ad 5 = .ok (.sipush 255, 3) := by decide +kernel
theorem dJ1_canEncode_9a6ad_8 : decode cJ1_canEncode_9a6ad 8 = .ok (.if_icmp .gt 7, 3) := by decide +kernel
theorem dJ1_canEncode_9a6ad_11 : decode cJ1_canEncode_9a6ad 11 = .ok (.iconst 1, 1) := by decide +kernel
theorem dJ1_canEncode_9a6ad_12 : decode cJ1_canEncode_9a6ad 12 = .ok (.goto 4, 3) := by decide +kernel
theorem dJ1_canEncode_9a6ad_15 : decode cJ1_canEncode_9a6ad 15 = .ok (.iconst 0, 1) := by decide +kernel
theorem dJ1_canEncode_9a6ad_16 : decode cJ1_canEncode_9a6ad 16 = .ok (.ireturn, 1) := by decide +kernel
theorem dJ3_checkIndex_8e157_0 : decode cJ3_checkIndex_8e157 0 = .ok (.iload_n 0, 1) := by decide +kernel
theorem dJ3_checkIndex_8e157_1 : decode cJ3_checkIndex_8e157 1 = .ok (.ifCond .lt 8, 3) := by decide +kernel
theorem dJ3_checkIndex_8e157_4 : decode cJ3_checkIndex_8e157 4 = .ok (.iload_n 0, 1) := by decide +kernel
theorem dJ3_checkIndex_8e157_5 : decode cJ3_checkIndex_8e157 5 = .ok (.iload_n 1, 1) := by decide +kernel
theorem dJ3_checkIndex_8e157_6 : decode cJ3_checkIndex_8e157 6 = .ok (.if_icmp .lt 10, 3) := by decide +kernel
theorem dJ3_checkIndex_8e157_16 : decode cJ3_checkIndex_8e157 16 = .ok (.iload_n 0, 1) := by decide +kernel
theorem dJ3_checkIndex_8e157_17 : decode cJ3_checkIndex_8e157 17 = .ok (.ireturn, 1) := by decide +kernel
theorem dJ3_checkIndex_8e157_9 : decode cJ3_checkIndex_8e157 9 = .ok (.aload_n 2, 1) := by decide +kernel
theorem dJ3_checkIndex_8e157_10 : decode cJ3_checkIndex_8e157 10 = .ok (.iload_n 0, 1) := by decide +kernel
theorem dJ3_checkIndex_8e157_11 : decode cJ3_checkIndex_8e157 11 = .ok (.iload_n 1, 1) := by decide +kernel
theorem dJ3_checkIndex_8e157_12 : decode cJ3_checkIndex_8e157 12 = .ok (.invokestatic 95, 3) := by decide +kernel
theorem dJ0_checkIndex_df160_0 : decode cJ0_checkIndex_df160 0 = .ok (.iload_n 0, 1) := by decide +kernel
theorem dJ0_checkIndex_df160_1 : decode cJ0_checkIndex_df160 1 = .ok (.iload_n 1, 1) := by decide +kernel
theorem dJ0_checkIndex_df160_2 : decode cJ0_checkIndex_df160 2 = .ok (.getstatic 1053, 3) := by decide +kernel
theorem dJ0_checkIndex_df160_5 : decode cJ0_checkIndex_df160 5 = .ok (.invokestatic 1059, 3) := by decide +kernel
theorem dJ0_checkIndex_df160_8 : decode cJ0_checkIndex_df160 8 = .ok (.pop, 1) := by decide +kernel
theorem dJ0_checkIndex_df160_9 : decode cJ0_checkIndex_df160 9 = .ok (.return_, 1) := by decide +kernel
theorem dJ0_coder_7d493_0 : decode cJ0_coder_7d493 0 = .ok (.getstatic 38, 3) := by decide +kernel
theorem dJ0_coder_7d493_3 : decode cJ0_coder_7d493 3 = .ok (.ifCond .eq 10, 3) := by decide +kernel
theorem dJ0_coder_7d493_13 : decode cJ0_coder_7d493 13 = .ok (.iconst 1, 1) := by decide +kernel
theorem dJ0_coder_7d493_6 : decode cJ0_coder_7d493 6 = .ok (.aload_n 0, 1) := by decide +kernel
theorem dJ0_coder_7d493_7 : decode cJ0_coder_7d493 7 = .ok (.getfield 15, 3) := by decide +kernel
theorem dJ0_coder_7d493_10 : decode cJ0_coder_7d493 10 = .ok (.goto 4, 3) := by decide +kernel
theorem dJ0_coder_7d493_14 : decode cJ0_coder_7d493 14 = .ok (.ireturn, 1) := by decide +kernel
theorem dJ0_length_8abf5_0 : decode cJ0_length_8abf5 0 = .ok (.aload_n 0, 1) := by decide +kernel
theorem dJ0_length_8abf5_1 : decode cJ0_length_8abf5 1 = .ok (.getfield 9, 3) := by decide +kernel
theorem dJ0_length_8abf5_4 : decode cJ0_length_8abf5 4 = .ok (.arraylength, 1) := by decide +kernel
theorem dJ0_length_8abf5_5 : decode cJ0_length_8abf5 5 = .ok (.aload_n 0, 1) := by decide +kernel
theorem dJ0_length_8abf5_6 : decode cJ0_length_8abf5 6 = .ok (.invokevirtual 335, 3) := by decide +kernel
theorem dJ0_length_8abf5_9 : decode cJ0_length_8abf5 9 = .ok (.ishr, 1) := by decide +kernel
theorem dJ0_length_8abf5_10 : decode cJ0_length_8abf5 10 = .ok (.ireturn, 1) := by decide +kernel
theorem dJ0_isLatin1_aae02_0 : decode cJ0_isLatin1_aae02 0 = .ok (.getstatic 38, 3) := by decide +kernel
theorem dJ0_isLatin1_aae02_3 : decode cJ0_isLatin1_aae02 3 = .ok (.ifCond .eq 14, 3) := by decide +kernel
theorem dJ0_isLatin1_aae02_6 : decode cJ0_isLatin1_aae02 6 = .ok (.aload_n 0, 1) := by decide +kernel
theorem dJ0_isLatin1_aae02_7 : decode cJ0_isLatin1_aae02 7 = .ok (.getfield 15, 3) := by decide +kernel
theorem dJ0_isLatin1_aae02_10 : decode cJ0_isLatin1_aae02 10 = .ok (.ifCond .ne 7, 3) := by decide +kernel
theorem dJ0_isLatin1_aae02_13 : decode cJ0_isLatin1_aae02 13 = .ok (.iconst 1, 1) := by decide +kernel
theorem dJ0_isLatin1_aae02_14 : decode cJ0_isLatin1_aae02 14 = .ok (.goto 4, 3) := by decide +kernel
theorem dJ0_isLatin1_aae02_17 : decode cJ0_isLatin1_aae02 17 = .ok (.iconst 0, 1) := by decide +kernel
theorem dJ0_isLatin1_aae02_18 : decode cJ0_isLatin1_aae02 18 = .ok (.ireturn, 1) := by decide +kernel
theorem dJ1_indexOfChar_4cfef_0 : decode cJ1_indexOfChar_4cfef 0 = .ok (.iload_n 1, 1) := by decide +kernel
theorem dJ1_indexOfChar_4cfef_1 : decode cJ1_indexOfChar_4cfef 1 = .ok (.i2b, 1) := by decide +kernel
theorem dJ1_indexOfChar_4cfef_2 : decode cJ1_indexOfChar_4cfef 2 = .ok (.istore 4, 2) := by decide +kernel
theorem dJ1_indexOfChar_4cfef_4 : decode cJ1_indexOfChar_4cfef 4 = .ok (.iload_n 2, 1) := by decide +kernel
theorem dJ1_indexOfChar_4cfef_5 : decode cJ1_indexOfChar_4cfef 5 = .ok (.istore 5, 2) := by decide +kernel
theorem dJ1_indexOfChar_4cfef_7 : decode cJ1_indexOfChar_4cfef 7 = .ok (.iload 5, 2) := by decide +kernel
theorem dJ1_indexOfChar_4cfef_9 : decode cJ1_indexOfChar_4cfef 9 = .ok (.iload_n 3, 1) := by decide +kernel
theorem dJ1_indexOfChar_4cfef_10 : decode cJ1_indexOfChar_4cfef 10 = .ok (.if_icmp .ge 21, 3) := by decide +kernel
theorem dJ1_indexOfChar_4cfef_31 : decode cJ1_indexOfChar_4cfef 31 = .ok (.iconst (-1), 1) := by decide +kernel
theorem dJ1_indexOfChar_4cfef_32 : decode cJ1_indexOfChar_4cfef 32 = .ok (.ireturn, 1) := by decide +kernel
theorem dJ1_indexOfChar_4cfef_13 : decode cJ1_indexOfChar_4cfef 13 = .ok (.aload_n 0, 1) := by decide +kernel
theorem dJ1_indexOfChar_4cfef_14 : decode cJ1_indexOfChar_4cfef 14 = .ok (.iload 5, 2) := by decide +kernel
theorem dJ1_indexOfChar_4cfef_16 : decode cJ1_indexOfChar_4cfef 16 = .ok (.baload, 1) := by decide +kernel
theorem dJ1_indexOfChar_4cfef_17 : decode cJ1_indexOfChar_4cfef 17 = .ok (.iload 4, 2) := by decide +kernel
theorem dJ1_indexOfChar_4cfef_19 : decode cJ1_indexOfChar_4cfef 19 = .ok (.if_icmp .ne 6, 3) := by decide +kernel
theorem dJ1_indexOfChar_4cfef_25 : decode cJ1_indexOfChar_4cfef 25 = .ok (.iinc 5 1, 3) := by decide +kernel
theorem dJ1_indexOfChar_4cfef_28 : decode cJ1_indexOfChar_4cfef 28 = .ok (.goto (-21), 3) := by decide +kernel
theorem dJ1_indexOfChar_4cfef_22 : decode cJ1_indexOfChar_4cfef 22 = .ok (.iload 5, 2) := by decide +kernel
theorem dJ1_indexOfChar_4cfef_24 : decode cJ1_indexOfChar_4cfef 24 = .ok (.ireturn, 1) := by decide +kernel
theorem dJ1_indexOf_4cfef_0 : decode cJ1_indexOf_4cfef 0 = .ok (.iload_n 1, 1) := by decide +kernel
theorem dJ1_indexOf_4cfef_1 : decode cJ1_indexOf_4cfef 1 = .ok (.invokestatic 88, 3) := by decide +kernel
theorem dJ1_indexOf_4cfef_4 : decode cJ1_indexOf_4cfef 4 = .ok (.ifCond .ne 5, 3) := by decide +kernel
theorem dJ1_indexOf_4cfef_9 : decode cJ1_indexOf_4cfef 9 = .ok (.iload_n 2, 1) := by decide +kernel
theorem dJ1_indexOf_4cfef_10 : decode cJ1_indexOf_4cfef 10 = .ok (.iconst 0, 1) := by decide +kernel
theorem dJ1_indexOf_4cfef_11 : decode cJ1_indexOf_4cfef 11 = .ok (.invokestatic 92, 3) := by decide +kernel
theorem dJ1_indexOf_4cfef_14 : decode cJ1_indexOf_4cfef 14 = .ok (.istore_n 2, 1) := by decide +kernel
theorem dJ1_indexOf_4cfef_15 : decode cJ1_indexOf_4cfef 15 = .ok (.iload_n 3, 1) := by decide +kernel
theorem dJ1_indexOf_4cfef_16 : decode cJ1_indexOf_4cfef 16 = .ok (.aload_n 0, 1) := by decide +kernel
theorem dJ1_indexOf_4cfef_17 : decode cJ1_indexOf_4cfef 17 = .ok (.arraylength, 1) := by decide +kernel
theorem dJ1_indexOf_4cfef_18 : decode cJ1_indexOf_4cfef 18 = .ok (.invokestatic 38, 3) := by decide +kernel
theorem dJ1_indexOf_4cfef_21 : decode cJ1_indexOf_4cfef 21 = .ok (.istore_n 3, 1) := by decide +kernel
theorem dJ1_indexOf_4cfef_22 : decode cJ1_indexOf_4cfef 22 = .ok (.iload_n 2, 1) := by decide +kernel
theorem dJ1_indexOf_4cfef_23 : decode cJ1_indexOf_4cfef 23 = .ok (.iload_n 3, 1) := by decide +kernel
theorem dJ1_indexOf_4cfef_24 : decode cJ1_indexOf_4cfef 24 = .ok (.if_icmp .lt 5, 3) := by decide +kernel
theorem dJ1_indexOf_4cfef_29 : decode cJ1_indexOf_4cfef 29 = .ok (.aload_n 0, 1) := by decide +kernel
theorem dJ1_indexOf_4cfef_30 : decode cJ1_indexOf_4cfef 30 = .ok (.iload_n 1, 1) := by decide +kernel
theorem dJ1_indexOf_4cfef_31 : decode cJ1_indexOf_4cfef 31 = .ok (.iload_n 2, 1) := by decide +kernel
theorem dJ1_indexOf_4cfef_32 : decode cJ1_indexOf_4cfef 32 = .ok (.iload_n 3, 1) := by decide +kernel
theorem dJ1_indexOf_4cfef_33 : decode cJ1_indexOf_4cfef 33 = .ok (.invokestatic 95, 3) := by decide +kernel
theorem dJ1_indexOf_4cfef_36 : decode cJ1_indexOf_4cfef 36 = .ok (.ireturn, 1) := by decide +kernel
theorem dJ1_indexOf_4cfef_27 : decode cJ1_indexOf_4cfef 27 = .ok (.iconst (-1), 1) := by decide +kernel
theorem dJ1_indexOf_4cfef_28 : decode cJ1_indexOf_4cfef 28 = .ok (.ireturn, 1) := by decide +kernel
theorem dJ1_indexOf_4cfef_7 : decode cJ1_indexOf_4cfef 7 = .ok (.iconst (-1), 1) := by decide +kernel
theorem dJ1_indexOf_4cfef_8 : decode cJ1_indexOf_4cfef 8 = .ok (.ireturn, 1) := by decide +kernel
theorem dJ0_indexOf_7cf53_0 : decode cJ0_indexOf_7cf53 0 = .ok (.aload_n 0, 1) := by decide +kernel
theorem dJ0_indexOf_7cf53_1 : decode cJ0_indexOf_7cf53 1 = .ok (.invokevirtual 492, 3) := by decide +kernel
theorem dJ0_indexOf_7cf53_4 : decode cJ0_indexOf_7cf53 4 = .ok (.ifCond .eq 19, 3) := by decide +kernel
theorem dJ0_indexOf_7cf53_23 : decode cJ0_indexOf_7cf53 23 = .ok (.aload_n 0, 1) := by decide +kernel
theorem dJ0_indexOf_7cf53_24 : decode cJ0_indexOf_7cf53 24 = .ok (.getfield 9, 3) := by decide +kernel
theorem dJ0_indexOf_7cf53_27 : decode cJ0_indexOf_7cf53 27 = .ok (.iload_n 1, 1) := by decide +kernel
theorem dJ0_indexOf_7cf53_28 : decode cJ0_indexOf_7cf53 28 = .ok (.iload_n 2, 1) := by decide +kernel
theorem dJ0_indexOf_7cf53_29 : decode cJ0_indexOf_7cf53 29 = .ok (.aload_n 0, 1) := by decide +kernel
theorem dJ0_indexOf_7cf53_30 : decode cJ0_indexOf_7cf53 30 = .ok (.invokevirtual 505, 3) := by decide +kernel
theorem dJ0_indexOf_7cf53_33 : decode cJ0_indexOf_7cf53 33 = .ok (.invokestatic 640, 3) := by decide +kernel
theorem dJ0_indexOf_7cf53_7 : decode cJ0_indexOf_7cf53 7 = .ok (.aload_n 0, 1) := by decide +kernel
theorem dJ0_indexOf_7cf53_8 : decode cJ0_indexOf_7cf53 8 = .ok (.getfield 9, 3) := by decide +kernel
theorem dJ0_indexOf_7cf53_11 : decode cJ0_indexOf_7cf53 11 = .ok (.iload_n 1, 1) := by decide +kernel
theorem dJ0_indexOf_7cf53_12 : decode cJ0_indexOf_7cf53 12 = .ok (.iload_n 2, 1) := by decide +kernel
theorem dJ0_indexOf_7cf53_13 : decode cJ0_indexOf_7cf53 13 = .ok (.aload_n 0, 1) := by decide +kernel
theorem dJ0_indexOf_7cf53_14 : decode cJ0_indexOf_7cf53 14 = .ok (.invokevirtual 505, 3) := by decide +kernel
theorem dJ0_indexOf_7cf53_17 : decode cJ0_indexOf_7cf53 17 = .ok (.invokestatic 637, 3) := by decide +kernel
theorem dJ0_indexOf_7cf53_20 : decode cJ0_indexOf_7cf53 20 = .ok (.goto 16, 3) := by decide +kernel
theorem dJ0_indexOf_7cf53_36 : decode cJ0_indexOf_7cf53 36 = .ok (.ireturn, 1) := by decide +kernel
theorem dJ0_indexOf_0f7a4_0 : decode cJ0_indexOf_0f7a4 0 = .ok (.aload_n 0, 1) := by decide +kernel
theorem dJ0_indexOf_0f7a4_1 : decode cJ0_indexOf_0f7a4 1 = .ok (.iload_n 1, 1) := by decide +kernel
theorem dJ0_indexOf_0f7a4_2 : decode cJ0_indexOf_0f7a4 2 = .ok (.iconst 0, 1) := by decide +kernel
theorem dJ0_indexOf_0f7a4_3 : decode cJ0_indexOf_0f7a4 3 = .ok (.invokevirtual 633, 3) := by decide +kernel
theorem dJ0_indexOf_0f7a4_6 : decode cJ0_indexOf_0f7a4 6 = .ok (.ireturn, 1) := by decide +kernel
theorem dJ1_charAt_3b067_0 : decode cJ1_charAt_3b067 0 = .ok (.iload_n 1, 1) := by decide +kernel
theorem dJ1_charAt_3b067_1 : decode cJ1_charAt_3b067 1 = .ok (.aload_n 0, 1) := by decide +kernel
theorem dJ1_charAt_3b067_2 : decode cJ1_charAt_3b067 2 = .ok (.arraylength, 1) := by decide +kernel
theorem dJ1_charAt_3b067_3 : decode cJ1_charAt_3b067 3 = .ok (.invokestatic 9, 3) := by decide +kernel
theorem dJ1_charAt_3b067_6 : decode cJ1_charAt_3b067 6 = .ok (.aload_n 0, 1) := by decide +kernel
theorem dJ1_charAt_3b067_7 : decode cJ1_charAt_3b067 7 = .ok (.iload_n 1, 1) := by decide +kernel
theorem dJ1_charAt_3b067_8 : decode cJ1_charAt_3b067 8 = .ok (.baload, 1) := by decide +kernel
theorem dJ1_charAt_3b067_9 : decode cJ1_charAt_3b067 9 = .ok (.sipush 255, 3) := by decide +kernel
theorem dJ1_charAt_3b067_12 : decode cJ1_charAt_3b067 12 = .ok (.iand, 1) := by decide +kernel
theorem dJ1_charAt_3b067_13 : decode cJ1_charAt_3b067 13 = .ok (.i2c, 1) := by decide +kernel
theorem dJ1_charAt_3b067_14 : decode cJ1_charAt_3b067 14 = .ok (.ireturn, 1) := by decide +kernel
theorem dJ0_charAt_5068e_0 : decode cJ0_charAt_5068e 0 = .ok (.aload_n 0, 1) := by decide +kernel
theorem dJ0_charAt_5068e_1 : decode cJ0_charAt_5068e 1 = .ok (.invokevirtual 492, 3) := by decide +kernel
theorem dJ0_charAt_5068e_4 : decode cJ0_charAt_5068e 4 = .ok (.ifCond .eq 12, 3) := by decide +kernel
theorem dJ0_charAt_5068e_16 : decode cJ0_charAt_5068e 16 = .ok (.aload_n 0, 1) := by decide +kernel
theorem dJ0_charAt_5068e_17 : decode cJ0_charAt_5068e 17 = .ok (.getfield 9, 3) := by decide +kernel
theorem dJ0_charAt_5068e_20 : decode cJ0_charAt_5068e 20 = .ok (.iload_n 1, 1) := by decide +kernel
theorem dJ0_charAt_5068e_21 : decode cJ0_charAt_5068e 21 = .ok (.invokestatic 498, 3) := by decide +kernel
theorem dJ0_charAt_5068e_7 : decode cJ0_charAt_5068e 7 = .ok (.aload_n 0, 1) := by decide +kernel
theorem dJ0_charAt_5068e_8 : decode cJ0_charAt_5068e 8 = .ok (.getfield 9, 3) := by decide +kernel
theorem dJ0_charAt_5068e_11 : decode cJ0_charAt_5068e 11 = .ok (.iload_n 1, 1) := by decide +kernel
theorem dJ0_charAt_5068e_12 : decode cJ0_charAt_5068e 12 = .ok (.invokestatic 495, 3) := by decide +kernel
theorem dJ0_charAt_5068e_15 : decode cJ0_charAt_5068e 15 = .ok (.ireturn, 1) := by decide +kernel
def wpJ1_canEncode_9a6ad_16 (s0 : Int) (σ : ZS) (Q : Int → ZS → Prop) : Prop := (0 ≤ s0 ∧ s0 ≤ 1) ∧ Q s0 σ
def wpJ1_canEncode_9a6ad_15 (σ : ZS) (Q : Int → ZS → Prop) : Prop := wpJ1_canEncode_9a6ad_16 0 σ Q
def wpJ1_canEncode_9a6ad (a0 : Int) (σ : ZS) (Q : Int → ZS → Prop) : Prop := (-2147483648 ≤ a0 ∧ a0 ≤ 2147483647) ∧ (a0 < 0 → wpJ1_canEncode_9a6ad_15 σ Q) ∧ (¬ a0 < 0 → (255 < a0 → wpJ1_canEncode_9a6ad_15 σ Q) ∧ (¬ 255 < a0 → wpJ1_canEncode_9a6ad_16 1 σ Q))
set_option maxHeartbeats 4000000 in
set_option maxRecDepth 100000 in
theorem kJ1_canEncode_9a6ad (l : Launch) (D : va_G) (dA : Nat → ClassId) (ad : Int → Nat → Nat) (a0 : Int) (σ : ZS) (Q : Int → ZS → Prop) (sz : Nat) (hw : wpJ1_canEncode_9a6ad a0 σ Q) : Met l yJ1_canEncode_9a6ad (gws yJ1_canEncode_9a6ad cJ1_canEncode_9a6ad 1 (some .boolean)) (gR 1 0 0) (gPre D dA [.int (Int32.ofInt a0)] (zC dA ad σ) sz) (va_Qi (zQi Q) (gAt D dA (va_A (zC dA ad σ) sz) (zC dA ad)) (va_A (zC dA ad σ) sz)) 0 0 (va_A (zC dA ad σ) sz) := by
  refine Met.ofW (cc := cJ1_canEncode_9a6ad) (maxL := 1) (ret := (some .boolean)) (by decide) rfl ?_
  intro p e s m args below meth c s₁ B hml hv
  obtain ⟨rfl, hsz, hP, hK, hD0⟩ := hv
  have hx := B.exec
  have hb := B.bytes
  have hr := B.returns
  have hts := atoms_spec (ws := gws yJ1_canEncode_9a6ad cJ1_canEncode_9a6ad 1 (some .boolean)) B.pre
  have hg : ∀ w ∈ gw, w.before _ s = true := fun w h => hts w (List.mem_cons_of_mem _ h)
  have hown : s.vm.findClass RJ1 = some m.cls := findClass_of_methodNamed B.named
  have hlocks := B.notSynchronized
  subst hsz
  have hD := hD0.self (sz := s.heap.size)
  generalize hAe : va_A (zC dA ad σ) s.heap.size = A at hD ⊢
  have hA : ∀ q : Nat, s.heap.size ≤ q → A q := fun q h => by rw [← hAe]; exact Or.inr h
  have hS : va_S A s.heap s.heap [] := va_S.rf
  have hl := lv_entry ([.int (Int32.ofInt a0)]) (n := 1) (Nat.le_of_ble_eq_true rfl)
  rw [lg_entry_eq]
  generalize (lg_sl ([.int (Int32.ofInt a0)]) ++ List.replicate (1 - (lg_sl ([.int (Int32.ofInt a0)])).length) Slot.unset).toArray = ls at hl ⊢
  have hl : lv_has ls 1 [(0, .int (Int32.ofInt a0))] := hl
  have hret : ∀ (v : Int) (σ : ZS) (H : Heap) (locs : List Loc) (ls : Array Slot) (pc : Nat), (0 ≤ v ∧ v ≤ 1) → Q v σ → va_P D vwC (zC dA ad σ) H → va_D A (zC dA ad σ) → va_S A s.heap H locs → decode cJ1_canEncode_9a6ad pc = .ok (.ireturn, 1) → W p l e (gR 1 0 0) s m #[.int (Int32.ofInt a0)] below meth c H locs 0 0 (MQ below (va_Qi (zQi Q) (gAt D dA A (zC dA ad)) A) #[.int (Int32.ofInt a0)] s 0 0 A) (F0 m pc ls [.int (Int32.ofInt v)]) := fun v σ H locs ls pc hv hw hP hD hS hd => g_iret hx hb hr (z_nb hv) hlocks hK σ hP hD hS ⟨v, rfl, hw⟩ (Nat.le_of_ble_eq_true rfl) (Nat.le_of_ble_eq_true rfl) hd
  generalize MQ below (va_Qi (zQi Q) (gAt D dA A (zC dA ad)) A) #[.int (Int32.ofInt a0)] s 0 0 A = QQ at hret ⊢
  have j16 : ∀ (s0 : Int) (σ : ZS), ∀ (H : Heap) (locs : List Loc) (ls : Array Slot), va_P D vwC (zC dA ad σ) H → va_D A (zC dA ad σ) → va_S A s.heap H locs → lv_has ls 1 [] → wpJ1_canEncode_9a6ad_16 s0 σ Q → W p l e (gR 1 0 0) s m #[.int (Int32.ofInt a0)] below meth c H locs 0 0 QQ (F0 m 16 ls [.int (Int32.ofInt s0)]) := by
    intro s0 σ H locs ls hP hD hS hl hw
    unfold wpJ1_canEncode_9a6ad_16 at hw
    obtain ⟨o1, hw⟩ := hw
    exact hret s0 σ _ _ _ _ o1 hw hP hD hS dJ1_canEncode_9a6ad_16
  have j15 : ∀ (σ : ZS), ∀ (H : Heap) (locs : List Loc) (ls : Array Slot), va_P D vwC (zC dA ad σ) H → va_D A (zC dA ad σ) → va_S A s.heap H locs → lv_has ls 1 [] → wpJ1_canEncode_9a6ad_15 σ Q → W p l e (gR 1 0 0) s m #[.int (Int32.ofInt a0)] below meth c H locs 0 0 QQ (F0 m 15 ls []) := by
    intro σ H locs ls hP hD hS hl hw
    unfold wpJ1_canEncode_9a6ad_15 at hw
    refine lv_iconst (v := Int32.ofInt 0) hx hb dJ1_canEncode_9a6ad_15 (by decide) ?_
    exact j16 0 σ _ _ _ hP hD hS (lv_sub hl [] rfl) hw
  unfold wpJ1_canEncode_9a6ad at hw
  refine lv_iload_n hx hb dJ1_canEncode_9a6ad_0 rfl (lv_at hl 0 rfl) ?_
  obtain ⟨o2, hw⟩ := hw
  refine z_if_lt (tgt := 15) hx hb o2 dJ1_canEncode_9a6ad_1 (by decide) (fun k3 => ?_) (fun k3 => ?_)
  · replace hw := hw.1 k3
    exact j15 σ _ _ _ hP hD hS (lv_sub hl [] rfl) hw
  · replace hw := hw.2 k3
    refine lv_iload_n hx hb dJ1_canEncode_9a6ad_4 rfl (lv_at hl 0 rfl) ?_
    refine lv_sipush (v := Int32.ofInt 255) hx hb dJ1_canEncode_9a6ad_5 (by decide) ?_
    refine z_icmp_gt (tgt := 15) hx hb o2 (by decide) dJ1_canEncode_9a6ad_8 (by decide) (fun k4 => ?_) (fun k4 => ?_)
    · replace hw := hw.1 k4
      exact j15 σ _ _ _ hP hD hS (lv_sub hl [] rfl) hw
    · replace hw := hw.2 k4
      refine lv_iconst (v := Int32.ofInt 1) hx hb dJ1_canEncode_9a6ad_11 (by decide) ?_
      refine lv_goto (tgt := 16) hx hb dJ1_canEncode_9a6ad_12 (by decide) ?_
      exact j16 1 σ _ _ _ hP hD hS (lv_sub hl [] rfl) hw
def wpJ3_checkIndex_8e157_9 (v0 v1 : Int) (σ : ZS) (Q : Int → ZS → Prop) : Prop := False
def wpJ3_checkIndex_8e157 (a0 a1 : Int) (σ : ZS) (Q : Int → ZS → Prop) : Prop := (-2147483648 ≤ a0 ∧ a0 ≤ 2147483647) ∧ (a0 < 0 → wpJ3_checkIndex_8e157_9 a0 a1 σ Q) ∧ (¬ a0 < 0 → (-2147483648 ≤ a1 ∧ a1 ≤ 2147483647) ∧ (a0 < a1 → Q a0 σ) ∧ (¬ a0 < a1 → wpJ3_checkIndex_8e157_9 a0 a1 σ Q))
set_option maxHeartbeats 4000000 in
set_option maxRecDepth 100000 in
theorem kJ3_checkIndex_8e157_N (l : Launch) (D : va_G) (dA : Nat → ClassId) (ad : Int → Nat → Nat) (a0 a1 : Int) (σ : ZS) (Q : Int → ZS → Prop) (sz : Nat) (hw : wpJ3_checkIndex_8e157 a0 a1 σ Q) : Met l yJ3_checkIndex_8e157 (gws yJ3_checkIndex_8e157 cJ3_checkIndex_8e157 3 (some .int)) (gR 1 0 0) (gPre D dA [.int (Int32.ofInt a0), .int (Int32.ofInt a1), .null] (zC dA ad σ) sz) (va_Qi (zQi Q) (gAt D dA (va_A (zC dA ad σ) sz) (zC dA ad)) (va_A (zC dA ad σ) sz)) 0 0 (va_A (zC dA ad σ) sz) := by
  refine Met.ofW (cc := cJ3_checkIndex_8e157) (maxL := 3) (ret := (some .int)) (by decide) rfl ?_
  intro p e s m args below meth c s₁ B hml hv
  obtain ⟨rfl, hsz, hP, hK, hD0⟩ := hv
  have hx := B.exec
  have hb := B.bytes
  have hr := B.returns
  have hts := atoms_spec (ws := gws yJ3_checkIndex_8e157 cJ3_checkIndex_8e157 3 (some .int)) B.pre
  have hg : ∀ w ∈ gw, w.before _ s = true := fun w h => hts w (List.mem_cons_of_mem _ h)
  have hown : s.vm.findClass RJ3 = some m.cls := findClass_of_methodNamed B.named
  have hlocks := B.notSynchronized
  subst hsz
  have hD := hD0.self (sz := s.heap.size)
  generalize hAe : va_A (zC dA ad σ) s.heap.size = A at hD ⊢
  have hA : ∀ q : Nat, s.heap.size ≤ q → A q := fun q h => by rw [← hAe]; exact Or.inr h
  have hS : va_S A s.heap s.heap [] := va_S.rf
  have hl := lv_entry ([.int (Int32.ofInt a0), .int (Int32.ofInt a1), .null]) (n := 3) (Nat.le_of_ble_eq_true rfl)
  rw [lg_entry_eq]
  generalize (lg_sl ([.int (Int32.ofInt a0), .int (Int32.ofInt a1), .null]) ++ List.replicate (3 - (lg_sl ([.int (Int32.ofInt a0), .int (Int32.ofInt a1), .null])).length) Slot.unset).toArray = ls at hl ⊢
  have hl : lv_has ls 3 [(0, .int (Int32.ofInt a0)), (1, .int (Int32.ofInt a1)), (2, .null)] := hl
  have hret : ∀ (v : Int) (σ : ZS) (H : Heap) (locs : List Loc) (ls : Array Slot) (pc : Nat), Q v σ → va_P D vwC (zC dA ad σ) H → va_D A (zC dA ad σ) → va_S A s.heap H locs → decode cJ3_checkIndex_8e157 pc = .ok (.ireturn, 1) → W p l e (gR 1 0 0) s m #[.int (Int32.ofInt a0), .int (Int32.ofInt a1), .null] below meth c H locs 0 0 (MQ below (va_Qi (zQi Q) (gAt D dA A (zC dA ad)) A) #[.int (Int32.ofInt a0), .int (Int32.ofInt a1), .null] s 0 0 A) (F0 m pc ls [.int (Int32.ofInt v)]) := fun v σ H locs ls pc hw hP hD hS hd => g_iret hx hb hr rfl hlocks hK σ hP hD hS ⟨v, rfl, hw⟩ (Nat.le_of_ble_eq_true rfl) (Nat.le_of_ble_eq_true rfl) hd
  generalize MQ below (va_Qi (zQi Q) (gAt D dA A (zC dA ad)) A) #[.int (Int32.ofInt a0), .int (Int32.ofInt a1), .null] s 0 0 A = QQ at hret ⊢
  have j9 : ∀ (v0 v1 : Int) (σ : ZS), ∀ (H : Heap) (locs : List Loc) (ls : Array Slot), va_P D vwC (zC dA ad σ) H → va_D A (zC dA ad σ) → va_S A s.heap H locs → lv_has ls 3 [(0, .int (Int32.ofInt v0)), (1, .int (Int32.ofInt v1)), (2, .null)] → wpJ3_checkIndex_8e157_9 v0 v1 σ Q → W p l e (gR 1 0 0) s m #[.int (Int32.ofInt a0), .int (Int32.ofInt a1), .null] below meth c H locs 0 0 QQ (F0 m 9 ls []) := by
    intro v0 v1 σ H locs ls hP hD hS hl hw
    unfold wpJ3_checkIndex_8e157_9 at hw
    refine lv_aload_nN hx hb dJ3_checkIndex_8e157_9 rfl (lv_at hl 2 rfl) ?_
    refine lv_iload_n hx hb dJ3_checkIndex_8e157_10 rfl (lv_at hl 0 rfl) ?_
    refine lv_iload_n hx hb dJ3_checkIndex_8e157_11 rfl (lv_at hl 1 rfl) ?_
    exact hw.elim
  unfold wpJ3_checkIndex_8e157 at hw
  refine lv_iload_n hx hb dJ3_checkIndex_8e157_0 rfl (lv_at hl 0 rfl) ?_
  obtain ⟨o1, hw⟩ := hw
  refine z_if_lt (tgt := 9) hx hb o1 dJ3_checkIndex_8e157_1 (by decide) (fun k2 => ?_) (fun k2 => ?_)
  · replace hw := hw.1 k2
    exact j9 a0 a1 σ _ _ _ hP hD hS (lv_sub hl [0, 1, 2] rfl) hw
  · replace hw := hw.2 k2
    refine lv_iload_n hx hb dJ3_checkIndex_8e157_4 rfl (lv_at hl 0 rfl) ?_
    refine lv_iload_n hx hb dJ3_checkIndex_8e157_5 rfl (lv_at hl 1 rfl) ?_
    obtain ⟨o3, hw⟩ := hw
    refine z_icmp_lt (tgt := 16) hx hb o1 o3 dJ3_checkIndex_8e157_6 (by decide) (fun k4 => ?_) (fun k4 => ?_)
    · replace hw := hw.1 k4
      refine lv_iload_n hx hb dJ3_checkIndex_8e157_16 rfl (lv_at hl 0 rfl) ?_
      exact hret a0 σ _ _ _ _ hw hP hD hS dJ3_checkIndex_8e157_17
    · replace hw := hw.2 k4
      exact j9 a0 a1 σ _ _ _ hP hD hS (lv_sub hl [0, 1, 2] rfl) hw
set_option maxHeartbeats 4000000 in
set_option maxRecDepth 100000 in
theorem kJ3_checkIndex_8e157_R (l : Launch) (D : va_G) (dA : Nat → ClassId) (ad : Int → Nat → Nat) (vx : Nat) (a0 a1 : Int) (σ : ZS) (Q : Int → ZS → Prop) (sz : Nat) (hw : wpJ3_checkIndex_8e157 a0 a1 σ Q) : Met l yJ3_checkIndex_8e157 (gws yJ3_checkIndex_8e157 cJ3_checkIndex_8e157 3 (some .int)) (gR 1 0 0) (gPre D dA [.int (Int32.ofInt a0), .int (Int32.ofInt a1), .ref vx] (zC dA ad σ) sz) (va_Qi (zQi Q) (gAt D dA (va_A (zC dA ad σ) sz) (zC dA ad)) (va_A (zC dA ad σ) sz)) 0 0 (va_A (zC dA ad σ) sz) := by
  refine Met.ofW (cc := cJ3_checkIndex_8e157) (maxL := 3) (ret := (some .int)) (by decide) rfl ?_
  intro p e s m args below meth c s₁ B hml hv
  obtain ⟨rfl, hsz, hP, hK, hD0⟩ := hv
  have hx := B.exec
  have hb := B.bytes
  have hr := B.returns
  have hts := atoms_spec (ws := gws yJ3_checkIndex_8e157 cJ3_checkIndex_8e157 3 (some .int)) B.pre
  have hg : ∀ w ∈ gw, w.before _ s = true := fun w h => hts w (List.mem_cons_of_mem _ h)
  have hown : s.vm.findClass RJ3 = some m.cls := findClass_of_methodNamed B.named
  have hlocks := B.notSynchronized
  subst hsz
  have hD := hD0.self (sz := s.heap.size)
  generalize hAe : va_A (zC dA ad σ) s.heap.size = A at hD ⊢
  have hA : ∀ q : Nat, s.heap.size ≤ q → A q := fun q h => by rw [← hAe]; exact Or.inr h
  have hS : va_S A s.heap s.heap [] := va_S.rf
  have hl := lv_entry ([.int (Int32.ofInt a0), .int (Int32.ofInt a1), .ref vx]) (n := 3) (Nat.le_of_ble_eq_true rfl)
  rw [lg_entry_eq]
  generalize (lg_sl ([.int (Int32.ofInt a0), .int (Int32.ofInt a1), .ref vx]) ++ List.replicate (3 - (lg_sl ([.int (Int32.ofInt a0), .int (Int32.ofInt a1), .ref vx])).length) Slot.unset).toArray = ls at hl ⊢
  have hl : lv_has ls 3 [(0, .int (Int32.ofInt a0)), (1, .int (Int32.ofInt a1)), (2, .ref vx)] := hl
  have hret : ∀ (v : Int) (σ : ZS) (H : Heap) (locs : List Loc) (ls : Array Slot) (pc : Nat), Q v σ → va_P D vwC (zC dA ad σ) H → va_D A (zC dA ad σ) → va_S A s.heap H locs → decode cJ3_checkIndex_8e157 pc = .ok (.ireturn, 1) → W p l e (gR 1 0 0) s m #[.int (Int32.ofInt a0), .int (Int32.ofInt a1), .ref vx] below meth c H locs 0 0 (MQ below (va_Qi (zQi Q) (gAt D dA A (zC dA ad)) A) #[.int (Int32.ofInt a0), .int (Int32.ofInt a1), .ref vx] s 0 0 A) (F0 m pc ls [.int (Int32.ofInt v)]) := fun v σ H locs ls pc hw hP hD hS hd => g_iret hx hb hr rfl hlocks hK σ hP hD hS ⟨v, rfl, hw⟩ (Nat.le_of_ble_eq_true rfl) (Nat.le_of_ble_eq_true rfl) hd
  generalize MQ below (va_Qi (zQi Q) (gAt D dA A (zC dA ad)) A) #[.int (Int32.ofInt a0), .int (Int32.ofInt a1), .ref vx] s 0 0 A = QQ at hret ⊢
  have j9 : ∀ (v0 v1 : Int) (σ : ZS), ∀ (H : Heap) (locs : List Loc) (ls : Array Slot), va_P D vwC (zC dA ad σ) H → va_D A (zC dA ad σ) → va_S A s.heap H locs → lv_has ls 3 [(0, .int (Int32.ofInt v0)), (1, .int (Int32.ofInt v1)), (2, .ref vx)] → wpJ3_checkIndex_8e157_9 v0 v1 σ Q → W p l e (gR 1 0 0) s m #[.int (Int32.ofInt a0), .int (Int32.ofInt a1), .ref vx] below meth c H locs 0 0 QQ (F0 m 9 ls []) := by
    intro v0 v1 σ H locs ls hP hD hS hl hw
    unfold wpJ3_checkIndex_8e157_9 at hw
    refine lv_aload_n hx hb dJ3_checkIndex_8e157_9 rfl (lv_at hl 2 rfl) ?_
    refine lv_iload_n hx hb dJ3_checkIndex_8e157_10 rfl (lv_at hl 0 rfl) ?_
    refine lv_iload_n hx hb dJ3_checkIndex_8e157_11 rfl (lv_at hl 1 rfl) ?_
    exact hw.elim
  unfold wpJ3_checkIndex_8e157 at hw
  refine lv_iload_n hx hb dJ3_checkIndex_8e157_0 rfl (lv_at hl 0 rfl) ?_
  obtain ⟨o1, hw⟩ := hw
  refine z_if_lt (tgt := 9) hx hb o1 dJ3_checkIndex_8e157_1 (by decide) (fun k2 => ?_) (fun k2 => ?_)
  · replace hw := hw.1 k2
    exact j9 a0 a1 σ _ _ _ hP hD hS (lv_sub hl [0, 1, 2] rfl) hw
  · replace hw := hw.2 k2
    refine lv_iload_n hx hb dJ3_checkIndex_8e157_4 rfl (lv_at hl 0 rfl) ?_
    refine lv_iload_n hx hb dJ3_checkIndex_8e157_5 rfl (lv_at hl 1 rfl) ?_
    obtain ⟨o3, hw⟩ := hw
    refine z_icmp_lt (tgt := 16) hx hb o1 o3 dJ3_checkIndex_8e157_6 (by decide) (fun k4 => ?_) (fun k4 => ?_)
    · replace hw := hw.1 k4
      refine lv_iload_n hx hb dJ3_checkIndex_8e157_16 rfl (lv_at hl 0 rfl) ?_
      exact hret a0 σ _ _ _ _ hw hP hD hS dJ3_checkIndex_8e157_17
    · replace hw := hw.2 k4
      exact j9 a0 a1 σ _ _ _ hP hD hS (lv_sub hl [0, 1, 2] rfl) hw
def wpJ0_checkIndex_df160 (a0 a1 : Int) (σ : ZS) (Q : ZS → Prop) : Prop := wpJ3_checkIndex_8e157 a0 a1 σ (fun (x1 : Int) (σ2 : ZS) => Q σ2)
set_option maxHeartbeats 4000000 in
set_option maxRecDepth 100000 in
theorem kJ0_checkIndex_df160 (l : Launch) (D : va_G) (dA : Nat → ClassId) (ad : Int → Nat → Nat) (tf tc : Nat) (aK aV : Nat → Nat) (a0 a1 : Int) (σ : ZS) (Q : ZS → Prop) (sz : Nat) (hw : wpJ0_checkIndex_df160 a0 a1 σ Q) : Met l yJ0_checkIndex_df160 (gws yJ0_checkIndex_df160 cJ0_checkIndex_df160 2 none) (gR 2 0 0) (gPreE D dA tf tc aK aV [.int (Int32.ofInt a0), .int (Int32.ofInt a1)] (zC dA ad σ) sz) (va_Qv Q (gAt D dA (va_A (zC dA ad σ) sz) (zC dA ad)) (va_A (zC dA ad σ) sz)) 0 0 (va_A (zC dA ad σ) sz) := by
  refine Met.ofW (cc := cJ0_checkIndex_df160) (maxL := 2) (ret := none) (by decide) rfl ?_
  intro p e s m args below meth c s₁ B hml hv
  obtain ⟨rfl, hsz, hP, hK, hD0, hE⟩ := hv
  have hx := B.exec
  have hb := B.bytes
  have hr := B.returns
  have hts := atoms_spec (ws := gws yJ0_checkIndex_df160 cJ0_checkIndex_df160 2 none) B.pre
  have hg : ∀ w ∈ gw, w.before _ s = true := fun w h => hts w (List.mem_cons_of_mem _ h)
  have hown : s.vm.findClass RJ0 = some m.cls := findClass_of_methodNamed B.named
  have hlocks := B.notSynchronized
  subst hsz
  have hD := hD0.self (sz := s.heap.size)
  generalize hAe : va_A (zC dA ad σ) s.heap.size = A at hD hE ⊢
  have hA : ∀ q : Nat, s.heap.size ≤ q → A q := fun q h => by rw [← hAe]; exact Or.inr h
  have hS : va_S A s.heap s.heap [] := va_S.rf
  have hl := lv_entry ([.int (Int32.ofInt a0), .int (Int32.ofInt a1)]) (n := 2) (Nat.le_of_ble_eq_true rfl)
  rw [lg_entry_eq]
  generalize (lg_sl ([.int (Int32.ofInt a0), .int (Int32.ofInt a1)]) ++ List.replicate (2 - (lg_sl ([.int (Int32.ofInt a0), .int (Int32.ofInt a1)])).length) Slot.unset).toArray = ls at hl ⊢
  have hl : lv_has ls 2 [(0, .int (Int32.ofInt a0)), (1, .int (Int32.ofInt a1))] := hl
  have hret : ∀ (σ : ZS) (H : Heap) (locs : List Loc) (ls : Array Slot) (pc : Nat), Q σ → va_P D vwC (zC dA ad σ) H → va_D A (zC dA ad σ) → va_S A s.heap H locs → decode cJ0_checkIndex_df160 pc = .ok (.return_, 1) → W p l e (gR 2 0 0) s m #[.int (Int32.ofInt a0), .int (Int32.ofInt a1)] below meth c H locs 0 0 (MQ below (va_Qv Q (gAt D dA A (zC dA ad)) A) #[.int (Int32.ofInt a0), .int (Int32.ofInt a1)] s 0 0 A) (F0 m pc ls []) := fun σ H locs ls pc hw hP hD hS hd => g_vret hx hb hr hlocks hK σ hP hD hS hw (Nat.le_of_ble_eq_true rfl) (Nat.le_of_ble_eq_true rfl) hd
  generalize MQ below (va_Qv Q (gAt D dA A (zC dA ad)) A) #[.int (Int32.ofInt a0), .int (Int32.ofInt a1)] s 0 0 A = QQ at hret ⊢
  unfold wpJ0_checkIndex_df160 at hw
  refine lv_iload_n hx hb dJ0_checkIndex_df160_0 rfl (lv_at hl 0 rfl) ?_
  refine lv_iload_n hx hb dJ0_checkIndex_df160_1 rfl (lv_at hl 1 rfl) ?_
  rcases hE.2.2.2.2.2.1 with hz | ⟨tz, hz⟩
  · refine va_gets hx hb hz hS hown (hg _ q842) (fun _ h => h) dJ0_checkIndex_df160_2 ?_
    refine z_Si (n := 3) (As := [.int (Int32.ofInt a0), .int (Int32.ofInt a1), .null]) (rest := []) hx hb hml hg hown hK hP hD hS hA (kJ3_checkIndex_8e157_N l D dA ad a0 a1 σ _ _ hw) q846 q170 q844 q845 (by decide +kernel) ⟨(Nat.le_of_ble_eq_true rfl), (Nat.le_of_ble_eq_true rfl)⟩ rfl hl.1 rfl (Nat.le_of_ble_eq_true rfl) dJ0_checkIndex_df160_5 ⟨(Nat.le_of_ble_eq_true rfl), (Nat.le_of_ble_eq_true rfl)⟩ (fun x1 σ2 H locs hw hP hD hS => ?_)
    refine lv_pop hx hb dJ0_checkIndex_df160_8 rfl ?_
    exact hret σ2 _ _ _ _ hw hP hD hS dJ0_checkIndex_df160_9
  · refine va_gets hx hb hz hS hown (hg _ q842) (fun _ h => h) dJ0_checkIndex_df160_2 ?_
    refine z_Si (n := 3) (As := [.int (Int32.ofInt a0), .int (Int32.ofInt a1), .ref tz]) (rest := []) hx hb hml hg hown hK hP hD hS hA (kJ3_checkIndex_8e157_R l D dA ad tz a0 a1 σ _ _ hw) q846 q170 q844 q845 (by decide +kernel) ⟨(Nat.le_of_ble_eq_true rfl), (Nat.le_of_ble_eq_true rfl)⟩ rfl hl.1 rfl (Nat.le_of_ble_eq_true rfl) dJ0_checkIndex_df160_5 ⟨(Nat.le_of_ble_eq_true rfl), (Nat.le_of_ble_eq_true rfl)⟩ (fun x1 σ2 H locs hw hP hD hS => ?_)
    refine lv_pop hx hb dJ0_checkIndex_df160_8 rfl ?_
    exact hret σ2 _ _ _ _ hw hP hD hS dJ0_checkIndex_df160_9
def wpJ0_coder_7d493_S0_14 (s0 : Int) (σ : ZS) (Q : Int → ZS → Prop) : Prop := (s0 = 0) ∧ Q s0 σ
def wpJ0_coder_7d493_S0 (σ : ZS) (Q : Int → ZS → Prop) : Prop := ((1 : Int) = 0 → wpJ0_coder_7d493_S0_14 1 σ Q) ∧ (¬ (1 : Int) = 0 → wpJ0_coder_7d493_S0_14 0 σ Q)
set_option maxHeartbeats 4000000 in
set_option maxRecDepth 100000 in
theorem kJ0_coder_7d493_S0 (l : Launch) (D : va_G) (dA : Nat → ClassId) (ad : Int → Nat → Nat) (tf tc : Nat) (aK aV : Nat → Nat) (σ : ZS) (Q : Int → ZS → Prop) (sz : Nat) (hw : wpJ0_coder_7d493_S0 σ Q) : Met l yJ0_coder_7d493 (gws yJ0_coder_7d493 cJ0_coder_7d493 1 (some .byte)) (gR 1 0 0) (gPreE D dA tf tc aK aV [.ref (aK 0)] (zC dA ad σ) sz) (va_Qi (zQi Q) (gAt D dA (va_A (zC dA ad σ) sz) (zC dA ad)) (va_A (zC dA ad σ) sz)) 0 0 (va_A (zC dA ad σ) sz) := by
  refine Met.ofW (cc := cJ0_coder_7d493) (maxL := 1) (ret := (some .byte)) (by decide) rfl ?_
  intro p e s m args below meth c s₁ B hml hv
  obtain ⟨rfl, hsz, hP, hK, hD0, hE⟩ := hv
  have hx := B.exec
  have hb := B.bytes
  have hr := B.returns
  have hts := atoms_spec (ws := gws yJ0_coder_7d493 cJ0_coder_7d493 1 (some .byte)) B.pre
  have hg : ∀ w ∈ gw, w.before _ s = true := fun w h => hts w (List.mem_cons_of_mem _ h)
  have hown : s.vm.findClass RJ0 = some m.cls := findClass_of_methodNamed B.named
  have hlocks := B.notSynchronized
  subst hsz
  have hD := hD0.self (sz := s.heap.size)
  generalize hAe : va_A (zC dA ad σ) s.heap.size = A at hD hE ⊢
  have hA : ∀ q : Nat, s.heap.size ≤ q → A q := fun q h => by rw [← hAe]; exact Or.inr h
  have hS : va_S A s.heap s.heap [] := va_S.rf
  have hl := lv_entry ([.ref (aK 0)]) (n := 1) (Nat.le_of_ble_eq_true rfl)
  rw [lg_entry_eq]
  generalize (lg_sl ([.ref (aK 0)]) ++ List.replicate (1 - (lg_sl ([.ref (aK 0)])).length) Slot.unset).toArray = ls at hl ⊢
  have hl : lv_has ls 1 [(0, .ref (aK 0))] := hl
  have hret : ∀ (v : Int) (σ : ZS) (H : Heap) (locs : List Loc) (ls : Array Slot) (pc : Nat), (v = 0) → Q v σ → va_P D vwC (zC dA ad σ) H → va_D A (zC dA ad σ) → va_S A s.heap H locs → decode cJ0_coder_7d493 pc = .ok (.ireturn, 1) → W p l e (gR 1 0 0) s m #[.ref (aK 0)] below meth c H locs 0 0 (MQ below (va_Qi (zQi Q) (gAt D dA A (zC dA ad)) A) #[.ref (aK 0)] s 0 0 A) (F0 m pc ls [.int (Int32.ofInt v)]) := fun v σ H locs ls pc hv hw hP hD hS hd => g_iret hx hb hr (z_n0 hv) hlocks hK σ hP hD hS ⟨v, rfl, hw⟩ (Nat.le_of_ble_eq_true rfl) (Nat.le_of_ble_eq_true rfl) hd
  generalize MQ below (va_Qi (zQi Q) (gAt D dA A (zC dA ad)) A) #[.ref (aK 0)] s 0 0 A = QQ at hret ⊢
  have j14 : ∀ (s0 : Int) (σ : ZS), ∀ (H : Heap) (locs : List Loc) (ls : Array Slot), va_P D vwC (zC dA ad σ) H → va_D A (zC dA ad σ) → va_S A s.heap H locs → lv_has ls 1 [] → wpJ0_coder_7d493_S0_14 s0 σ Q → W p l e (gR 1 0 0) s m #[.ref (aK 0)] below meth c H locs 0 0 QQ (F0 m 14 ls [.int (Int32.ofInt s0)]) := by
    intro s0 σ H locs ls hP hD hS hl hw
    unfold wpJ0_coder_7d493_S0_14 at hw
    obtain ⟨o1, hw⟩ := hw
    exact hret s0 σ _ _ _ _ o1 hw hP hD hS dJ0_coder_7d493_14
  unfold wpJ0_coder_7d493_S0 at hw
  refine va_gets hx hb hE.2.2.2.2.1 hS hown (hg _ q826) (fun _ h => h) dJ0_coder_7d493_0 ?_
  refine g_nrm (y := Int32.ofInt 1) rfl ?_
  refine z_if_eq (tgt := 13) hx hb (by decide) dJ0_coder_7d493_3 (by decide) (fun k2 => ?_) (fun k2 => ?_)
  · replace hw := hw.1 k2
    refine lv_iconst (v := Int32.ofInt 1) hx hb dJ0_coder_7d493_13 (by decide) ?_
    exact j14 1 σ _ _ _ hP hD hS (lv_sub hl [] rfl) hw
  · replace hw := hw.2 k2
    refine lv_aload_n hx hb dJ0_coder_7d493_6 rfl (lv_at hl 0 rfl) ?_
    refine vk_getf hx hb (hE.2.2.2.2.2.2.1.1 0 (by decide)).2.1 hS hown (hg _ q2259) (fun _ h => h) dJ0_coder_7d493_7 ?_
    refine g_nrm (y := Int32.ofInt 0) rfl ?_
    refine lv_goto (tgt := 14) hx hb dJ0_coder_7d493_10 (by decide) ?_
    exact j14 0 σ _ _ _ hP hD hS (lv_sub hl [] rfl) hw
def wpJ0_length_8abf5_S0 (σ : ZS) (Q : Int → ZS → Prop) : Prop := wpJ0_coder_7d493_S0 σ (fun (x1 : Int) (σ2 : ZS) => (x1 = 0) ∧ Q 8 σ2)
set_option maxHeartbeats 4000000 in
set_option maxRecDepth 100000 in
theorem kJ0_length_8abf5_S0 (l : Launch) (D : va_G) (dA : Nat → ClassId) (ad : Int → Nat → Nat) (tf tc : Nat) (aK aV : Nat → Nat) (σ : ZS) (Q : Int → ZS → Prop) (sz : Nat) (hw : wpJ0_length_8abf5_S0 σ Q) : Met l yJ0_length_8abf5 (gws yJ0_length_8abf5 cJ0_length_8abf5 1 (some .int)) (gR 2 0 0) (gPreE D dA tf tc aK aV [.ref (aK 0)] (zC dA ad σ) sz) (va_Qi (zQi Q) (gAt D dA (va_A (zC dA ad σ) sz) (zC dA ad)) (va_A (zC dA ad σ) sz)) 0 0 (va_A (zC dA ad σ) sz) := by
  refine Met.ofW (cc := cJ0_length_8abf5) (maxL := 1) (ret := (some .int)) (by decide) rfl ?_
  intro p e s m args below meth c s₁ B hml hv
  obtain ⟨rfl, hsz, hP, hK, hD0, hE⟩ := hv
  have hx := B.exec
  have hb := B.bytes
  have hr := B.returns
  have hts := atoms_spec (ws := gws yJ0_length_8abf5 cJ0_length_8abf5 1 (some .int)) B.pre
  have hg : ∀ w ∈ gw, w.before _ s = true := fun w h => hts w (List.mem_cons_of_mem _ h)
  have hown : s.vm.findClass RJ0 = some m.cls := findClass_of_methodNamed B.named
  have hlocks := B.notSynchronized
  subst hsz
  have hD := hD0.self (sz := s.heap.size)
  generalize hAe : va_A (zC dA ad σ) s.heap.size = A at hD hE ⊢
  have hA : ∀ q : Nat, s.heap.size ≤ q → A q := fun q h => by rw [← hAe]; exact Or.inr h
  have hS : va_S A s.heap s.heap [] := va_S.rf
  have hl := lv_entry ([.ref (aK 0)]) (n := 1) (Nat.le_of_ble_eq_true rfl)
  rw [lg_entry_eq]
  generalize (lg_sl ([.ref (aK 0)]) ++ List.replicate (1 - (lg_sl ([.ref (aK 0)])).length) Slot.unset).toArray = ls at hl ⊢
  have hl : lv_has ls 1 [(0, .ref (aK 0))] := hl
  have hret : ∀ (v : Int) (σ : ZS) (H : Heap) (locs : List Loc) (ls : Array Slot) (pc : Nat), Q v σ → va_P D vwC (zC dA ad σ) H → va_D A (zC dA ad σ) → va_S A s.heap H locs → decode cJ0_length_8abf5 pc = .ok (.ireturn, 1) → W p l e (gR 2 0 0) s m #[.ref (aK 0)] below meth c H locs 0 0 (MQ below (va_Qi (zQi Q) (gAt D dA A (zC dA ad)) A) #[.ref (aK 0)] s 0 0 A) (F0 m pc ls [.int (Int32.ofInt v)]) := fun v σ H locs ls pc hw hP hD hS hd => g_iret hx hb hr rfl hlocks hK σ hP hD hS ⟨v, rfl, hw⟩ (Nat.le_of_ble_eq_true rfl) (Nat.le_of_ble_eq_true rfl) hd
  generalize MQ below (va_Qi (zQi Q) (gAt D dA A (zC dA ad)) A) #[.ref (aK 0)] s 0 0 A = QQ at hret ⊢
  unfold wpJ0_length_8abf5_S0 at hw
  refine lv_aload_n hx hb dJ0_length_8abf5_0 rfl (lv_at hl 0 rfl) ?_
  refine vk_getf hx hb (hE.2.2.2.2.2.2.1.1 0 (by decide)).2.2.1 hS hown (hg _ q2258) (fun _ h => h) dJ0_length_8abf5_1 ?_
  refine va_tlen (v := Int32.ofInt 8) hx hb (hE.2.2.2.2.2.2.1.1 0 (by decide)).2.2.2 hS rfl dJ0_length_8abf5_4 ?_
  refine lv_aload_n hx hb dJ0_length_8abf5_5 rfl (lv_at hl 0 rfl) ?_
  refine z_EVi (n := 0) (As := []) (rest := [.int (Int32.ofInt 8)]) hx hb hml hg hown hE hK hP hD hS hA (kJ0_coder_7d493_S0 l D dA ad tf tc aK aV σ _ _ hw) (vk_recv hE.2.2.2.2.2.2.1 (i := 0) (by decide) hS) q825 q166 q822 q823 q824 (by decide +kernel) ⟨(Nat.le_of_ble_eq_true rfl), (Nat.le_of_ble_eq_true rfl)⟩ rfl hl.1 rfl (Nat.le_of_ble_eq_true rfl) dJ0_length_8abf5_6 ⟨(Nat.le_of_ble_eq_true rfl), (Nat.le_of_ble_eq_true rfl)⟩ (fun x1 σ2 H locs hw hP hD hS => ?_)
  obtain ⟨o3, hw⟩ := hw
  refine z_ishr0 hx hb o3 (by decide) dJ0_length_8abf5_9 ?_
  exact hret 8 σ2 _ _ _ _ hw hP hD hS dJ0_length_8abf5_10
def wpJ0_isLatin1_aae02_S0_18 (s0 : Int) (σ : ZS) (Q : Int → ZS → Prop) : Prop := (0 ≤ s0 ∧ s0 ≤ 1) ∧ Q s0 σ
def wpJ0_isLatin1_aae02_S0_17 (σ : ZS) (Q : Int → ZS → Prop) : Prop := wpJ0_isLatin1_aae02_S0_18 0 σ Q
def wpJ0_isLatin1_aae02_S0 (σ : ZS) (Q : Int → ZS → Prop) : Prop := ((1 : Int) = 0 → wpJ0_isLatin1_aae02_S0_17 σ Q) ∧ (¬ (1 : Int) = 0 → (¬ (0 : Int) = 0 → wpJ0_isLatin1_aae02_S0_17 σ Q) ∧ ((0 : Int) = 0 → wpJ0_isLatin1_aae02_S0_18 1 σ Q))
set_option maxHeartbeats 4000000 in
set_option maxRecDepth 100000 in
theorem kJ0_isLatin1_aae02_S0 (l : Launch) (D : va_G) (dA : Nat → ClassId) (ad : Int → Nat → Nat) (tf tc : Nat) (aK aV : Nat → Nat) (σ : ZS) (Q : Int → ZS → Prop) (sz : Nat) (hw : wpJ0_isLatin1_aae02_S0 σ Q) : Met l yJ0_isLatin1_aae02 (gws yJ0_isLatin1_aae02 cJ0_isLatin1_aae02 1 (some .boolean)) (gR 1 0 0) (gPreE D dA tf tc aK aV [.ref (aK 0)] (zC dA ad σ) sz) (va_Qi (zQi Q) (gAt D dA (va_A (zC dA ad σ) sz) (zC dA ad)) (va_A (zC dA ad σ) sz)) 0 0 (va_A (zC dA ad σ) sz) := by
  refine Met.ofW (cc := cJ0_isLatin1_aae02) (maxL := 1) (ret := (some .boolean)) (by decide) rfl ?_
  intro p e s m args below meth c s₁ B hml hv
  obtain ⟨rfl, hsz, hP, hK, hD0, hE⟩ := hv
  have hx := B.exec
  have hb := B.bytes
  have hr := B.returns
  have hts := atoms_spec (ws := gws yJ0_isLatin1_aae02 cJ0_isLatin1_aae02 1 (some .boolean)) B.pre
  have hg : ∀ w ∈ gw, w.before _ s = true := fun w h => hts w (List.mem_cons_of_mem _ h)
  have hown : s.vm.findClass RJ0 = some m.cls := findClass_of_methodNamed B.named
  have hlocks := B.notSynchronized
  subst hsz
  have hD := hD0.self (sz := s.heap.size)
  generalize hAe : va_A (zC dA ad σ) s.heap.size = A at hD hE ⊢
  have hA : ∀ q : Nat, s.heap.size ≤ q → A q := fun q h => by rw [← hAe]; exact Or.inr h
  have hS : va_S A s.heap s.heap [] := va_S.rf
  have hl := lv_entry ([.ref (aK 0)]) (n := 1) (Nat.le_of_ble_eq_true rfl)
  rw [lg_entry_eq]
  generalize (lg_sl ([.ref (aK 0)]) ++ List.replicate (1 - (lg_sl ([.ref (aK 0)])).length) Slot.unset).toArray = ls at hl ⊢
  have hl : lv_has ls 1 [(0, .ref (aK 0))] := hl
  have hret : ∀ (v : Int) (σ : ZS) (H : Heap) (locs : List Loc) (ls : Array Slot) (pc : Nat), (0 ≤ v ∧ v ≤ 1) → Q v σ → va_P D vwC (zC dA ad σ) H → va_D A (zC dA ad σ) → va_S A s.heap H locs → decode cJ0_isLatin1_aae02 pc = .ok (.ireturn, 1) → W p l e (gR 1 0 0) s m #[.ref (aK 0)] below meth c H locs 0 0 (MQ below (va_Qi (zQi Q) (gAt D dA A (zC dA ad)) A) #[.ref (aK 0)] s 0 0 A) (F0 m pc ls [.int (Int32.ofInt v)]) := fun v σ H locs ls pc hv hw hP hD hS hd => g_iret hx hb hr (z_nb hv) hlocks hK σ hP hD hS ⟨v, rfl, hw⟩ (Nat.le_of_ble_eq_true rfl) (Nat.le_of_ble_eq_true rfl) hd
  generalize MQ below (va_Qi (zQi Q) (gAt D dA A (zC dA ad)) A) #[.ref (aK 0)] s 0 0 A = QQ at hret ⊢
  have j18 : ∀ (s0 : Int) (σ : ZS), ∀ (H : Heap) (locs : List Loc) (ls : Array Slot), va_P D vwC (zC dA ad σ) H → va_D A (zC dA ad σ) → va_S A s.heap H locs → lv_has ls 1 [] → wpJ0_isLatin1_aae02_S0_18 s0 σ Q → W p l e (gR 1 0 0) s m #[.ref (aK 0)] below meth c H locs 0 0 QQ (F0 m 18 ls [.int (Int32.ofInt s0)]) := by
    intro s0 σ H locs ls hP hD hS hl hw
    unfold wpJ0_isLatin1_aae02_S0_18 at hw
    obtain ⟨o1, hw⟩ := hw
    exact hret s0 σ _ _ _ _ o1 hw hP hD hS dJ0_isLatin1_aae02_18
  have j17 : ∀ (σ : ZS), ∀ (H : Heap) (locs : List Loc) (ls : Array Slot), va_P D vwC (zC dA ad σ) H → va_D A (zC dA ad σ) → va_S A s.heap H locs → lv_has ls 1 [] → wpJ0_isLatin1_aae02_S0_17 σ Q → W p l e (gR 1 0 0) s m #[.ref (aK 0)] below meth c H locs 0 0 QQ (F0 m 17 ls []) := by
    intro σ H locs ls hP hD hS hl hw
    unfold wpJ0_isLatin1_aae02_S0_17 at hw
    refine lv_iconst (v := Int32.ofInt 0) hx hb dJ0_isLatin1_aae02_17 (by decide) ?_
    exact j18 0 σ _ _ _ hP hD hS (lv_sub hl [] rfl) hw
  unfold wpJ0_isLatin1_aae02_S0 at hw
  refine va_gets hx hb hE.2.2.2.2.1 hS hown (hg _ q826) (fun _ h => h) dJ0_isLatin1_aae02_0 ?_
  refine g_nrm (y := Int32.ofInt 1) rfl ?_
  refine z_if_eq (tgt := 17) hx hb (by decide) dJ0_isLatin1_aae02_3 (by decide) (fun k2 => ?_) (fun k2 => ?_)
  · replace hw := hw.1 k2
    exact j17 σ _ _ _ hP hD hS (lv_sub hl [] rfl) hw
  · replace hw := hw.2 k2
    refine lv_aload_n hx hb dJ0_isLatin1_aae02_6 rfl (lv_at hl 0 rfl) ?_
    refine vk_getf hx hb (hE.2.2.2.2.2.2.1.1 0 (by decide)).2.1 hS hown (hg _ q2259) (fun _ h => h) dJ0_isLatin1_aae02_7 ?_
    refine g_nrm (y := Int32.ofInt 0) rfl ?_
    refine z_if_ne (tgt := 17) hx hb (by decide) dJ0_isLatin1_aae02_10 (by decide) (fun k3 => ?_) (fun k3 => ?_)
    · replace hw := hw.1 k3
      exact j17 σ _ _ _ hP hD hS (lv_sub hl [] rfl) hw
    · replace hw := hw.2 k3
      refine lv_iconst (v := Int32.ofInt 1) hx hb dJ0_isLatin1_aae02_13 (by decide) ?_
      refine lv_goto (tgt := 18) hx hb dJ0_isLatin1_aae02_14 (by decide) ?_
      exact j18 1 σ _ _ _ hP hD hS (lv_sub hl [] rfl) hw
def wpbJ1_indexOfChar_4cfef_S0_7 (K7 : Int → ZS → Prop) (v3 v4 v5 : Int) (σ : ZS) (Q : Int → ZS → Prop) : Prop := (-2147483648 ≤ v5 ∧ v5 ≤ 2147483647) ∧ (-2147483648 ≤ v3 ∧ v3 ≤ 2147483647) ∧ (v3 ≤ v5 → Q (-1) σ) ∧ (¬ v3 ≤ v5 → (0 ≤ v5 ∧ v5 < 8) ∧ (-2147483648 ≤ (zby 0 v5) ∧ (zby 0 v5) ≤ 2147483647) ∧ (-2147483648 ≤ v4 ∧ v4 ≤ 2147483647) ∧ (¬ (zby 0 v5) = v4 → K7 (v5 + 1) σ) ∧ ((zby 0 v5) = v4 → Q v5 σ))
def wpJ1_indexOfChar_4cfef_S0_7 (v3 v4 v5 : Int) (σ : ZS) (Q : Int → ZS → Prop) : Prop := lfp1 (fun K7 v5 σ => wpbJ1_indexOfChar_4cfef_S0_7 K7 v3 v4 v5 σ Q) v5 σ
def wpJ1_indexOfChar_4cfef_S0 (a1 a2 a3 : Int) (σ : ZS) (Q : Int → ZS → Prop) : Prop := wpJ1_indexOfChar_4cfef_S0_7 a3 ((a1 + 128) % 256 - 128) a2 σ Q
set_option maxHeartbeats 4000000 in
set_option maxRecDepth 100000 in
theorem kJ1_indexOfChar_4cfef_S0 (l : Launch) (D : va_G) (dA : Nat → ClassId) (ad : Int → Nat → Nat) (tf tc : Nat) (aK aV : Nat → Nat) (a1 a2 a3 : Int) (σ : ZS) (Q : Int → ZS → Prop) (sz : Nat) (hw : wpJ1_indexOfChar_4cfef_S0 a1 a2 a3 σ Q) : Met l yJ1_indexOfChar_4cfef (gws yJ1_indexOfChar_4cfef cJ1_indexOfChar_4cfef 6 (some .int)) (gR 1 0 0) (gPreE D dA tf tc aK aV [.ref (aV 0), .int (Int32.ofInt a1), .int (Int32.ofInt a2), .int (Int32.ofInt a3)] (zC dA ad σ) sz) (va_Qi (zQi Q) (gAt D dA (va_A (zC dA ad σ) sz) (zC dA ad)) (va_A (zC dA ad σ) sz)) 0 0 (va_A (zC dA ad σ) sz) := by
  refine Met.ofW (cc := cJ1_indexOfChar_4cfef) (maxL := 6) (ret := (some .int)) (by decide) rfl ?_
  intro p e s m args below meth c s₁ B hml hv
  obtain ⟨rfl, hsz, hP, hK, hD0, hE⟩ := hv
  have hx := B.exec
  have hb := B.bytes
  have hr := B.returns
  have hts := atoms_spec (ws := gws yJ1_indexOfChar_4cfef cJ1_indexOfChar_4cfef 6 (some .int)) B.pre
  have hg : ∀ w ∈ gw, w.before _ s = true := fun w h => hts w (List.mem_cons_of_mem _ h)
  have hown : s.vm.findClass RJ1 = some m.cls := findClass_of_methodNamed B.named
  have hlocks := B.notSynchronized
  subst hsz
  have hD := hD0.self (sz := s.heap.size)
  generalize hAe : va_A (zC dA ad σ) s.heap.size = A at hD hE ⊢
  have hA : ∀ q : Nat, s.heap.size ≤ q → A q := fun q h => by rw [← hAe]; exact Or.inr h
  have hS : va_S A s.heap s.heap [] := va_S.rf
  have hl := lv_entry ([.ref (aV 0), .int (Int32.ofInt a1), .int (Int32.ofInt a2), .int (Int32.ofInt a3)]) (n := 6) (Nat.le_of_ble_eq_true rfl)
  rw [lg_entry_eq]
  generalize (lg_sl ([.ref (aV 0), .int (Int32.ofInt a1), .int (Int32.ofInt a2), .int (Int32.ofInt a3)]) ++ List.replicate (6 - (lg_sl ([.ref (aV 0), .int (Int32.ofInt a1), .int (Int32.ofInt a2), .int (Int32.ofInt a3)])).length) Slot.unset).toArray = ls at hl ⊢
  have hl : lv_has ls 6 [(0, .ref (aV 0)), (1, .int (Int32.ofInt a1)), (2, .int (Int32.ofInt a2)), (3, .int (Int32.ofInt a3))] := hl
  have hret : ∀ (v : Int) (σ : ZS) (H : Heap) (locs : List Loc) (ls : Array Slot) (pc : Nat), Q v σ → va_P D vwC (zC dA ad σ) H → va_D A (zC dA ad σ) → va_S A s.heap H locs → decode cJ1_indexOfChar_4cfef pc = .ok (.ireturn, 1) → W p l e (gR 1 0 0) s m #[.ref (aV 0), .int (Int32.ofInt a1), .int (Int32.ofInt a2), .int (Int32.ofInt a3)] below meth c H locs 0 0 (MQ below (va_Qi (zQi Q) (gAt D dA A (zC dA ad)) A) #[.ref (aV 0), .int (Int32.ofInt a1), .int (Int32.ofInt a2), .int (Int32.ofInt a3)] s 0 0 A) (F0 m pc ls [.int (Int32.ofInt v)]) := fun v σ H locs ls pc hw hP hD hS hd => g_iret hx hb hr rfl hlocks hK σ hP hD hS ⟨v, rfl, hw⟩ (Nat.le_of_ble_eq_true rfl) (Nat.le_of_ble_eq_true rfl) hd
  generalize MQ below (va_Qi (zQi Q) (gAt D dA A (zC dA ad)) A) #[.ref (aV 0), .int (Int32.ofInt a1), .int (Int32.ofInt a2), .int (Int32.ofInt a3)] s 0 0 A = QQ at hret ⊢
  have b7 : ∀ (v3 v4 : Int) (K7 : Int → ZS → Prop), (∀ (v5 : Int) (σ : ZS), K7 v5 σ → ∀ (H : Heap) (locs : List Loc) (ls : Array Slot), va_P D vwC (zC dA ad σ) H → va_D A (zC dA ad σ) → va_S A s.heap H locs → lv_has ls 6 [(0, .ref (aV 0)), (3, .int (Int32.ofInt v3)), (4, .int (Int32.ofInt v4)), (5, .int (Int32.ofInt v5))] → W p l e (gR 1 0 0) s m #[.ref (aV 0), .int (Int32.ofInt a1), .int (Int32.ofInt a2), .int (Int32.ofInt a3)] below meth c H locs 0 0 QQ (F0 m 7 ls [])) → ∀ (v5 : Int) (σ : ZS), wpbJ1_indexOfChar_4cfef_S0_7 K7 v3 v4 v5 σ Q → ∀ (H : Heap) (locs : List Loc) (ls : Array Slot), va_P D vwC (zC dA ad σ) H → va_D A (zC dA ad σ) → va_S A s.heap H locs → lv_has ls 6 [(0, .ref (aV 0)), (3, .int (Int32.ofInt v3)), (4, .int (Int32.ofInt v4)), (5, .int (Int32.ofInt v5))] → W p l e (gR 1 0 0) s m #[.ref (aV 0), .int (Int32.ofInt a1), .int (Int32.ofInt a2), .int (Int32.ofInt a3)] below meth c H locs 0 0 QQ (F0 m 7 ls []) := by
    intro v3 v4 K7 hK7
    intro v5 σ hw H locs ls hP hD hS hl
    unfold wpbJ1_indexOfChar_4cfef_S0_7 at hw
    refine lv_iload hx hb dJ1_indexOfChar_4cfef_7 (lv_at hl 3 rfl) ?_
    refine lv_iload_n hx hb dJ1_indexOfChar_4cfef_9 rfl (lv_at hl 1 rfl) ?_
    obtain ⟨o1, hw⟩ := hw
    obtain ⟨o2, hw⟩ := hw
    refine z_icmp_ge (tgt := 31) hx hb o1 o2 dJ1_indexOfChar_4cfef_10 (by decide) (fun k3 => ?_) (fun k3 => ?_)
    · replace hw := hw.1 k3
      refine lv_iconst (v := Int32.ofInt (-1)) hx hb dJ1_indexOfChar_4cfef_31 (by decide) ?_
      exact hret (-1) σ _ _ _ _ hw hP hD hS dJ1_indexOfChar_4cfef_32
    · replace hw := hw.2 k3
      refine lv_aload_n hx hb dJ1_indexOfChar_4cfef_13 rfl (lv_at hl 0 rfl) ?_
      refine lv_iload hx hb dJ1_indexOfChar_4cfef_14 (lv_at hl 3 rfl) ?_
      obtain ⟨o4, hw⟩ := hw
      refine va_tb hx hb (hE.2.2.2.2.2.2.1.1 0 (by decide)).2.2.2 hS (z_in (n := 8) o4 (by decide)) (z_tB (n := 8) o4 (by decide)) dJ1_indexOfChar_4cfef_16 ?_
      refine lv_iload hx hb dJ1_indexOfChar_4cfef_17 (lv_at hl 2 rfl) ?_
      obtain ⟨o5, hw⟩ := hw
      obtain ⟨o6, hw⟩ := hw
      refine z_icmp_ne (tgt := 25) hx hb o5 o6 dJ1_indexOfChar_4cfef_19 (by decide) (fun k7 => ?_) (fun k7 => ?_)
      · replace hw := hw.1 k7
        refine lv_iinc (v := Int32.ofInt (v5 + 1)) (lv' := [(5, .int (Int32.ofInt (v5 + 1))), (0, .ref (aV 0)), (3, .int (Int32.ofInt v3)), (4, .int (Int32.ofInt v4))]) hx hb dJ1_indexOfChar_4cfef_25 hl (k := 3) rfl (Int32.ofInt_add _ _).symm (by decide) rfl (fun ls hl => ?_)
        refine lv_goto (tgt := 7) hx hb dJ1_indexOfChar_4cfef_28 (by decide) ?_
        exact hK7 (v5 + 1) σ hw _ _ _ hP hD hS (lv_sub hl [1, 2, 3, 0] rfl)
      · replace hw := hw.2 k7
        refine lv_iload hx hb dJ1_indexOfChar_4cfef_22 (lv_at hl 3 rfl) ?_
        exact hret v5 σ _ _ _ _ hw hP hD hS dJ1_indexOfChar_4cfef_24
  have j7 : ∀ (v3 v4 v5 : Int) (σ : ZS), ∀ (H : Heap) (locs : List Loc) (ls : Array Slot), va_P D vwC (zC dA ad σ) H → va_D A (zC dA ad σ) → va_S A s.heap H locs → lv_has ls 6 [(0, .ref (aV 0)), (3, .int (Int32.ofInt v3)), (4, .int (Int32.ofInt v4)), (5, .int (Int32.ofInt v5))] → wpJ1_indexOfChar_4cfef_S0_7 v3 v4 v5 σ Q → W p l e (gR 1 0 0) s m #[.ref (aV 0), .int (Int32.ofInt a1), .int (Int32.ofInt a2), .int (Int32.ofInt a3)] below meth c H locs 0 0 QQ (F0 m 7 ls []) := by
    intro v3 v4 v5 σ H locs ls hP hD hS hl hw
    exact hw (fun v5 σ => ∀ (H : Heap) (locs : List Loc) (ls : Array Slot), va_P D vwC (zC dA ad σ) H → va_D A (zC dA ad σ) → va_S A s.heap H locs → lv_has ls 6 [(0, .ref (aV 0)), (3, .int (Int32.ofInt v3)), (4, .int (Int32.ofInt v4)), (5, .int (Int32.ofInt v5))] → W p l e (gR 1 0 0) s m #[.ref (aV 0), .int (Int32.ofInt a1), .int (Int32.ofInt a2), .int (Int32.ofInt a3)] below meth c H locs 0 0 QQ (F0 m 7 ls [])) (b7 v3 v4 (fun v5 σ => ∀ (H : Heap) (locs : List Loc) (ls : Array Slot), va_P D vwC (zC dA ad σ) H → va_D A (zC dA ad σ) → va_S A s.heap H locs → lv_has ls 6 [(0, .ref (aV 0)), (3, .int (Int32.ofInt v3)), (4, .int (Int32.ofInt v4)), (5, .int (Int32.ofInt v5))] → W p l e (gR 1 0 0) s m #[.ref (aV 0), .int (Int32.ofInt a1), .int (Int32.ofInt a2), .int (Int32.ofInt a3)] below meth c H locs 0 0 QQ (F0 m 7 ls [])) (fun v5 σ h => h)) _ _ _ hP hD hS hl
  unfold wpJ1_indexOfChar_4cfef_S0 at hw
  refine lv_iload_n hx hb dJ1_indexOfChar_4cfef_0 rfl (lv_at hl 1 rfl) ?_
  refine z_i2b hx hb dJ1_indexOfChar_4cfef_1 ?_
  refine lv_istore (lv' := [(4, .int (Int32.ofInt ((a1 + 128) % 256 - 128))), (0, .ref (aV 0)), (1, .int (Int32.ofInt a1)), (2, .int (Int32.ofInt a2)), (3, .int (Int32.ofInt a3))]) hx hb dJ1_indexOfChar_4cfef_2 hl (by decide) rfl (fun ls hl => ?_)
  refine lv_iload_n hx hb dJ1_indexOfChar_4cfef_4 rfl (lv_at hl 3 rfl) ?_
  refine lv_istore (lv' := [(5, .int (Int32.ofInt a2)), (4, .int (Int32.ofInt ((a1 + 128) % 256 - 128))), (0, .ref (aV 0)), (1, .int (Int32.ofInt a1)), (2, .int (Int32.ofInt a2)), (3, .int (Int32.ofInt a3))]) hx hb dJ1_indexOfChar_4cfef_5 hl (by decide) rfl (fun ls hl => ?_)
  exact j7 a3 ((a1 + 128) % 256 - 128) a2 σ _ _ _ hP hD hS (lv_sub hl [2, 5, 1, 0] rfl) hw
def wpJ1_indexOf_4cfef_S0 (a1 a2 a3 : Int) (σ : ZS) (Q : Int → ZS → Prop) : Prop := wpJ1_canEncode_9a6ad a1 σ (fun (x1 : Int) (σ2 : ZS) => (-2147483648 ≤ x1 ∧ x1 ≤ 2147483647) ∧ (¬ x1 = 0 → (-2147483648 ≤ a2 ∧ a2 ≤ 2147483647) ∧ (-2147483648 ≤ a3 ∧ a3 ≤ 2147483647) ∧ (-2147483648 ≤ (max a2 0) ∧ (max a2 0) ≤ 2147483647) ∧ (-2147483648 ≤ (min a3 8) ∧ (min a3 8) ≤ 2147483647) ∧ ((max a2 0) < (min a3 8) → wpJ1_indexOfChar_4cfef_S0 a1 (max a2 0) (min a3 8) σ2 (fun (x10 : Int) (σ11 : ZS) => Q x10 σ11)) ∧ (¬ (max a2 0) < (min a3 8) → Q (-1) σ2)) ∧ (x1 = 0 → Q (-1) σ2))
set_option maxHeartbeats 4000000 in
set_option maxRecDepth 100000 in
theorem kJ1_indexOf_4cfef_S0 (l : Launch) (D : va_G) (dA : Nat → ClassId) (ad : Int → Nat → Nat) (tf tc : Nat) (aK aV : Nat → Nat) (a1 a2 a3 : Int) (σ : ZS) (Q : Int → ZS → Prop) (sz : Nat) (hw : wpJ1_indexOf_4cfef_S0 a1 a2 a3 σ Q) : Met l yJ1_indexOf_4cfef (gws yJ1_indexOf_4cfef cJ1_indexOf_4cfef 4 (some .int)) (gR 2 0 0) (gPreE D dA tf tc aK aV [.ref (aV 0), .int (Int32.ofInt a1), .int (Int32.ofInt a2), .int (Int32.ofInt a3)] (zC dA ad σ) sz) (va_Qi (zQi Q) (gAt D dA (va_A (zC dA ad σ) sz) (zC dA ad)) (va_A (zC dA ad σ) sz)) 0 0 (va_A (zC dA ad σ) sz) := by
  refine Met.ofW (cc := cJ1_indexOf_4cfef) (maxL := 4) (ret := (some .int)) (by decide) rfl ?_
  intro p e s m args below meth c s₁ B hml hv
  obtain ⟨rfl, hsz, hP, hK, hD0, hE⟩ := hv
  have hx := B.exec
  have hb := B.bytes
  have hr := B.returns
  have hts := atoms_spec (ws := gws yJ1_indexOf_4cfef cJ1_indexOf_4cfef 4 (some .int)) B.pre
  have hg : ∀ w ∈ gw, w.before _ s = true := fun w h => hts w (List.mem_cons_of_mem _ h)
  have hown : s.vm.findClass RJ1 = some m.cls := findClass_of_methodNamed B.named
  have hlocks := B.notSynchronized
  subst hsz
  have hD := hD0.self (sz := s.heap.size)
  generalize hAe : va_A (zC dA ad σ) s.heap.size = A at hD hE ⊢
  have hA : ∀ q : Nat, s.heap.size ≤ q → A q := fun q h => by rw [← hAe]; exact Or.inr h
  have hS : va_S A s.heap s.heap [] := va_S.rf
  have hl := lv_entry ([.ref (aV 0), .int (Int32.ofInt a1), .int (Int32.ofInt a2), .int (Int32.ofInt a3)]) (n := 4) (Nat.le_of_ble_eq_true rfl)
  rw [lg_entry_eq]
  generalize (lg_sl ([.ref (aV 0), .int (Int32.ofInt a1), .int (Int32.ofInt a2), .int (Int32.ofInt a3)]) ++ List.replicate (4 - (lg_sl ([.ref (aV 0), .int (Int32.ofInt a1), .int (Int32.ofInt a2), .int (Int32.ofInt a3)])).length) Slot.unset).toArray = ls at hl ⊢
  have hl : lv_has ls 4 [(0, .ref (aV 0)), (1, .int (Int32.ofInt a1)), (2, .int (Int32.ofInt a2)), (3, .int (Int32.ofInt a3))] := hl
  have hret : ∀ (v : Int) (σ : ZS) (H : Heap) (locs : List Loc) (ls : Array Slot) (pc : Nat), Q v σ → va_P D vwC (zC dA ad σ) H → va_D A (zC dA ad σ) → va_S A s.heap H locs → decode cJ1_indexOf_4cfef pc = .ok (.ireturn, 1) → W p l e (gR 2 0 0) s m #[.ref (aV 0), .int (Int32.ofInt a1), .int (Int32.ofInt a2), .int (Int32.ofInt a3)] below meth c H locs 0 0 (MQ below (va_Qi (zQi Q) (gAt D dA A (zC dA ad)) A) #[.ref (aV 0), .int (Int32.ofInt a1), .int (Int32.ofInt a2), .int (Int32.ofInt a3)] s 0 0 A) (F0 m pc ls [.int (Int32.ofInt v)]) := fun v σ H locs ls pc hw hP hD hS hd => g_iret hx hb hr rfl hlocks hK σ hP hD hS ⟨v, rfl, hw⟩ (Nat.le_of_ble_eq_true rfl) (Nat.le_of_ble_eq_true rfl) hd
  generalize MQ below (va_Qi (zQi Q) (gAt D dA A (zC dA ad)) A) #[.ref (aV 0), .int (Int32.ofInt a1), .int (Int32.ofInt a2), .int (Int32.ofInt a3)] s 0 0 A = QQ at hret ⊢
  unfold wpJ1_indexOf_4cfef_S0 at hw
  refine lv_iload_n hx hb dJ1_indexOf_4cfef_0 rfl (lv_at hl 1 rfl) ?_
  refine z_Si (n := 1) (As := [.int (Int32.ofInt a1)]) (rest := []) hx hb hml hg hown hK hP hD hS hA (kJ1_canEncode_9a6ad l D dA ad a1 σ _ _ hw) q896 q169 q894 q895 (by decide +kernel) ⟨(Nat.le_of_ble_eq_true rfl), (Nat.le_of_ble_eq_true rfl)⟩ rfl hl.1 rfl (Nat.le_of_ble_eq_true rfl) dJ1_indexOf_4cfef_1 ⟨(Nat.le_of_ble_eq_true rfl), (Nat.le_of_ble_eq_true rfl)⟩ (fun x1 σ2 H locs hw hP hD hS => ?_)
  obtain ⟨o3, hw⟩ := hw
  refine z_if_ne (tgt := 9) hx hb o3 dJ1_indexOf_4cfef_4 (by decide) (fun k4 => ?_) (fun k4 => ?_)
  · replace hw := hw.1 k4
    refine lv_iload_n hx hb dJ1_indexOf_4cfef_9 rfl (lv_at hl 2 rfl) ?_
    refine lv_iconst (v := Int32.ofInt 0) hx hb dJ1_indexOf_4cfef_10 (by decide) ?_
    obtain ⟨o5, hw⟩ := hw
    refine z_mmax (rest := []) hx hb hml hl.1 hg hown o5 (by decide) q897 ⟨(Nat.le_of_ble_eq_true rfl), (Nat.le_of_ble_eq_true rfl)⟩ ⟨(Nat.le_of_ble_eq_true rfl), (Nat.le_of_ble_eq_true rfl)⟩ dJ1_indexOf_4cfef_11 ?_
    refine lv_istore_n (lv' := [(2, .int (Int32.ofInt (max a2 0))), (0, .ref (aV 0)), (1, .int (Int32.ofInt a1)), (3, .int (Int32.ofInt a3))]) hx hb dJ1_indexOf_4cfef_14 rfl hl (by decide) rfl (fun ls hl => ?_)
    refine lv_iload_n hx hb dJ1_indexOf_4cfef_15 rfl (lv_at hl 3 rfl) ?_
    refine lv_aload_n hx hb dJ1_indexOf_4cfef_16 rfl (lv_at hl 1 rfl) ?_
    refine va_tlen (v := Int32.ofInt 8) hx hb (hE.2.2.2.2.2.2.1.1 0 (by decide)).2.2.2 hS rfl dJ1_indexOf_4cfef_17 ?_
    obtain ⟨o6, hw⟩ := hw
    refine z_mmin (rest := []) hx hb hml hl.1 hg hown o6 (by decide) q900 ⟨(Nat.le_of_ble_eq_true rfl), (Nat.le_of_ble_eq_true rfl)⟩ ⟨(Nat.le_of_ble_eq_true rfl), (Nat.le_of_ble_eq_true rfl)⟩ dJ1_indexOf_4cfef_18 ?_
    refine lv_istore_n (lv' := [(3, .int (Int32.ofInt (min a3 8))), (2, .int (Int32.ofInt (max a2 0))), (0, .ref (aV 0)), (1, .int (Int32.ofInt a1))]) hx hb dJ1_indexOf_4cfef_21 rfl hl (by decide) rfl (fun ls hl => ?_)
    refine lv_iload_n hx hb dJ1_indexOf_4cfef_22 rfl (lv_at hl 1 rfl) ?_
    refine lv_iload_n hx hb dJ1_indexOf_4cfef_23 rfl (lv_at hl 0 rfl) ?_
    obtain ⟨o7, hw⟩ := hw
    obtain ⟨o8, hw⟩ := hw
    refine z_icmp_lt (tgt := 29) hx hb o7 o8 dJ1_indexOf_4cfef_24 (by decide) (fun k9 => ?_) (fun k9 => ?_)
    · replace hw := hw.1 k9
      refine lv_aload_n hx hb dJ1_indexOf_4cfef_29 rfl (lv_at hl 2 rfl) ?_
      refine lv_iload_n hx hb dJ1_indexOf_4cfef_30 rfl (lv_at hl 3 rfl) ?_
      refine lv_iload_n hx hb dJ1_indexOf_4cfef_31 rfl (lv_at hl 1 rfl) ?_
      refine lv_iload_n hx hb dJ1_indexOf_4cfef_32 rfl (lv_at hl 0 rfl) ?_
      refine z_ESi (n := 4) (As := [.ref (aV 0), .int (Int32.ofInt a1), .int (Int32.ofInt (max a2 0)), .int (Int32.ofInt (min a3 8))]) (rest := []) hx hb hml hg hown hE hK hP hD hS hA (kJ1_indexOfChar_4cfef_S0 l D dA ad tf tc aK aV a1 (max a2 0) (min a3 8) σ2 _ _ hw) q903 q169 q901 q902 (by decide +kernel) ⟨(Nat.le_of_ble_eq_true rfl), (Nat.le_of_ble_eq_true rfl)⟩ rfl hl.1 rfl (Nat.le_of_ble_eq_true rfl) dJ1_indexOf_4cfef_33 ⟨(Nat.le_of_ble_eq_true rfl), (Nat.le_of_ble_eq_true rfl)⟩ (fun x10 σ11 H locs hw hP hD hS => ?_)
      exact hret x10 σ11 _ _ _ _ hw hP hD hS dJ1_indexOf_4cfef_36
    · replace hw := hw.2 k9
      refine lv_iconst (v := Int32.ofInt (-1)) hx hb dJ1_indexOf_4cfef_27 (by decide) ?_
      exact hret (-1) σ2 _ _ _ _ hw hP hD hS dJ1_indexOf_4cfef_28
  · replace hw := hw.2 k4
    refine lv_iconst (v := Int32.ofInt (-1)) hx hb dJ1_indexOf_4cfef_7 (by decide) ?_
    exact hret (-1) σ2 _ _ _ _ hw hP hD hS dJ1_indexOf_4cfef_8
def wpJ0_indexOf_7cf53_S0_36 (s0 : Int) (σ : ZS) (Q : Int → ZS → Prop) : Prop := Q s0 σ
def wpJ0_indexOf_7cf53_S0 (a1 a2 : Int) (σ : ZS) (Q : Int → ZS → Prop) : Prop := wpJ0_isLatin1_aae02_S0 σ (fun (x1 : Int) (σ2 : ZS) => (-2147483648 ≤ x1 ∧ x1 ≤ 2147483647) ∧ (x1 = 0 → wpJ0_length_8abf5_S0 σ2 (fun (x5 : Int) (σ6 : ZS) => False)) ∧ (¬ x1 = 0 → wpJ0_length_8abf5_S0 σ2 (fun (x7 : Int) (σ8 : ZS) => wpJ1_indexOf_4cfef_S0 a1 a2 x7 σ8 (fun (x9 : Int) (σ10 : ZS) => wpJ0_indexOf_7cf53_S0_36 x9 σ10 Q))))
set_option maxHeartbeats 4000000 in
set_option maxRecDepth 100000 in
theorem kJ0_indexOf_7cf53_S0 (l : Launch) (D : va_G) (dA : Nat → ClassId) (ad : Int → Nat → Nat) (tf tc : Nat) (aK aV : Nat → Nat) (a1 a2 : Int) (σ : ZS) (Q : Int → ZS → Prop) (sz : Nat) (hw : wpJ0_indexOf_7cf53_S0 a1 a2 σ Q) : Met l yJ0_indexOf_7cf53 (gws yJ0_indexOf_7cf53 cJ0_indexOf_7cf53 3 (some .int)) (gR 3 0 0) (gPreE D dA tf tc aK aV [.ref (aK 0), .int (Int32.ofInt a1), .int (Int32.ofInt a2)] (zC dA ad σ) sz) (va_Qi (zQi Q) (gAt D dA (va_A (zC dA ad σ) sz) (zC dA ad)) (va_A (zC dA ad σ) sz)) 0 0 (va_A (zC dA ad σ) sz) := by
  refine Met.ofW (cc := cJ0_indexOf_7cf53) (maxL := 3) (ret := (some .int)) (by decide) rfl ?_
  intro p e s m args below meth c s₁ B hml hv
  obtain ⟨rfl, hsz, hP, hK, hD0, hE⟩ := hv
  have hx := B.exec
  have hb := B.bytes
  have hr := B.returns
  have hts := atoms_spec (ws := gws yJ0_indexOf_7cf53 cJ0_indexOf_7cf53 3 (some .int)) B.pre
  have hg : ∀ w ∈ gw, w.before _ s = true := fun w h => hts w (List.mem_cons_of_mem _ h)
  have hown : s.vm.findClass RJ0 = some m.cls := findClass_of_methodNamed B.named
  have hlocks := B.notSynchronized
  subst hsz
  have hD := hD0.self (sz := s.heap.size)
  generalize hAe : va_A (zC dA ad σ) s.heap.size = A at hD hE ⊢
  have hA : ∀ q : Nat, s.heap.size ≤ q → A q := fun q h => by rw [← hAe]; exact Or.inr h
  have hS : va_S A s.heap s.heap [] := va_S.rf
  have hl := lv_entry ([.ref (aK 0), .int (Int32.ofInt a1), .int (Int32.ofInt a2)]) (n := 3) (Nat.le_of_ble_eq_true rfl)
  rw [lg_entry_eq]
  generalize (lg_sl ([.ref (aK 0), .int (Int32.ofInt a1), .int (Int32.ofInt a2)]) ++ List.replicate (3 - (lg_sl ([.ref (aK 0), .int (Int32.ofInt a1), .int (Int32.ofInt a2)])).length) Slot.unset).toArray = ls at hl ⊢
  have hl : lv_has ls 3 [(0, .ref (aK 0)), (1, .int (Int32.ofInt a1)), (2, .int (Int32.ofInt a2))] := hl
  have hret : ∀ (v : Int) (σ : ZS) (H : Heap) (locs : List Loc) (ls : Array Slot) (pc : Nat), Q v σ → va_P D vwC (zC dA ad σ) H → va_D A (zC dA ad σ) → va_S A s.heap H locs → decode cJ0_indexOf_7cf53 pc = .ok (.ireturn, 1) → W p l e (gR 3 0 0) s m #[.ref (aK 0), .int (Int32.ofInt a1), .int (Int32.ofInt a2)] below meth c H locs 0 0 (MQ below (va_Qi (zQi Q) (gAt D dA A (zC dA ad)) A) #[.ref (aK 0), .int (Int32.ofInt a1), .int (Int32.ofInt a2)] s 0 0 A) (F0 m pc ls [.int (Int32.ofInt v)]) := fun v σ H locs ls pc hw hP hD hS hd => g_iret hx hb hr rfl hlocks hK σ hP hD hS ⟨v, rfl, hw⟩ (Nat.le_of_ble_eq_true rfl) (Nat.le_of_ble_eq_true rfl) hd
  generalize MQ below (va_Qi (zQi Q) (gAt D dA A (zC dA ad)) A) #[.ref (aK 0), .int (Int32.ofInt a1), .int (Int32.ofInt a2)] s 0 0 A = QQ at hret ⊢
  have j36 : ∀ (s0 : Int) (σ : ZS), ∀ (H : Heap) (locs : List Loc) (ls : Array Slot), va_P D vwC (zC dA ad σ) H → va_D A (zC dA ad σ) → va_S A s.heap H locs → lv_has ls 3 [] → wpJ0_indexOf_7cf53_S0_36 s0 σ Q → W p l e (gR 3 0 0) s m #[.ref (aK 0), .int (Int32.ofInt a1), .int (Int32.ofInt a2)] below meth c H locs 0 0 QQ (F0 m 36 ls [.int (Int32.ofInt s0)]) := by
    intro s0 σ H locs ls hP hD hS hl hw
    unfold wpJ0_indexOf_7cf53_S0_36 at hw
    exact hret s0 σ _ _ _ _ hw hP hD hS dJ0_indexOf_7cf53_36
  unfold wpJ0_indexOf_7cf53_S0 at hw
  refine lv_aload_n hx hb dJ0_indexOf_7cf53_0 rfl (lv_at hl 0 rfl) ?_
  refine z_EVi (n := 0) (As := []) (rest := []) hx hb hml hg hown hE hK hP hD hS hA (kJ0_isLatin1_aae02_S0 l D dA ad tf tc aK aV σ _ _ hw) (vk_recv hE.2.2.2.2.2.2.1 (i := 0) (by decide) hS) q835 q166 q832 q833 q834 (by decide +kernel) ⟨(Nat.le_of_ble_eq_true rfl), (Nat.le_of_ble_eq_true rfl)⟩ rfl hl.1 rfl (Nat.le_of_ble_eq_true rfl) dJ0_indexOf_7cf53_1 ⟨(Nat.le_of_ble_eq_true rfl), (Nat.le_of_ble_eq_true rfl)⟩ (fun x1 σ2 H locs hw hP hD hS => ?_)
  obtain ⟨o3, hw⟩ := hw
  refine z_if_eq (tgt := 23) hx hb o3 dJ0_indexOf_7cf53_4 (by decide) (fun k4 => ?_) (fun k4 => ?_)
  · replace hw := hw.1 k4
    refine lv_aload_n hx hb dJ0_indexOf_7cf53_23 rfl (lv_at hl 0 rfl) ?_
    refine vk_getf hx hb (hE.2.2.2.2.2.2.1.1 0 (by decide)).2.2.1 hS hown (hg _ q2258) (fun _ h => h) dJ0_indexOf_7cf53_24 ?_
    refine lv_iload_n hx hb dJ0_indexOf_7cf53_27 rfl (lv_at hl 1 rfl) ?_
    refine lv_iload_n hx hb dJ0_indexOf_7cf53_28 rfl (lv_at hl 2 rfl) ?_
    refine lv_aload_n hx hb dJ0_indexOf_7cf53_29 rfl (lv_at hl 0 rfl) ?_
    refine z_EVi (n := 0) (As := []) (rest := [.int (Int32.ofInt a2), .int (Int32.ofInt a1), .ref (aV 0)]) hx hb hml hg hown hE hK hP hD hS hA (kJ0_length_8abf5_S0 l D dA ad tf tc aK aV σ2 _ _ hw) (vk_recv hE.2.2.2.2.2.2.1 (i := 0) (by decide) hS) q821 q166 q890 q819 q820 (by decide +kernel) ⟨(Nat.le_of_ble_eq_true rfl), (Nat.le_of_ble_eq_true rfl)⟩ rfl hl.1 rfl (Nat.le_of_ble_eq_true rfl) dJ0_indexOf_7cf53_30 ⟨(Nat.le_of_ble_eq_true rfl), (Nat.le_of_ble_eq_true rfl)⟩ (fun x5 σ6 H locs hw hP hD hS => ?_)
    exact hw.elim
  · replace hw := hw.2 k4
    refine lv_aload_n hx hb dJ0_indexOf_7cf53_7 rfl (lv_at hl 0 rfl) ?_
    refine vk_getf hx hb (hE.2.2.2.2.2.2.1.1 0 (by decide)).2.2.1 hS hown (hg _ q2258) (fun _ h => h) dJ0_indexOf_7cf53_8 ?_
    refine lv_iload_n hx hb dJ0_indexOf_7cf53_11 rfl (lv_at hl 1 rfl) ?_
    refine lv_iload_n hx hb dJ0_indexOf_7cf53_12 rfl (lv_at hl 2 rfl) ?_
    refine lv_aload_n hx hb dJ0_indexOf_7cf53_13 rfl (lv_at hl 0 rfl) ?_
    refine z_EVi (n := 0) (As := []) (rest := [.int (Int32.ofInt a2), .int (Int32.ofInt a1), .ref (aV 0)]) hx hb hml hg hown hE hK hP hD hS hA (kJ0_length_8abf5_S0 l D dA ad tf tc aK aV σ2 _ _ hw) (vk_recv hE.2.2.2.2.2.2.1 (i := 0) (by decide) hS) q821 q166 q890 q819 q820 (by decide +kernel) ⟨(Nat.le_of_ble_eq_true rfl), (Nat.le_of_ble_eq_true rfl)⟩ rfl hl.1 rfl (Nat.le_of_ble_eq_true rfl) dJ0_indexOf_7cf53_14 ⟨(Nat.le_of_ble_eq_true rfl), (Nat.le_of_ble_eq_true rfl)⟩ (fun x7 σ8 H locs hw hP hD hS => ?_)
    refine z_ESi (n := 4) (As := [.ref (aV 0), .int (Int32.ofInt a1), .int (Int32.ofInt a2), .int (Int32.ofInt x7)]) (rest := []) hx hb hml hg hown hE hK hP hD hS hA (kJ1_indexOf_4cfef_S0 l D dA ad tf tc aK aV a1 a2 x7 σ8 _ _ hw) q893 q169 q891 q892 (by decide +kernel) ⟨(Nat.le_of_ble_eq_true rfl), (Nat.le_of_ble_eq_true rfl)⟩ rfl hl.1 rfl (Nat.le_of_ble_eq_true rfl) dJ0_indexOf_7cf53_17 ⟨(Nat.le_of_ble_eq_true rfl), (Nat.le_of_ble_eq_true rfl)⟩ (fun x9 σ10 H locs hw hP hD hS => ?_)
    refine lv_goto (tgt := 36) hx hb dJ0_indexOf_7cf53_20 (by decide) ?_
    exact j36 x9 σ10 _ _ _ hP hD hS (lv_sub hl [] rfl) hw
def wpJ0_indexOf_0f7a4_S0 (a1 : Int) (σ : ZS) (Q : Int → ZS → Prop) : Prop := wpJ0_indexOf_7cf53_S0 a1 0 σ (fun (x1 : Int) (σ2 : ZS) => Q x1 σ2)
set_option maxHeartbeats 4000000 in
set_option maxRecDepth 100000 in
theorem kJ0_indexOf_0f7a4_S0 (l : Launch) (D : va_G) (dA : Nat → ClassId) (ad : Int → Nat → Nat) (tf tc : Nat) (aK aV : Nat → Nat) (a1 : Int) (σ : ZS) (Q : Int → ZS → Prop) (sz : Nat) (hw : wpJ0_indexOf_0f7a4_S0 a1 σ Q) : Met l yJ0_indexOf_0f7a4 (gws yJ0_indexOf_0f7a4 cJ0_indexOf_0f7a4 2 (some .int)) (gR 4 0 0) (gPreE D dA tf tc aK aV [.ref (aK 0), .int (Int32.ofInt a1)] (zC dA ad σ) sz) (va_Qi (zQi Q) (gAt D dA (va_A (zC dA ad σ) sz) (zC dA ad)) (va_A (zC dA ad σ) sz)) 0 0 (va_A (zC dA ad σ) sz) := by
  refine Met.ofW (cc := cJ0_indexOf_0f7a4) (maxL := 2) (ret := (some .int)) (by decide) rfl ?_
  intro p e s m args below meth c s₁ B hml hv
  obtain ⟨rfl, hsz, hP, hK, hD0, hE⟩ := hv
  have hx := B.exec
  have hb := B.bytes
  have hr := B.returns
  have hts := atoms_spec (ws := gws yJ0_indexOf_0f7a4 cJ0_indexOf_0f7a4 2 (some .int)) B.pre
  have hg : ∀ w ∈ gw, w.before _ s = true := fun w h => hts w (List.mem_cons_of_mem _ h)
  have hown : s.vm.findClass RJ0 = some m.cls := findClass_of_methodNamed B.named
  have hlocks := B.notSynchronized
  subst hsz
  have hD := hD0.self (sz := s.heap.size)
  generalize hAe : va_A (zC dA ad σ) s.heap.size = A at hD hE ⊢
  have hA : ∀ q : Nat, s.heap.size ≤ q → A q := fun q h => by rw [← hAe]; exact Or.inr h
  have hS : va_S A s.heap s.heap [] := va_S.rf
  have hl := lv_entry ([.ref (aK 0), .int (Int32.ofInt a1)]) (n := 2) (Nat.le_of_ble_eq_true rfl)
  rw [lg_entry_eq]
  generalize (lg_sl ([.ref (aK 0), .int (Int32.ofInt a1)]) ++ List.replicate (2 - (lg_sl ([.ref (aK 0), .int (Int32.ofInt a1)])).length) Slot.unset).toArray = ls at hl ⊢
  have hl : lv_has ls 2 [(0, .ref (aK 0)), (1, .int (Int32.ofInt a1))] := hl
  have hret : ∀ (v : Int) (σ : ZS) (H : Heap) (locs : List Loc) (ls : Array Slot) (pc : Nat), Q v σ → va_P D vwC (zC dA ad σ) H → va_D A (zC dA ad σ) → va_S A s.heap H locs → decode cJ0_indexOf_0f7a4 pc = .ok (.ireturn, 1) → W p l e (gR 4 0 0) s m #[.ref (aK 0), .int (Int32.ofInt a1)] below meth c H locs 0 0 (MQ below (va_Qi (zQi Q) (gAt D dA A (zC dA ad)) A) #[.ref (aK 0), .int (Int32.ofInt a1)] s 0 0 A) (F0 m pc ls [.int (Int32.ofInt v)]) := fun v σ H locs ls pc hw hP hD hS hd => g_iret hx hb hr rfl hlocks hK σ hP hD hS ⟨v, rfl, hw⟩ (Nat.le_of_ble_eq_true rfl) (Nat.le_of_ble_eq_true rfl) hd
  generalize MQ below (va_Qi (zQi Q) (gAt D dA A (zC dA ad)) A) #[.ref (aK 0), .int (Int32.ofInt a1)] s 0 0 A = QQ at hret ⊢
  unfold wpJ0_indexOf_0f7a4_S0 at hw
  refine lv_aload_n hx hb dJ0_indexOf_0f7a4_0 rfl (lv_at hl 0 rfl) ?_
  refine lv_iload_n hx hb dJ0_indexOf_0f7a4_1 rfl (lv_at hl 1 rfl) ?_
  refine lv_iconst (v := Int32.ofInt 0) hx hb dJ0_indexOf_0f7a4_2 (by decide) ?_
  refine z_EVi (n := 2) (As := [.int (Int32.ofInt a1), .int (Int32.ofInt 0)]) (rest := []) hx hb hml hg hown hE hK hP hD hS hA (kJ0_indexOf_7cf53_S0 l D dA ad tf tc aK aV a1 0 σ _ _ hw) (vk_recv hE.2.2.2.2.2.2.1 (i := 0) (by decide) hS) q889 q166 q886 q887 q888 (by decide +kernel) ⟨(Nat.le_of_ble_eq_true rfl), (Nat.le_of_ble_eq_true rfl)⟩ rfl hl.1 rfl (Nat.le_of_ble_eq_true rfl) dJ0_indexOf_0f7a4_3 ⟨(Nat.le_of_ble_eq_true rfl), (Nat.le_of_ble_eq_true rfl)⟩ (fun x1 σ2 H locs hw hP hD hS => ?_)
  exact hret x1 σ2 _ _ _ _ hw hP hD hS dJ0_indexOf_0f7a4_6
def wpJ0_coder_7d493_S1_14 (s0 : Int) (σ : ZS) (Q : Int → ZS → Prop) : Prop := (s0 = 0) ∧ Q s0 σ
def wpJ0_coder_7d493_S1 (σ : ZS) (Q : Int → ZS → Prop) : Prop := ((1 : Int) = 0 → wpJ0_coder_7d493_S1_14 1 σ Q) ∧ (¬ (1 : Int) = 0 → wpJ0_coder_7d493_S1_14 0 σ Q)
set_option maxHeartbeats 4000000 in
set_option maxRecDepth 100000 in
theorem kJ0_coder_7d493_S1 (l : Launch) (D : va_G) (dA : Nat → ClassId) (ad : Int → Nat → Nat) (tf tc : Nat) (aK aV : Nat → Nat) (σ : ZS) (Q : Int → ZS → Prop) (sz : Nat) (hw : wpJ0_coder_7d493_S1 σ Q) : Met l yJ0_coder_7d493 (gws yJ0_coder_7d493 cJ0_coder_7d493 1 (some .byte)) (gR 1 0 0) (gPreE D dA tf tc aK aV [.ref (aK 1)] (zC dA ad σ) sz) (va_Qi (zQi Q) (gAt D dA (va_A (zC dA ad σ) sz) (zC dA ad)) (va_A (zC dA ad σ) sz)) 0 0 (va_A (zC dA ad σ) sz) := by
  refine Met.ofW (cc := cJ0_coder_7d493) (maxL := 1) (ret := (some .byte)) (by decide) rfl ?_
  intro p e s m args below meth c s₁ B hml hv
  obtain ⟨rfl, hsz, hP, hK, hD0, hE⟩ := hv
  have hx := B.exec
  have hb := B.bytes
  have hr := B.returns
  have hts := atoms_spec (ws := gws yJ0_coder_7d493 cJ0_coder_7d493 1 (some .byte)) B.pre
  have hg : ∀ w ∈ gw, w.before _ s = true := fun w h => hts w (List.mem_cons_of_mem _ h)
  have hown : s.vm.findClass RJ0 = some m.cls := findClass_of_methodNamed B.named
  have hlocks := B.notSynchronized
  subst hsz
  have hD := hD0.self (sz := s.heap.size)
  generalize hAe : va_A (zC dA ad σ) s.heap.size = A at hD hE ⊢
  have hA : ∀ q : Nat, s.heap.size ≤ q → A q := fun q h => by rw [← hAe]; exact Or.inr h
  have hS : va_S A s.heap s.heap [] := va_S.rf
  have hl := lv_entry ([.ref (aK 1)]) (n := 1) (Nat.le_of_ble_eq_true rfl)
  rw [lg_entry_eq]
  generalize (lg_sl ([.ref (aK 1)]) ++ List.replicate (1 - (lg_sl ([.ref (aK 1)])).length) Slot.unset).toArray = ls at hl ⊢
  have hl : lv_has ls 1 [(0, .ref (aK 1))] := hl
  have hret : ∀ (v : Int) (σ : ZS) (H : Heap) (locs : List Loc) (ls : Array Slot) (pc : Nat), (v = 0) → Q v σ → va_P D vwC (zC dA ad σ) H → va_D A (zC dA ad σ) → va_S A s.heap H locs → decode cJ0_coder_7d493 pc = .ok (.ireturn, 1) → W p l e (gR 1 0 0) s m #[.ref (aK 1)] below meth c H locs 0 0 (MQ below (va_Qi (zQi Q) (gAt D dA A (zC dA ad)) A) #[.ref (aK 1)] s 0 0 A) (F0 m pc ls [.int (Int32.ofInt v)]) := fun v σ H locs ls pc hv hw hP hD hS hd => g_iret hx hb hr (z_n0 hv) hlocks hK σ hP hD hS ⟨v, rfl, hw⟩ (Nat.le_of_ble_eq_true rfl) (Nat.le_of_ble_eq_true rfl) hd
  generalize MQ below (va_Qi (zQi Q) (gAt D dA A (zC dA ad)) A) #[.ref (aK 1)] s 0 0 A = QQ at hret ⊢
  have j14 : ∀ (s0 : Int) (σ : ZS), ∀ (H : Heap) (locs : List Loc) (ls : Array Slot), va_P D vwC (zC dA ad σ) H → va_D A (zC dA ad σ) → va_S A s.heap H locs → lv_has ls 1 [] → wpJ0_coder_7d493_S1_14 s0 σ Q → W p l e (gR 1 0 0) s m #[.ref (aK 1)] below meth c H locs 0 0 QQ (F0 m 14 ls [.int (Int32.ofInt s0)]) := by
    intro s0 σ H locs ls hP hD hS hl hw
    unfold wpJ0_coder_7d493_S1_14 at hw
    obtain ⟨o1, hw⟩ := hw
    exact hret s0 σ _ _ _ _ o1 hw hP hD hS dJ0_coder_7d493_14
  unfold wpJ0_coder_7d493_S1 at hw
  refine va_gets hx hb hE.2.2.2.2.1 hS hown (hg _ q826) (fun _ h => h) dJ0_coder_7d493_0 ?_
  refine g_nrm (y := Int32.ofInt 1) rfl ?_
  refine z_if_eq (tgt := 13) hx hb (by decide) dJ0_coder_7d493_3 (by decide) (fun k2 => ?_) (fun k2 => ?_)
  · replace hw := hw.1 k2
    refine lv_iconst (v := Int32.ofInt 1) hx hb dJ0_coder_7d493_13 (by decide) ?_
    exact j14 1 σ _ _ _ hP hD hS (lv_sub hl [] rfl) hw
  · replace hw := hw.2 k2
    refine lv_aload_n hx hb dJ0_coder_7d493_6 rfl (lv_at hl 0 rfl) ?_
    refine vk_getf hx hb (hE.2.2.2.2.2.2.1.1 1 (by decide)).2.1 hS hown (hg _ q2259) (fun _ h => h) dJ0_coder_7d493_7 ?_
    refine g_nrm (y := Int32.ofInt 0) rfl ?_
    refine lv_goto (tgt := 14) hx hb dJ0_coder_7d493_10 (by decide) ?_
    exact j14 0 σ _ _ _ hP hD hS (lv_sub hl [] rfl) hw
def wpJ0_length_8abf5_S1 (σ : ZS) (Q : Int → ZS → Prop) : Prop := wpJ0_coder_7d493_S1 σ (fun (x1 : Int) (σ2 : ZS) => (x1 = 0) ∧ Q 23 σ2)
set_option maxHeartbeats 4000000 in
set_option maxRecDepth 100000 in
theorem kJ0_length_8abf5_S1 (l : Launch) (D : va_G) (dA : Nat → ClassId) (ad : Int → Nat → Nat) (tf tc : Nat) (aK aV : Nat → Nat) (σ : ZS) (Q : Int → ZS → Prop) (sz : Nat) (hw : wpJ0_length_8abf5_S1 σ Q) : Met l yJ0_length_8abf5 (gws yJ0_length_8abf5 cJ0_length_8abf5 1 (some .int)) (gR 2 0 0) (gPreE D dA tf tc aK aV [.ref (aK 1)] (zC dA ad σ) sz) (va_Qi (zQi Q) (gAt D dA (va_A (zC dA ad σ) sz) (zC dA ad)) (va_A (zC dA ad σ) sz)) 0 0 (va_A (zC dA ad σ) sz) := by
  refine Met.ofW (cc := cJ0_length_8abf5) (maxL := 1) (ret := (some .int)) (by decide) rfl ?_
  intro p e s m args below meth c s₁ B hml hv
  obtain ⟨rfl, hsz, hP, hK, hD0, hE⟩ := hv
  have hx := B.exec
  have hb := B.bytes
  have hr := B.returns
  have hts := atoms_spec (ws := gws yJ0_length_8abf5 cJ0_length_8abf5 1 (some .int)) B.pre
  have hg : ∀ w ∈ gw, w.before _ s = true := fun w h => hts w (List.mem_cons_of_mem _ h)
  have hown : s.vm.findClass RJ0 = some m.cls := findClass_of_methodNamed B.named
  have hlocks := B.notSynchronized
  subst hsz
  have hD := hD0.self (sz := s.heap.size)
  generalize hAe : va_A (zC dA ad σ) s.heap.size = A at hD hE ⊢
  have hA : ∀ q : Nat, s.heap.size ≤ q → A q := fun q h => by rw [← hAe]; exact Or.inr h
  have hS : va_S A s.heap s.heap [] := va_S.rf
  have hl := lv_entry ([.ref (aK 1)]) (n := 1) (Nat.le_of_ble_eq_true rfl)
  rw [lg_entry_eq]
  generalize (lg_sl ([.ref (aK 1)]) ++ List.replicate (1 - (lg_sl ([.ref (aK 1)])).length) Slot.unset).toArray = ls at hl ⊢
  have hl : lv_has ls 1 [(0, .ref (aK 1))] := hl
  have hret : ∀ (v : Int) (σ : ZS) (H : Heap) (locs : List Loc) (ls : Array Slot) (pc : Nat), Q v σ → va_P D vwC (zC dA ad σ) H → va_D A (zC dA ad σ) → va_S A s.heap H locs → decode cJ0_length_8abf5 pc = .ok (.ireturn, 1) → W p l e (gR 2 0 0) s m #[.ref (aK 1)] below meth c H locs 0 0 (MQ below (va_Qi (zQi Q) (gAt D dA A (zC dA ad)) A) #[.ref (aK 1)] s 0 0 A) (F0 m pc ls [.int (Int32.ofInt v)]) := fun v σ H locs ls pc hw hP hD hS hd => g_iret hx hb hr rfl hlocks hK σ hP hD hS ⟨v, rfl, hw⟩ (Nat.le_of_ble_eq_true rfl) (Nat.le_of_ble_eq_true rfl) hd
  generalize MQ below (va_Qi (zQi Q) (gAt D dA A (zC dA ad)) A) #[.ref (aK 1)] s 0 0 A = QQ at hret ⊢
  unfold wpJ0_length_8abf5_S1 at hw
  refine lv_aload_n hx hb dJ0_length_8abf5_0 rfl (lv_at hl 0 rfl) ?_
  refine vk_getf hx hb (hE.2.2.2.2.2.2.1.1 1 (by decide)).2.2.1 hS hown (hg _ q2258) (fun _ h => h) dJ0_length_8abf5_1 ?_
  refine va_tlen (v := Int32.ofInt 23) hx hb (hE.2.2.2.2.2.2.1.1 1 (by decide)).2.2.2 hS rfl dJ0_length_8abf5_4 ?_
  refine lv_aload_n hx hb dJ0_length_8abf5_5 rfl (lv_at hl 0 rfl) ?_
  refine z_EVi (n := 0) (As := []) (rest := [.int (Int32.ofInt 23)]) hx hb hml hg hown hE hK hP hD hS hA (kJ0_coder_7d493_S1 l D dA ad tf tc aK aV σ _ _ hw) (vk_recv hE.2.2.2.2.2.2.1 (i := 1) (by decide) hS) q825 q166 q822 q823 q824 (by decide +kernel) ⟨(Nat.le_of_ble_eq_true rfl), (Nat.le_of_ble_eq_true rfl)⟩ rfl hl.1 rfl (Nat.le_of_ble_eq_true rfl) dJ0_length_8abf5_6 ⟨(Nat.le_of_ble_eq_true rfl), (Nat.le_of_ble_eq_true rfl)⟩ (fun x1 σ2 H locs hw hP hD hS => ?_)
  obtain ⟨o3, hw⟩ := hw
  refine z_ishr0 hx hb o3 (by decide) dJ0_length_8abf5_9 ?_
  exact hret 23 σ2 _ _ _ _ hw hP hD hS dJ0_length_8abf5_10
def wpJ0_isLatin1_aae02_S1_18 (s0 : Int) (σ : ZS) (Q : Int → ZS → Prop) : Prop := (0 ≤ s0 ∧ s0 ≤ 1) ∧ Q s0 σ
def wpJ0_isLatin1_aae02_S1_17 (σ : ZS) (Q : Int → ZS → Prop) : Prop := wpJ0_isLatin1_aae02_S1_18 0 σ Q
def wpJ0_isLatin1_aae02_S1 (σ : ZS) (Q : Int → ZS → Prop) : Prop := ((1 : Int) = 0 → wpJ0_isLatin1_aae02_S1_17 σ Q) ∧ (¬ (1 : Int) = 0 → (¬ (0 : Int) = 0 → wpJ0_isLatin1_aae02_S1_17 σ Q) ∧ ((0 : Int) = 0 → wpJ0_isLatin1_aae02_S1_18 1 σ Q))
set_option maxHeartbeats 4000000 in
set_option maxRecDepth 100000 in
theorem kJ0_isLatin1_aae02_S1 (l : Launch) (D : va_G) (dA : Nat → ClassId) (ad : Int → Nat → Nat) (tf tc : Nat) (aK aV : Nat → Nat) (σ : ZS) (Q : Int → ZS → Prop) (sz : Nat) (hw : wpJ0_isLatin1_aae02_S1 σ Q) : Met l yJ0_isLatin1_aae02 (gws yJ0_isLatin1_aae02 cJ0_isLatin1_aae02 1 (some .boolean)) (gR 1 0 0) (gPreE D dA tf tc aK aV [.ref (aK 1)] (zC dA ad σ) sz) (va_Qi (zQi Q) (gAt D dA (va_A (zC dA ad σ) sz) (zC dA ad)) (va_A (zC dA ad σ) sz)) 0 0 (va_A (zC dA ad σ) sz) := by
  refine Met.ofW (cc := cJ0_isLatin1_aae02) (maxL := 1) (ret := (some .boolean)) (by decide) rfl ?_
  intro p e s m args below meth c s₁ B hml hv
  obtain ⟨rfl, hsz, hP, hK, hD0, hE⟩ := hv
  have hx := B.exec
  have hb := B.bytes
  have hr := B.returns
  have hts := atoms_spec (ws := gws yJ0_isLatin1_aae02 cJ0_isLatin1_aae02 1 (some .boolean)) B.pre
  have hg : ∀ w ∈ gw, w.before _ s = true := fun w h => hts w (List.mem_cons_of_mem _ h)
  have hown : s.vm.findClass RJ0 = some m.cls := findClass_of_methodNamed B.named
  have hlocks := B.notSynchronized
  subst hsz
  have hD := hD0.self (sz := s.heap.size)
  generalize hAe : va_A (zC dA ad σ) s.heap.size = A at hD hE ⊢
  have hA : ∀ q : Nat, s.heap.size ≤ q → A q := fun q h => by rw [← hAe]; exact Or.inr h
  have hS : va_S A s.heap s.heap [] := va_S.rf
  have hl := lv_entry ([.ref (aK 1)]) (n := 1) (Nat.le_of_ble_eq_true rfl)
  rw [lg_entry_eq]
  generalize (lg_sl ([.ref (aK 1)]) ++ List.replicate (1 - (lg_sl ([.ref (aK 1)])).length) Slot.unset).toArray = ls at hl ⊢
  have hl : lv_has ls 1 [(0, .ref (aK 1))] := hl
  have hret : ∀ (v : Int) (σ : ZS) (H : Heap) (locs : List Loc) (ls : Array Slot) (pc : Nat), (0 ≤ v ∧ v ≤ 1) → Q v σ → va_P D vwC (zC dA ad σ) H → va_D A (zC dA ad σ) → va_S A s.heap H locs → decode cJ0_isLatin1_aae02 pc = .ok (.ireturn, 1) → W p l e (gR 1 0 0) s m #[.ref (aK 1)] below meth c H locs 0 0 (MQ below (va_Qi (zQi Q) (gAt D dA A (zC dA ad)) A) #[.ref (aK 1)] s 0 0 A) (F0 m pc ls [.int (Int32.ofInt v)]) := fun v σ H locs ls pc hv hw hP hD hS hd => g_iret hx hb hr (z_nb hv) hlocks hK σ hP hD hS ⟨v, rfl, hw⟩ (Nat.le_of_ble_eq_true rfl) (Nat.le_of_ble_eq_true rfl) hd
  generalize MQ below (va_Qi (zQi Q) (gAt D dA A (zC dA ad)) A) #[.ref (aK 1)] s 0 0 A = QQ at hret ⊢
  have j18 : ∀ (s0 : Int) (σ : ZS), ∀ (H : Heap) (locs : List Loc) (ls : Array Slot), va_P D vwC (zC dA ad σ) H → va_D A (zC dA ad σ) → va_S A s.heap H locs → lv_has ls 1 [] → wpJ0_isLatin1_aae02_S1_18 s0 σ Q → W p l e (gR 1 0 0) s m #[.ref (aK 1)] below meth c H locs 0 0 QQ (F0 m 18 ls [.int (Int32.ofInt s0)]) := by
    intro s0 σ H locs ls hP hD hS hl hw
    unfold wpJ0_isLatin1_aae02_S1_18 at hw
    obtain ⟨o1, hw⟩ := hw
    exact hret s0 σ _ _ _ _ o1 hw hP hD hS dJ0_isLatin1_aae02_18
  have j17 : ∀ (σ : ZS), ∀ (H : Heap) (locs : List Loc) (ls : Array Slot), va_P D vwC (zC dA ad σ) H → va_D A (zC dA ad σ) → va_S A s.heap H locs → lv_has ls 1 [] → wpJ0_isLatin1_aae02_S1_17 σ Q → W p l e (gR 1 0 0) s m #[.ref (aK 1)] below meth c H locs 0 0 QQ (F0 m 17 ls []) := by
    intro σ H locs ls hP hD hS hl hw
    unfold wpJ0_isLatin1_aae02_S1_17 at hw
    refine lv_iconst (v := Int32.ofInt 0) hx hb dJ0_isLatin1_aae02_17 (by decide) ?_
    exact j18 0 σ _ _ _ hP hD hS (lv_sub hl [] rfl) hw
  unfold wpJ0_isLatin1_aae02_S1 at hw
  refine va_gets hx hb hE.2.2.2.2.1 hS hown (hg _ q826) (fun _ h => h) dJ0_isLatin1_aae02_0 ?_
  refine g_nrm (y := Int32.ofInt 1) rfl ?_
  refine z_if_eq (tgt := 17) hx hb (by decide) dJ0_isLatin1_aae02_3 (by decide) (fun k2 => ?_) (fun k2 => ?_)
  · replace hw := hw.1 k2
    exact j17 σ _ _ _ hP hD hS (lv_sub hl [] rfl) hw
  · replace hw := hw.2 k2
    refine lv_aload_n hx hb dJ0_isLatin1_aae02_6 rfl (lv_at hl 0 rfl) ?_
    refine vk_getf hx hb (hE.2.2.2.2.2.2.1.1 1 (by decide)).2.1 hS hown (hg _ q2259) (fun _ h => h) dJ0_isLatin1_aae02_7 ?_
    refine g_nrm (y := Int32.ofInt 0) rfl ?_
    refine z_if_ne (tgt := 17) hx hb (by decide) dJ0_isLatin1_aae02_10 (by decide) (fun k3 => ?_) (fun k3 => ?_)
    · replace hw := hw.1 k3
      exact j17 σ _ _ _ hP hD hS (lv_sub hl [] rfl) hw
    · replace hw := hw.2 k3
      refine lv_iconst (v := Int32.ofInt 1) hx hb dJ0_isLatin1_aae02_13 (by decide) ?_
      refine lv_goto (tgt := 18) hx hb dJ0_isLatin1_aae02_14 (by decide) ?_
      exact j18 1 σ _ _ _ hP hD hS (lv_sub hl [] rfl) hw
def wpJ1_charAt_3b067_S1 (a1 : Int) (σ : ZS) (Q : Int → ZS → Prop) : Prop := wpJ0_checkIndex_df160 a1 23 σ (fun (σ2 : ZS) => (0 ≤ a1 ∧ a1 < 23) ∧ Q (((zby 1 a1) % 256) % 65536) σ2)
set_option maxHeartbeats 4000000 in
set_option maxRecDepth 100000 in
theorem kJ1_charAt_3b067_S1 (l : Launch) (D : va_G) (dA : Nat → ClassId) (ad : Int → Nat → Nat) (tf tc : Nat) (aK aV : Nat → Nat) (a1 : Int) (σ : ZS) (Q : Int → ZS → Prop) (sz : Nat) (hw : wpJ1_charAt_3b067_S1 a1 σ Q) : Met l yJ1_charAt_3b067 (gws yJ1_charAt_3b067 cJ1_charAt_3b067 2 (some .char)) (gR 3 0 0) (gPreE D dA tf tc aK aV [.ref (aV 1), .int (Int32.ofInt a1)] (zC dA ad σ) sz) (va_Qi (zQi Q) (gAt D dA (va_A (zC dA ad σ) sz) (zC dA ad)) (va_A (zC dA ad σ) sz)) 0 0 (va_A (zC dA ad σ) sz) := by
  refine Met.ofW (cc := cJ1_charAt_3b067) (maxL := 2) (ret := (some .char)) (by decide) rfl ?_
  intro p e s m args below meth c s₁ B hml hv
  obtain ⟨rfl, hsz, hP, hK, hD0, hE⟩ := hv
  have hx := B.exec
  have hb := B.bytes
  have hr := B.returns
  have hts := atoms_spec (ws := gws yJ1_charAt_3b067 cJ1_charAt_3b067 2 (some .char)) B.pre
  have hg : ∀ w ∈ gw, w.before _ s = true := fun w h => hts w (List.mem_cons_of_mem _ h)
  have hown : s.vm.findClass RJ1 = some m.cls := findClass_of_methodNamed B.named
  have hlocks := B.notSynchronized
  subst hsz
  have hD := hD0.self (sz := s.heap.size)
  generalize hAe : va_A (zC dA ad σ) s.heap.size = A at hD hE ⊢
  have hA : ∀ q : Nat, s.heap.size ≤ q → A q := fun q h => by rw [← hAe]; exact Or.inr h
  have hS : va_S A s.heap s.heap [] := va_S.rf
  have hl := lv_entry ([.ref (aV 1), .int (Int32.ofInt a1)]) (n := 2) (Nat.le_of_ble_eq_true rfl)
  rw [lg_entry_eq]
  generalize (lg_sl ([.ref (aV 1), .int (Int32.ofInt a1)]) ++ List.replicate (2 - (lg_sl ([.ref (aV 1), .int (Int32.ofInt a1)])).length) Slot.unset).toArray = ls at hl ⊢
  have hl : lv_has ls 2 [(0, .ref (aV 1)), (1, .int (Int32.ofInt a1))] := hl
  have hret : ∀ (v : Int) (σ : ZS) (H : Heap) (locs : List Loc) (ls : Array Slot) (pc : Nat), (0 ≤ v ∧ v ≤ 65535) → Q v σ → va_P D vwC (zC dA ad σ) H → va_D A (zC dA ad σ) → va_S A s.heap H locs → decode cJ1_charAt_3b067 pc = .ok (.ireturn, 1) → W p l e (gR 3 0 0) s m #[.ref (aV 1), .int (Int32.ofInt a1)] below meth c H locs 0 0 (MQ below (va_Qi (zQi Q) (gAt D dA A (zC dA ad)) A) #[.ref (aV 1), .int (Int32.ofInt a1)] s 0 0 A) (F0 m pc ls [.int (Int32.ofInt v)]) := fun v σ H locs ls pc hv hw hP hD hS hd => g_iret hx hb hr (z_nc hv) hlocks hK σ hP hD hS ⟨v, rfl, hw⟩ (Nat.le_of_ble_eq_true rfl) (Nat.le_of_ble_eq_true rfl) hd
  generalize MQ below (va_Qi (zQi Q) (gAt D dA A (zC dA ad)) A) #[.ref (aV 1), .int (Int32.ofInt a1)] s 0 0 A = QQ at hret ⊢
  unfold wpJ1_charAt_3b067_S1 at hw
  refine lv_iload_n hx hb dJ1_charAt_3b067_0 rfl (lv_at hl 1 rfl) ?_
  refine lv_aload_n hx hb dJ1_charAt_3b067_1 rfl (lv_at hl 0 rfl) ?_
  refine va_tlen (v := Int32.ofInt 23) hx hb (hE.2.2.2.2.2.2.1.1 1 (by decide)).2.2.2 hS rfl dJ1_charAt_3b067_2 ?_
  refine z_ESv (n := 2) (As := [.int (Int32.ofInt a1), .int (Int32.ofInt 23)]) (rest := []) hx hb hml hg hown hE hK hP hD hS hA (kJ0_checkIndex_df160 l D dA ad tf tc aK aV a1 23 σ _ _ hw) q841 q166 q839 q840 (by decide +kernel) ⟨(Nat.le_of_ble_eq_true rfl), (Nat.le_of_ble_eq_true rfl)⟩ rfl hl.1 rfl (Nat.le_of_ble_eq_true rfl) dJ1_charAt_3b067_3 ⟨(Nat.le_of_ble_eq_true rfl), (Nat.le_of_ble_eq_true rfl)⟩ (fun σ2 H locs hw hP hD hS => ?_)
  refine lv_aload_n hx hb dJ1_charAt_3b067_6 rfl (lv_at hl 0 rfl) ?_
  refine lv_iload_n hx hb dJ1_charAt_3b067_7 rfl (lv_at hl 1 rfl) ?_
  obtain ⟨o3, hw⟩ := hw
  refine va_tb hx hb (hE.2.2.2.2.2.2.1.1 1 (by decide)).2.2.2 hS (z_in (n := 23) o3 (by decide)) (z_tB (n := 23) o3 (by decide)) dJ1_charAt_3b067_8 ?_
  refine lv_sipush (v := Int32.ofInt 255) hx hb dJ1_charAt_3b067_9 (by decide) ?_
  refine z_iandK (M := 256) hx hb 8 (by decide) (by decide) (by decide) dJ1_charAt_3b067_12 ?_
  refine z_i2c hx hb dJ1_charAt_3b067_13 ?_
  exact hret (((zby 1 a1) % 256) % 65536) σ2 _ _ _ _ (by clear hw; omega) hw hP hD hS dJ1_charAt_3b067_14
def wpJ0_charAt_5068e_S1 (a1 : Int) (σ : ZS) (Q : Int → ZS → Prop) : Prop := wpJ0_isLatin1_aae02_S1 σ (fun (x1 : Int) (σ2 : ZS) => (-2147483648 ≤ x1 ∧ x1 ≤ 2147483647) ∧ (x1 = 0 → False) ∧ (¬ x1 = 0 → wpJ1_charAt_3b067_S1 a1 σ2 (fun (x5 : Int) (σ6 : ZS) => (0 ≤ x5 ∧ x5 ≤ 65535) ∧ Q x5 σ6)))
set_option maxHeartbeats 4000000 in
set_option maxRecDepth 100000 in
theorem kJ0_charAt_5068e_S1 (l : Launch) (D : va_G) (dA : Nat → ClassId) (ad : Int → Nat → Nat) (tf tc : Nat) (aK aV : Nat → Nat) (a1 : Int) (σ : ZS) (Q : Int → ZS → Prop) (sz : Nat) (hw : wpJ0_charAt_5068e_S1 a1 σ Q) : Met l yJ0_charAt_5068e (gws yJ0_charAt_5068e cJ0_charAt_5068e 2 (some .char)) (gR 4 0 0) (gPreE D dA tf tc aK aV [.ref (aK 1), .int (Int32.ofInt a1)] (zC dA ad σ) sz) (va_Qi (zQi Q) (gAt D dA (va_A (zC dA ad σ) sz) (zC dA ad)) (va_A (zC dA ad σ) sz)) 0 0 (va_A (zC dA ad σ) sz) := by
  refine Met.ofW (cc := cJ0_charAt_5068e) (maxL := 2) (ret := (some .char)) (by decide) rfl ?_
  intro p e s m args below meth c s₁ B hml hv
  obtain ⟨rfl, hsz, hP, hK, hD0, hE⟩ := hv
  have hx := B.exec
  have hb := B.bytes
  have hr := B.returns
  have hts := atoms_spec (ws := gws yJ0_charAt_5068e cJ0_charAt_5068e 2 (some .char)) B.pre
  have hg : ∀ w ∈ gw, w.before _ s = true := fun w h => hts w (List.mem_cons_of_mem _ h)
  have hown : s.vm.findClass RJ0 = some m.cls := findClass_of_methodNamed B.named
  have hlocks := B.notSynchronized
  subst hsz
  have hD := hD0.self (sz := s.heap.size)
  generalize hAe : va_A (zC dA ad σ) s.heap.size = A at hD hE ⊢
  have hA : ∀ q : Nat, s.heap.size ≤ q → A q := fun q h => by rw [← hAe]; exact Or.inr h
  have hS : va_S A s.heap s.heap [] := va_S.rf
  have hl := lv_entry ([.ref (aK 1), .int (Int32.ofInt a1)]) (n := 2) (Nat.le_of_ble_eq_true rfl)
  rw [lg_entry_eq]
  generalize (lg_sl ([.ref (aK 1), .int (Int32.ofInt a1)]) ++ List.replicate (2 - (lg_sl ([.ref (aK 1), .int (Int32.ofInt a1)])).length) Slot.unset).toArray = ls at hl ⊢
  have hl : lv_has ls 2 [(0, .ref (aK 1)), (1, .int (Int32.ofInt a1))] := hl
  have hret : ∀ (v : Int) (σ : ZS) (H : Heap) (locs : List Loc) (ls : Array Slot) (pc : Nat), (0 ≤ v ∧ v ≤ 65535) → Q v σ → va_P D vwC (zC dA ad σ) H → va_D A (zC dA ad σ) → va_S A s.heap H locs → decode cJ0_charAt_5068e pc = .ok (.ireturn, 1) → W p l e (gR 4 0 0) s m #[.ref (aK 1), .int (Int32.ofInt a1)] below meth c H locs 0 0 (MQ below (va_Qi (zQi Q) (gAt D dA A (zC dA ad)) A) #[.ref (aK 1), .int (Int32.ofInt a1)] s 0 0 A) (F0 m pc ls [.int (Int32.ofInt v)]) := fun v σ H locs ls pc hv hw hP hD hS hd => g_iret hx hb hr (z_nc hv) hlocks hK σ hP hD hS ⟨v, rfl, hw⟩ (Nat.le_of_ble_eq_true rfl) (Nat.le_of_ble_eq_true rfl) hd
  generalize MQ below (va_Qi (zQi Q) (gAt D dA A (zC dA ad)) A) #[.ref (aK 1), .int (Int32.ofInt a1)] s 0 0 A = QQ at hret ⊢
  unfold wpJ0_charAt_5068e_S1 at hw
  refine lv_aload_n hx hb dJ0_charAt_5068e_0 rfl (lv_at hl 0 rfl) ?_
  refine z_EVi (n := 0) (As := []) (rest := []) hx hb hml hg hown hE hK hP hD hS hA (kJ0_isLatin1_aae02_S1 l D dA ad tf tc aK aV σ _ _ hw) (vk_recv hE.2.2.2.2.2.2.1 (i := 1) (by decide) hS) q835 q166 q832 q833 q834 (by decide +kernel) ⟨(Nat.le_of_ble_eq_true rfl), (Nat.le_of_ble_eq_true rfl)⟩ rfl hl.1 rfl (Nat.le_of_ble_eq_true rfl) dJ0_charAt_5068e_1 ⟨(Nat.le_of_ble_eq_true rfl), (Nat.le_of_ble_eq_true rfl)⟩ (fun x1 σ2 H locs hw hP hD hS => ?_)
  obtain ⟨o3, hw⟩ := hw
  refine z_if_eq (tgt := 16) hx hb o3 dJ0_charAt_5068e_4 (by decide) (fun k4 => ?_) (fun k4 => ?_)
  · replace hw := hw.1 k4
    refine lv_aload_n hx hb dJ0_charAt_5068e_16 rfl (lv_at hl 0 rfl) ?_
    refine vk_getf hx hb (hE.2.2.2.2.2.2.1.1 1 (by decide)).2.2.1 hS hown (hg _ q2258) (fun _ h => h) dJ0_charAt_5068e_17 ?_
    refine lv_iload_n hx hb dJ0_charAt_5068e_20 rfl (lv_at hl 1 rfl) ?_
    exact hw.elim
  · replace hw := hw.2 k4
    refine lv_aload_n hx hb dJ0_charAt_5068e_7 rfl (lv_at hl 0 rfl) ?_
    refine vk_getf hx hb (hE.2.2.2.2.2.2.1.1 1 (by decide)).2.2.1 hS hown (hg _ q2258) (fun _ h => h) dJ0_charAt_5068e_8 ?_
    refine lv_iload_n hx hb dJ0_charAt_5068e_11 rfl (lv_at hl 1 rfl) ?_
    refine z_ESi (n := 2) (As := [.ref (aV 1), .int (Int32.ofInt a1)]) (rest := []) hx hb hml hg hown hE hK hP hD hS hA (kJ1_charAt_3b067_S1 l D dA ad tf tc aK aV a1 σ2 _ _ hw) q838 q169 q836 q837 (by decide +kernel) ⟨(Nat.le_of_ble_eq_true rfl), (Nat.le_of_ble_eq_true rfl)⟩ rfl hl.1 rfl (Nat.le_of_ble_eq_true rfl) dJ0_charAt_5068e_12 ⟨(Nat.le_of_ble_eq_true rfl), (Nat.le_of_ble_eq_true rfl)⟩ (fun x5 σ6 H locs hw hP hD hS => ?_)
    obtain ⟨o7, hw⟩ := hw
    exact hret x5 σ6 _ _ _ _ o7 hw hP hD hS dJ0_charAt_5068e_15
def wpJ0_coder_7d493_S2_14 (s0 : Int) (σ : ZS) (Q : Int → ZS → Prop) : Prop := (s0 = 0) ∧ Q s0 σ
def wpJ0_coder_7d493_S2 (σ : ZS) (Q : Int → ZS → Prop) : Prop := ((1 : Int) = 0 → wpJ0_coder_7d493_S2_14 1 σ Q) ∧ (¬ (1 : Int) = 0 → wpJ0_coder_7d493_S2_14 0 σ Q)
set_option maxHeartbeats 4000000 in
set_option maxRecDepth 100000 in
theorem kJ0_coder_7d493_S2 (l : Launch) (D : va_G) (dA : Nat → ClassId) (ad : Int → Nat → Nat) (tf tc : Nat) (aK aV : Nat → Nat) (σ : ZS) (Q : Int → ZS → Prop) (sz : Nat) (hw : wpJ0_coder_7d493_S2 σ Q) : Met l yJ0_coder_7d493 (gws yJ0_coder_7d493 cJ0_coder_7d493 1 (some .byte)) (gR 1 0 0) (gPreE D dA tf tc aK aV [.ref (aK 2)] (zC dA ad σ) sz) (va_Qi (zQi Q) (gAt D dA (va_A (zC dA ad σ) sz) (zC dA ad)) (va_A (zC dA ad σ) sz)) 0 0 (va_A (zC dA ad σ) sz) := by
  refine Met.ofW (cc := cJ0_coder_7d493) (maxL := 1) (ret := (some .byte)) (by decide) rfl ?_
  intro p e s m args below meth c s₁ B hml hv
  obtain ⟨rfl, hsz, hP, hK, hD0, hE⟩ := hv
  have hx := B.exec
  have hb := B.bytes
  have hr := B.returns
  have hts := atoms_spec (ws := gws yJ0_coder_7d493 cJ0_coder_7d493 1 (some .byte)) B.pre
  have hg : ∀ w ∈ gw, w.before _ s = true := fun w h => hts w (List.mem_cons_of_mem _ h)
  have hown : s.vm.findClass RJ0 = some m.cls := findClass_of_methodNamed B.named
  have hlocks := B.notSynchronized
  subst hsz
  have hD := hD0.self (sz := s.heap.size)
  generalize hAe : va_A (zC dA ad σ) s.heap.size = A at hD hE ⊢
  have hA : ∀ q : Nat, s.heap.size ≤ q → A q := fun q h => by rw [← hAe]; exact Or.inr h
  have hS : va_S A s.heap s.heap [] := va_S.rf
  have hl := lv_entry ([.ref (aK 2)]) (n := 1) (Nat.le_of_ble_eq_true rfl)
  rw [lg_entry_eq]
  generalize (lg_sl ([.ref (aK 2)]) ++ List.replicate (1 - (lg_sl ([.ref (aK 2)])).length) Slot.unset).toArray = ls at hl ⊢
  have hl : lv_has ls 1 [(0, .ref (aK 2))] := hl
  have hret : ∀ (v : Int) (σ : ZS) (H : Heap) (locs : List Loc) (ls : Array Slot) (pc : Nat), (v = 0) → Q v σ → va_P D vwC (zC dA ad σ) H → va_D A (zC dA ad σ) → va_S A s.heap H locs → decode cJ0_coder_7d493 pc = .ok (.ireturn, 1) → W p l e (gR 1 0 0) s m #[.ref (aK 2)] below meth c H locs 0 0 (MQ below (va_Qi (zQi Q) (gAt D dA A (zC dA ad)) A) #[.ref (aK 2)] s 0 0 A) (F0 m pc ls [.int (Int32.ofInt v)]) := fun v σ H locs ls pc hv hw hP hD hS hd => g_iret hx hb hr (z_n0 hv) hlocks hK σ hP hD hS ⟨v, rfl, hw⟩ (Nat.le_of_ble_eq_true rfl) (Nat.le_of_ble_eq_true rfl) hd
  generalize MQ below (va_Qi (zQi Q) (gAt D dA A (zC dA ad)) A) #[.ref (aK 2)] s 0 0 A = QQ at hret ⊢
  have j14 : ∀ (s0 : Int) (σ : ZS), ∀ (H : Heap) (locs : List Loc) (ls : Array Slot), va_P D vwC (zC dA ad σ) H → va_D A (zC dA ad σ) → va_S A s.heap H locs → lv_has ls 1 [] → wpJ0_coder_7d493_S2_14 s0 σ Q → W p l e (gR 1 0 0) s m #[.ref (aK 2)] below meth c H locs 0 0 QQ (F0 m 14 ls [.int (Int32.ofInt s0)]) := by
    intro s0 σ H locs ls hP hD hS hl hw
    unfold wpJ0_coder_7d493_S2_14 at hw
    obtain ⟨o1, hw⟩ := hw
    exact hret s0 σ _ _ _ _ o1 hw hP hD hS dJ0_coder_7d493_14
  unfold wpJ0_coder_7d493_S2 at hw
  refine va_gets hx hb hE.2.2.2.2.1 hS hown (hg _ q826) (fun _ h => h) dJ0_coder_7d493_0 ?_
  refine g_nrm (y := Int32.ofInt 1) rfl ?_
  refine z_if_eq (tgt := 13) hx hb (by decide) dJ0_coder_7d493_3 (by decide) (fun k2 => ?_) (fun k2 => ?_)
  · replace hw := hw.1 k2
    refine lv_iconst (v := Int32.ofInt 1) hx hb dJ0_coder_7d493_13 (by decide) ?_
    exact j14 1 σ _ _ _ hP hD hS (lv_sub hl [] rfl) hw
  · replace hw := hw.2 k2
    refine lv_aload_n hx hb dJ0_coder_7d493_6 rfl (lv_at hl 0 rfl) ?_
    refine vk_getf hx hb (hE.2.2.2.2.2.2.1.1 2 (by decide)).2.1 hS hown (hg _ q2259) (fun _ h => h) dJ0_coder_7d493_7 ?_
    refine g_nrm (y := Int32.ofInt 0) rfl ?_
    refine lv_goto (tgt := 14) hx hb dJ0_coder_7d493_10 (by decide) ?_
    exact j14 0 σ _ _ _ hP hD hS (lv_sub hl [] rfl) hw
def wpJ0_length_8abf5_S2 (σ : ZS) (Q : Int → ZS → Prop) : Prop := wpJ0_coder_7d493_S2 σ (fun (x1 : Int) (σ2 : ZS) => (x1 = 0) ∧ Q 11 σ2)
set_option maxHeartbeats 4000000 in
set_option maxRecDepth 100000 in
theorem kJ0_length_8abf5_S2 (l : Launch) (D : va_G) (dA : Nat → ClassId) (ad : Int → Nat → Nat) (tf tc : Nat) (aK aV : Nat → Nat) (σ : ZS) (Q : Int → ZS → Prop) (sz : Nat) (hw : wpJ0_length_8abf5_S2 σ Q) : Met l yJ0_length_8abf5 (gws yJ0_length_8abf5 cJ0_length_8abf5 1 (some .int)) (gR 2 0 0) (gPreE D dA tf tc aK aV [.ref (aK 2)] (zC dA ad σ) sz) (va_Qi (zQi Q) (gAt D dA (va_A (zC dA ad σ) sz) (zC dA ad)) (va_A (zC dA ad σ) sz)) 0 0 (va_A (zC dA ad σ) sz) := by
  refine Met.ofW (cc := cJ0_length_8abf5) (maxL := 1) (ret := (some .int)) (by decide) rfl ?_
  intro p e s m args below meth c s₁ B hml hv
  obtain ⟨rfl, hsz, hP, hK, hD0, hE⟩ := hv
  have hx := B.exec
  have hb := B.bytes
  have hr := B.returns
  have hts := atoms_spec (ws := gws yJ0_length_8abf5 cJ0_length_8abf5 1 (some .int)) B.pre
  have hg : ∀ w ∈ gw, w.before _ s = true := fun w h => hts w (List.mem_cons_of_mem _ h)
  have hown : s.vm.findClass RJ0 = some m.cls := findClass_of_methodNamed B.named
  have hlocks := B.notSynchronized
  subst hsz
  have hD := hD0.self (sz := s.heap.size)
  generalize hAe : va_A (zC dA ad σ) s.heap.size = A at hD hE ⊢
  have hA : ∀ q : Nat, s.heap.size ≤ q → A q := fun q h => by rw [← hAe]; exact Or.inr h
  have hS : va_S A s.heap s.heap [] := va_S.rf
  have hl := lv_entry ([.ref (aK 2)]) (n := 1) (Nat.le_of_ble_eq_true rfl)
  rw [lg_entry_eq]
  generalize (lg_sl ([.ref (aK 2)]) ++ List.replicate (1 - (lg_sl ([.ref (aK 2)])).length) Slot.unset).toArray = ls at hl ⊢
  have hl : lv_has ls 1 [(0, .ref (aK 2))] := hl
  have hret : ∀ (v : Int) (σ : ZS) (H : Heap) (locs : List Loc) (ls : Array Slot) (pc : Nat), Q v σ → va_P D vwC (zC dA ad σ) H → va_D A (zC dA ad σ) → va_S A s.heap H locs → decode cJ0_length_8abf5 pc = .ok (.ireturn, 1) → W p l e (gR 2 0 0) s m #[.ref (aK 2)] below meth c H locs 0 0 (MQ below (va_Qi (zQi Q) (gAt D dA A (zC dA ad)) A) #[.ref (aK 2)] s 0 0 A) (F0 m pc ls [.int (Int32.ofInt v)]) := fun v σ H locs ls pc hw hP hD hS hd => g_iret hx hb hr rfl hlocks hK σ hP hD hS ⟨v, rfl, hw⟩ (Nat.le_of_ble_eq_true rfl) (Nat.le_of_ble_eq_true rfl) hd
  generalize MQ below (va_Qi (zQi Q) (gAt D dA A (zC dA ad)) A) #[.ref (aK 2)] s 0 0 A = QQ at hret ⊢
  unfold wpJ0_length_8abf5_S2 at hw
  refine lv_aload_n hx hb dJ0_length_8abf5_0 rfl (lv_at hl 0 rfl) ?_
  refine vk_getf hx hb (hE.2.2.2.2.2.2.1.1 2 (by decide)).2.2.1 hS hown (hg _ q2258) (fun _ h => h) dJ0_length_8abf5_1 ?_
  refine va_tlen (v := Int32.ofInt 11) hx hb (hE.2.2.2.2.2.2.1.1 2 (by decide)).2.2.2 hS rfl dJ0_length_8abf5_4 ?_
  refine lv_aload_n hx hb dJ0_length_8abf5_5 rfl (lv_at hl 0 rfl) ?_
  refine z_EVi (n := 0) (As := []) (rest := [.int (Int32.ofInt 11)]) hx hb hml hg hown hE hK hP hD hS hA (kJ0_coder_7d493_S2 l D dA ad tf tc aK aV σ _ _ hw) (vk_recv hE.2.2.2.2.2.2.1 (i := 2) (by decide) hS) q825 q166 q822 q823 q824 (by decide +kernel) ⟨(Nat.le_of_ble_eq_true rfl), (Nat.le_of_ble_eq_true rfl)⟩ rfl hl.1 rfl (Nat.le_of_ble_eq_true rfl) dJ0_length_8abf5_6 ⟨(Nat.le_of_ble_eq_true rfl), (Nat.le_of_ble_eq_true rfl)⟩ (fun x1 σ2 H locs hw hP hD hS => ?_)
  obtain ⟨o3, hw⟩ := hw
  refine z_ishr0 hx hb o3 (by decide) dJ0_length_8abf5_9 ?_
  exact hret 11 σ2 _ _ _ _ hw hP hD hS dJ0_length_8abf5_10
def wpJ0_isLatin1_aae02_S2_18 (s0 : Int) (σ : ZS) (Q : Int → ZS → Prop) : Prop := (0 ≤ s0 ∧ s0 ≤ 1) ∧ Q s0 σ
def wpJ0_isLatin1_aae02_S2_17 (σ : ZS) (Q : Int → ZS → Prop) : Prop := wpJ0_isLatin1_aae02_S2_18 0 σ Q
def wpJ0_isLatin1_aae02_S2 (σ : ZS) (Q : Int → ZS → Prop) : Prop := ((1 : Int) = 0 → wpJ0_isLatin1_aae02_S2_17 σ Q) ∧ (¬ (1 : Int) = 0 → (¬ (0 : Int) = 0 → wpJ0_isLatin1_aae02_S2_17 σ Q) ∧ ((0 : Int) = 0 → wpJ0_isLatin1_aae02_S2_18 1 σ Q))
set_option maxHeartbeats 4000000 in
set_option maxRecDepth 100000 in
theorem kJ0_isLatin1_aae02_S2 (l : Launch) (D : va_G) (dA : Nat → ClassId) (ad : Int → Nat → Nat) (tf tc : Nat) (aK aV : Nat → Nat) (σ : ZS) (Q : Int → ZS → Prop) (sz : Nat) (hw : wpJ0_isLatin1_aae02_S2 σ Q) : Met l yJ0_isLatin1_aae02 (gws yJ0_isLatin1_aae02 cJ0_isLatin1_aae02 1 (some .boolean)) (gR 1 0 0) (gPreE D dA tf tc aK aV [.ref (aK 2)] (zC dA ad σ) sz) (va_Qi (zQi Q) (gAt D dA (va_A (zC dA ad σ) sz) (zC dA ad)) (va_A (zC dA ad σ) sz)) 0 0 (va_A (zC dA ad σ) sz) := by
  refine Met.ofW (cc := cJ0_isLatin1_aae02) (maxL := 1) (ret := (some .boolean)) (by decide) rfl ?_
  intro p e s m args below meth c s₁ B hml hv
  obtain ⟨rfl, hsz, hP, hK, hD0, hE⟩ := hv
  have hx := B.exec
  have hb := B.bytes
  have hr := B.returns
  have hts := atoms_spec (ws := gws yJ0_isLatin1_aae02 cJ0_isLatin1_aae02 1 (some .boolean)) B.pre
  have hg : ∀ w ∈ gw, w.before _ s = true := fun w h => hts w (List.mem_cons_of_mem _ h)
  have hown : s.vm.findClass RJ0 = some m.cls := findClass_of_methodNamed B.named
  have hlocks := B.notSynchronized
  subst hsz
  have hD := hD0.self (sz := s.heap.size)
  generalize hAe : va_A (zC dA ad σ) s.heap.size = A at hD hE ⊢
  have hA : ∀ q : Nat, s.heap.size ≤ q → A q := fun q h => by rw [← hAe]; exact Or.inr h
  have hS : va_S A s.heap s.heap [] := va_S.rf
  have hl := lv_entry ([.ref (aK 2)]) (n := 1) (Nat.le_of_ble_eq_true rfl)
  rw [lg_entry_eq]
  generalize (lg_sl ([.ref (aK 2)]) ++ List.replicate (1 - (lg_sl ([.ref (aK 2)])).length) Slot.unset).toArray = ls at hl ⊢
  have hl : lv_has ls 1 [(0, .ref (aK 2))] := hl
  have hret : ∀ (v : Int) (σ : ZS) (H : Heap) (locs : List Loc) (ls : Array Slot) (pc : Nat), (0 ≤ v ∧ v ≤ 1) → Q v σ → va_P D vwC (zC dA ad σ) H → va_D A (zC dA ad σ) → va_S A s.heap H locs → decode cJ0_isLatin1_aae02 pc = .ok (.ireturn, 1) → W p l e (gR 1 0 0) s m #[.ref (aK 2)] below meth c H locs 0 0 (MQ below (va_Qi (zQi Q) (gAt D dA A (zC dA ad)) A) #[.ref (aK 2)] s 0 0 A) (F0 m pc ls [.int (Int32.ofInt v)]) := fun v σ H locs ls pc hv hw hP hD hS hd => g_iret hx hb hr (z_nb hv) hlocks hK σ hP hD hS ⟨v, rfl, hw⟩ (Nat.le_of_ble_eq_true rfl) (Nat.le_of_ble_eq_true rfl) hd
  generalize MQ below (va_Qi (zQi Q) (gAt D dA A (zC dA ad)) A) #[.ref (aK 2)] s 0 0 A = QQ at hret ⊢
  have j18 : ∀ (s0 : Int) (σ : ZS), ∀ (H : Heap) (locs : List Loc) (ls : Array Slot), va_P D vwC (zC dA ad σ) H → va_D A (zC dA ad σ) → va_S A s.heap H locs → lv_has ls 1 [] → wpJ0_isLatin1_aae02_S2_18 s0 σ Q → W p l e (gR 1 0 0) s m #[.ref (aK 2)] below meth c H locs 0 0 QQ (F0 m 18 ls [.int (Int32.ofInt s0)]) := by
    intro s0 σ H locs ls hP hD hS hl hw
    unfold wpJ0_isLatin1_aae02_S2_18 at hw
    obtain ⟨o1, hw⟩ := hw
    exact hret s0 σ _ _ _ _ o1 hw hP hD hS dJ0_isLatin1_aae02_18
  have j17 : ∀ (σ : ZS), ∀ (H : Heap) (locs : List Loc) (ls : Array Slot), va_P D vwC (zC dA ad σ) H → va_D A (zC dA ad σ) → va_S A s.heap H locs → lv_has ls 1 [] → wpJ0_isLatin1_aae02_S2_17 σ Q → W p l e (gR 1 0 0) s m #[.ref (aK 2)] below meth c H locs 0 0 QQ (F0 m 17 ls []) := by
    intro σ H locs ls hP hD hS hl hw
    unfold wpJ0_isLatin1_aae02_S2_17 at hw
    refine lv_iconst (v := Int32.ofInt 0) hx hb dJ0_isLatin1_aae02_17 (by decide) ?_
    exact j18 0 σ _ _ _ hP hD hS (lv_sub hl [] rfl) hw
  unfold wpJ0_isLatin1_aae02_S2 at hw
  refine va_gets hx hb hE.2.2.2.2.1 hS hown (hg _ q826) (fun _ h => h) dJ0_isLatin1_aae02_0 ?_
  refine g_nrm (y := Int32.ofInt 1) rfl ?_
  refine z_if_eq (tgt := 17) hx hb (by decide) dJ0_isLatin1_aae02_3 (by decide) (fun k2 => ?_) (fun k2 => ?_)
  · replace hw := hw.1 k2
    exact j17 σ _ _ _ hP hD hS (lv_sub hl [] rfl) hw
  · replace hw := hw.2 k2
    refine lv_aload_n hx hb dJ0_isLatin1_aae02_6 rfl (lv_at hl 0 rfl) ?_
    refine vk_getf hx hb (hE.2.2.2.2.2.2.1.1 2 (by decide)).2.1 hS hown (hg _ q2259) (fun _ h => h) dJ0_isLatin1_aae02_7 ?_
    refine g_nrm (y := Int32.ofInt 0) rfl ?_
    refine z_if_ne (tgt := 17) hx hb (by decide) dJ0_isLatin1_aae02_10 (by decide) (fun k3 => ?_) (fun k3 => ?_)
    · replace hw := hw.1 k3
      exact j17 σ _ _ _ hP hD hS (lv_sub hl [] rfl) hw
    · replace hw := hw.2 k3
      refine lv_iconst (v := Int32.ofInt 1) hx hb dJ0_isLatin1_aae02_13 (by decide) ?_
      refine lv_goto (tgt := 18) hx hb dJ0_isLatin1_aae02_14 (by decide) ?_
      exact j18 1 σ _ _ _ hP hD hS (lv_sub hl [] rfl) hw
def wpJ1_charAt_3b067_S2 (a1 : Int) (σ : ZS) (Q : Int → ZS → Prop) : Prop := wpJ0_checkIndex_df160 a1 11 σ (fun (σ2 : ZS) => (0 ≤ a1 ∧ a1 < 11) ∧ Q (((zby 2 a1) % 256) % 65536) σ2)
set_option maxHeartbeats 4000000 in
set_option maxRecDepth 100000 in
theorem kJ1_charAt_3b067_S2 (l : Launch) (D : va_G) (dA : Nat → ClassId) (ad : Int → Nat → Nat) (tf tc : Nat) (aK aV : Nat → Nat) (a1 : Int) (σ : ZS) (Q : Int → ZS → Prop) (sz : Nat) (hw : wpJ1_charAt_3b067_S2 a1 σ Q) : Met l yJ1_charAt_3b067 (gws yJ1_charAt_3b067 cJ1_charAt_3b067 2 (some .char)) (gR 3 0 0) (gPreE D dA tf tc aK aV [.ref (aV 2), .int (Int32.ofInt a1)] (zC dA ad σ) sz) (va_Qi (zQi Q) (gAt D dA (va_A (zC dA ad σ) sz) (zC dA ad)) (va_A (zC dA ad σ) sz)) 0 0 (va_A (zC dA ad σ) sz) := by
  refine Met.ofW (cc := cJ1_charAt_3b067) (maxL := 2) (ret := (some .char)) (by decide) rfl ?_
  intro p e s m args below meth c s₁ B hml hv
  obtain ⟨rfl, hsz, hP, hK, hD0, hE⟩ := hv
  have hx := B.exec
  have hb := B.bytes
  have hr := B.returns
  have hts := atoms_spec (ws := gws yJ1_charAt_3b067 cJ1_charAt_3b067 2 (some .char)) B.pre
  have hg : ∀ w ∈ gw, w.before _ s = true := fun w h => hts w (List.mem_cons_of_mem _ h)
  have hown : s.vm.findClass RJ1 = some m.cls := findClass_of_methodNamed B.named
  have hlocks := B.notSynchronized
  subst hsz
  have hD := hD0.self (sz := s.heap.size)
  generalize hAe : va_A (zC dA ad σ) s.heap.size = A at hD hE ⊢
  have hA : ∀ q : Nat, s.heap.size ≤ q → A q := fun q h => by rw [← hAe]; exact Or.inr h
  have hS : va_S A s.heap s.heap [] := va_S.rf
  have hl := lv_entry ([.ref (aV 2), .int (Int32.ofInt a1)]) (n := 2) (Nat.le_of_ble_eq_true rfl)
  rw [lg_entry_eq]
  generalize (lg_sl ([.ref (aV 2), .int (Int32.ofInt a1)]) ++ List.replicate (2 - (lg_sl ([.ref (aV 2), .int (Int32.ofInt a1)])).length) Slot.unset).toArray = ls at hl ⊢
  have hl : lv_has ls 2 [(0, .ref (aV 2)), (1, .int (Int32.ofInt a1))] := hl
  have hret : ∀ (v : Int) (σ : ZS) (H : Heap) (locs : List Loc) (ls : Array Slot) (pc : Nat), (0 ≤ v ∧ v ≤ 65535) → Q v σ → va_P D vwC (zC dA ad σ) H → va_D A (zC dA ad σ) → va_S A s.heap H locs → decode cJ1_charAt_3b067 pc = .ok (.ireturn, 1) → W p l e (gR 3 0 0) s m #[.ref (aV 2), .int (Int32.ofInt a1)] below meth c H locs 0 0 (MQ below (va_Qi (zQi Q) (gAt D dA A (zC dA ad)) A) #[.ref (aV 2), .int (Int32.ofInt a1)] s 0 0 A) (F0 m pc ls [.int (Int32.ofInt v)]) := fun v σ H locs ls pc hv hw hP hD hS hd => g_iret hx hb hr (z_nc hv) hlocks hK σ hP hD hS ⟨v, rfl, hw⟩ (Nat.le_of_ble_eq_true rfl) (Nat.le_of_ble_eq_true rfl) hd
  generalize MQ below (va_Qi (zQi Q) (gAt D dA A (zC dA ad)) A) #[.ref (aV 2), .int (Int32.ofInt a1)] s 0 0 A = QQ at hret ⊢
  unfold wpJ1_charAt_3b067_S2 at hw
  refine lv_iload_n hx hb dJ1_charAt_3b067_0 rfl (lv_at hl 1 rfl) ?_
  refine lv_aload_n hx hb dJ1_charAt_3b067_1 rfl (lv_at hl 0 rfl) ?_
  refine va_tlen (v := Int32.ofInt 11) hx hb (hE.2.2.2.2.2.2.1.1 2 (by decide)).2.2.2 hS rfl dJ1_charAt_3b067_2 ?_
  refine z_ESv (n := 2) (As := [.int (Int32.ofInt a1), .int (Int32.ofInt 11)]) (rest := []) hx hb hml hg hown hE hK hP hD hS hA (kJ0_checkIndex_df160 l D dA ad tf tc aK aV a1 11 σ _ _ hw) q841 q166 q839 q840 (by decide +kernel) ⟨(Nat.le_of_ble_eq_true rfl), (Nat.le_of_ble_eq_true rfl)⟩ rfl hl.1 rfl (Nat.le_of_ble_eq_true rfl) dJ1_charAt_3b067_3 ⟨(Nat.le_of_ble_eq_true rfl), (Nat.le_of_ble_eq_true rfl)⟩ (fun σ2 H locs hw hP hD hS => ?_)
  refine lv_aload_n hx hb dJ1_charAt_3b067_6 rfl (lv_at hl 0 rfl) ?_
  refine lv_iload_n hx hb dJ1_charAt_3b067_7 rfl (lv_at hl 1 rfl) ?_
  obtain ⟨o3, hw⟩ := hw
  refine va_tb hx hb (hE.2.2.2.2.2.2.1.1 2 (by decide)).2.2.2 hS (z_in (n := 11) o3 (by decide)) (z_tB (n := 11) o3 (by decide)) dJ1_charAt_3b067_8 ?_
  refine lv_sipush (v := Int32.ofInt 255) hx hb dJ1_charAt_3b067_9 (by decide) ?_
  refine z_iandK (M := 256) hx hb 8 (by decide) (by decide) (by decide) dJ1_charAt_3b067_12 ?_
  refine z_i2c hx hb dJ1_charAt_3b067_13 ?_
  exact hret (((zby 2 a1) % 256) % 65536) σ2 _ _ _ _ (by clear hw; omega) hw hP hD hS dJ1_charAt_3b067_14
def wpJ0_charAt_5068e_S2 (a1 : Int) (σ : ZS) (Q : Int → ZS → Prop) : Prop := wpJ0_isLatin1_aae02_S2 σ (fun (x1 : Int) (σ2 : ZS) => (-2147483648 ≤ x1 ∧ x1 ≤ 2147483647) ∧ (x1 = 0 → False) ∧ (¬ x1 = 0 → wpJ1_charAt_3b067_S2 a1 σ2 (fun (x5 : Int) (σ6 : ZS) => (0 ≤ x5 ∧ x5 ≤ 65535) ∧ Q x5 σ6)))
set_option maxHeartbeats 4000000 in
set_option maxRecDepth 100000 in
theorem kJ0_charAt_5068e_S2 (l : Launch) (D : va_G) (dA : Nat → ClassId) (ad : Int → Nat → Nat) (tf tc : Nat) (aK aV : Nat → Nat) (a1 : Int) (σ : ZS) (Q : Int → ZS → Prop) (sz : Nat) (hw : wpJ0_charAt_5068e_S2 a1 σ Q) : Met l yJ0_charAt_5068e (gws yJ0_charAt_5068e cJ0_charAt_5068e 2 (some .char)) (gR 4 0 0) (gPreE D dA tf tc aK aV [.ref (aK 2), .int (Int32.ofInt a1)] (zC dA ad σ) sz) (va_Qi (zQi Q) (gAt D dA (va_A (zC dA ad σ) sz) (zC dA ad)) (va_A (zC dA ad σ) sz)) 0 0 (va_A (zC dA ad σ) sz) := by
  refine Met.ofW (cc := cJ0_charAt_5068e) (maxL := 2) (ret := (some .char)) (by decide) rfl ?_
  intro p e s m args below meth c s₁ B hml hv
  obtain ⟨rfl, hsz, hP, hK, hD0, hE⟩ := hv
  have hx := B.exec
  have hb := B.bytes
  have hr := B.returns
  have hts := atoms_spec (ws := gws yJ0_charAt_5068e cJ0_charAt_5068e 2 (some .char)) B.pre
  have hg : ∀ w ∈ gw, w.before _ s = true := fun w h => hts w (List.mem_cons_of_mem _ h)
  have hown : s.vm.findClass RJ0 = some m.cls := findClass_of_methodNamed B.named
  have hlocks := B.notSynchronized
  subst hsz
  have hD := hD0.self (sz := s.heap.size)
  generalize hAe : va_A (zC dA ad σ) s.heap.size = A at hD hE ⊢
  have hA : ∀ q : Nat, s.heap.size ≤ q → A q := fun q h => by rw [← hAe]; exact Or.inr h
  have hS : va_S A s.heap s.heap [] := va_S.rf
  have hl := lv_entry ([.ref (aK 2), .int (Int32.ofInt a1)]) (n := 2) (Nat.le_of_ble_eq_true rfl)
  rw [lg_entry_eq]
  generalize (lg_sl ([.ref (aK 2), .int (Int32.ofInt a1)]) ++ List.replicate (2 - (lg_sl ([.ref (aK 2), .int (Int32.ofInt a1)])).length) Slot.unset).toArray = ls at hl ⊢
  have hl : lv_has ls 2 [(0, .ref (aK 2)), (1, .int (Int32.ofInt a1))] := hl
  have hret : ∀ (v : Int) (σ : ZS) (H : Heap) (locs : List Loc) (ls : Array Slot) (pc : Nat), (0 ≤ v ∧ v ≤ 65535) → Q v σ → va_P D vwC (zC dA ad σ) H → va_D A (zC dA ad σ) → va_S A s.heap H locs → decode cJ0_charAt_5068e pc = .ok (.ireturn, 1) → W p l e (gR 4 0 0) s m #[.ref (aK 2), .int (Int32.ofInt a1)] below meth c H locs 0 0 (MQ below (va_Qi (zQi Q) (gAt D dA A (zC dA ad)) A) #[.ref (aK 2), .int (Int32.ofInt a1)] s 0 0 A) (F0 m pc ls [.int (Int32.ofInt v)]) := fun v σ H locs ls pc hv hw hP hD hS hd => g_iret hx hb hr (z_nc hv) hlocks hK σ hP hD hS ⟨v, rfl, hw⟩ (Nat.le_of_ble_eq_true rfl) (Nat.le_of_ble_eq_true rfl) hd
  generalize MQ below (va_Qi (zQi Q) (gAt D dA A (zC dA ad)) A) #[.ref (aK 2), .int (Int32.ofInt a1)] s 0 0 A = QQ at hret ⊢
  unfold wpJ0_charAt_5068e_S2 at hw
  refine lv_aload_n hx hb dJ0_charAt_5068e_0 rfl (lv_at hl 0 rfl) ?_
  refine z_EVi (n := 0) (As := []) (rest := []) hx hb hml hg hown hE hK hP hD hS hA (kJ0_isLatin1_aae02_S2 l D dA ad tf tc aK aV σ _ _ hw) (vk_recv hE.2.2.2.2.2.2.1 (i := 2) (by decide) hS) q835 q166 q832 q833 q834 (by decide +kernel) ⟨(Nat.le_of_ble_eq_true rfl), (Nat.le_of_ble_eq_true rfl)⟩ rfl hl.1 rfl (Nat.le_of_ble_eq_true rfl) dJ0_charAt_5068e_1 ⟨(Nat.le_of_ble_eq_true rfl), (Nat.le_of_ble_eq_true rfl)⟩ (fun x1 σ2 H locs hw hP hD hS => ?_)
  obtain ⟨o3, hw⟩ := hw
  refine z_if_eq (tgt := 16) hx hb o3 dJ0_charAt_5068e_4 (by decide) (fun k4 => ?_) (fun k4 => ?_)
  · replace hw := hw.1 k4
    refine lv_aload_n hx hb dJ0_charAt_5068e_16 rfl (lv_at hl 0 rfl) ?_
    refine vk_getf hx hb (hE.2.2.2.2.2.2.1.1 2 (by decide)).2.2.1 hS hown (hg _ q2258) (fun _ h => h) dJ0_charAt_5068e_17 ?_
    refine lv_iload_n hx hb dJ0_charAt_5068e_20 rfl (lv_at hl 1 rfl) ?_
    exact hw.elim
  · replace hw := hw.2 k4
    refine lv_aload_n hx hb dJ0_charAt_5068e_7 rfl (lv_at hl 0 rfl) ?_
    refine vk_getf hx hb (hE.2.2.2.2.2.2.1.1 2 (by decide)).2.2.1 hS hown (hg _ q2258) (fun _ h => h) dJ0_charAt_5068e_8 ?_
    refine lv_iload_n hx hb dJ0_charAt_5068e_11 rfl (lv_at hl 1 rfl) ?_
    refine z_ESi (n := 2) (As := [.ref (aV 2), .int (Int32.ofInt a1)]) (rest := []) hx hb hml hg hown hE hK hP hD hS hA (kJ1_charAt_3b067_S2 l D dA ad tf tc aK aV a1 σ2 _ _ hw) q838 q169 q836 q837 (by decide +kernel) ⟨(Nat.le_of_ble_eq_true rfl), (Nat.le_of_ble_eq_true rfl)⟩ rfl hl.1 rfl (Nat.le_of_ble_eq_true rfl) dJ0_charAt_5068e_12 ⟨(Nat.le_of_ble_eq_true rfl), (Nat.le_of_ble_eq_true rfl)⟩ (fun x5 σ6 H locs hw hP hD hS => ?_)
    obtain ⟨o7, hw⟩ := hw
    exact hret x5 σ6 _ _ _ _ o7 hw hP hD hS dJ0_charAt_5068e_15
def wpJ0_coder_7d493_S3_14 (s0 : Int) (σ : ZS) (Q : Int → ZS → Prop) : Prop := (s0 = 0) ∧ Q s0 σ
def wpJ0_coder_7d493_S3 (σ : ZS) (Q : Int → ZS → Prop) : Prop := ((1 : Int) = 0 → wpJ0_coder_7d493_S3_14 1 σ Q) ∧ (¬ (1 : Int) = 0 → wpJ0_coder_7d493_S3_14 0 σ Q)
set_option maxHeartbeats 4000000 in
set_option maxRecDepth 100000 in
theorem kJ0_coder_7d493_S3 (l : Launch) (D : va_G) (dA : Nat → ClassId) (ad : Int → Nat → Nat) (tf tc : Nat) (aK aV : Nat → Nat) (σ : ZS) (Q : Int → ZS → Prop) (sz : Nat) (hw : wpJ0_coder_7d493_S3 σ Q) : Met l yJ0_coder_7d493 (gws yJ0_coder_7d493 cJ0_coder_7d493 1 (some .byte)) (gR 1 0 0) (gPreE D dA tf tc aK aV [.ref (aK 3)] (zC dA ad σ) sz) (va_Qi (zQi Q) (gAt D dA (va_A (zC dA ad σ) sz) (zC dA ad)) (va_A (zC dA ad σ) sz)) 0 0 (va_A (zC dA ad σ) sz) := by
  refine Met.ofW (cc := cJ0_coder_7d493) (maxL := 1) (ret := (some .byte)) (by decide) rfl ?_
  intro p e s m args below meth c s₁ B hml hv
  obtain ⟨rfl, hsz, hP, hK, hD0, hE⟩ := hv
  have hx := B.exec
  have hb := B.bytes
  have hr := B.returns
  have hts := atoms_spec (ws := gws yJ0_coder_7d493 cJ0_coder_7d493 1 (some .byte)) B.pre
  have hg : ∀ w ∈ gw, w.before _ s = true := fun w h => hts w (List.mem_cons_of_mem _ h)
  have hown : s.vm.findClass RJ0 = some m.cls := findClass_of_methodNamed B.named
  have hlocks := B.notSynchronized
  subst hsz
  have hD := hD0.self (sz := s.heap.size)
  generalize hAe : va_A (zC dA ad σ) s.heap.size = A at hD hE ⊢
  have hA : ∀ q : Nat, s.heap.size ≤ q → A q := fun q h => by rw [← hAe]; exact Or.inr h
  have hS : va_S A s.heap s.heap [] := va_S.rf
  have hl := lv_entry ([.ref (aK 3)]) (n := 1) (Nat.le_of_ble_eq_true rfl)
  rw [lg_entry_eq]
  generalize (lg_sl ([.ref (aK 3)]) ++ List.replicate (1 - (lg_sl ([.ref (aK 3)])).length) Slot.unset).toArray = ls at hl ⊢
  have hl : lv_has ls 1 [(0, .ref (aK 3))] := hl
  have hret : ∀ (v : Int) (σ : ZS) (H : Heap) (locs : List Loc) (ls : Array Slot) (pc : Nat), (v = 0) → Q v σ → va_P D vwC (zC dA ad σ) H → va_D A (zC dA ad σ) → va_S A s.heap H locs → decode cJ0_coder_7d493 pc = .ok (.ireturn, 1) → W p l e (gR 1 0 0) s m #[.ref (aK 3)] below meth c H locs 0 0 (MQ below (va_Qi (zQi Q) (gAt D dA A (zC dA ad)) A) #[.ref (aK 3)] s 0 0 A) (F0 m pc ls [.int (Int32.ofInt v)]) := fun v σ H locs ls pc hv hw hP hD hS hd => g_iret hx hb hr (z_n0 hv) hlocks hK σ hP hD hS ⟨v, rfl, hw⟩ (Nat.le_of_ble_eq_true rfl) (Nat.le_of_ble_eq_true rfl) hd
  generalize MQ below (va_Qi (zQi Q) (gAt D dA A (zC dA ad)) A) #[.ref (aK 3)] s 0 0 A = QQ at hret ⊢
  have j14 : ∀ (s0 : Int) (σ : ZS), ∀ (H : Heap) (locs : List Loc) (ls : Array Slot), va_P D vwC (zC dA ad σ) H → va_D A (zC dA ad σ) → va_S A s.heap H locs → lv_has ls 1 [] → wpJ0_coder_7d493_S3_14 s0 σ Q → W p l e (gR 1 0 0) s m #[.ref (aK 3)] below meth c H locs 0 0 QQ (F0 m 14 ls [.int (Int32.ofInt s0)]) := by
    intro s0 σ H locs ls hP hD hS hl hw
    unfold wpJ0_coder_7d493_S3_14 at hw
    obtain ⟨o1, hw⟩ := hw
    exact hret s0 σ _ _ _ _ o1 hw hP hD hS dJ0_coder_7d493_14
  unfold wpJ0_coder_7d493_S3 at hw
  refine va_gets hx hb hE.2.2.2.2.1 hS hown (hg _ q826) (fun _ h => h) dJ0_coder_7d493_0 ?_
  refine g_nrm (y := Int32.ofInt 1) rfl ?_
  refine z_if_eq (tgt := 13) hx hb (by decide) dJ0_coder_7d493_3 (by decide) (fun k2 => ?_) (fun k2 => ?_)
  · replace hw := hw.1 k2
    refine lv_iconst (v := Int32.ofInt 1) hx hb dJ0_coder_7d493_13 (by decide) ?_
    exact j14 1 σ _ _ _ hP hD hS (lv_sub hl [] rfl) hw
  · replace hw := hw.2 k2
    refine lv_aload_n hx hb dJ0_coder_7d493_6 rfl (lv_at hl 0 rfl) ?_
    refine vk_getf hx hb (hE.2.2.2.2.2.2.1.1 3 (by decide)).2.1 hS hown (hg _ q2259) (fun _ h => h) dJ0_coder_7d493_7 ?_
    refine g_nrm (y := Int32.ofInt 0) rfl ?_
    refine lv_goto (tgt := 14) hx hb dJ0_coder_7d493_10 (by decide) ?_
    exact j14 0 σ _ _ _ hP hD hS (lv_sub hl [] rfl) hw
def wpJ0_length_8abf5_S3 (σ : ZS) (Q : Int → ZS → Prop) : Prop := wpJ0_coder_7d493_S3 σ (fun (x1 : Int) (σ2 : ZS) => (x1 = 0) ∧ Q 155 σ2)
set_option maxHeartbeats 4000000 in
set_option maxRecDepth 100000 in
theorem kJ0_length_8abf5_S3 (l : Launch) (D : va_G) (dA : Nat → ClassId) (ad : Int → Nat → Nat) (tf tc : Nat) (aK aV : Nat → Nat) (σ : ZS) (Q : Int → ZS → Prop) (sz : Nat) (hw : wpJ0_length_8abf5_S3 σ Q) : Met l yJ0_length_8abf5 (gws yJ0_length_8abf5 cJ0_length_8abf5 1 (some .int)) (gR 2 0 0) (gPreE D dA tf tc aK aV [.ref (aK 3)] (zC dA ad σ) sz) (va_Qi (zQi Q) (gAt D dA (va_A (zC dA ad σ) sz) (zC dA ad)) (va_A (zC dA ad σ) sz)) 0 0 (va_A (zC dA ad σ) sz) := by
  refine Met.ofW (cc := cJ0_length_8abf5) (maxL := 1) (ret := (some .int)) (by decide) rfl ?_
  intro p e s m args below meth c s₁ B hml hv
  obtain ⟨rfl, hsz, hP, hK, hD0, hE⟩ := hv
  have hx := B.exec
  have hb := B.bytes
  have hr := B.returns
  have hts := atoms_spec (ws := gws yJ0_length_8abf5 cJ0_length_8abf5 1 (some .int)) B.pre
  have hg : ∀ w ∈ gw, w.before _ s = true := fun w h => hts w (List.mem_cons_of_mem _ h)
  have hown : s.vm.findClass RJ0 = some m.cls := findClass_of_methodNamed B.named
  have hlocks := B.notSynchronized
  subst hsz
  have hD := hD0.self (sz := s.heap.size)
  generalize hAe : va_A (zC dA ad σ) s.heap.size = A at hD hE ⊢
  have hA : ∀ q : Nat, s.heap.size ≤ q → A q := fun q h => by rw [← hAe]; exact Or.inr h
  have hS : va_S A s.heap s.heap [] := va_S.rf
  have hl := lv_entry ([.ref (aK 3)]) (n := 1) (Nat.le_of_ble_eq_true rfl)
  rw [lg_entry_eq]
  generalize (lg_sl ([.ref (aK 3)]) ++ List.replicate (1 - (lg_sl ([.ref (aK 3)])).length) Slot.unset).toArray = ls at hl ⊢
  have hl : lv_has ls 1 [(0, .ref (aK 3))] := hl
  have hret : ∀ (v : Int) (σ : ZS) (H : Heap) (locs : List Loc) (ls : Array Slot) (pc : Nat), Q v σ → va_P D vwC (zC dA ad σ) H → va_D A (zC dA ad σ) → va_S A s.heap H locs → decode cJ0_length_8abf5 pc = .ok (.ireturn, 1) → W p l e (gR 2 0 0) s m #[.ref (aK 3)] below meth c H locs 0 0 (MQ below (va_Qi (zQi Q) (gAt D dA A (zC dA ad)) A) #[.ref (aK 3)] s 0 0 A) (F0 m pc ls [.int (Int32.ofInt v)]) := fun v σ H locs ls pc hw hP hD hS hd => g_iret hx hb hr rfl hlocks hK σ hP hD hS ⟨v, rfl, hw⟩ (Nat.le_of_ble_eq_true rfl) (Nat.le_of_ble_eq_true rfl) hd
  generalize MQ below (va_Qi (zQi Q) (gAt D dA A (zC dA ad)) A) #[.ref (aK 3)] s 0 0 A = QQ at hret ⊢
  unfold wpJ0_length_8abf5_S3 at hw
  refine lv_aload_n hx hb dJ0_length_8abf5_0 rfl (lv_at hl 0 rfl) ?_
  refine vk_getf hx hb (hE.2.2.2.2.2.2.1.1 3 (by decide)).2.2.1 hS hown (hg _ q2258) (fun _ h => h) dJ0_length_8abf5_1 ?_
  refine va_tlen (v := Int32.ofInt 155) hx hb (hE.2.2.2.2.2.2.1.1 3 (by decide)).2.2.2 hS rfl dJ0_length_8abf5_4 ?_
  refine lv_aload_n hx hb dJ0_length_8abf5_5 rfl (lv_at hl 0 rfl) ?_
  refine z_EVi (n := 0) (As := []) (rest := [.int (Int32.ofInt 155)]) hx hb hml hg hown hE hK hP hD hS hA (kJ0_coder_7d493_S3 l D dA ad tf tc aK aV σ _ _ hw) (vk_recv hE.2.2.2.2.2.2.1 (i := 3) (by decide) hS) q825 q166 q822 q823 q824 (by decide +kernel) ⟨(Nat.le_of_ble_eq_true rfl), (Nat.le_of_ble_eq_true rfl)⟩ rfl hl.1 rfl (Nat.le_of_ble_eq_true rfl) dJ0_length_8abf5_6 ⟨(Nat.le_of_ble_eq_true rfl), (Nat.le_of_ble_eq_true rfl)⟩ (fun x1 σ2 H locs hw hP hD hS => ?_)
  obtain ⟨o3, hw⟩ := hw
  refine z_ishr0 hx hb o3 (by decide) dJ0_length_8abf5_9 ?_
  exact hret 155 σ2 _ _ _ _ hw hP hD hS dJ0_length_8abf5_10
def wpJ0_isLatin1_aae02_S3_18 (s0 : Int) (σ : ZS) (Q : Int → ZS → Prop) : Prop := (0 ≤ s0 ∧ s0 ≤ 1) ∧ Q s0 σ
def wpJ0_isLatin1_aae02_S3_17 (σ : ZS) (Q : Int → ZS → Prop) : Prop := wpJ0_isLatin1_aae02_S3_18 0 σ Q
def wpJ0_isLatin1_aae02_S3 (σ : ZS) (Q : Int → ZS → Prop) : Prop := ((1 : Int) = 0 → wpJ0_isLatin1_aae02_S3_17 σ Q) ∧ (¬ (1 : Int) = 0 → (¬ (0 : Int) = 0 → wpJ0_isLatin1_aae02_S3_17 σ Q) ∧ ((0 : Int) = 0 → wpJ0_isLatin1_aae02_S3_18 1 σ Q))
set_option maxHeartbeats 4000000 in
set_option maxRecDepth 100000 in
theorem kJ0_isLatin1_aae02_S3 (l : Launch) (D : va_G) (dA : Nat → ClassId) (ad : Int → Nat → Nat) (tf tc : Nat) (aK aV : Nat → Nat) (σ : ZS) (Q : Int → ZS → Prop) (sz : Nat) (hw : wpJ0_isLatin1_aae02_S3 σ Q) : Met l yJ0_isLatin1_aae02 (gws yJ0_isLatin1_aae02 cJ0_isLatin1_aae02 1 (some .boolean)) (gR 1 0 0) (gPreE D dA tf tc aK aV [.ref (aK 3)] (zC dA ad σ) sz) (va_Qi (zQi Q) (gAt D dA (va_A (zC dA ad σ) sz) (zC dA ad)) (va_A (zC dA ad σ) sz)) 0 0 (va_A (zC dA ad σ) sz) := by
  refine Met.ofW (cc := cJ0_isLatin1_aae02) (maxL := 1) (ret := (some .boolean)) (by decide) rfl ?_
  intro p e s m args below meth c s₁ B hml hv
  obtain ⟨rfl, hsz, hP, hK, hD0, hE⟩ := hv
  have hx := B.exec
  have hb := B.bytes
  have hr := B.returns
  have hts := atoms_spec (ws := gws yJ0_isLatin1_aae02 cJ0_isLatin1_aae02 1 (some .boolean)) B.pre
  have hg : ∀ w ∈ gw, w.before _ s = true := fun w h => hts w (List.mem_cons_of_mem _ h)
  have hown : s.vm.findClass RJ0 = some m.cls := findClass_of_methodNamed B.named
  have hlocks := B.notSynchronized
  subst hsz
  have hD := hD0.self (sz := s.heap.size)
  generalize hAe : va_A (zC dA ad σ) s.heap.size = A at hD hE ⊢
  have hA : ∀ q : Nat, s.heap.size ≤ q → A q := fun q h => by rw [← hAe]; exact Or.inr h
  have hS : va_S A s.heap s.heap [] := va_S.rf
  have hl := lv_entry ([.ref (aK 3)]) (n := 1) (Nat.le_of_ble_eq_true rfl)
  rw [lg_entry_eq]
  generalize (lg_sl ([.ref (aK 3)]) ++ List.replicate (1 - (lg_sl ([.ref (aK 3)])).length) Slot.unset).toArray = ls at hl ⊢
  have hl : lv_has ls 1 [(0, .ref (aK 3))] := hl
  have hret : ∀ (v : Int) (σ : ZS) (H : Heap) (locs : List Loc) (ls : Array Slot) (pc : Nat), (0 ≤ v ∧ v ≤ 1) → Q v σ → va_P D vwC (zC dA ad σ) H → va_D A (zC dA ad σ) → va_S A s.heap H locs → decode cJ0_isLatin1_aae02 pc = .ok (.ireturn, 1) → W p l e (gR 1 0 0) s m #[.ref (aK 3)] below meth c H locs 0 0 (MQ below (va_Qi (zQi Q) (gAt D dA A (zC dA ad)) A) #[.ref (aK 3)] s 0 0 A) (F0 m pc ls [.int (Int32.ofInt v)]) := fun v σ H locs ls pc hv hw hP hD hS hd => g_iret hx hb hr (z_nb hv) hlocks hK σ hP hD hS ⟨v, rfl, hw⟩ (Nat.le_of_ble_eq_true rfl) (Nat.le_of_ble_eq_true rfl) hd
  generalize MQ below (va_Qi (zQi Q) (gAt D dA A (zC dA ad)) A) #[.ref (aK 3)] s 0 0 A = QQ at hret ⊢
  have j18 : ∀ (s0 : Int) (σ : ZS), ∀ (H : Heap) (locs : List Loc) (ls : Array Slot), va_P D vwC (zC dA ad σ) H → va_D A (zC dA ad σ) → va_S A s.heap H locs → lv_has ls 1 [] → wpJ0_isLatin1_aae02_S3_18 s0 σ Q → W p l e (gR 1 0 0) s m #[.ref (aK 3)] below meth c H locs 0 0 QQ (F0 m 18 ls [.int (Int32.ofInt s0)]) := by
    intro s0 σ H locs ls hP hD hS hl hw
    unfold wpJ0_isLatin1_aae02_S3_18 at hw
    obtain ⟨o1, hw⟩ := hw
    exact hret s0 σ _ _ _ _ o1 hw hP hD hS dJ0_isLatin1_aae02_18
  have j17 : ∀ (σ : ZS), ∀ (H : Heap) (locs : List Loc) (ls : Array Slot), va_P D vwC (zC dA ad σ) H → va_D A (zC dA ad σ) → va_S A s.heap H locs → lv_has ls 1 [] → wpJ0_isLatin1_aae02_S3_17 σ Q → W p l e (gR 1 0 0) s m #[.ref (aK 3)] below meth c H locs 0 0 QQ (F0 m 17 ls []) := by
    intro σ H locs ls hP hD hS hl hw
    unfold wpJ0_isLatin1_aae02_S3_17 at hw
    refine lv_iconst (v := Int32.ofInt 0) hx hb dJ0_isLatin1_aae02_17 (by decide) ?_
    exact j18 0 σ _ _ _ hP hD hS (lv_sub hl [] rfl) hw
  unfold wpJ0_isLatin1_aae02_S3 at hw
  refine va_gets hx hb hE.2.2.2.2.1 hS hown (hg _ q826) (fun _ h => h) dJ0_isLatin1_aae02_0 ?_
  refine g_nrm (y := Int32.ofInt 1) rfl ?_
  refine z_if_eq (tgt := 17) hx hb (by decide) dJ0_isLatin1_aae02_3 (by decide) (fun k2 => ?_) (fun k2 => ?_)
  · replace hw := hw.1 k2
    exact j17 σ _ _ _ hP hD hS (lv_sub hl [] rfl) hw
  · replace hw := hw.2 k2
    refine lv_aload_n hx hb dJ0_isLatin1_aae02_6 rfl (lv_at hl 0 rfl) ?_
    refine vk_getf hx hb (hE.2.2.2.2.2.2.1.1 3 (by decide)).2.1 hS hown (hg _ q2259) (fun _ h => h) dJ0_isLatin1_aae02_7 ?_
    refine g_nrm (y := Int32.ofInt 0) rfl ?_
    refine z_if_ne (tgt := 17) hx hb (by decide) dJ0_isLatin1_aae02_10 (by decide) (fun k3 => ?_) (fun k3 => ?_)
    · replace hw := hw.1 k3
      exact j17 σ _ _ _ hP hD hS (lv_sub hl [] rfl) hw
    · replace hw := hw.2 k3
      refine lv_iconst (v := Int32.ofInt 1) hx hb dJ0_isLatin1_aae02_13 (by decide) ?_
      refine lv_goto (tgt := 18) hx hb dJ0_isLatin1_aae02_14 (by decide) ?_
      exact j18 1 σ _ _ _ hP hD hS (lv_sub hl [] rfl) hw
def wpJ1_charAt_3b067_S3 (a1 : Int) (σ : ZS) (Q : Int → ZS → Prop) : Prop := wpJ0_checkIndex_df160 a1 155 σ (fun (σ2 : ZS) => (0 ≤ a1 ∧ a1 < 155) ∧ Q (((zby 3 a1) % 256) % 65536) σ2)
set_option maxHeartbeats 4000000 in
set_option maxRecDepth 100000 in
theorem kJ1_charAt_3b067_S3 (l : Launch) (D : va_G) (dA : Nat → ClassId) (ad : Int → Nat → Nat) (tf tc : Nat) (aK aV : Nat → Nat) (a1 : Int) (σ : ZS) (Q : Int → ZS → Prop) (sz : Nat) (hw : wpJ1_charAt_3b067_S3 a1 σ Q) : Met l yJ1_charAt_3b067 (gws yJ1_charAt_3b067 cJ1_charAt_3b067 2 (some .char)) (gR 3 0 0) (gPreE D dA tf tc aK aV [.ref (aV 3), .int (Int32.ofInt a1)] (zC dA ad σ) sz) (va_Qi (zQi Q) (gAt D dA (va_A (zC dA ad σ) sz) (zC dA ad)) (va_A (zC dA ad σ) sz)) 0 0 (va_A (zC dA ad σ) sz) := by
  refine Met.ofW (cc := cJ1_charAt_3b067) (maxL := 2) (ret := (some .char)) (by decide) rfl ?_
  intro p e s m args below meth c s₁ B hml hv
  obtain ⟨rfl, hsz, hP, hK, hD0, hE⟩ := hv
  have hx := B.exec
  have hb := B.bytes
  have hr := B.returns
  have hts := atoms_spec (ws := gws yJ1_charAt_3b067 cJ1_charAt_3b067 2 (some .char)) B.pre
  have hg : ∀ w ∈ gw, w.before _ s = true := fun w h => hts w (List.mem_cons_of_mem _ h)
  have hown : s.vm.findClass RJ1 = some m.cls := findClass_of_methodNamed B.named
  have hlocks := B.notSynchronized
  subst hsz
  have hD := hD0.self (sz := s.heap.size)
  generalize hAe : va_A (zC dA ad σ) s.heap.size = A at hD hE ⊢
  have hA : ∀ q : Nat, s.heap.size ≤ q → A q := fun q h => by rw [← hAe]; exact Or.inr h
  have hS : va_S A s.heap s.heap [] := va_S.rf
  have hl := lv_entry ([.ref (aV 3), .int (Int32.ofInt a1)]) (n := 2) (Nat.le_of_ble_eq_true rfl)
  rw [lg_entry_eq]
  generalize (lg_sl ([.ref (aV 3), .int (Int32.ofInt a1)]) ++ List.replicate (2 - (lg_sl ([.ref (aV 3), .int (Int32.ofInt a1)])).length) Slot.unset).toArray = ls at hl ⊢
  have hl : lv_has ls 2 [(0, .ref (aV 3)), (1, .int (Int32.ofInt a1))] := hl
  have hret : ∀ (v : Int) (σ : ZS) (H : Heap) (locs : List Loc) (ls : Array Slot) (pc : Nat), (0 ≤ v ∧ v ≤ 65535) → Q v σ → va_P D vwC (zC dA ad σ) H → va_D A (zC dA ad σ) → va_S A s.heap H locs → decode cJ1_charAt_3b067 pc = .ok (.ireturn, 1) → W p l e (gR 3 0 0) s m #[.ref (aV 3), .int (Int32.ofInt a1)] below meth c H locs 0 0 (MQ below (va_Qi (zQi Q) (gAt D dA A (zC dA ad)) A) #[.ref (aV 3), .int (Int32.ofInt a1)] s 0 0 A) (F0 m pc ls [.int (Int32.ofInt v)]) := fun v σ H locs ls pc hv hw hP hD hS hd => g_iret hx hb hr (z_nc hv) hlocks hK σ hP hD hS ⟨v, rfl, hw⟩ (Nat.le_of_ble_eq_true rfl) (Nat.le_of_ble_eq_true rfl) hd
  generalize MQ below (va_Qi (zQi Q) (gAt D dA A (zC dA ad)) A) #[.ref (aV 3), .int (Int32.ofInt a1)] s 0 0 A = QQ at hret ⊢
  unfold wpJ1_charAt_3b067_S3 at hw
  refine lv_iload_n hx hb dJ1_charAt_3b067_0 rfl (lv_at hl 1 rfl) ?_
  refine lv_aload_n hx hb dJ1_charAt_3b067_1 rfl (lv_at hl 0 rfl) ?_
  refine va_tlen (v := Int32.ofInt 155) hx hb (hE.2.2.2.2.2.2.1.1 3 (by decide)).2.2.2 hS rfl dJ1_charAt_3b067_2 ?_
  refine z_ESv (n := 2) (As := [.int (Int32.ofInt a1), .int (Int32.ofInt 155)]) (rest := []) hx hb hml hg hown hE hK hP hD hS hA (kJ0_checkIndex_df160 l D dA ad tf tc aK aV a1 155 σ _ _ hw) q841 q166 q839 q840 (by decide +kernel) ⟨(Nat.le_of_ble_eq_true rfl), (Nat.le_of_ble_eq_true rfl)⟩ rfl hl.1 rfl (Nat.le_of_ble_eq_true rfl) dJ1_charAt_3b067_3 ⟨(Nat.le_of_ble_eq_true rfl), (Nat.le_of_ble_eq_true rfl)⟩ (fun σ2 H locs hw hP hD hS => ?_)
  refine lv_aload_n hx hb dJ1_charAt_3b067_6 rfl (lv_at hl 0 rfl) ?_
  refine lv_iload_n hx hb dJ1_charAt_3b067_7 rfl (lv_at hl 1 rfl) ?_
  obtain ⟨o3, hw⟩ := hw
  refine va_tb hx hb (hE.2.2.2.2.2.2.1.1 3 (by decide)).2.2.2 hS (z_in (n := 155) o3 (by decide)) (z_tB (n := 155) o3 (by decide)) dJ1_charAt_3b067_8 ?_
  refine lv_sipush (v := Int32.ofInt 255) hx hb dJ1_charAt_3b067_9 (by decide) ?_
  refine z_iandK (M := 256) hx hb 8 (by decide) (by decide) (by decide) dJ1_charAt_3b067_12 ?_
  refine z_i2c hx hb dJ1_charAt_3b067_13 ?_
  exact hret (((zby 3 a1) % 256) % 65536) σ2 _ _ _ _ (by clear hw; omega) hw hP hD hS dJ1_charAt_3b067_14
def wpJ0_charAt_5068e_S3 (a1 : Int) (σ : ZS) (Q : Int → ZS → Prop) : Prop := wpJ0_isLatin1_aae02_S3 σ (fun (x1 : Int) (σ2 : ZS) => (-2147483648 ≤ x1 ∧ x1 ≤ 2147483647) ∧ (x1 = 0 → False) ∧ (¬ x1 = 0 → wpJ1_charAt_3b067_S3 a1 σ2 (fun (x5 : Int) (σ6 : ZS) => (0 ≤ x5 ∧ x5 ≤ 65535) ∧ Q x5 σ6)))
set_option maxHeartbeats 4000000 in
set_option maxRecDepth 100000 in
theorem kJ0_charAt_5068e_S3 (l : Launch) (D : va_G) (dA : Nat → ClassId) (ad : Int → Nat → Nat) (tf tc : Nat) (aK aV : Nat → Nat) (a1 : Int) (σ : ZS) (Q : Int → ZS → Prop) (sz : Nat) (hw : wpJ0_charAt_5068e_S3 a1 σ Q) : Met l yJ0_charAt_5068e (gws yJ0_charAt_5068e cJ0_charAt_5068e 2 (some .char)) (gR 4 0 0) (gPreE D dA tf tc aK aV [.ref (aK 3), .int (Int32.ofInt a1)] (zC dA ad σ) sz) (va_Qi (zQi Q) (gAt D dA (va_A (zC dA ad σ) sz) (zC dA ad)) (va_A (zC dA ad σ) sz)) 0 0 (va_A (zC dA ad σ) sz) := by
  refine Met.ofW (cc := cJ0_charAt_5068e) (maxL := 2) (ret := (some .char)) (by decide) rfl ?_
  intro p e s m args below meth c s₁ B hml hv
  obtain ⟨rfl, hsz, hP, hK, hD0, hE⟩ := hv
  have hx := B.exec
  have hb := B.bytes
  have hr := B.returns
  have hts := atoms_spec (ws := gws yJ0_charAt_5068e cJ0_charAt_5068e 2 (some .char)) B.pre
  have hg : ∀ w ∈ gw, w.before _ s = true := fun w h => hts w (List.mem_cons_of_mem _ h)
  have hown : s.vm.findClass RJ0 = some m.cls := findClass_of_methodNamed B.named
  have hlocks := B.notSynchronized
  subst hsz
  have hD := hD0.self (sz := s.heap.size)
  generalize hAe : va_A (zC dA ad σ) s.heap.size = A at hD hE ⊢
  have hA : ∀ q : Nat, s.heap.size ≤ q → A q := fun q h => by rw [← hAe]; exact Or.inr h
  have hS : va_S A s.heap s.heap [] := va_S.rf
  have hl := lv_entry ([.ref (aK 3), .int (Int32.ofInt a1)]) (n := 2) (Nat.le_of_ble_eq_true rfl)
  rw [lg_entry_eq]
  generalize (lg_sl ([.ref (aK 3), .int (Int32.ofInt a1)]) ++ List.replicate (2 - (lg_sl ([.ref (aK 3), .int (Int32.ofInt a1)])).length) Slot.unset).toArray = ls at hl ⊢
  have hl : lv_has ls 2 [(0, .ref (aK 3)), (1, .int (Int32.ofInt a1))] := hl
  have hret : ∀ (v : Int) (σ : ZS) (H : Heap) (locs : List Loc) (ls : Array Slot) (pc : Nat), (0 ≤ v ∧ v ≤ 65535) → Q v σ → va_P D vwC (zC dA ad σ) H → va_D A (zC dA ad σ) → va_S A s.heap H locs → decode cJ0_charAt_5068e pc = .ok (.ireturn, 1) → W p l e (gR 4 0 0) s m #[.ref (aK 3), .int (Int32.ofInt a1)] below meth c H locs 0 0 (MQ below (va_Qi (zQi Q) (gAt D dA A (zC dA ad)) A) #[.ref (aK 3), .int (Int32.ofInt a1)] s 0 0 A) (F0 m pc ls [.int (Int32.ofInt v)]) := fun v σ H locs ls pc hv hw hP hD hS hd => g_iret hx hb hr (z_nc hv) hlocks hK σ hP hD hS ⟨v, rfl, hw⟩ (Nat.le_of_ble_eq_true rfl) (Nat.le_of_ble_eq_true rfl) hd
  generalize MQ below (va_Qi (zQi Q) (gAt D dA A (zC dA ad)) A) #[.ref (aK 3), .int (Int32.ofInt a1)] s 0 0 A = QQ at hret ⊢
  unfold wpJ0_charAt_5068e_S3 at hw
  refine lv_aload_n hx hb dJ0_charAt_5068e_0 rfl (lv_at hl 0 rfl) ?_
  refine z_EVi (n := 0) (As := []) (rest := []) hx hb hml hg hown hE hK hP hD hS hA (kJ0_isLatin1_aae02_S3 l D dA ad tf tc aK aV σ _ _ hw) (vk_recv hE.2.2.2.2.2.2.1 (i := 3) (by decide) hS) q835 q166 q832 q833 q834 (by decide +kernel) ⟨(Nat.le_of_ble_eq_true rfl), (Nat.le_of_ble_eq_true rfl)⟩ rfl hl.1 rfl (Nat.le_of_ble_eq_true rfl) dJ0_charAt_5068e_1 ⟨(Nat.le_of_ble_eq_true rfl), (Nat.le_of_ble_eq_true rfl)⟩ (fun x1 σ2 H locs hw hP hD hS => ?_)
  obtain ⟨o3, hw⟩ := hw
  refine z_if_eq (tgt := 16) hx hb o3 dJ0_charAt_5068e_4 (by decide) (fun k4 => ?_) (fun k4 => ?_)
  · replace hw := hw.1 k4
    refine lv_aload_n hx hb dJ0_charAt_5068e_16 rfl (lv_at hl 0 rfl) ?_
    refine vk_getf hx hb (hE.2.2.2.2.2.2.1.1 3 (by decide)).2.2.1 hS hown (hg _ q2258) (fun _ h => h) dJ0_charAt_5068e_17 ?_
    refine lv_iload_n hx hb dJ0_charAt_5068e_20 rfl (lv_at hl 1 rfl) ?_
    exact hw.elim
  · replace hw := hw.2 k4
    refine lv_aload_n hx hb dJ0_charAt_5068e_7 rfl (lv_at hl 0 rfl) ?_
    refine vk_getf hx hb (hE.2.2.2.2.2.2.1.1 3 (by decide)).2.2.1 hS hown (hg _ q2258) (fun _ h => h) dJ0_charAt_5068e_8 ?_
    refine lv_iload_n hx hb dJ0_charAt_5068e_11 rfl (lv_at hl 1 rfl) ?_
    refine z_ESi (n := 2) (As := [.ref (aV 3), .int (Int32.ofInt a1)]) (rest := []) hx hb hml hg hown hE hK hP hD hS hA (kJ1_charAt_3b067_S3 l D dA ad tf tc aK aV a1 σ2 _ _ hw) q838 q169 q836 q837 (by decide +kernel) ⟨(Nat.le_of_ble_eq_true rfl), (Nat.le_of_ble_eq_true rfl)⟩ rfl hl.1 rfl (Nat.le_of_ble_eq_true rfl) dJ0_charAt_5068e_12 ⟨(Nat.le_of_ble_eq_true rfl), (Nat.le_of_ble_eq_true rfl)⟩ (fun x5 σ6 H locs hw hP hD hS => ?_)
    obtain ⟨o7, hw⟩ := hw
    exact hret x5 σ6 _ _ _ _ o7 hw hP hD hS dJ0_charAt_5068e_15
