theorem q2 : Cond.selects RX9 yX9_readWord yX9_readWord ∈ gw := gw_in (i := 2) (by decide +kernel) rfl
theorem q4 : Cond.selects RX9 yX9_readNumber yX9_readNumber ∈ gw := gw_in (i := 4) (by decide +kernel) rfl
theorem q6 : Cond.selects RX8 yX8_label yX8_label ∈ gw := gw_in (i := 6) (by decide +kernel) rfl
theorem q10 : Cond.selects RX8 yX8_mayStand yX8_mayStand ∈ gw := gw_in (i := 10) (by decide +kernel) rfl
theorem q11 : Cond.selects RX8 yX8_directive yX8_directive ∈ gw := gw_in (i := 11) (by decide +kernel) rfl
theorem q22 : Cond.selects RX8 yX8_instruction yX8_instruction ∈ gw := gw_in (i := 22) (by decide +kernel) rfl
theorem q239 : Cond.fieldLink RX9 25 "SegmentBench$Tokens" "names" "LSegmentBench$Names;" ∈ gw := gw_in (i := 239) (by decide +kernel) rfl
theorem q272 : Cond.fieldLink RX8 35 "SegmentBench$Draft" "size" "I" ∈ gw := gw_in (i := 272) (by decide +kernel) rfl
theorem q795 : Cond.methodLink RX9 29 yX5_clear ∈ gw := gw_in (i := 795) (by decide +kernel) rfl
theorem q796 : Cond.instanceMethod yX5_clear ∈ gw := gw_in (i := 796) (by decide +kernel) rfl
theorem q797 : Cond.selects RX5 yX5_clear yX5_clear ∈ gw := gw_in (i := 797) (by decide +kernel) rfl
theorem q798 : Cond.code yX5_clear cX5_clear 1 none ∈ gw := gw_in (i := 798) (by decide +kernel) rfl
theorem q799 : Cond.methodLink RX9 34 yX9_isLetter ∈ gw := gw_in (i := 799) (by decide +kernel) rfl
theorem q800 : Cond.static yX9_isLetter ∈ gw := gw_in (i := 800) (by decide +kernel) rfl
theorem q801 : Cond.code yX9_isLetter cX9_isLetter 1 (some .boolean) ∈ gw := gw_in (i := 801) (by decide +kernel) rfl
theorem q802 : Cond.methodLink RX9 38 yX9_readWord ∈ gw := gw_in (i := 802) (by decide +kernel) rfl
theorem q804 : Cond.instanceMethod yX9_readWord ∈ gw := gw_in (i := 804) (by decide +kernel) rfl
theorem q805 : Cond.code yX9_readWord cX9_readWord 9 (some .int) ∈ gw := gw_in (i := 805) (by decide +kernel) rfl
theorem q809 : Cond.constantLong RX9 68 (128) ∈ gw := gw_in (i := 809) (by decide +kernel) rfl
theorem q815 : Cond.methodLink RX9 72 yX9_ordinal ∈ gw := gw_in (i := 815) (by decide +kernel) rfl
theorem q816 : Cond.static yX9_ordinal ∈ gw := gw_in (i := 816) (by decide +kernel) rfl
theorem q817 : Cond.code yX9_ordinal cX9_ordinal 8 (some .int) ∈ gw := gw_in (i := 817) (by decide +kernel) rfl
theorem q818 : Cond.methodLink RX9 84 yJ0_length_8abf5 ∈ gw := gw_in (i := 818) (by decide +kernel) rfl
theorem q828 : Cond.methodLink RX9 88 yJ0_charAt_5068e ∈ gw := gw_in (i := 828) (by decide +kernel) rfl
theorem q829 : Cond.instanceMethod yJ0_charAt_5068e ∈ gw := gw_in (i := 829) (by decide +kernel) rfl
theorem q830 : Cond.selects RJ0 yJ0_charAt_5068e yJ0_charAt_5068e ∈ gw := gw_in (i := 830) (by decide +kernel) rfl
theorem q831 : Cond.code yJ0_charAt_5068e cJ0_charAt_5068e 2 (some .char) ∈ gw := gw_in (i := 831) (by decide +kernel) rfl
theorem q868 : Cond.methodLink RX9 80 yX5_numberOf ∈ gw := gw_in (i := 868) (by decide +kernel) rfl
theorem q869 : Cond.instanceMethod yX5_numberOf ∈ gw := gw_in (i := 869) (by decide +kernel) rfl
theorem q870 : Cond.selects RX5 yX5_numberOf yX5_numberOf ∈ gw := gw_in (i := 870) (by decide +kernel) rfl
theorem q871 : Cond.code yX5_numberOf cX5_numberOf 5 (some .int) ∈ gw := gw_in (i := 871) (by decide +kernel) rfl
theorem q872 : Cond.methodLink RX9 45 yX9_readNumber ∈ gw := gw_in (i := 872) (by decide +kernel) rfl
theorem q874 : Cond.instanceMethod yX9_readNumber ∈ gw := gw_in (i := 874) (by decide +kernel) rfl
theorem q875 : Cond.code yX9_readNumber cX9_readNumber 6 (some .int) ∈ gw := gw_in (i := 875) (by decide +kernel) rfl
theorem q882 : Cond.methodLink RX9 50 yJ0_indexOf_0f7a4 ∈ gw := gw_in (i := 882) (by decide +kernel) rfl
theorem q883 : Cond.instanceMethod yJ0_indexOf_0f7a4 ∈ gw := gw_in (i := 883) (by decide +kernel) rfl
theorem q884 : Cond.selects RJ0 yJ0_indexOf_0f7a4 yJ0_indexOf_0f7a4 ∈ gw := gw_in (i := 884) (by decide +kernel) rfl
theorem q885 : Cond.code yJ0_indexOf_0f7a4 cJ0_indexOf_0f7a4 2 (some .int) ∈ gw := gw_in (i := 885) (by decide +kernel) rfl
theorem q947 : Cond.methodLink RX8 47 yX8_label ∈ gw := gw_in (i := 947) (by decide +kernel) rfl
theorem q949 : Cond.instanceMethod yX8_label ∈ gw := gw_in (i := 949) (by decide +kernel) rfl
theorem q950 : Cond.code yX8_label cX8_label 2 (some .boolean) ∈ gw := gw_in (i := 950) (by decide +kernel) rfl
theorem q967 : Cond.methodLink RX8 54 yX8_mayStand ∈ gw := gw_in (i := 967) (by decide +kernel) rfl
theorem q969 : Cond.instanceMethod yX8_mayStand ∈ gw := gw_in (i := 969) (by decide +kernel) rfl
theorem q970 : Cond.code yX8_mayStand cX8_mayStand 2 (some .boolean) ∈ gw := gw_in (i := 970) (by decide +kernel) rfl
theorem q971 : Cond.fieldLink RX8 58 "SegmentBench$Parse\x72" "FORM" "[I" ∈ gw := gw_in (i := 971) (by decide +kernel) rfl
theorem q973 : Cond.methodLink RX8 62 yX8_directive ∈ gw := gw_in (i := 973) (by decide +kernel) rfl
theorem q975 : Cond.instanceMethod yX8_directive ∈ gw := gw_in (i := 975) (by decide +kernel) rfl
theorem q976 : Cond.code yX8_directive cX8_directive 2 (some .boolean) ∈ gw := gw_in (i := 976) (by decide +kernel) rfl
theorem q1033 : Cond.fieldLink RX8 65 "SegmentBench$Parse\x72" "CODE" "[I" ∈ gw := gw_in (i := 1033) (by decide +kernel) rfl
theorem q1035 : Cond.methodLink RX8 68 yX8_instruction ∈ gw := gw_in (i := 1035) (by decide +kernel) rfl
theorem q1037 : Cond.instanceMethod yX8_instruction ∈ gw := gw_in (i := 1037) (by decide +kernel) rfl
theorem q1038 : Cond.code yX8_instruction cX8_instruction 3 (some .boolean) ∈ gw := gw_in (i := 1038) (by decide +kernel) rfl
theorem dX9_ordinal_0 : decode cX9_ordinal 0 = .ok (.iconst 0, 1) := by decide +kernel
theorem dX9_ordinal_1 : decode cX9_ordinal 1 = .ok (.istore 4, 2) := by decide +kernel
theorem dX9_ordinal_3 : decode cX9_ordinal 3 = .ok (.iconst 0, 1) := by decide +kernel
theorem dX9_ordinal_4 : decode cX9_ordinal 4 = .ok (.istore 5, 2) := by decide +kernel
theorem dX9_ordinal_6 : decode cX9_ordinal 6 = .ok (.iconst 1, 1) := by decide +kernel
theorem dX9_ordinal_7 : decode cX9_ordinal 7 = .ok (.istore 6, 2) := by decide +kernel
theorem dX9_ordinal_9 : decode cX9_ordinal 9 = .ok (.iconst 0, 1) := by decide +kernel
theorem dX9_ordinal_10 : decode cX9_ordinal 10 = .ok (.istore 7, 2) := by decide +kernel
theorem dX9_ordinal_12 : decode cX9_ordinal 12 = .ok (.iload 7, 2) := by decide +kernel
theorem dX9_ordinal_14 : decode cX9_ordinal 14 = .ok (.aload_n 0, 1) := by decide +kernel
theorem dX9_ordinal_15 : decode cX9_ordinal 15 = .ok (.invokevirtual 84, 3) := by decide +kernel
theorem dX9_ordinal_18 : decode cX9_ordinal 18 = .ok (.if_icmp .gt 95, 3) := by decide +kernel
theorem dX9_ordinal_113 : decode cX9_ordinal 113 = .ok (.iconst (-1), 1) := by decide +kernel
theorem dX9_ordinal_114 : decode cX9_ordinal 114 = .ok (.ireturn, 1) := by decide +kernel
theorem dX9_ordinal_21 : decode cX9_ordinal 21 = .ok (.iload 7, 2) := by decide +kernel
theorem dX9_ordinal_23 : decode cX9_ordinal 23 = .ok (.aload_n 0, 1) := by decide +kernel
theorem dX9_ordinal_24 : decode cX9_ordinal 24 = .ok (.invokevirtual 84, 3) := by decide +kernel
theorem dX9_ordinal_27 : decode cX9_ordinal 27 = .ok (.if_icmp .eq 14, 3) := by decide +kernel
theorem dX9_ordinal_30 : decode cX9_ordinal 30 = .ok (.aload_n 0, 1) := by decide +kernel
theorem dX9_ordinal_31 : decode cX9_ordinal 31 = .ok (.iload 7, 2) := by decide +kernel
theorem dX9_ordinal_33 : decode cX9_ordinal 33 = .ok (.invokevirtual 88, 3) := by decide +kernel
theorem dX9_ordinal_36 : decode cX9_ordinal 36 = .ok (.bipush 32, 2) := by decide +kernel
theorem dX9_ordinal_38 : decode cX9_ordinal 38 = .ok (.if_icmp .ne 31, 3) := by decide +kernel
theorem dX9_ordinal_69 : decode cX9_ordinal 69 = .ok (.iload 6, 2) := by decide +kernel
theorem dX9_ordinal_71 : decode cX9_ordinal 71 = .ok (.ifCond .eq 30, 3) := by decide +kernel
theorem dX9_ordinal_74 : decode cX9_ordinal 74 = .ok (.iload_n 2, 1) := by decide +kernel
theorem dX9_ordinal_75 : decode cX9_ordinal 75 = .ok (.iload 5, 2) := by decide +kernel
theorem dX9_ordinal_77 : decode cX9_ordinal 77 = .ok (.iadd, 1) := by decide +kernel
theorem dX9_ordinal_78 : decode cX9_ordinal 78 = .ok (.iload_n 3, 1) := by decide +kernel
theorem dX9_ordinal_79 : decode cX9_ordinal 79 = .ok (.if_icmp .ge 22, 3) := by decide +kernel
theorem dX9_ordinal_82 : decode cX9_ordinal 82 = .ok (.aload_n 1, 1) := by decide +kernel
theorem dX9_ordinal_83 : decode cX9_ordinal 83 = .ok (.iload_n 2, 1) := by decide +kernel
theorem dX9_ordinal_84 : decode cX9_ordinal 84 = .ok (.iload 5, 2) := by decide +kernel
theorem dX9_ordinal_86 : decode cX9_ordinal 86 = .ok (.iadd, 1) := by decide +kernel
theorem dX9_ordinal_87 : decode cX9_ordinal 87 = .ok (.caload, 1) := by decide +kernel
theorem dX9_ordinal_88 : decode cX9_ordinal 88 = .ok (.aload_n 0, 1) := by decide +kernel
theorem dX9_ordinal_89 : decode cX9_ordinal 89 = .ok (.iload 7, 2) := by decide +kernel
theorem dX9_ordinal_91 : decode cX9_ordinal 91 = .ok (.invokevirtual 88, 3) := by decide +kernel
theorem dX9_ordinal_94 : decode cX9_ordinal 94 = .ok (.if_icmp .ne 7, 3) := by decide +kernel
theorem dX9_ordinal_97 : decode cX9_ordinal 97 = .ok (.iconst 1, 1) := by decide +kernel
theorem dX9_ordinal_98 : decode cX9_ordinal 98 = .ok (.goto 4, 3) := by decide +kernel
theorem dX9_ordinal_41 : decode cX9_ordinal 41 = .ok (.iload 6, 2) := by decide +kernel
theorem dX9_ordinal_43 : decode cX9_ordinal 43 = .ok (.ifCond .eq 14, 3) := by decide +kernel
theorem dX9_ordinal_46 : decode cX9_ordinal 46 = .ok (.iload_n 2, 1) := by decide +kernel
theorem dX9_ordinal_47 : decode cX9_ordinal 47 = .ok (.iload 5, 2) := by decide +kernel
theorem dX9_ordinal_49 : decode cX9_ordinal 49 = .ok (.iadd, 1) := by decide +kernel
theorem dX9_ordinal_50 : decode cX9_ordinal 50 = .ok (.iload_n 3, 1) := by decide +kernel
theorem dX9_ordinal_51 : decode cX9_ordinal 51 = .ok (.if_icmp .ne 6, 3) := by decide +kernel
theorem dX9_ordinal_54 : decode cX9_ordinal 54 = .ok (.iload 4, 2) := by decide +kernel
theorem dX9_ordinal_56 : decode cX9_ordinal 56 = .ok (.ireturn, 1) := by decide +kernel
theorem dX9_ordinal_101 : decode cX9_ordinal 101 = .ok (.iconst 0, 1) := by decide +kernel
theorem dX9_ordinal_102 : decode cX9_ordinal 102 = .ok (.istore 6, 2) := by decide +kernel
theorem dX9_ordinal_104 : decode cX9_ordinal 104 = .ok (.iinc 5 1, 3) := by decide +kernel
theorem dX9_ordinal_57 : decode cX9_ordinal 57 = .ok (.iinc 4 1, 3) := by decide +kernel
theorem dX9_ordinal_60 : decode cX9_ordinal 60 = .ok (.iconst 0, 1) := by decide +kernel
theorem dX9_ordinal_61 : decode cX9_ordinal 61 = .ok (.istore 5, 2) := by decide +kernel
theorem dX9_ordinal_63 : decode cX9_ordinal 63 = .ok (.iconst 1, 1) := by decide +kernel
theorem dX9_ordinal_64 : decode cX9_ordinal 64 = .ok (.istore 6, 2) := by decide +kernel
theorem dX9_ordinal_66 : decode cX9_ordinal 66 = .ok (.goto 41, 3) := by decide +kernel
theorem dX9_ordinal_107 : decode cX9_ordinal 107 = .ok (.iinc 7 1, 3) := by decide +kernel
theorem dX9_ordinal_110 : decode cX9_ordinal 110 = .ok (.goto (-98), 3) := by decide +kernel
theorem dX9_readWord_0 : decode cX9_readWord 0 = .ok (.iload_n 2, 1) := by decide +kernel
theorem dX9_readWord_1 : decode cX9_readWord 1 = .ok (.istore 4, 2) := by decide +kernel
theorem dX9_readWord_3 : decode cX9_readWord 3 = .ok (.lconst 0, 1) := by decide +kernel
theorem dX9_readWord_4 : decode cX9_readWord 4 = .ok (.lstore 5, 2) := by decide +kernel
theorem dX9_readWord_6 : decode cX9_readWord 6 = .ok (.iload 4, 2) := by decide +kernel
theorem dX9_readWord_8 : decode cX9_readWord 8 = .ok (.iload_n 3, 1) := by decide +kernel
theorem dX9_readWord_9 : decode cX9_readWord 9 = .ok (.if_icmp .ge 43, 3) := by decide +kernel
theorem dX9_readWord_12 : decode cX9_readWord 12 = .ok (.aload_n 1, 1) := by decide +kernel
theorem dX9_readWord_13 : decode cX9_readWord 13 = .ok (.iload 4, 2) := by decide +kernel
theorem dX9_readWord_15 : decode cX9_readWord 15 = .ok (.caload, 1) := by decide +kernel
theorem dX9_readWord_16 : decode cX9_readWord 16 = .ok (.invokestatic 34, 3) := by decide +kernel
theorem dX9_readWord_19 : decode cX9_readWord 19 = .ok (.ifCond .ne 13, 3) := by decide +kernel
theorem dX9_readWord_22 : decode cX9_readWord 22 = .ok (.aload_n 1, 1) := by decide +kernel
theorem dX9_readWord_23 : decode cX9_readWord 23 = .ok (.iload 4, 2) := by decide +kernel
theorem dX9_readWord_25 : decode cX9_readWord 25 = .ok (.caload, 1) := by decide +kernel
theorem dX9_readWord_26 : decode cX9_readWord 26 = .ok (.invokestatic 42, 3) := by decide +kernel
theorem dX9_readWord_29 : decode cX9_readWord 29 = .ok (.ifCond .eq 23, 3) := by decide +kernel
theorem dX9_readWord_52 : decode cX9_readWord 52 = .ok (.iload 4, 2) := by decide +kernel
theorem dX9_readWord_54 : decode cX9_readWord 54 = .ok (.iload_n 2, 1) := by decide +kernel
theorem dX9_readWord_55 : decode cX9_readWord 55 = .ok (.isub, 1) := by decide +kernel
theorem dX9_readWord_56 : decode cX9_readWord 56 = .ok (.bipush 6, 2) := by decide +kernel
theorem dX9_readWord_58 : decode cX9_readWord 58 = .ok (.if_icmp .le 13, 3) := by decide +kernel
theorem dX9_readWord_71 : decode cX9_readWord 71 = .ok (.iconst 4, 1) := by decide +kernel
theorem dX9_readWord_72 : decode cX9_readWord 72 = .ok (.istore 7, 2) := by decide +kernel
theorem dX9_readWord_74 : decode cX9_readWord 74 = .ok (.ldc 70, 2) := by decide +kernel
theorem dX9_readWord_76 : decode cX9_readWord 76 = .ok (.aload_n 1, 1) := by decide +kernel
theorem dX9_readWord_77 : decode cX9_readWord 77 = .ok (.iload_n 2, 1) := by decide +kernel
theorem dX9_readWord_78 : decode cX9_readWord 78 = .ok (.iload 4, 2) := by decide +kernel
theorem dX9_readWord_80 : decode cX9_readWord 80 = .ok (.invokestatic 72, 3) := by decide +kernel
theorem dX9_readWord_83 : decode cX9_readWord 83 = .ok (.istore 8, 2) := by decide +kernel
theorem dX9_readWord_85 : decode cX9_readWord 85 = .ok (.iload 8, 2) := by decide +kernel
theorem dX9_readWord_87 : decode cX9_readWord 87 = .ok (.ifCond .ge 17, 3) := by decide +kernel
theorem dX9_readWord_90 : decode cX9_readWord 90 = .ok (.iconst 5, 1) := by decide +kernel
theorem dX9_readWord_91 : decode cX9_readWord 91 = .ok (.istore 7, 2) := by decide +kernel
theorem dX9_readWord_93 : decode cX9_readWord 93 = .ok (.ldc 76, 2) := by decide +kernel
theorem dX9_readWord_95 : decode cX9_readWord 95 = .ok (.aload_n 1, 1) := by decide +kernel
theorem dX9_readWord_96 : decode cX9_readWord 96 = .ok (.iload_n 2, 1) := by decide +kernel
theorem dX9_readWord_97 : decode cX9_readWord 97 = .ok (.iload 4, 2) := by decide +kernel
theorem dX9_readWord_99 : decode cX9_readWord 99 = .ok (.invokestatic 72, 3) := by decide +kernel
theorem dX9_readWord_102 : decode cX9_readWord 102 = .ok (.istore 8, 2) := by decide +kernel
theorem dX9_readWord_61 : decode cX9_readWord 61 = .ok (.aload_n 0, 1) := by decide +kernel
theorem dX9_readWord_62 : decode cX9_readWord 62 = .ok (.iconst 1, 1) := by decide +kernel
theorem dX9_readWord_63 : decode cX9_readWord 63 = .ok (.iconst 0, 1) := by decide +kernel
theorem dX9_readWord_64 : decode cX9_readWord 64 = .ok (.iload_n 2, 1) := by decide +kernel
theorem dX9_readWord_65 : decode cX9_readWord 65 = .ok (.invokevirtual 56, 3) := by decide +kernel
theorem dX9_readWord_68 : decode cX9_readWord 68 = .ok (.iload 4, 2) := by decide +kernel
theorem dX9_readWord_70 : decode cX9_readWord 70 = .ok (.ireturn, 1) := by decide +kernel
theorem dX9_readWord_32 : decode cX9_readWord 32 = .ok (.lload 5, 2) := by decide +kernel
theorem dX9_readWord_34 : decode cX9_readWord 34 = .ok (.ldc2_w 68, 3) := by decide +kernel
theorem dX9_readWord_37 : decode cX9_readWord 37 = .ok (.lmul, 1) := by decide +kernel
theorem dX9_readWord_38 : decode cX9_readWord 38 = .ok (.aload_n 1, 1) := by decide +kernel
theorem dX9_readWord_39 : decode cX9_readWord 39 = .ok (.iload 4, 2) := by decide +kernel
theorem dX9_readWord_41 : decode cX9_readWord 41 = .ok (.caload, 1) := by decide +kernel
theorem dX9_readWord_42 : decode cX9_readWord 42 = .ok (.i2l, 1) := by decide +kernel
theorem dX9_readWord_43 : decode cX9_readWord 43 = .ok (.ladd, 1) := by decide +kernel
theorem dX9_readWord_44 : decode cX9_readWord 44 = .ok (.lstore 5, 2) := by decide +kernel
theorem dX9_readWord_46 : decode cX9_readWord 46 = .ok (.iinc 4 1, 3) := by decide +kernel
theorem dX9_readWord_49 : decode cX9_readWord 49 = .ok (.goto (-43), 3) := by decide +kernel
theorem dX9_readWord_104 : decode cX9_readWord 104 = .ok (.iload 8, 2) := by decide +kernel
theorem dX9_readWord_106 : decode cX9_readWord 106 = .ok (.ifCond .ge 18, 3) := by decide +kernel
theorem dX9_readWord_109 : decode cX9_readWord 109 = .ok (.bipush 6, 2) := by decide +kernel
theorem dX9_readWord_111 : decode cX9_readWord 111 = .ok (.istore 7, 2) := by decide +kernel
theorem dX9_readWord_113 : decode cX9_readWord 113 = .ok (.ldc 78, 2) := by decide +kernel
theorem dX9_readWord_115 : decode cX9_readWord 115 = .ok (.aload_n 1, 1) := by decide +kernel
theorem dX9_readWord_116 : decode cX9_readWord 116 = .ok (.iload_n 2, 1) := by decide +kernel
theorem dX9_readWord_117 : decode cX9_readWord 117 = .ok (.iload 4, 2) := by decide +kernel
theorem dX9_readWord_119 : decode cX9_readWord 119 = .ok (.invokestatic 72, 3) := by decide +kernel
theorem dX9_readWord_122 : decode cX9_readWord 122 = .ok (.istore 8, 2) := by decide +kernel
theorem dX9_readWord_124 : decode cX9_readWord 124 = .ok (.iload 8, 2) := by decide +kernel
theorem dX9_readWord_126 : decode cX9_readWord 126 = .ok (.ifCond .ge 18, 3) := by decide +kernel
theorem dX9_readWord_129 : decode cX9_readWord 129 = .ok (.iconst 3, 1) := by decide +kernel
theorem dX9_readWord_130 : decode cX9_readWord 130 = .ok (.istore 7, 2) := by decide +kernel
theorem dX9_readWord_132 : decode cX9_readWord 132 = .ok (.aload_n 0, 1) := by decide +kernel
theorem dX9_readWord_133 : decode cX9_readWord 133 = .ok (.getfield 25, 3) := by decide +kernel
theorem dX9_readWord_136 : decode cX9_readWord 136 = .ok (.lload 5, 2) := by decide +kernel
theorem dX9_readWord_138 : decode cX9_readWord 138 = .ok (.iload_n 2, 1) := by decide +kernel
theorem dX9_readWord_139 : decode cX9_readWord 139 = .ok (.invokevirtual 80, 3) := by decide +kernel
theorem dX9_readWord_142 : decode cX9_readWord 142 = .ok (.istore 8, 2) := by decide +kernel
theorem dX9_readWord_144 : decode cX9_readWord 144 = .ok (.aload_n 0, 1) := by decide +kernel
theorem dX9_readWord_145 : decode cX9_readWord 145 = .ok (.iload 7, 2) := by decide +kernel
theorem dX9_readWord_147 : decode cX9_readWord 147 = .ok (.iload 8, 2) := by decide +kernel
theorem dX9_readWord_149 : decode cX9_readWord 149 = .ok (.iload_n 2, 1) := by decide +kernel
theorem dX9_readWord_150 : decode cX9_readWord 150 = .ok (.invokevirtual 56, 3) := by decide +kernel
theorem dX9_readWord_153 : decode cX9_readWord 153 = .ok (.iload 4, 2) := by decide +kernel
theorem dX9_readWord_155 : decode cX9_readWord 155 = .ok (.ireturn, 1) := by decide +kernel
theorem dX9_read_0 : decode cX9_read 0 = .ok (.aload_n 0, 1) := by decide +kernel
theorem dX9_read_1 : decode cX9_read 1 = .ok (.iconst 0, 1) := by decide +kernel
theorem dX9_read_2 : decode cX9_read 2 = .ok (.putfield 21, 3) := by decide +kernel
theorem dX9_read_5 : decode cX9_read 5 = .ok (.aload_n 0, 1) := by decide +kernel
theorem dX9_read_6 : decode cX9_read 6 = .ok (.getfield 25, 3) := by decide +kernel
theorem dX9_read_9 : decode cX9_read 9 = .ok (.invokevirtual 29, 3) := by decide +kernel
theorem dX9_read_12 : decode cX9_read 12 = .ok (.iconst 0, 1) := by decide +kernel
theorem dX9_read_13 : decode cX9_read 13 = .ok (.istore_n 3, 1) := by decide +kernel
theorem dX9_read_14 : decode cX9_read 14 = .ok (.iconst 0, 1) := by decide +kernel
theorem dX9_read_15 : decode cX9_read 15 = .ok (.istore 4, 2) := by decide +kernel
theorem dX9_read_17 : decode cX9_read 17 = .ok (.iload 4, 2) := by decide +kernel
theorem dX9_read_19 : decode cX9_read 19 = .ok (.iload_n 2, 1) := by decide +kernel
theorem dX9_read_20 : decode cX9_read 20 = .ok (.if_icmp .ge 89, 3) := by decide +kernel
theorem dX9_read_23 : decode cX9_read 23 = .ok (.iload_n 3, 1) := by decide +kernel
theorem dX9_read_24 : decode cX9_read 24 = .ok (.iload_n 2, 1) := by decide +kernel
theorem dX9_read_25 : decode cX9_read 25 = .ok (.if_icmp .ge 84, 3) := by decide +kernel
theorem dX9_read_28 : decode cX9_read 28 = .ok (.aload_n 1, 1) := by decide +kernel
theorem dX9_read_29 : decode cX9_read 29 = .ok (.iload_n 3, 1) := by decide +kernel
theorem dX9_read_30 : decode cX9_read 30 = .ok (.caload, 1) := by decide +kernel
theorem dX9_read_31 : decode cX9_read 31 = .ok (.istore 5, 2) := by decide +kernel
theorem dX9_read_33 : decode cX9_read 33 = .ok (.iload 5, 2) := by decide +kernel
theorem dX9_read_35 : decode cX9_read 35 = .ok (.invokestatic 34, 3) := by decide +kernel
theorem dX9_read_38 : decode cX9_read 38 = .ok (.ifCond .eq 14, 3) := by decide +kernel
theorem dX9_read_52 : decode cX9_read 52 = .ok (.iload 5, 2) := by decide +kernel
theorem dX9_read_54 : decode cX9_read 54 = .ok (.invokestatic 42, 3) := by decide +kernel
theorem dX9_read_57 : decode cX9_read 57 = .ok (.ifCond .eq 14, 3) := by decide +kernel
theorem dX9_read_71 : decode cX9_read 71 = .ok (.iload 5, 2) := by decide +kernel
theorem dX9_read_73 : decode cX9_read 73 = .ok (.bipush 32, 2) := by decide +kernel
theorem dX9_read_75 : decode cX9_read 75 = .ok (.if_icmp .eq 25, 3) := by decide +kernel
theorem dX9_read_78 : decode cX9_read 78 = .ok (.aload_n 0, 1) := by decide +kernel
theorem dX9_read_79 : decode cX9_read 79 = .ok (.ldc 48, 2) := by decide +kernel
theorem dX9_read_81 : decode cX9_read 81 = .ok (.iload 5, 2) := by decide +kernel
theorem dX9_read_83 : decode cX9_read 83 = .ok (.invokevirtual 50, 3) := by decide +kernel
theorem dX9_read_86 : decode cX9_read 86 = .ok (.ifCond .lt 8, 3) := by decide +kernel
theorem dX9_read_94 : decode cX9_read 94 = .ok (.iconst 1, 1) := by decide +kernel
theorem dX9_read_89 : decode cX9_read 89 = .ok (.iload 5, 2) := by decide +kernel
theorem dX9_read_91 : decode cX9_read 91 = .ok (.goto 4, 3) := by decide +kernel
theorem dX9_read_60 : decode cX9_read 60 = .ok (.aload_n 0, 1) := by decide +kernel
theorem dX9_read_61 : decode cX9_read 61 = .ok (.aload_n 1, 1) := by decide +kernel
theorem dX9_read_62 : decode cX9_read 62 = .ok (.iload_n 3, 1) := by decide +kernel
theorem dX9_read_63 : decode cX9_read 63 = .ok (.iload_n 2, 1) := by decide +kernel
theorem dX9_read_64 : decode cX9_read 64 = .ok (.invokevirtual 45, 3) := by decide +kernel
theorem dX9_read_67 : decode cX9_read 67 = .ok (.istore_n 3, 1) := by decide +kernel
theorem dX9_read_68 : decode cX9_read 68 = .ok (.goto 35, 3) := by decide +kernel
theorem dX9_read_41 : decode cX9_read 41 = .ok (.aload_n 0, 1) := by decide +kernel
theorem dX9_read_42 : decode cX9_read 42 = .ok (.aload_n 1, 1) := by decide +kernel
theorem dX9_read_43 : decode cX9_read 43 = .ok (.iload_n 3, 1) := by decide +kernel
theorem dX9_read_44 : decode cX9_read 44 = .ok (.iload_n 2, 1) := by decide +kernel
theorem dX9_read_45 : decode cX9_read 45 = .ok (.invokevirtual 38, 3) := by decide +kernel
theorem dX9_read_48 : decode cX9_read 48 = .ok (.istore_n 3, 1) := by decide +kernel
theorem dX9_read_49 : decode cX9_read 49 = .ok (.goto 54, 3) := by decide +kernel
theorem dX9_read_109 : decode cX9_read 109 = .ok (.aload_n 0, 1) := by decide +kernel
theorem dX9_read_110 : decode cX9_read 110 = .ok (.iconst 0, 1) := by decide +kernel
theorem dX9_read_111 : decode cX9_read 111 = .ok (.iconst 0, 1) := by decide +kernel
theorem dX9_read_112 : decode cX9_read 112 = .ok (.iload_n 2, 1) := by decide +kernel
theorem dX9_read_113 : decode cX9_read 113 = .ok (.invokevirtual 56, 3) := by decide +kernel
theorem dX9_read_116 : decode cX9_read 116 = .ok (.return_, 1) := by decide +kernel
theorem dX9_read_100 : decode cX9_read 100 = .ok (.iinc 3 1, 3) := by decide +kernel
theorem dX9_read_95 : decode cX9_read 95 = .ok (.iconst 0, 1) := by decide +kernel
theorem dX9_read_96 : decode cX9_read 96 = .ok (.iload_n 3, 1) := by decide +kernel
theorem dX9_read_97 : decode cX9_read 97 = .ok (.invokevirtual 56, 3) := by decide +kernel
theorem dX9_read_103 : decode cX9_read 103 = .ok (.iinc 4 1, 3) := by decide +kernel
theorem dX9_read_106 : decode cX9_read 106 = .ok (.goto (-89), 3) := by decide +kernel
theorem dX8_mayStand_0 : decode cX8_mayStand 0 = .ok (.iload_n 1, 1) := by decide +kernel
theorem dX8_mayStand_1 : decode cX8_mayStand 1 = .ok (.ifCond .lt 31, 3) := by decide +kernel
theorem dX8_mayStand_4 : decode cX8_mayStand 4 = .ok (.iload_n 1, 1) := by decide +kernel
theorem dX8_mayStand_5 : decode cX8_mayStand 5 = .ok (.getstatic 58, 3) := by decide +kernel
theorem dX8_mayStand_8 : decode cX8_mayStand 8 = .ok (.arraylength, 1) := by decide +kernel
theorem dX8_mayStand_9 : decode cX8_mayStand 9 = .ok (.if_icmp .ge 23, 3) := by decide +kernel
theorem dX8_mayStand_12 : decode cX8_mayStand 12 = .ok (.aload_n 0, 1) := by decide +kernel
theorem dX8_mayStand_13 : decode cX8_mayStand 13 = .ok (.getfield 31, 3) := by decide +kernel
theorem dX8_mayStand_16 : decode cX8_mayStand 16 = .ok (.ifCond .ne 12, 3) := by decide +kernel
theorem dX8_mayStand_19 : decode cX8_mayStand 19 = .ok (.getstatic 58, 3) := by decide +kernel
theorem dX8_mayStand_22 : decode cX8_mayStand 22 = .ok (.iload_n 1, 1) := by decide +kernel
theorem dX8_mayStand_23 : decode cX8_mayStand 23 = .ok (.iaload, 1) := by decide +kernel
theorem dX8_mayStand_24 : decode cX8_mayStand 24 = .ok (.iconst 2, 1) := by decide +kernel
theorem dX8_mayStand_25 : decode cX8_mayStand 25 = .ok (.if_icmp .gt 7, 3) := by decide +kernel
theorem dX8_mayStand_32 : decode cX8_mayStand 32 = .ok (.iconst 0, 1) := by decide +kernel
theorem dX8_mayStand_28 : decode cX8_mayStand 28 = .ok (.iconst 1, 1) := by decide +kernel
theorem dX8_mayStand_29 : decode cX8_mayStand 29 = .ok (.goto 4, 3) := by decide +kernel
theorem dX8_mayStand_33 : decode cX8_mayStand 33 = .ok (.ireturn, 1) := by decide +kernel
theorem dX8_parse_0 : decode cX8_parse 0 = .ok (.aload_n 0, 1) := by decide +kernel
theorem dX8_parse_1 : decode cX8_parse 1 = .ok (.iconst 0, 1) := by decide +kernel
theorem dX8_parse_2 : decode cX8_parse 2 = .ok (.putfield 27, 3) := by decide +kernel
theorem dX8_parse_5 : decode cX8_parse 5 = .ok (.aload_n 0, 1) := by decide +kernel
theorem dX8_parse_6 : decode cX8_parse 6 = .ok (.iconst 0, 1) := by decide +kernel
theorem dX8_parse_7 : decode cX8_parse 7 = .ok (.putfield 31, 3) := by decide +kernel
theorem dX8_parse_10 : decode cX8_parse 10 = .ok (.aload_n 0, 1) := by decide +kernel
theorem dX8_parse_11 : decode cX8_parse 11 = .ok (.getfield 13, 3) := by decide +kernel
theorem dX8_parse_14 : decode cX8_parse 14 = .ok (.iconst 0, 1) := by decide +kernel
theorem dX8_parse_15 : decode cX8_parse 15 = .ok (.putfield 35, 3) := by decide +kernel
theorem dX8_parse_18 : decode cX8_parse 18 = .ok (.iconst 0, 1) := by decide +kernel
theorem dX8_parse_19 : decode cX8_parse 19 = .ok (.istore_n 1, 1) := by decide +kernel
theorem dX8_parse_20 : decode cX8_parse 20 = .ok (.iload_n 1, 1) := by decide +kernel
theorem dX8_parse_21 : decode cX8_parse 21 = .ok (.aload_n 0, 1) := by decide +kernel
theorem dX8_parse_22 : decode cX8_parse 22 = .ok (.getfield 7, 3) := by decide +kernel
theorem dX8_parse_25 : decode cX8_parse 25 = .ok (.getfield 40, 3) := by decide +kernel
theorem dX8_parse_28 : decode cX8_parse 28 = .ok (.if_icmp .ge 137, 3) := by decide +kernel
theorem dX8_parse_31 : decode cX8_parse 31 = .ok (.aload_n 0, 1) := by decide +kernel
theorem dX8_parse_32 : decode cX8_parse 32 = .ok (.invokevirtual 43, 3) := by decide +kernel
theorem dX8_parse_35 : decode cX8_parse 35 = .ok (.ifCond .eq 130, 3) := by decide +kernel
theorem dX8_parse_38 : decode cX8_parse 38 = .ok (.aload_n 0, 1) := by decide +kernel
theorem dX8_parse_39 : decode cX8_parse 39 = .ok (.invokevirtual 43, 3) := by decide +kernel
theorem dX8_parse_42 : decode cX8_parse 42 = .ok (.iconst 3, 1) := by decide +kernel
theorem dX8_parse_43 : decode cX8_parse 43 = .ok (.if_icmp .ne 10, 3) := by decide +kernel
theorem dX8_parse_46 : decode cX8_parse 46 = .ok (.aload_n 0, 1) := by decide +kernel
theorem dX8_parse_47 : decode cX8_parse 47 = .ok (.invokevirtual 47, 3) := by decide +kernel
theorem dX8_parse_50 : decode cX8_parse 50 = .ok (.ifCond .eq 7, 3) := by decide +kernel
theorem dX8_parse_57 : decode cX8_parse 57 = .ok (.iconst 0, 1) := by decide +kernel
theorem dX8_parse_165 : decode cX8_parse 165 = .ok (.iconst (-1), 1) := by decide +kernel
theorem dX8_parse_166 : decode cX8_parse 166 = .ok (.ireturn, 1) := by decide +kernel
theorem dX8_parse_53 : decode cX8_parse 53 = .ok (.iconst 1, 1) := by decide +kernel
theorem dX8_parse_54 : decode cX8_parse 54 = .ok (.goto 4, 3) := by decide +kernel
theorem dX8_parse_58 : decode cX8_parse 58 = .ok (.istore_n 2, 1) := by decide +kernel
theorem dX8_parse_59 : decode cX8_parse 59 = .ok (.iload_n 2, 1) := by decide +kernel
theorem dX8_parse_60 : decode cX8_parse 60 = .ok (.ifCond .eq 73, 3) := by decide +kernel
theorem dX8_parse_63 : decode cX8_parse 63 = .ok (.aload_n 0, 1) := by decide +kernel
theorem dX8_parse_64 : decode cX8_parse 64 = .ok (.invokevirtual 43, 3) := by decide +kernel
theorem dX8_parse_67 : decode cX8_parse 67 = .ok (.bipush 6, 2) := by decide +kernel
theorem dX8_parse_69 : decode cX8_parse 69 = .ok (.if_icmp .ne 64, 3) := by decide +kernel
theorem dX8_parse_72 : decode cX8_parse 72 = .ok (.aload_n 0, 1) := by decide +kernel
theorem dX8_parse_73 : decode cX8_parse 73 = .ok (.invokevirtual 51, 3) := by decide +kernel
theorem dX8_parse_76 : decode cX8_parse 76 = .ok (.istore_n 3, 1) := by decide +kernel
theorem dX8_parse_77 : decode cX8_parse 77 = .ok (.aload_n 0, 1) := by decide +kernel
theorem dX8_parse_78 : decode cX8_parse 78 = .ok (.iload_n 3, 1) := by decide +kernel
theorem dX8_parse_79 : decode cX8_parse 79 = .ok (.invokevirtual 54, 3) := by decide +kernel
theorem dX8_parse_82 : decode cX8_parse 82 = .ok (.ifCond .eq 49, 3) := by decide +kernel
theorem dX8_parse_85 : decode cX8_parse 85 = .ok (.getstatic 58, 3) := by decide +kernel
theorem dX8_parse_88 : decode cX8_parse 88 = .ok (.iload_n 3, 1) := by decide +kernel
theorem dX8_parse_89 : decode cX8_parse 89 = .ok (.iaload, 1) := by decide +kernel
theorem dX8_parse_90 : decode cX8_parse 90 = .ok (.bipush 6, 2) := by decide +kernel
theorem dX8_parse_92 : decode cX8_parse 92 = .ok (.if_icmp .ge 18, 3) := by decide +kernel
theorem dX8_parse_110 : decode cX8_parse 110 = .ok (.aload_n 0, 1) := by decide +kernel
theorem dX8_parse_111 : decode cX8_parse 111 = .ok (.getstatic 58, 3) := by decide +kernel
theorem dX8_parse_114 : decode cX8_parse 114 = .ok (.iload_n 3, 1) := by decide +kernel
theorem dX8_parse_115 : decode cX8_parse 115 = .ok (.iaload, 1) := by decide +kernel
theorem dX8_parse_116 : decode cX8_parse 116 = .ok (.getstatic 65, 3) := by decide +kernel
theorem dX8_parse_119 : decode cX8_parse 119 = .ok (.iload_n 3, 1) := by decide +kernel
theorem dX8_parse_120 : decode cX8_parse 120 = .ok (.iaload, 1) := by decide +kernel
theorem dX8_parse_121 : decode cX8_parse 121 = .ok (.invokevirtual 68, 3) := by decide +kernel
theorem dX8_parse_124 : decode cX8_parse 124 = .ok (.ifCond .eq 7, 3) := by decide +kernel
theorem dX8_parse_95 : decode cX8_parse 95 = .ok (.aload_n 0, 1) := by decide +kernel
theorem dX8_parse_96 : decode cX8_parse 96 = .ok (.getstatic 58, 3) := by decide +kernel
theorem dX8_parse_99 : decode cX8_parse 99 = .ok (.iload_n 3, 1) := by decide +kernel
theorem dX8_parse_100 : decode cX8_parse 100 = .ok (.iaload, 1) := by decide +kernel
theorem dX8_parse_101 : decode cX8_parse 101 = .ok (.invokevirtual 62, 3) := by decide +kernel
theorem dX8_parse_104 : decode cX8_parse 104 = .ok (.ifCond .eq 27, 3) := by decide +kernel
theorem dX8_parse_107 : decode cX8_parse 107 = .ok (.goto 20, 3) := by decide +kernel
theorem dX8_parse_133 : decode cX8_parse 133 = .ok (.iload_n 2, 1) := by decide +kernel
theorem dX8_parse_134 : decode cX8_parse 134 = .ok (.ifCond .eq 12, 3) := by decide +kernel
theorem dX8_parse_137 : decode cX8_parse 137 = .ok (.aload_n 0, 1) := by decide +kernel
theorem dX8_parse_138 : decode cX8_parse 138 = .ok (.bipush 59, 2) := by decide +kernel
theorem dX8_parse_140 : decode cX8_parse 140 = .ok (.invokevirtual 72, 3) := by decide +kernel
theorem dX8_parse_143 : decode cX8_parse 143 = .ok (.ifCond .ne 16, 3) := by decide +kernel
theorem dX8_parse_159 : decode cX8_parse 159 = .ok (.iinc 1 1, 3) := by decide +kernel
theorem dX8_parse_162 : decode cX8_parse 162 = .ok (.goto (-142), 3) := by decide +kernel
theorem dX8_parse_131 : decode cX8_parse 131 = .ok (.iconst 0, 1) := by decide +kernel
theorem dX8_parse_127 : decode cX8_parse 127 = .ok (.iconst 1, 1) := by decide +kernel
theorem dX8_parse_128 : decode cX8_parse 128 = .ok (.goto 4, 3) := by decide +kernel
theorem dX8_parse_146 : decode cX8_parse 146 = .ok (.aload_n 0, 1) := by decide +kernel
theorem dX8_parse_147 : decode cX8_parse 147 = .ok (.getfield 7, 3) := by decide +kernel
theorem dX8_parse_150 : decode cX8_parse 150 = .ok (.getfield 75, 3) := by decide +kernel
theorem dX8_parse_153 : decode cX8_parse 153 = .ok (.aload_n 0, 1) := by decide +kernel
theorem dX8_parse_154 : decode cX8_parse 154 = .ok (.getfield 27, 3) := by decide +kernel
theorem dX8_parse_157 : decode cX8_parse 157 = .ok (.iaload, 1) := by decide +kernel
theorem dX8_parse_158 : decode cX8_parse 158 = .ok (.ireturn, 1) := by decide +kernel
theorem dX8_parse_132 : decode cX8_parse 132 = .ok (.istore_n 2, 1) := by decide +kernel
def wpX9_ordinal_S1_107 (K12 : Int → Int → Int → Int → ZS → Prop) (v2 v3 v4 v5 v6 v7 : Int) (σ : ZS) (Q : Int → ZS → Prop) : Prop := K12 v4 v5 v6 (v7 + 1) σ
def wpX9_ordinal_S1_102 (K12 : Int → Int → Int → Int → ZS → Prop) (v2 v3 v4 v5 v7 s0 : Int) (σ : ZS) (Q : Int → ZS → Prop) : Prop := wpX9_ordinal_S1_107 K12 v2 v3 v4 (v5 + 1) s0 v7 σ Q
def wpX9_ordinal_S1_101 (K12 : Int → Int → Int → Int → ZS → Prop) (v2 v3 v4 v5 v7 : Int) (σ : ZS) (Q : Int → ZS → Prop) : Prop := wpX9_ordinal_S1_102 K12 v2 v3 v4 v5 v7 0 σ Q
def wpX9_ordinal_S1_57 (K12 : Int → Int → Int → Int → ZS → Prop) (v2 v3 v4 v7 : Int) (σ : ZS) (Q : Int → ZS → Prop) : Prop := wpX9_ordinal_S1_107 K12 v2 v3 (v4 + 1) 0 1 v7 σ Q
def wpX9_ordinal_S1_41 (K12 : Int → Int → Int → Int → ZS → Prop) (v2 v3 v4 v5 v6 v7 : Int) (σ : ZS) (Q : Int → ZS → Prop) : Prop := (-2147483648 ≤ v6 ∧ v6 ≤ 2147483647) ∧ (v6 = 0 → wpX9_ordinal_S1_57 K12 v2 v3 v4 v7 σ Q) ∧ (¬ v6 = 0 → (-2147483648 ≤ (v2 + v5) ∧ (v2 + v5) ≤ 2147483647) ∧ (-2147483648 ≤ v3 ∧ v3 ≤ 2147483647) ∧ (¬ (v2 + v5) = v3 → wpX9_ordinal_S1_57 K12 v2 v3 v4 v7 σ Q) ∧ ((v2 + v5) = v3 → Q v4 σ))
def wpbX9_ordinal_S1_12 (K12 : Int → Int → Int → Int → ZS → Prop) (v2 v3 v4 v5 v6 v7 : Int) (σ : ZS) (Q : Int → ZS → Prop) : Prop := wpJ0_length_8abf5_S1 σ (fun (x6 : Int) (σ7 : ZS) => (-2147483648 ≤ v7 ∧ v7 ≤ 2147483647) ∧ (-2147483648 ≤ x6 ∧ x6 ≤ 2147483647) ∧ (x6 < v7 → Q (-1) σ7) ∧ (¬ x6 < v7 → wpJ0_length_8abf5_S1 σ7 (fun (x11 : Int) (σ12 : ZS) => (-2147483648 ≤ x11 ∧ x11 ≤ 2147483647) ∧ (v7 = x11 → wpX9_ordinal_S1_41 K12 v2 v3 v4 v5 v6 v7 σ12 Q) ∧ (¬ v7 = x11 → wpJ0_charAt_5068e_S1 v7 σ12 (fun (x15 : Int) (σ16 : ZS) => (-2147483648 ≤ x15 ∧ x15 ≤ 2147483647) ∧ (¬ x15 = 32 → (-2147483648 ≤ v6 ∧ v6 ≤ 2147483647) ∧ (v6 = 0 → wpX9_ordinal_S1_101 K12 v2 v3 v4 v5 v7 σ16 Q) ∧ (¬ v6 = 0 → (-2147483648 ≤ (v2 + v5) ∧ (v2 + v5) ≤ 2147483647) ∧ (-2147483648 ≤ v3 ∧ v3 ≤ 2147483647) ∧ (v3 ≤ (v2 + v5) → wpX9_ordinal_S1_101 K12 v2 v3 v4 v5 v7 σ16 Q) ∧ (¬ v3 ≤ (v2 + v5) → (0 ≤ (v2 + v5) ∧ (v2 + v5) < 480) ∧ wpJ0_charAt_5068e_S1 v7 σ16 (fun (x25 : Int) (σ26 : ZS) => (-2147483648 ≤ (zA σ16 10 0 (v2 + v5)) ∧ (zA σ16 10 0 (v2 + v5)) ≤ 2147483647) ∧ (-2147483648 ≤ x25 ∧ x25 ≤ 2147483647) ∧ (¬ (zA σ16 10 0 (v2 + v5)) = x25 → wpX9_ordinal_S1_101 K12 v2 v3 v4 v5 v7 σ26 Q) ∧ ((zA σ16 10 0 (v2 + v5)) = x25 → wpX9_ordinal_S1_102 K12 v2 v3 v4 v5 v7 1 σ26 Q))))) ∧ (x15 = 32 → wpX9_ordinal_S1_41 K12 v2 v3 v4 v5 v6 v7 σ16 Q))))))
def wpX9_ordinal_S1_12 (v2 v3 v4 v5 v6 v7 : Int) (σ : ZS) (Q : Int → ZS → Prop) : Prop := lfp4 (fun K12 v4 v5 v6 v7 σ => wpbX9_ordinal_S1_12 K12 v2 v3 v4 v5 v6 v7 σ Q) v4 v5 v6 v7 σ
def wpX9_ordinal_S1 (a2 a3 : Int) (σ : ZS) (Q : Int → ZS → Prop) : Prop := wpX9_ordinal_S1_12 a2 a3 0 0 1 0 σ Q
set_option maxHeartbeats 4000000 in
set_option maxRecDepth 100000 in
theorem kX9_ordinal_S1 (l : Launch) (D : va_G) (dA : Nat → ClassId) (ad : Int → Nat → Nat) (tf tc : Nat) (aK aV : Nat → Nat) (a2 a3 : Int) (σ : ZS) (Q : Int → ZS → Prop) (sz : Nat) (hw : wpX9_ordinal_S1 a2 a3 σ Q) : Met l yX9_ordinal (gws yX9_ordinal cX9_ordinal 8 (some .int)) (gR 5 0 0) (gPreE D dA tf tc aK aV [.ref (aK 1), .ref (ad 10 0), .int (Int32.ofInt a2), .int (Int32.ofInt a3)] (zC dA ad σ) sz) (va_Qi (zQi Q) (gAt D dA (va_A (zC dA ad σ) sz) (zC dA ad)) (va_A (zC dA ad σ) sz)) 0 0 (va_A (zC dA ad σ) sz) := by
  refine Met.ofW (cc := cX9_ordinal) (maxL := 8) (ret := (some .int)) (by decide) rfl ?_
  intro p e s m args below meth c s₁ B hml hv
  obtain ⟨rfl, hsz, hP, hK, hD0, hE⟩ := hv
  have hx := B.exec
  have hb := B.bytes
  have hr := B.returns
  have hts := atoms_spec (ws := gws yX9_ordinal cX9_ordinal 8 (some .int)) B.pre
  have hg : ∀ w ∈ gw, w.before _ s = true := fun w h => hts w (List.mem_cons_of_mem _ h)
  have hown : s.vm.findClass RX9 = some m.cls := findClass_of_methodNamed B.named
  have hlocks := B.notSynchronized
  subst hsz
  have hD := hD0.self (sz := s.heap.size)
  generalize hAe : va_A (zC dA ad σ) s.heap.size = A at hD hE ⊢
  have hA : ∀ q : Nat, s.heap.size ≤ q → A q := fun q h => by rw [← hAe]; exact Or.inr h
  have hS : va_S A s.heap s.heap [] := va_S.rf
  have hl := lv_entry ([.ref (aK 1), .ref (ad 10 0), .int (Int32.ofInt a2), .int (Int32.ofInt a3)]) (n := 8) (Nat.le_of_ble_eq_true rfl)
  rw [lg_entry_eq]
  generalize (lg_sl ([.ref (aK 1), .ref (ad 10 0), .int (Int32.ofInt a2), .int (Int32.ofInt a3)]) ++ List.replicate (8 - (lg_sl ([.ref (aK 1), .ref (ad 10 0), .int (Int32.ofInt a2), .int (Int32.ofInt a3)])).length) Slot.unset).toArray = ls at hl ⊢
  have hl : lv_has ls 8 [(0, .ref (aK 1)), (1, .ref (ad 10 0)), (2, .int (Int32.ofInt a2)), (3, .int (Int32.ofInt a3))] := hl
  have hret : ∀ (v : Int) (σ : ZS) (H : Heap) (locs : List Loc) (ls : Array Slot) (pc : Nat), Q v σ → va_P D vwC (zC dA ad σ) H → va_D A (zC dA ad σ) → va_S A s.heap H locs → decode cX9_ordinal pc = .ok (.ireturn, 1) → W p l e (gR 5 0 0) s m #[.ref (aK 1), .ref (ad 10 0), .int (Int32.ofInt a2), .int (Int32.ofInt a3)] below meth c H locs 0 0 (MQ below (va_Qi (zQi Q) (gAt D dA A (zC dA ad)) A) #[.ref (aK 1), .ref (ad 10 0), .int (Int32.ofInt a2), .int (Int32.ofInt a3)] s 0 0 A) (F0 m pc ls [.int (Int32.ofInt v)]) := fun v σ H locs ls pc hw hP hD hS hd => g_iret hx hb hr rfl hlocks hK σ hP hD hS ⟨v, rfl, hw⟩ (Nat.le_of_ble_eq_true rfl) (Nat.le_of_ble_eq_true rfl) hd
  generalize MQ below (va_Qi (zQi Q) (gAt D dA A (zC dA ad)) A) #[.ref (aK 1), .ref (ad 10 0), .int (Int32.ofInt a2), .int (Int32.ofInt a3)] s 0 0 A = QQ at hret ⊢
  have b12 : ∀ (v2 v3 : Int) (K12 : Int → Int → Int → Int → ZS → Prop), (∀ (v4 v5 v6 v7 : Int) (σ : ZS), K12 v4 v5 v6 v7 σ → ∀ (H : Heap) (locs : List Loc) (ls : Array Slot), va_P D vwC (zC dA ad σ) H → va_D A (zC dA ad σ) → va_S A s.heap H locs → lv_has ls 8 [(0, .ref (aK 1)), (1, .ref (ad 10 0)), (2, .int (Int32.ofInt v2)), (3, .int (Int32.ofInt v3)), (4, .int (Int32.ofInt v4)), (5, .int (Int32.ofInt v5)), (6, .int (Int32.ofInt v6)), (7, .int (Int32.ofInt v7))] → W p l e (gR 5 0 0) s m #[.ref (aK 1), .ref (ad 10 0), .int (Int32.ofInt a2), .int (Int32.ofInt a3)] below meth c H locs 0 0 QQ (F0 m 12 ls [])) → ∀ (v4 v5 v6 v7 : Int) (σ : ZS), wpbX9_ordinal_S1_12 K12 v2 v3 v4 v5 v6 v7 σ Q → ∀ (H : Heap) (locs : List Loc) (ls : Array Slot), va_P D vwC (zC dA ad σ) H → va_D A (zC dA ad σ) → va_S A s.heap H locs → lv_has ls 8 [(0, .ref (aK 1)), (1, .ref (ad 10 0)), (2, .int (Int32.ofInt v2)), (3, .int (Int32.ofInt v3)), (4, .int (Int32.ofInt v4)), (5, .int (Int32.ofInt v5)), (6, .int (Int32.ofInt v6)), (7, .int (Int32.ofInt v7))] → W p l e (gR 5 0 0) s m #[.ref (aK 1), .ref (ad 10 0), .int (Int32.ofInt a2), .int (Int32.ofInt a3)] below meth c H locs 0 0 QQ (F0 m 12 ls []) := by
    intro v2 v3 K12 hK12
    have j107 : ∀ (v4 v5 v6 v7 : Int) (σ : ZS), ∀ (H : Heap) (locs : List Loc) (ls : Array Slot), va_P D vwC (zC dA ad σ) H → va_D A (zC dA ad σ) → va_S A s.heap H locs → lv_has ls 8 [(0, .ref (aK 1)), (1, .ref (ad 10 0)), (2, .int (Int32.ofInt v2)), (3, .int (Int32.ofInt v3)), (4, .int (Int32.ofInt v4)), (5, .int (Int32.ofInt v5)), (6, .int (Int32.ofInt v6)), (7, .int (Int32.ofInt v7))] → wpX9_ordinal_S1_107 K12 v2 v3 v4 v5 v6 v7 σ Q → W p l e (gR 5 0 0) s m #[.ref (aK 1), .ref (ad 10 0), .int (Int32.ofInt a2), .int (Int32.ofInt a3)] below meth c H locs 0 0 QQ (F0 m 107 ls []) := by
      intro v4 v5 v6 v7 σ H locs ls hP hD hS hl hw
      unfold wpX9_ordinal_S1_107 at hw
      refine lv_iinc (v := Int32.ofInt (v7 + 1)) (lv' := [(7, .int (Int32.ofInt (v7 + 1))), (0, .ref (aK 1)), (1, .ref (ad 10 0)), (2, .int (Int32.ofInt v2)), (3, .int (Int32.ofInt v3)), (4, .int (Int32.ofInt v4)), (5, .int (Int32.ofInt v5)), (6, .int (Int32.ofInt v6))]) hx hb dX9_ordinal_107 hl (k := 7) rfl (Int32.ofInt_add _ _).symm (by decide) rfl (fun ls hl => ?_)
      refine lv_goto (tgt := 12) hx hb dX9_ordinal_110 (by decide) ?_
      exact hK12 v4 v5 v6 (v7 + 1) σ hw _ _ _ hP hD hS (lv_sub hl [1, 2, 3, 4, 5, 6, 7, 0] rfl)
    have j102 : ∀ (v4 v5 v7 s0 : Int) (σ : ZS), ∀ (H : Heap) (locs : List Loc) (ls : Array Slot), va_P D vwC (zC dA ad σ) H → va_D A (zC dA ad σ) → va_S A s.heap H locs → lv_has ls 8 [(0, .ref (aK 1)), (1, .ref (ad 10 0)), (2, .int (Int32.ofInt v2)), (3, .int (Int32.ofInt v3)), (4, .int (Int32.ofInt v4)), (5, .int (Int32.ofInt v5)), (7, .int (Int32.ofInt v7))] → wpX9_ordinal_S1_102 K12 v2 v3 v4 v5 v7 s0 σ Q → W p l e (gR 5 0 0) s m #[.ref (aK 1), .ref (ad 10 0), .int (Int32.ofInt a2), .int (Int32.ofInt a3)] below meth c H locs 0 0 QQ (F0 m 102 ls [.int (Int32.ofInt s0)]) := by
      intro v4 v5 v7 s0 σ H locs ls hP hD hS hl hw
      unfold wpX9_ordinal_S1_102 at hw
      refine lv_istore (lv' := [(6, .int (Int32.ofInt s0)), (0, .ref (aK 1)), (1, .ref (ad 10 0)), (2, .int (Int32.ofInt v2)), (3, .int (Int32.ofInt v3)), (4, .int (Int32.ofInt v4)), (5, .int (Int32.ofInt v5)), (7, .int (Int32.ofInt v7))]) hx hb dX9_ordinal_102 hl (by decide) rfl (fun ls hl => ?_)
      refine lv_iinc (v := Int32.ofInt (v5 + 1)) (lv' := [(5, .int (Int32.ofInt (v5 + 1))), (6, .int (Int32.ofInt s0)), (0, .ref (aK 1)), (1, .ref (ad 10 0)), (2, .int (Int32.ofInt v2)), (3, .int (Int32.ofInt v3)), (4, .int (Int32.ofInt v4)), (7, .int (Int32.ofInt v7))]) hx hb dX9_ordinal_104 hl (k := 6) rfl (Int32.ofInt_add _ _).symm (by decide) rfl (fun ls hl => ?_)
      exact j107 v4 (v5 + 1) s0 v7 σ _ _ _ hP hD hS (lv_sub hl [2, 3, 4, 5, 6, 0, 1, 7] rfl) hw
    have j101 : ∀ (v4 v5 v7 : Int) (σ : ZS), ∀ (H : Heap) (locs : List Loc) (ls : Array Slot), va_P D vwC (zC dA ad σ) H → va_D A (zC dA ad σ) → va_S A s.heap H locs → lv_has ls 8 [(0, .ref (aK 1)), (1, .ref (ad 10 0)), (2, .int (Int32.ofInt v2)), (3, .int (Int32.ofInt v3)), (4, .int (Int32.ofInt v4)), (5, .int (Int32.ofInt v5)), (7, .int (Int32.ofInt v7))] → wpX9_ordinal_S1_101 K12 v2 v3 v4 v5 v7 σ Q → W p l e (gR 5 0 0) s m #[.ref (aK 1), .ref (ad 10 0), .int (Int32.ofInt a2), .int (Int32.ofInt a3)] below meth c H locs 0 0 QQ (F0 m 101 ls []) := by
      intro v4 v5 v7 σ H locs ls hP hD hS hl hw
      unfold wpX9_ordinal_S1_101 at hw
      refine lv_iconst (v := Int32.ofInt 0) hx hb dX9_ordinal_101 (by decide) ?_
      exact j102 v4 v5 v7 0 σ _ _ _ hP hD hS (lv_sub hl [0, 1, 2, 3, 4, 5, 6] rfl) hw
    have j57 : ∀ (v4 v7 : Int) (σ : ZS), ∀ (H : Heap) (locs : List Loc) (ls : Array Slot), va_P D vwC (zC dA ad σ) H → va_D A (zC dA ad σ) → va_S A s.heap H locs → lv_has ls 8 [(0, .ref (aK 1)), (1, .ref (ad 10 0)), (2, .int (Int32.ofInt v2)), (3, .int (Int32.ofInt v3)), (4, .int (Int32.ofInt v4)), (7, .int (Int32.ofInt v7))] → wpX9_ordinal_S1_57 K12 v2 v3 v4 v7 σ Q → W p l e (gR 5 0 0) s m #[.ref (aK 1), .ref (ad 10 0), .int (Int32.ofInt a2), .int (Int32.ofInt a3)] below meth c H locs 0 0 QQ (F0 m 57 ls []) := by
      intro v4 v7 σ H locs ls hP hD hS hl hw
      unfold wpX9_ordinal_S1_57 at hw
      refine lv_iinc (v := Int32.ofInt (v4 + 1)) (lv' := [(4, .int (Int32.ofInt (v4 + 1))), (0, .ref (aK 1)), (1, .ref (ad 10 0)), (2, .int (Int32.ofInt v2)), (3, .int (Int32.ofInt v3)), (7, .int (Int32.ofInt v7))]) hx hb dX9_ordinal_57 hl (k := 4) rfl (Int32.ofInt_add _ _).symm (by decide) rfl (fun ls hl => ?_)
      refine lv_iconst (v := Int32.ofInt 0) hx hb dX9_ordinal_60 (by decide) ?_
      refine lv_istore (lv' := [(5, .int (Int32.ofInt 0)), (4, .int (Int32.ofInt (v4 + 1))), (0, .ref (aK 1)), (1, .ref (ad 10 0)), (2, .int (Int32.ofInt v2)), (3, .int (Int32.ofInt v3)), (7, .int (Int32.ofInt v7))]) hx hb dX9_ordinal_61 hl (by decide) rfl (fun ls hl => ?_)
      refine lv_iconst (v := Int32.ofInt 1) hx hb dX9_ordinal_63 (by decide) ?_
      refine lv_istore (lv' := [(6, .int (Int32.ofInt 1)), (5, .int (Int32.ofInt 0)), (4, .int (Int32.ofInt (v4 + 1))), (0, .ref (aK 1)), (1, .ref (ad 10 0)), (2, .int (Int32.ofInt v2)), (3, .int (Int32.ofInt v3)), (7, .int (Int32.ofInt v7))]) hx hb dX9_ordinal_64 hl (by decide) rfl (fun ls hl => ?_)
      refine lv_goto (tgt := 107) hx hb dX9_ordinal_66 (by decide) ?_
      exact j107 (v4 + 1) 0 1 v7 σ _ _ _ hP hD hS (lv_sub hl [3, 4, 5, 6, 2, 1, 0, 7] rfl) hw
    have j41 : ∀ (v4 v5 v6 v7 : Int) (σ : ZS), ∀ (H : Heap) (locs : List Loc) (ls : Array Slot), va_P D vwC (zC dA ad σ) H → va_D A (zC dA ad σ) → va_S A s.heap H locs → lv_has ls 8 [(0, .ref (aK 1)), (1, .ref (ad 10 0)), (2, .int (Int32.ofInt v2)), (3, .int (Int32.ofInt v3)), (4, .int (Int32.ofInt v4)), (5, .int (Int32.ofInt v5)), (6, .int (Int32.ofInt v6)), (7, .int (Int32.ofInt v7))] → wpX9_ordinal_S1_41 K12 v2 v3 v4 v5 v6 v7 σ Q → W p l e (gR 5 0 0) s m #[.ref (aK 1), .ref (ad 10 0), .int (Int32.ofInt a2), .int (Int32.ofInt a3)] below meth c H locs 0 0 QQ (F0 m 41 ls []) := by
      intro v4 v5 v6 v7 σ H locs ls hP hD hS hl hw
      unfold wpX9_ordinal_S1_41 at hw
      refine lv_iload hx hb dX9_ordinal_41 (lv_at hl 6 rfl) ?_
      obtain ⟨o1, hw⟩ := hw
      refine z_if_eq (tgt := 57) hx hb o1 dX9_ordinal_43 (by decide) (fun k2 => ?_) (fun k2 => ?_)
      · replace hw := hw.1 k2
        exact j57 v4 v7 σ _ _ _ hP hD hS (lv_sub hl [0, 1, 2, 3, 4, 7] rfl) hw
      · replace hw := hw.2 k2
        refine lv_iload_n hx hb dX9_ordinal_46 rfl (lv_at hl 2 rfl) ?_
        refine lv_iload hx hb dX9_ordinal_47 (lv_at hl 5 rfl) ?_
        refine z_iadd hx hb dX9_ordinal_49 ?_
        refine lv_iload_n hx hb dX9_ordinal_50 rfl (lv_at hl 3 rfl) ?_
        obtain ⟨o3, hw⟩ := hw
        obtain ⟨o4, hw⟩ := hw
        refine z_icmp_ne (tgt := 57) hx hb o3 o4 dX9_ordinal_51 (by decide) (fun k5 => ?_) (fun k5 => ?_)
        · replace hw := hw.1 k5
          exact j57 v4 v7 σ _ _ _ hP hD hS (lv_sub hl [0, 1, 2, 3, 4, 7] rfl) hw
        · replace hw := hw.2 k5
          refine lv_iload hx hb dX9_ordinal_54 (lv_at hl 4 rfl) ?_
          exact hret v4 σ _ _ _ _ hw hP hD hS dX9_ordinal_56
    intro v4 v5 v6 v7 σ hw H locs ls hP hD hS hl
    unfold wpbX9_ordinal_S1_12 at hw
    refine lv_iload hx hb dX9_ordinal_12 (lv_at hl 7 rfl) ?_
    refine lv_aload_n hx hb dX9_ordinal_14 rfl (lv_at hl 0 rfl) ?_
    refine z_EVi (n := 0) (As := []) (rest := [.int (Int32.ofInt v7)]) hx hb hml hg hown hE hK hP hD hS hA (kJ0_length_8abf5_S1 l D dA ad tf tc aK aV σ _ _ hw) (vk_recv hE.2.2.2.2.2.2.1 (i := 1) (by decide) hS) q821 q166 q818 q819 q820 (by decide +kernel) ⟨(Nat.le_of_ble_eq_true rfl), (Nat.le_of_ble_eq_true rfl)⟩ rfl hl.1 rfl (Nat.le_of_ble_eq_true rfl) dX9_ordinal_15 ⟨(Nat.le_of_ble_eq_true rfl), (Nat.le_of_ble_eq_true rfl)⟩ (fun x6 σ7 H locs hw hP hD hS => ?_)
    obtain ⟨o8, hw⟩ := hw
    obtain ⟨o9, hw⟩ := hw
    refine z_icmp_gt (tgt := 113) hx hb o8 o9 dX9_ordinal_18 (by decide) (fun k10 => ?_) (fun k10 => ?_)
    · replace hw := hw.1 k10
      refine lv_iconst (v := Int32.ofInt (-1)) hx hb dX9_ordinal_113 (by decide) ?_
      exact hret (-1) σ7 _ _ _ _ hw hP hD hS dX9_ordinal_114
    · replace hw := hw.2 k10
      refine lv_iload hx hb dX9_ordinal_21 (lv_at hl 7 rfl) ?_
      refine lv_aload_n hx hb dX9_ordinal_23 rfl (lv_at hl 0 rfl) ?_
      refine z_EVi (n := 0) (As := []) (rest := [.int (Int32.ofInt v7)]) hx hb hml hg hown hE hK hP hD hS hA (kJ0_length_8abf5_S1 l D dA ad tf tc aK aV σ7 _ _ hw) (vk_recv hE.2.2.2.2.2.2.1 (i := 1) (by decide) hS) q821 q166 q818 q819 q820 (by decide +kernel) ⟨(Nat.le_of_ble_eq_true rfl), (Nat.le_of_ble_eq_true rfl)⟩ rfl hl.1 rfl (Nat.le_of_ble_eq_true rfl) dX9_ordinal_24 ⟨(Nat.le_of_ble_eq_true rfl), (Nat.le_of_ble_eq_true rfl)⟩ (fun x11 σ12 H locs hw hP hD hS => ?_)
      obtain ⟨o13, hw⟩ := hw
      refine z_icmp_eq (tgt := 41) hx hb o8 o13 dX9_ordinal_27 (by decide) (fun k14 => ?_) (fun k14 => ?_)
      · replace hw := hw.1 k14
        exact j41 v4 v5 v6 v7 σ12 _ _ _ hP hD hS (lv_sub hl [0, 1, 2, 3, 4, 5, 6, 7] rfl) hw
      · replace hw := hw.2 k14
        refine lv_aload_n hx hb dX9_ordinal_30 rfl (lv_at hl 0 rfl) ?_
        refine lv_iload hx hb dX9_ordinal_31 (lv_at hl 7 rfl) ?_
        refine z_EVi (n := 1) (As := [.int (Int32.ofInt v7)]) (rest := []) hx hb hml hg hown hE hK hP hD hS hA (kJ0_charAt_5068e_S1 l D dA ad tf tc aK aV v7 σ12 _ _ hw) (vk_recv hE.2.2.2.2.2.2.1 (i := 1) (by decide) hS) q831 q166 q828 q829 q830 (by decide +kernel) ⟨(Nat.le_of_ble_eq_true rfl), (Nat.le_of_ble_eq_true rfl)⟩ rfl hl.1 rfl (Nat.le_of_ble_eq_true rfl) dX9_ordinal_33 ⟨(Nat.le_of_ble_eq_true rfl), (Nat.le_of_ble_eq_true rfl)⟩ (fun x15 σ16 H locs hw hP hD hS => ?_)
        refine lv_bipush (v := Int32.ofInt 32) hx hb dX9_ordinal_36 (by decide) ?_
        obtain ⟨o17, hw⟩ := hw
        refine z_icmp_ne (tgt := 69) hx hb o17 (by decide) dX9_ordinal_38 (by decide) (fun k18 => ?_) (fun k18 => ?_)
        · replace hw := hw.1 k18
          refine lv_iload hx hb dX9_ordinal_69 (lv_at hl 6 rfl) ?_
          obtain ⟨o19, hw⟩ := hw
          refine z_if_eq (tgt := 101) hx hb o19 dX9_ordinal_71 (by decide) (fun k20 => ?_) (fun k20 => ?_)
          · replace hw := hw.1 k20
            exact j101 v4 v5 v7 σ16 _ _ _ hP hD hS (lv_sub hl [0, 1, 2, 3, 4, 5, 7] rfl) hw
          · replace hw := hw.2 k20
            refine lv_iload_n hx hb dX9_ordinal_74 rfl (lv_at hl 2 rfl) ?_
            refine lv_iload hx hb dX9_ordinal_75 (lv_at hl 5 rfl) ?_
            refine z_iadd hx hb dX9_ordinal_77 ?_
            refine lv_iload_n hx hb dX9_ordinal_78 rfl (lv_at hl 3 rfl) ?_
            obtain ⟨o21, hw⟩ := hw
            obtain ⟨o22, hw⟩ := hw
            refine z_icmp_ge (tgt := 101) hx hb o21 o22 dX9_ordinal_79 (by decide) (fun k23 => ?_) (fun k23 => ?_)
            · replace hw := hw.1 k23
              exact j101 v4 v5 v7 σ16 _ _ _ hP hD hS (lv_sub hl [0, 1, 2, 3, 4, 5, 7] rfl) hw
            · replace hw := hw.2 k23
              refine lv_aload_n hx hb dX9_ordinal_82 rfl (lv_at hl 1 rfl) ?_
              refine lv_iload_n hx hb dX9_ordinal_83 rfl (lv_at hl 2 rfl) ?_
              refine lv_iload hx hb dX9_ordinal_84 (lv_at hl 5 rfl) ?_
              refine z_iadd hx hb dX9_ordinal_86 ?_
              obtain ⟨o24, hw⟩ := hw
              refine zlC10_0 hx hb o24 hK hP dX9_ordinal_87 ?_
              refine lv_aload_n hx hb dX9_ordinal_88 rfl (lv_at hl 0 rfl) ?_
              refine lv_iload hx hb dX9_ordinal_89 (lv_at hl 7 rfl) ?_
              refine z_EVi (n := 1) (As := [.int (Int32.ofInt v7)]) (rest := [.int (Int32.ofInt (zA σ16 10 0 (v2 + v5)))]) hx hb hml hg hown hE hK hP hD hS hA (kJ0_charAt_5068e_S1 l D dA ad tf tc aK aV v7 σ16 _ _ hw) (vk_recv hE.2.2.2.2.2.2.1 (i := 1) (by decide) hS) q831 q166 q828 q829 q830 (by decide +kernel) ⟨(Nat.le_of_ble_eq_true rfl), (Nat.le_of_ble_eq_true rfl)⟩ rfl hl.1 rfl (Nat.le_of_ble_eq_true rfl) dX9_ordinal_91 ⟨(Nat.le_of_ble_eq_true rfl), (Nat.le_of_ble_eq_true rfl)⟩ (fun x25 σ26 H locs hw hP hD hS => ?_)
              obtain ⟨o27, hw⟩ := hw
              obtain ⟨o28, hw⟩ := hw
              refine z_icmp_ne (tgt := 101) hx hb o27 o28 dX9_ordinal_94 (by decide) (fun k29 => ?_) (fun k29 => ?_)
              · replace hw := hw.1 k29
                exact j101 v4 v5 v7 σ26 _ _ _ hP hD hS (lv_sub hl [0, 1, 2, 3, 4, 5, 7] rfl) hw
              · replace hw := hw.2 k29
                refine lv_iconst (v := Int32.ofInt 1) hx hb dX9_ordinal_97 (by decide) ?_
                refine lv_goto (tgt := 102) hx hb dX9_ordinal_98 (by decide) ?_
                exact j102 v4 v5 v7 1 σ26 _ _ _ hP hD hS (lv_sub hl [0, 1, 2, 3, 4, 5, 7] rfl) hw
        · replace hw := hw.2 k18
          exact j41 v4 v5 v6 v7 σ16 _ _ _ hP hD hS (lv_sub hl [0, 1, 2, 3, 4, 5, 6, 7] rfl) hw
  have j12 : ∀ (v2 v3 v4 v5 v6 v7 : Int) (σ : ZS), ∀ (H : Heap) (locs : List Loc) (ls : Array Slot), va_P D vwC (zC dA ad σ) H → va_D A (zC dA ad σ) → va_S A s.heap H locs → lv_has ls 8 [(0, .ref (aK 1)), (1, .ref (ad 10 0)), (2, .int (Int32.ofInt v2)), (3, .int (Int32.ofInt v3)), (4, .int (Int32.ofInt v4)), (5, .int (Int32.ofInt v5)), (6, .int (Int32.ofInt v6)), (7, .int (Int32.ofInt v7))] → wpX9_ordinal_S1_12 v2 v3 v4 v5 v6 v7 σ Q → W p l e (gR 5 0 0) s m #[.ref (aK 1), .ref (ad 10 0), .int (Int32.ofInt a2), .int (Int32.ofInt a3)] below meth c H locs 0 0 QQ (F0 m 12 ls []) := by
    intro v2 v3 v4 v5 v6 v7 σ H locs ls hP hD hS hl hw
    exact hw (fun v4 v5 v6 v7 σ => ∀ (H : Heap) (locs : List Loc) (ls : Array Slot), va_P D vwC (zC dA ad σ) H → va_D A (zC dA ad σ) → va_S A s.heap H locs → lv_has ls 8 [(0, .ref (aK 1)), (1, .ref (ad 10 0)), (2, .int (Int32.ofInt v2)), (3, .int (Int32.ofInt v3)), (4, .int (Int32.ofInt v4)), (5, .int (Int32.ofInt v5)), (6, .int (Int32.ofInt v6)), (7, .int (Int32.ofInt v7))] → W p l e (gR 5 0 0) s m #[.ref (aK 1), .ref (ad 10 0), .int (Int32.ofInt a2), .int (Int32.ofInt a3)] below meth c H locs 0 0 QQ (F0 m 12 ls [])) (b12 v2 v3 (fun v4 v5 v6 v7 σ => ∀ (H : Heap) (locs : List Loc) (ls : Array Slot), va_P D vwC (zC dA ad σ) H → va_D A (zC dA ad σ) → va_S A s.heap H locs → lv_has ls 8 [(0, .ref (aK 1)), (1, .ref (ad 10 0)), (2, .int (Int32.ofInt v2)), (3, .int (Int32.ofInt v3)), (4, .int (Int32.ofInt v4)), (5, .int (Int32.ofInt v5)), (6, .int (Int32.ofInt v6)), (7, .int (Int32.ofInt v7))] → W p l e (gR 5 0 0) s m #[.ref (aK 1), .ref (ad 10 0), .int (Int32.ofInt a2), .int (Int32.ofInt a3)] below meth c H locs 0 0 QQ (F0 m 12 ls [])) (fun v4 v5 v6 v7 σ h => h)) _ _ _ hP hD hS hl
  unfold wpX9_ordinal_S1 at hw
  refine lv_iconst (v := Int32.ofInt 0) hx hb dX9_ordinal_0 (by decide) ?_
  refine lv_istore (lv' := [(4, .int (Int32.ofInt 0)), (0, .ref (aK 1)), (1, .ref (ad 10 0)), (2, .int (Int32.ofInt a2)), (3, .int (Int32.ofInt a3))]) hx hb dX9_ordinal_1 hl (by decide) rfl (fun ls hl => ?_)
  refine lv_iconst (v := Int32.ofInt 0) hx hb dX9_ordinal_3 (by decide) ?_
  refine lv_istore (lv' := [(5, .int (Int32.ofInt 0)), (4, .int (Int32.ofInt 0)), (0, .ref (aK 1)), (1, .ref (ad 10 0)), (2, .int (Int32.ofInt a2)), (3, .int (Int32.ofInt a3))]) hx hb dX9_ordinal_4 hl (by decide) rfl (fun ls hl => ?_)
  refine lv_iconst (v := Int32.ofInt 1) hx hb dX9_ordinal_6 (by decide) ?_
  refine lv_istore (lv' := [(6, .int (Int32.ofInt 1)), (5, .int (Int32.ofInt 0)), (4, .int (Int32.ofInt 0)), (0, .ref (aK 1)), (1, .ref (ad 10 0)), (2, .int (Int32.ofInt a2)), (3, .int (Int32.ofInt a3))]) hx hb dX9_ordinal_7 hl (by decide) rfl (fun ls hl => ?_)
  refine lv_iconst (v := Int32.ofInt 0) hx hb dX9_ordinal_9 (by decide) ?_
  refine lv_istore (lv' := [(7, .int (Int32.ofInt 0)), (6, .int (Int32.ofInt 1)), (5, .int (Int32.ofInt 0)), (4, .int (Int32.ofInt 0)), (0, .ref (aK 1)), (1, .ref (ad 10 0)), (2, .int (Int32.ofInt a2)), (3, .int (Int32.ofInt a3))]) hx hb dX9_ordinal_10 hl (by decide) rfl (fun ls hl => ?_)
  exact j12 a2 a3 0 0 1 0 σ _ _ _ hP hD hS (lv_sub hl [4, 5, 6, 7, 3, 2, 1, 0] rfl) hw
def wpX9_ordinal_S2_107 (K12 : Int → Int → Int → Int → ZS → Prop) (v2 v3 v4 v5 v6 v7 : Int) (σ : ZS) (Q : Int → ZS → Prop) : Prop := K12 v4 v5 v6 (v7 + 1) σ
def wpX9_ordinal_S2_102 (K12 : Int → Int → Int → Int → ZS → Prop) (v2 v3 v4 v5 v7 s0 : Int) (σ : ZS) (Q : Int → ZS → Prop) : Prop := wpX9_ordinal_S2_107 K12 v2 v3 v4 (v5 + 1) s0 v7 σ Q
def wpX9_ordinal_S2_101 (K12 : Int → Int → Int → Int → ZS → Prop) (v2 v3 v4 v5 v7 : Int) (σ : ZS) (Q : Int → ZS → Prop) : Prop := wpX9_ordinal_S2_102 K12 v2 v3 v4 v5 v7 0 σ Q
def wpX9_ordinal_S2_57 (K12 : Int → Int → Int → Int → ZS → Prop) (v2 v3 v4 v7 : Int) (σ : ZS) (Q : Int → ZS → Prop) : Prop := wpX9_ordinal_S2_107 K12 v2 v3 (v4 + 1) 0 1 v7 σ Q
def wpX9_ordinal_S2_41 (K12 : Int → Int → Int → Int → ZS → Prop) (v2 v3 v4 v5 v6 v7 : Int) (σ : ZS) (Q : Int → ZS → Prop) : Prop := (-2147483648 ≤ v6 ∧ v6 ≤ 2147483647) ∧ (v6 = 0 → wpX9_ordinal_S2_57 K12 v2 v3 v4 v7 σ Q) ∧ (¬ v6 = 0 → (-2147483648 ≤ (v2 + v5) ∧ (v2 + v5) ≤ 2147483647) ∧ (-2147483648 ≤ v3 ∧ v3 ≤ 2147483647) ∧ (¬ (v2 + v5) = v3 → wpX9_ordinal_S2_57 K12 v2 v3 v4 v7 σ Q) ∧ ((v2 + v5) = v3 → Q v4 σ))
def wpbX9_ordinal_S2_12 (K12 : Int → Int → Int → Int → ZS → Prop) (v2 v3 v4 v5 v6 v7 : Int) (σ : ZS) (Q : Int → ZS → Prop) : Prop := wpJ0_length_8abf5_S2 σ (fun (x6 : Int) (σ7 : ZS) => (-2147483648 ≤ v7 ∧ v7 ≤ 2147483647) ∧ (-2147483648 ≤ x6 ∧ x6 ≤ 2147483647) ∧ (x6 < v7 → Q (-1) σ7) ∧ (¬ x6 < v7 → wpJ0_length_8abf5_S2 σ7 (fun (x11 : Int) (σ12 : ZS) => (-2147483648 ≤ x11 ∧ x11 ≤ 2147483647) ∧ (v7 = x11 → wpX9_ordinal_S2_41 K12 v2 v3 v4 v5 v6 v7 σ12 Q) ∧ (¬ v7 = x11 → wpJ0_charAt_5068e_S2 v7 σ12 (fun (x15 : Int) (σ16 : ZS) => (-2147483648 ≤ x15 ∧ x15 ≤ 2147483647) ∧ (¬ x15 = 32 → (-2147483648 ≤ v6 ∧ v6 ≤ 2147483647) ∧ (v6 = 0 → wpX9_ordinal_S2_101 K12 v2 v3 v4 v5 v7 σ16 Q) ∧ (¬ v6 = 0 → (-2147483648 ≤ (v2 + v5) ∧ (v2 + v5) ≤ 2147483647) ∧ (-2147483648 ≤ v3 ∧ v3 ≤ 2147483647) ∧ (v3 ≤ (v2 + v5) → wpX9_ordinal_S2_101 K12 v2 v3 v4 v5 v7 σ16 Q) ∧ (¬ v3 ≤ (v2 + v5) → (0 ≤ (v2 + v5) ∧ (v2 + v5) < 480) ∧ wpJ0_charAt_5068e_S2 v7 σ16 (fun (x25 : Int) (σ26 : ZS) => (-2147483648 ≤ (zA σ16 10 0 (v2 + v5)) ∧ (zA σ16 10 0 (v2 + v5)) ≤ 2147483647) ∧ (-2147483648 ≤ x25 ∧ x25 ≤ 2147483647) ∧ (¬ (zA σ16 10 0 (v2 + v5)) = x25 → wpX9_ordinal_S2_101 K12 v2 v3 v4 v5 v7 σ26 Q) ∧ ((zA σ16 10 0 (v2 + v5)) = x25 → wpX9_ordinal_S2_102 K12 v2 v3 v4 v5 v7 1 σ26 Q))))) ∧ (x15 = 32 → wpX9_ordinal_S2_41 K12 v2 v3 v4 v5 v6 v7 σ16 Q))))))
def wpX9_ordinal_S2_12 (v2 v3 v4 v5 v6 v7 : Int) (σ : ZS) (Q : Int → ZS → Prop) : Prop := lfp4 (fun K12 v4 v5 v6 v7 σ => wpbX9_ordinal_S2_12 K12 v2 v3 v4 v5 v6 v7 σ Q) v4 v5 v6 v7 σ
def wpX9_ordinal_S2 (a2 a3 : Int) (σ : ZS) (Q : Int → ZS → Prop) : Prop := wpX9_ordinal_S2_12 a2 a3 0 0 1 0 σ Q
set_option maxHeartbeats 4000000 in
set_option maxRecDepth 100000 in
theorem kX9_ordinal_S2 (l : Launch) (D : va_G) (dA : Nat → ClassId) (ad : Int → Nat → Nat) (tf tc : Nat) (aK aV : Nat → Nat) (a2 a3 : Int) (σ : ZS) (Q : Int → ZS → Prop) (sz : Nat) (hw : wpX9_ordinal_S2 a2 a3 σ Q) : Met l yX9_ordinal (gws yX9_ordinal cX9_ordinal 8 (some .int)) (gR 5 0 0) (gPreE D dA tf tc aK aV [.ref (aK 2), .ref (ad 10 0), .int (Int32.ofInt a2), .int (Int32.ofInt a3)] (zC dA ad σ) sz) (va_Qi (zQi Q) (gAt D dA (va_A (zC dA ad σ) sz) (zC dA ad)) (va_A (zC dA ad σ) sz)) 0 0 (va_A (zC dA ad σ) sz) := by
  refine Met.ofW (cc := cX9_ordinal) (maxL := 8) (ret := (some .int)) (by decide) rfl ?_
  intro p e s m args below meth c s₁ B hml hv
  obtain ⟨rfl, hsz, hP, hK, hD0, hE⟩ := hv
  have hx := B.exec
  have hb := B.bytes
  have hr := B.returns
  have hts := atoms_spec (ws := gws yX9_ordinal cX9_ordinal 8 (some .int)) B.pre
  have hg : ∀ w ∈ gw, w.before _ s = true := fun w h => hts w (List.mem_cons_of_mem _ h)
  have hown : s.vm.findClass RX9 = some m.cls := findClass_of_methodNamed B.named
  have hlocks := B.notSynchronized
  subst hsz
  have hD := hD0.self (sz := s.heap.size)
  generalize hAe : va_A (zC dA ad σ) s.heap.size = A at hD hE ⊢
  have hA : ∀ q : Nat, s.heap.size ≤ q → A q := fun q h => by rw [← hAe]; exact Or.inr h
  have hS : va_S A s.heap s.heap [] := va_S.rf
  have hl := lv_entry ([.ref (aK 2), .ref (ad 10 0), .int (Int32.ofInt a2), .int (Int32.ofInt a3)]) (n := 8) (Nat.le_of_ble_eq_true rfl)
  rw [lg_entry_eq]
  generalize (lg_sl ([.ref (aK 2), .ref (ad 10 0), .int (Int32.ofInt a2), .int (Int32.ofInt a3)]) ++ List.replicate (8 - (lg_sl ([.ref (aK 2), .ref (ad 10 0), .int (Int32.ofInt a2), .int (Int32.ofInt a3)])).length) Slot.unset).toArray = ls at hl ⊢
  have hl : lv_has ls 8 [(0, .ref (aK 2)), (1, .ref (ad 10 0)), (2, .int (Int32.ofInt a2)), (3, .int (Int32.ofInt a3))] := hl
  have hret : ∀ (v : Int) (σ : ZS) (H : Heap) (locs : List Loc) (ls : Array Slot) (pc : Nat), Q v σ → va_P D vwC (zC dA ad σ) H → va_D A (zC dA ad σ) → va_S A s.heap H locs → decode cX9_ordinal pc = .ok (.ireturn, 1) → W p l e (gR 5 0 0) s m #[.ref (aK 2), .ref (ad 10 0), .int (Int32.ofInt a2), .int (Int32.ofInt a3)] below meth c H locs 0 0 (MQ below (va_Qi (zQi Q) (gAt D dA A (zC dA ad)) A) #[.ref (aK 2), .ref (ad 10 0), .int (Int32.ofInt a2), .int (Int32.ofInt a3)] s 0 0 A) (F0 m pc ls [.int (Int32.ofInt v)]) := fun v σ H locs ls pc hw hP hD hS hd => g_iret hx hb hr rfl hlocks hK σ hP hD hS ⟨v, rfl, hw⟩ (Nat.le_of_ble_eq_true rfl) (Nat.le_of_ble_eq_true rfl) hd
  generalize MQ below (va_Qi (zQi Q) (gAt D dA A (zC dA ad)) A) #[.ref (aK 2), .ref (ad 10 0), .int (Int32.ofInt a2), .int (Int32.ofInt a3)] s 0 0 A = QQ at hret ⊢
  have b12 : ∀ (v2 v3 : Int) (K12 : Int → Int → Int → Int → ZS → Prop), (∀ (v4 v5 v6 v7 : Int) (σ : ZS), K12 v4 v5 v6 v7 σ → ∀ (H : Heap) (locs : List Loc) (ls : Array Slot), va_P D vwC (zC dA ad σ) H → va_D A (zC dA ad σ) → va_S A s.heap H locs → lv_has ls 8 [(0, .ref (aK 2)), (1, .ref (ad 10 0)), (2, .int (Int32.ofInt v2)), (3, .int (Int32.ofInt v3)), (4, .int (Int32.ofInt v4)), (5, .int (Int32.ofInt v5)), (6, .int (Int32.ofInt v6)), (7, .int (Int32.ofInt v7))] → W p l e (gR 5 0 0) s m #[.ref (aK 2), .ref (ad 10 0), .int (Int32.ofInt a2), .int (Int32.ofInt a3)] below meth c H locs 0 0 QQ (F0 m 12 ls [])) → ∀ (v4 v5 v6 v7 : Int) (σ : ZS), wpbX9_ordinal_S2_12 K12 v2 v3 v4 v5 v6 v7 σ Q → ∀ (H : Heap) (locs : List Loc) (ls : Array Slot), va_P D vwC (zC dA ad σ) H → va_D A (zC dA ad σ) → va_S A s.heap H locs → lv_has ls 8 [(0, .ref (aK 2)), (1, .ref (ad 10 0)), (2, .int (Int32.ofInt v2)), (3, .int (Int32.ofInt v3)), (4, .int (Int32.ofInt v4)), (5, .int (Int32.ofInt v5)), (6, .int (Int32.ofInt v6)), (7, .int (Int32.ofInt v7))] → W p l e (gR 5 0 0) s m #[.ref (aK 2), .ref (ad 10 0), .int (Int32.ofInt a2), .int (Int32.ofInt a3)] below meth c H locs 0 0 QQ (F0 m 12 ls []) := by
    intro v2 v3 K12 hK12
    have j107 : ∀ (v4 v5 v6 v7 : Int) (σ : ZS), ∀ (H : Heap) (locs : List Loc) (ls : Array Slot), va_P D vwC (zC dA ad σ) H → va_D A (zC dA ad σ) → va_S A s.heap H locs → lv_has ls 8 [(0, .ref (aK 2)), (1, .ref (ad 10 0)), (2, .int (Int32.ofInt v2)), (3, .int (Int32.ofInt v3)), (4, .int (Int32.ofInt v4)), (5, .int (Int32.ofInt v5)), (6, .int (Int32.ofInt v6)), (7, .int (Int32.ofInt v7))] → wpX9_ordinal_S2_107 K12 v2 v3 v4 v5 v6 v7 σ Q → W p l e (gR 5 0 0) s m #[.ref (aK 2), .ref (ad 10 0), .int (Int32.ofInt a2), .int (Int32.ofInt a3)] below meth c H locs 0 0 QQ (F0 m 107 ls []) := by
      intro v4 v5 v6 v7 σ H locs ls hP hD hS hl hw
      unfold wpX9_ordinal_S2_107 at hw
      refine lv_iinc (v := Int32.ofInt (v7 + 1)) (lv' := [(7, .int (Int32.ofInt (v7 + 1))), (0, .ref (aK 2)), (1, .ref (ad 10 0)), (2, .int (Int32.ofInt v2)), (3, .int (Int32.ofInt v3)), (4, .int (Int32.ofInt v4)), (5, .int (Int32.ofInt v5)), (6, .int (Int32.ofInt v6))]) hx hb dX9_ordinal_107 hl (k := 7) rfl (Int32.ofInt_add _ _).symm (by decide) rfl (fun ls hl => ?_)
      refine lv_goto (tgt := 12) hx hb dX9_ordinal_110 (by decide) ?_
      exact hK12 v4 v5 v6 (v7 + 1) σ hw _ _ _ hP hD hS (lv_sub hl [1, 2, 3, 4, 5, 6, 7, 0] rfl)
    have j102 : ∀ (v4 v5 v7 s0 : Int) (σ : ZS), ∀ (H : Heap) (locs : List Loc) (ls : Array Slot), va_P D vwC (zC dA ad σ) H → va_D A (zC dA ad σ) → va_S A s.heap H locs → lv_has ls 8 [(0, .ref (aK 2)), (1, .ref (ad 10 0)), (2, .int (Int32.ofInt v2)), (3, .int (Int32.ofInt v3)), (4, .int (Int32.ofInt v4)), (5, .int (Int32.ofInt v5)), (7, .int (Int32.ofInt v7))] → wpX9_ordinal_S2_102 K12 v2 v3 v4 v5 v7 s0 σ Q → W p l e (gR 5 0 0) s m #[.ref (aK 2), .ref (ad 10 0), .int (Int32.ofInt a2), .int (Int32.ofInt a3)] below meth c H locs 0 0 QQ (F0 m 102 ls [.int (Int32.ofInt s0)]) := by
      intro v4 v5 v7 s0 σ H locs ls hP hD hS hl hw
      unfold wpX9_ordinal_S2_102 at hw
      refine lv_istore (lv' := [(6, .int (Int32.ofInt s0)), (0, .ref (aK 2)), (1, .ref (ad 10 0)), (2, .int (Int32.ofInt v2)), (3, .int (Int32.ofInt v3)), (4, .int (Int32.ofInt v4)), (5, .int (Int32.ofInt v5)), (7, .int (Int32.ofInt v7))]) hx hb dX9_ordinal_102 hl (by decide) rfl (fun ls hl => ?_)
      refine lv_iinc (v := Int32.ofInt (v5 + 1)) (lv' := [(5, .int (Int32.ofInt (v5 + 1))), (6, .int (Int32.ofInt s0)), (0, .ref (aK 2)), (1, .ref (ad 10 0)), (2, .int (Int32.ofInt v2)), (3, .int (Int32.ofInt v3)), (4, .int (Int32.ofInt v4)), (7, .int (Int32.ofInt v7))]) hx hb dX9_ordinal_104 hl (k := 6) rfl (Int32.ofInt_add _ _).symm (by decide) rfl (fun ls hl => ?_)
      exact j107 v4 (v5 + 1) s0 v7 σ _ _ _ hP hD hS (lv_sub hl [2, 3, 4, 5, 6, 0, 1, 7] rfl) hw
    have j101 : ∀ (v4 v5 v7 : Int) (σ : ZS), ∀ (H : Heap) (locs : List Loc) (ls : Array Slot), va_P D vwC (zC dA ad σ) H → va_D A (zC dA ad σ) → va_S A s.heap H locs → lv_has ls 8 [(0, .ref (aK 2)), (1, .ref (ad 10 0)), (2, .int (Int32.ofInt v2)), (3, .int (Int32.ofInt v3)), (4, .int (Int32.ofInt v4)), (5, .int (Int32.ofInt v5)), (7, .int (Int32.ofInt v7))] → wpX9_ordinal_S2_101 K12 v2 v3 v4 v5 v7 σ Q → W p l e (gR 5 0 0) s m #[.ref (aK 2), .ref (ad 10 0), .int (Int32.ofInt a2), .int (Int32.ofInt a3)] below meth c H locs 0 0 QQ (F0 m 101 ls []) := by
      intro v4 v5 v7 σ H locs ls hP hD hS hl hw
      unfold wpX9_ordinal_S2_101 at hw
      refine lv_iconst (v := Int32.ofInt 0) hx hb dX9_ordinal_101 (by decide) ?_
      exact j102 v4 v5 v7 0 σ _ _ _ hP hD hS (lv_sub hl [0, 1, 2, 3, 4, 5, 6] rfl) hw
    have j57 : ∀ (v4 v7 : Int) (σ : ZS), ∀ (H : Heap) (locs : List Loc) (ls : Array Slot), va_P D vwC (zC dA ad σ) H → va_D A (zC dA ad σ) → va_S A s.heap H locs → lv_has ls 8 [(0, .ref (aK 2)), (1, .ref (ad 10 0)), (2, .int (Int32.ofInt v2)), (3, .int (Int32.ofInt v3)), (4, .int (Int32.ofInt v4)), (7, .int (Int32.ofInt v7))] → wpX9_ordinal_S2_57 K12 v2 v3 v4 v7 σ Q → W p l e (gR 5 0 0) s m #[.ref (aK 2), .ref (ad 10 0), .int (Int32.ofInt a2), .int (Int32.ofInt a3)] below meth c H locs 0 0 QQ (F0 m 57 ls []) := by
      intro v4 v7 σ H locs ls hP hD hS hl hw
      unfold wpX9_ordinal_S2_57 at hw
      refine lv_iinc (v := Int32.ofInt (v4 + 1)) (lv' := [(4, .int (Int32.ofInt (v4 + 1))), (0, .ref (aK 2)), (1, .ref (ad 10 0)), (2, .int (Int32.ofInt v2)), (3, .int (Int32.ofInt v3)), (7, .int (Int32.ofInt v7))]) hx hb dX9_ordinal_57 hl (k := 4) rfl (Int32.ofInt_add _ _).symm (by decide) rfl (fun ls hl => ?_)
      refine lv_iconst (v := Int32.ofInt 0) hx hb dX9_ordinal_60 (by decide) ?_
      refine lv_istore (lv' := [(5, .int (Int32.ofInt 0)), (4, .int (Int32.ofInt (v4 + 1))), (0, .ref (aK 2)), (1, .ref (ad 10 0)), (2, .int (Int32.ofInt v2)), (3, .int (Int32.ofInt v3)), (7, .int (Int32.ofInt v7))]) hx hb dX9_ordinal_61 hl (by decide) rfl (fun ls hl => ?_)
      refine lv_iconst (v := Int32.ofInt 1) hx hb dX9_ordinal_63 (by decide) ?_
      refine lv_istore (lv' := [(6, .int (Int32.ofInt 1)), (5, .int (Int32.ofInt 0)), (4, .int (Int32.ofInt (v4 + 1))), (0, .ref (aK 2)), (1, .ref (ad 10 0)), (2, .int (Int32.ofInt v2)), (3, .int (Int32.ofInt v3)), (7, .int (Int32.ofInt v7))]) hx hb dX9_ordinal_64 hl (by decide) rfl (fun ls hl => ?_)
      refine lv_goto (tgt := 107) hx hb dX9_ordinal_66 (by decide) ?_
      exact j107 (v4 + 1) 0 1 v7 σ _ _ _ hP hD hS (lv_sub hl [3, 4, 5, 6, 2, 1, 0, 7] rfl) hw
    have j41 : ∀ (v4 v5 v6 v7 : Int) (σ : ZS), ∀ (H : Heap) (locs : List Loc) (ls : Array Slot), va_P D vwC (zC dA ad σ) H → va_D A (zC dA ad σ) → va_S A s.heap H locs → lv_has ls 8 [(0, .ref (aK 2)), (1, .ref (ad 10 0)), (2, .int (Int32.ofInt v2)), (3, .int (Int32.ofInt v3)), (4, .int (Int32.ofInt v4)), (5, .int (Int32.ofInt v5)), (6, .int (Int32.ofInt v6)), (7, .int (Int32.ofInt v7))] → wpX9_ordinal_S2_41 K12 v2 v3 v4 v5 v6 v7 σ Q → W p l e (gR 5 0 0) s m #[.ref (aK 2), .ref (ad 10 0), .int (Int32.ofInt a2), .int (Int32.ofInt a3)] below meth c H locs 0 0 QQ (F0 m 41 ls []) := by
      intro v4 v5 v6 v7 σ H locs ls hP hD hS hl hw
      unfold wpX9_ordinal_S2_41 at hw
      refine lv_iload hx hb dX9_ordinal_41 (lv_at hl 6 rfl) ?_
      obtain ⟨o1, hw⟩ := hw
      refine z_if_eq (tgt := 57) hx hb o1 dX9_ordinal_43 (by decide) (fun k2 => ?_) (fun k2 => ?_)
      · replace hw := hw.1 k2
        exact j57 v4 v7 σ _ _ _ hP hD hS (lv_sub hl [0, 1, 2, 3, 4, 7] rfl) hw
      · replace hw := hw.2 k2
        refine lv_iload_n hx hb dX9_ordinal_46 rfl (lv_at hl 2 rfl) ?_
        refine lv_iload hx hb dX9_ordinal_47 (lv_at hl 5 rfl) ?_
        refine z_iadd hx hb dX9_ordinal_49 ?_
        refine lv_iload_n hx hb dX9_ordinal_50 rfl (lv_at hl 3 rfl) ?_
        obtain ⟨o3, hw⟩ := hw
        obtain ⟨o4, hw⟩ := hw
        refine z_icmp_ne (tgt := 57) hx hb o3 o4 dX9_ordinal_51 (by decide) (fun k5 => ?_) (fun k5 => ?_)
        · replace hw := hw.1 k5
          exact j57 v4 v7 σ _ _ _ hP hD hS (lv_sub hl [0, 1, 2, 3, 4, 7] rfl) hw
        · replace hw := hw.2 k5
          refine lv_iload hx hb dX9_ordinal_54 (lv_at hl 4 rfl) ?_
          exact hret v4 σ _ _ _ _ hw hP hD hS dX9_ordinal_56
    intro v4 v5 v6 v7 σ hw H locs ls hP hD hS hl
    unfold wpbX9_ordinal_S2_12 at hw
    refine lv_iload hx hb dX9_ordinal_12 (lv_at hl 7 rfl) ?_
    refine lv_aload_n hx hb dX9_ordinal_14 rfl (lv_at hl 0 rfl) ?_
    refine z_EVi (n := 0) (As := []) (rest := [.int (Int32.ofInt v7)]) hx hb hml hg hown hE hK hP hD hS hA (kJ0_length_8abf5_S2 l D dA ad tf tc aK aV σ _ _ hw) (vk_recv hE.2.2.2.2.2.2.1 (i := 2) (by decide) hS) q821 q166 q818 q819 q820 (by decide +kernel) ⟨(Nat.le_of_ble_eq_true rfl), (Nat.le_of_ble_eq_true rfl)⟩ rfl hl.1 rfl (Nat.le_of_ble_eq_true rfl) dX9_ordinal_15 ⟨(Nat.le_of_ble_eq_true rfl), (Nat.le_of_ble_eq_true rfl)⟩ (fun x6 σ7 H locs hw hP hD hS => ?_)
    obtain ⟨o8, hw⟩ := hw
    obtain ⟨o9, hw⟩ := hw
    refine z_icmp_gt (tgt := 113) hx hb o8 o9 dX9_ordinal_18 (by decide) (fun k10 => ?_) (fun k10 => ?_)
    · replace hw := hw.1 k10
      refine lv_iconst (v := Int32.ofInt (-1)) hx hb dX9_ordinal_113 (by decide) ?_
      exact hret (-1) σ7 _ _ _ _ hw hP hD hS dX9_ordinal_114
    · replace hw := hw.2 k10
      refine lv_iload hx hb dX9_ordinal_21 (lv_at hl 7 rfl) ?_
      refine lv_aload_n hx hb dX9_ordinal_23 rfl (lv_at hl 0 rfl) ?_
      refine z_EVi (n := 0) (As := []) (rest := [.int (Int32.ofInt v7)]) hx hb hml hg hown hE hK hP hD hS hA (kJ0_length_8abf5_S2 l D dA ad tf tc aK aV σ7 _ _ hw) (vk_recv hE.2.2.2.2.2.2.1 (i := 2) (by decide) hS) q821 q166 q818 q819 q820 (by decide +kernel) ⟨(Nat.le_of_ble_eq_true rfl), (Nat.le_of_ble_eq_true rfl)⟩ rfl hl.1 rfl (Nat.le_of_ble_eq_true rfl) dX9_ordinal_24 ⟨(Nat.le_of_ble_eq_true rfl), (Nat.le_of_ble_eq_true rfl)⟩ (fun x11 σ12 H locs hw hP hD hS => ?_)
      obtain ⟨o13, hw⟩ := hw
      refine z_icmp_eq (tgt := 41) hx hb o8 o13 dX9_ordinal_27 (by decide) (fun k14 => ?_) (fun k14 => ?_)
      · replace hw := hw.1 k14
        exact j41 v4 v5 v6 v7 σ12 _ _ _ hP hD hS (lv_sub hl [0, 1, 2, 3, 4, 5, 6, 7] rfl) hw
      · replace hw := hw.2 k14
        refine lv_aload_n hx hb dX9_ordinal_30 rfl (lv_at hl 0 rfl) ?_
        refine lv_iload hx hb dX9_ordinal_31 (lv_at hl 7 rfl) ?_
        refine z_EVi (n := 1) (As := [.int (Int32.ofInt v7)]) (rest := []) hx hb hml hg hown hE hK hP hD hS hA (kJ0_charAt_5068e_S2 l D dA ad tf tc aK aV v7 σ12 _ _ hw) (vk_recv hE.2.2.2.2.2.2.1 (i := 2) (by decide) hS) q831 q166 q828 q829 q830 (by decide +kernel) ⟨(Nat.le_of_ble_eq_true rfl), (Nat.le_of_ble_eq_true rfl)⟩ rfl hl.1 rfl (Nat.le_of_ble_eq_true rfl) dX9_ordinal_33 ⟨(Nat.le_of_ble_eq_true rfl), (Nat.le_of_ble_eq_true rfl)⟩ (fun x15 σ16 H locs hw hP hD hS => ?_)
        refine lv_bipush (v := Int32.ofInt 32) hx hb dX9_ordinal_36 (by decide) ?_
        obtain ⟨o17, hw⟩ := hw
        refine z_icmp_ne (tgt := 69) hx hb o17 (by decide) dX9_ordinal_38 (by decide) (fun k18 => ?_) (fun k18 => ?_)
        · replace hw := hw.1 k18
          refine lv_iload hx hb dX9_ordinal_69 (lv_at hl 6 rfl) ?_
          obtain ⟨o19, hw⟩ := hw
          refine z_if_eq (tgt := 101) hx hb o19 dX9_ordinal_71 (by decide) (fun k20 => ?_) (fun k20 => ?_)
          · replace hw := hw.1 k20
            exact j101 v4 v5 v7 σ16 _ _ _ hP hD hS (lv_sub hl [0, 1, 2, 3, 4, 5, 7] rfl) hw
          · replace hw := hw.2 k20
            refine lv_iload_n hx hb dX9_ordinal_74 rfl (lv_at hl 2 rfl) ?_
            refine lv_iload hx hb dX9_ordinal_75 (lv_at hl 5 rfl) ?_
            refine z_iadd hx hb dX9_ordinal_77 ?_
            refine lv_iload_n hx hb dX9_ordinal_78 rfl (lv_at hl 3 rfl) ?_
            obtain ⟨o21, hw⟩ := hw
            obtain ⟨o22, hw⟩ := hw
            refine z_icmp_ge (tgt := 101) hx hb o21 o22 dX9_ordinal_79 (by decide) (fun k23 => ?_) (fun k23 => ?_)
            · replace hw := hw.1 k23
              exact j101 v4 v5 v7 σ16 _ _ _ hP hD hS (lv_sub hl [0, 1, 2, 3, 4, 5, 7] rfl) hw
            · replace hw := hw.2 k23
              refine lv_aload_n hx hb dX9_ordinal_82 rfl (lv_at hl 1 rfl) ?_
              refine lv_iload_n hx hb dX9_ordinal_83 rfl (lv_at hl 2 rfl) ?_
              refine lv_iload hx hb dX9_ordinal_84 (lv_at hl 5 rfl) ?_
              refine z_iadd hx hb dX9_ordinal_86 ?_
              obtain ⟨o24, hw⟩ := hw
              refine zlC10_0 hx hb o24 hK hP dX9_ordinal_87 ?_
              refine lv_aload_n hx hb dX9_ordinal_88 rfl (lv_at hl 0 rfl) ?_
              refine lv_iload hx hb dX9_ordinal_89 (lv_at hl 7 rfl) ?_
              refine z_EVi (n := 1) (As := [.int (Int32.ofInt v7)]) (rest := [.int (Int32.ofInt (zA σ16 10 0 (v2 + v5)))]) hx hb hml hg hown hE hK hP hD hS hA (kJ0_charAt_5068e_S2 l D dA ad tf tc aK aV v7 σ16 _ _ hw) (vk_recv hE.2.2.2.2.2.2.1 (i := 2) (by decide) hS) q831 q166 q828 q829 q830 (by decide +kernel) ⟨(Nat.le_of_ble_eq_true rfl), (Nat.le_of_ble_eq_true rfl)⟩ rfl hl.1 rfl (Nat.le_of_ble_eq_true rfl) dX9_ordinal_91 ⟨(Nat.le_of_ble_eq_true rfl), (Nat.le_of_ble_eq_true rfl)⟩ (fun x25 σ26 H locs hw hP hD hS => ?_)
              obtain ⟨o27, hw⟩ := hw
              obtain ⟨o28, hw⟩ := hw
              refine z_icmp_ne (tgt := 101) hx hb o27 o28 dX9_ordinal_94 (by decide) (fun k29 => ?_) (fun k29 => ?_)
              · replace hw := hw.1 k29
                exact j101 v4 v5 v7 σ26 _ _ _ hP hD hS (lv_sub hl [0, 1, 2, 3, 4, 5, 7] rfl) hw
              · replace hw := hw.2 k29
                refine lv_iconst (v := Int32.ofInt 1) hx hb dX9_ordinal_97 (by decide) ?_
                refine lv_goto (tgt := 102) hx hb dX9_ordinal_98 (by decide) ?_
                exact j102 v4 v5 v7 1 σ26 _ _ _ hP hD hS (lv_sub hl [0, 1, 2, 3, 4, 5, 7] rfl) hw
        · replace hw := hw.2 k18
          exact j41 v4 v5 v6 v7 σ16 _ _ _ hP hD hS (lv_sub hl [0, 1, 2, 3, 4, 5, 6, 7] rfl) hw
  have j12 : ∀ (v2 v3 v4 v5 v6 v7 : Int) (σ : ZS), ∀ (H : Heap) (locs : List Loc) (ls : Array Slot), va_P D vwC (zC dA ad σ) H → va_D A (zC dA ad σ) → va_S A s.heap H locs → lv_has ls 8 [(0, .ref (aK 2)), (1, .ref (ad 10 0)), (2, .int (Int32.ofInt v2)), (3, .int (Int32.ofInt v3)), (4, .int (Int32.ofInt v4)), (5, .int (Int32.ofInt v5)), (6, .int (Int32.ofInt v6)), (7, .int (Int32.ofInt v7))] → wpX9_ordinal_S2_12 v2 v3 v4 v5 v6 v7 σ Q → W p l e (gR 5 0 0) s m #[.ref (aK 2), .ref (ad 10 0), .int (Int32.ofInt a2), .int (Int32.ofInt a3)] below meth c H locs 0 0 QQ (F0 m 12 ls []) := by
    intro v2 v3 v4 v5 v6 v7 σ H locs ls hP hD hS hl hw
    exact hw (fun v4 v5 v6 v7 σ => ∀ (H : Heap) (locs : List Loc) (ls : Array Slot), va_P D vwC (zC dA ad σ) H → va_D A (zC dA ad σ) → va_S A s.heap H locs → lv_has ls 8 [(0, .ref (aK 2)), (1, .ref (ad 10 0)), (2, .int (Int32.ofInt v2)), (3, .int (Int32.ofInt v3)), (4, .int (Int32.ofInt v4)), (5, .int (Int32.ofInt v5)), (6, .int (Int32.ofInt v6)), (7, .int (Int32.ofInt v7))] → W p l e (gR 5 0 0) s m #[.ref (aK 2), .ref (ad 10 0), .int (Int32.ofInt a2), .int (Int32.ofInt a3)] below meth c H locs 0 0 QQ (F0 m 12 ls [])) (b12 v2 v3 (fun v4 v5 v6 v7 σ => ∀ (H : Heap) (locs : List Loc) (ls : Array Slot), va_P D vwC (zC dA ad σ) H → va_D A (zC dA ad σ) → va_S A s.heap H locs → lv_has ls 8 [(0, .ref (aK 2)), (1, .ref (ad 10 0)), (2, .int (Int32.ofInt v2)), (3, .int (Int32.ofInt v3)), (4, .int (Int32.ofInt v4)), (5, .int (Int32.ofInt v5)), (6, .int (Int32.ofInt v6)), (7, .int (Int32.ofInt v7))] → W p l e (gR 5 0 0) s m #[.ref (aK 2), .ref (ad 10 0), .int (Int32.ofInt a2), .int (Int32.ofInt a3)] below meth c H locs 0 0 QQ (F0 m 12 ls [])) (fun v4 v5 v6 v7 σ h => h)) _ _ _ hP hD hS hl
  unfold wpX9_ordinal_S2 at hw
  refine lv_iconst (v := Int32.ofInt 0) hx hb dX9_ordinal_0 (by decide) ?_
  refine lv_istore (lv' := [(4, .int (Int32.ofInt 0)), (0, .ref (aK 2)), (1, .ref (ad 10 0)), (2, .int (Int32.ofInt a2)), (3, .int (Int32.ofInt a3))]) hx hb dX9_ordinal_1 hl (by decide) rfl (fun ls hl => ?_)
  refine lv_iconst (v := Int32.ofInt 0) hx hb dX9_ordinal_3 (by decide) ?_
  refine lv_istore (lv' := [(5, .int (Int32.ofInt 0)), (4, .int (Int32.ofInt 0)), (0, .ref (aK 2)), (1, .ref (ad 10 0)), (2, .int (Int32.ofInt a2)), (3, .int (Int32.ofInt a3))]) hx hb dX9_ordinal_4 hl (by decide) rfl (fun ls hl => ?_)
  refine lv_iconst (v := Int32.ofInt 1) hx hb dX9_ordinal_6 (by decide) ?_
  refine lv_istore (lv' := [(6, .int (Int32.ofInt 1)), (5, .int (Int32.ofInt 0)), (4, .int (Int32.ofInt 0)), (0, .ref (aK 2)), (1, .ref (ad 10 0)), (2, .int (Int32.ofInt a2)), (3, .int (Int32.ofInt a3))]) hx hb dX9_ordinal_7 hl (by decide) rfl (fun ls hl => ?_)
  refine lv_iconst (v := Int32.ofInt 0) hx hb dX9_ordinal_9 (by decide) ?_
  refine lv_istore (lv' := [(7, .int (Int32.ofInt 0)), (6, .int (Int32.ofInt 1)), (5, .int (Int32.ofInt 0)), (4, .int (Int32.ofInt 0)), (0, .ref (aK 2)), (1, .ref (ad 10 0)), (2, .int (Int32.ofInt a2)), (3, .int (Int32.ofInt a3))]) hx hb dX9_ordinal_10 hl (by decide) rfl (fun ls hl => ?_)
  exact j12 a2 a3 0 0 1 0 σ _ _ _ hP hD hS (lv_sub hl [4, 5, 6, 7, 3, 2, 1, 0] rfl) hw
def wpX9_ordinal_S3_107 (K12 : Int → Int → Int → Int → ZS → Prop) (v2 v3 v4 v5 v6 v7 : Int) (σ : ZS) (Q : Int → ZS → Prop) : Prop := K12 v4 v5 v6 (v7 + 1) σ
def wpX9_ordinal_S3_102 (K12 : Int → Int → Int → Int → ZS → Prop) (v2 v3 v4 v5 v7 s0 : Int) (σ : ZS) (Q : Int → ZS → Prop) : Prop := wpX9_ordinal_S3_107 K12 v2 v3 v4 (v5 + 1) s0 v7 σ Q
def wpX9_ordinal_S3_101 (K12 : Int → Int → Int → Int → ZS → Prop) (v2 v3 v4 v5 v7 : Int) (σ : ZS) (Q : Int → ZS → Prop) : Prop := wpX9_ordinal_S3_102 K12 v2 v3 v4 v5 v7 0 σ Q
def wpX9_ordinal_S3_57 (K12 : Int → Int → Int → Int → ZS → Prop) (v2 v3 v4 v7 : Int) (σ : ZS) (Q : Int → ZS → Prop) : Prop := wpX9_ordinal_S3_107 K12 v2 v3 (v4 + 1) 0 1 v7 σ Q
def wpX9_ordinal_S3_41 (K12 : Int → Int → Int → Int → ZS → Prop) (v2 v3 v4 v5 v6 v7 : Int) (σ : ZS) (Q : Int → ZS → Prop) : Prop := (-2147483648 ≤ v6 ∧ v6 ≤ 2147483647) ∧ (v6 = 0 → wpX9_ordinal_S3_57 K12 v2 v3 v4 v7 σ Q) ∧ (¬ v6 = 0 → (-2147483648 ≤ (v2 + v5) ∧ (v2 + v5) ≤ 2147483647) ∧ (-2147483648 ≤ v3 ∧ v3 ≤ 2147483647) ∧ (¬ (v2 + v5) = v3 → wpX9_ordinal_S3_57 K12 v2 v3 v4 v7 σ Q) ∧ ((v2 + v5) = v3 → Q v4 σ))
def wpbX9_ordinal_S3_12 (K12 : Int → Int → Int → Int → ZS → Prop) (v2 v3 v4 v5 v6 v7 : Int) (σ : ZS) (Q : Int → ZS → Prop) : Prop := wpJ0_length_8abf5_S3 σ (fun (x6 : Int) (σ7 : ZS) => (-2147483648 ≤ v7 ∧ v7 ≤ 2147483647) ∧ (-2147483648 ≤ x6 ∧ x6 ≤ 2147483647) ∧ (x6 < v7 → Q (-1) σ7) ∧ (¬ x6 < v7 → wpJ0_length_8abf5_S3 σ7 (fun (x11 : Int) (σ12 : ZS) => (-2147483648 ≤ x11 ∧ x11 ≤ 2147483647) ∧ (v7 = x11 → wpX9_ordinal_S3_41 K12 v2 v3 v4 v5 v6 v7 σ12 Q) ∧ (¬ v7 = x11 → wpJ0_charAt_5068e_S3 v7 σ12 (fun (x15 : Int) (σ16 : ZS) => (-2147483648 ≤ x15 ∧ x15 ≤ 2147483647) ∧ (¬ x15 = 32 → (-2147483648 ≤ v6 ∧ v6 ≤ 2147483647) ∧ (v6 = 0 → wpX9_ordinal_S3_101 K12 v2 v3 v4 v5 v7 σ16 Q) ∧ (¬ v6 = 0 → (-2147483648 ≤ (v2 + v5) ∧ (v2 + v5) ≤ 2147483647) ∧ (-2147483648 ≤ v3 ∧ v3 ≤ 2147483647) ∧ (v3 ≤ (v2 + v5) → wpX9_ordinal_S3_101 K12 v2 v3 v4 v5 v7 σ16 Q) ∧ (¬ v3 ≤ (v2 + v5) → (0 ≤ (v2 + v5) ∧ (v2 + v5) < 480) ∧ wpJ0_charAt_5068e_S3 v7 σ16 (fun (x25 : Int) (σ26 : ZS) => (-2147483648 ≤ (zA σ16 10 0 (v2 + v5)) ∧ (zA σ16 10 0 (v2 + v5)) ≤ 2147483647) ∧ (-2147483648 ≤ x25 ∧ x25 ≤ 2147483647) ∧ (¬ (zA σ16 10 0 (v2 + v5)) = x25 → wpX9_ordinal_S3_101 K12 v2 v3 v4 v5 v7 σ26 Q) ∧ ((zA σ16 10 0 (v2 + v5)) = x25 → wpX9_ordinal_S3_102 K12 v2 v3 v4 v5 v7 1 σ26 Q))))) ∧ (x15 = 32 → wpX9_ordinal_S3_41 K12 v2 v3 v4 v5 v6 v7 σ16 Q))))))
def wpX9_ordinal_S3_12 (v2 v3 v4 v5 v6 v7 : Int) (σ : ZS) (Q : Int → ZS → Prop) : Prop := lfp4 (fun K12 v4 v5 v6 v7 σ => wpbX9_ordinal_S3_12 K12 v2 v3 v4 v5 v6 v7 σ Q) v4 v5 v6 v7 σ
def wpX9_ordinal_S3 (a2 a3 : Int) (σ : ZS) (Q : Int → ZS → Prop) : Prop := wpX9_ordinal_S3_12 a2 a3 0 0 1 0 σ Q
set_option maxHeartbeats 4000000 in
set_option maxRecDepth 100000 in
theorem kX9_ordinal_S3 (l : Launch) (D : va_G) (dA : Nat → ClassId) (ad : Int → Nat → Nat) (tf tc : Nat) (aK aV : Nat → Nat) (a2 a3 : Int) (σ : ZS) (Q : Int → ZS → Prop) (sz : Nat) (hw : wpX9_ordinal_S3 a2 a3 σ Q) : Met l yX9_ordinal (gws yX9_ordinal cX9_ordinal 8 (some .int)) (gR 5 0 0) (gPreE D dA tf tc aK aV [.ref (aK 3), .ref (ad 10 0), .int (Int32.ofInt a2), .int (Int32.ofInt a3)] (zC dA ad σ) sz) (va_Qi (zQi Q) (gAt D dA (va_A (zC dA ad σ) sz) (zC dA ad)) (va_A (zC dA ad σ) sz)) 0 0 (va_A (zC dA ad σ) sz) := by
  refine Met.ofW (cc := cX9_ordinal) (maxL := 8) (ret := (some .int)) (by decide) rfl ?_
  intro p e s m args below meth c s₁ B hml hv
  obtain ⟨rfl, hsz, hP, hK, hD0, hE⟩ := hv
  have hx := B.exec
  have hb := B.bytes
  have hr := B.returns
  have hts := atoms_spec (ws := gws yX9_ordinal cX9_ordinal 8 (some .int)) B.pre
  have hg : ∀ w ∈ gw, w.before _ s = true := fun w h => hts w (List.mem_cons_of_mem _ h)
  have hown : s.vm.findClass RX9 = some m.cls := findClass_of_methodNamed B.named
  have hlocks := B.notSynchronized
  subst hsz
  have hD := hD0.self (sz := s.heap.size)
  generalize hAe : va_A (zC dA ad σ) s.heap.size = A at hD hE ⊢
  have hA : ∀ q : Nat, s.heap.size ≤ q → A q := fun q h => by rw [← hAe]; exact Or.inr h
  have hS : va_S A s.heap s.heap [] := va_S.rf
  have hl := lv_entry ([.ref (aK 3), .ref (ad 10 0), .int (Int32.ofInt a2), .int (Int32.ofInt a3)]) (n := 8) (Nat.le_of_ble_eq_true rfl)
  rw [lg_entry_eq]
  generalize (lg_sl ([.ref (aK 3), .ref (ad 10 0), .int (Int32.ofInt a2), .int (Int32.ofInt a3)]) ++ List.replicate (8 - (lg_sl ([.ref (aK 3), .ref (ad 10 0), .int (Int32.ofInt a2), .int (Int32.ofInt a3)])).length) Slot.unset).toArray = ls at hl ⊢
  have hl : lv_has ls 8 [(0, .ref (aK 3)), (1, .ref (ad 10 0)), (2, .int (Int32.ofInt a2)), (3, .int (Int32.ofInt a3))] := hl
  have hret : ∀ (v : Int) (σ : ZS) (H : Heap) (locs : List Loc) (ls : Array Slot) (pc : Nat), Q v σ → va_P D vwC (zC dA ad σ) H → va_D A (zC dA ad σ) → va_S A s.heap H locs → decode cX9_ordinal pc = .ok (.ireturn, 1) → W p l e (gR 5 0 0) s m #[.ref (aK 3), .ref (ad 10 0), .int (Int32.ofInt a2), .int (Int32.ofInt a3)] below meth c H locs 0 0 (MQ below (va_Qi (zQi Q) (gAt D dA A (zC dA ad)) A) #[.ref (aK 3), .ref (ad 10 0), .int (Int32.ofInt a2), .int (Int32.ofInt a3)] s 0 0 A) (F0 m pc ls [.int (Int32.ofInt v)]) := fun v σ H locs ls pc hw hP hD hS hd => g_iret hx hb hr rfl hlocks hK σ hP hD hS ⟨v, rfl, hw⟩ (Nat.le_of_ble_eq_true rfl) (Nat.le_of_ble_eq_true rfl) hd
  generalize MQ below (va_Qi (zQi Q) (gAt D dA A (zC dA ad)) A) #[.ref (aK 3), .ref (ad 10 0), .int (Int32.ofInt a2), .int (Int32.ofInt a3)] s 0 0 A = QQ at hret ⊢
  have b12 : ∀ (v2 v3 : Int) (K12 : Int → Int → Int → Int → ZS → Prop), (∀ (v4 v5 v6 v7 : Int) (σ : ZS), K12 v4 v5 v6 v7 σ → ∀ (H : Heap) (locs : List Loc) (ls : Array Slot), va_P D vwC (zC dA ad σ) H → va_D A (zC dA ad σ) → va_S A s.heap H locs → lv_has ls 8 [(0, .ref (aK 3)), (1, .ref (ad 10 0)), (2, .int (Int32.ofInt v2)), (3, .int (Int32.ofInt v3)), (4, .int (Int32.ofInt v4)), (5, .int (Int32.ofInt v5)), (6, .int (Int32.ofInt v6)), (7, .int (Int32.ofInt v7))] → W p l e (gR 5 0 0) s m #[.ref (aK 3), .ref (ad 10 0), .int (Int32.ofInt a2), .int (Int32.ofInt a3)] below meth c H locs 0 0 QQ (F0 m 12 ls [])) → ∀ (v4 v5 v6 v7 : Int) (σ : ZS), wpbX9_ordinal_S3_12 K12 v2 v3 v4 v5 v6 v7 σ Q → ∀ (H : Heap) (locs : List Loc) (ls : Array Slot), va_P D vwC (zC dA ad σ) H → va_D A (zC dA ad σ) → va_S A s.heap H locs → lv_has ls 8 [(0, .ref (aK 3)), (1, .ref (ad 10 0)), (2, .int (Int32.ofInt v2)), (3, .int (Int32.ofInt v3)), (4, .int (Int32.ofInt v4)), (5, .int (Int32.ofInt v5)), (6, .int (Int32.ofInt v6)), (7, .int (Int32.ofInt v7))] → W p l e (gR 5 0 0) s m #[.ref (aK 3), .ref (ad 10 0), .int (Int32.ofInt a2), .int (Int32.ofInt a3)] below meth c H locs 0 0 QQ (F0 m 12 ls []) := by
    intro v2 v3 K12 hK12
    have j107 : ∀ (v4 v5 v6 v7 : Int) (σ : ZS), ∀ (H : Heap) (locs : List Loc) (ls : Array Slot), va_P D vwC (zC dA ad σ) H → va_D A (zC dA ad σ) → va_S A s.heap H locs → lv_has ls 8 [(0, .ref (aK 3)), (1, .ref (ad 10 0)), (2, .int (Int32.ofInt v2)), (3, .int (Int32.ofInt v3)), (4, .int (Int32.ofInt v4)), (5, .int (Int32.ofInt v5)), (6, .int (Int32.ofInt v6)), (7, .int (Int32.ofInt v7))] → wpX9_ordinal_S3_107 K12 v2 v3 v4 v5 v6 v7 σ Q → W p l e (gR 5 0 0) s m #[.ref (aK 3), .ref (ad 10 0), .int (Int32.ofInt a2), .int (Int32.ofInt a3)] below meth c H locs 0 0 QQ (F0 m 107 ls []) := by
      intro v4 v5 v6 v7 σ H locs ls hP hD hS hl hw
      unfold wpX9_ordinal_S3_107 at hw
      refine lv_iinc (v := Int32.ofInt (v7 + 1)) (lv' := [(7, .int (Int32.ofInt (v7 + 1))), (0, .ref (aK 3)), (1, .ref (ad 10 0)), (2, .int (Int32.ofInt v2)), (3, .int (Int32.ofInt v3)), (4, .int (Int32.ofInt v4)), (5, .int (Int32.ofInt v5)), (6, .int (Int32.ofInt v6))]) hx hb dX9_ordinal_107 hl (k := 7) rfl (Int32.ofInt_add _ _).symm (by decide) rfl (fun ls hl => ?_)
      refine lv_goto (tgt := 12) hx hb dX9_ordinal_110 (by decide) ?_
      exact hK12 v4 v5 v6 (v7 + 1) σ hw _ _ _ hP hD hS (lv_sub hl [1, 2, 3, 4, 5, 6, 7, 0] rfl)
    have j102 : ∀ (v4 v5 v7 s0 : Int) (σ : ZS), ∀ (H : Heap) (locs : List Loc) (ls : Array Slot), va_P D vwC (zC dA ad σ) H → va_D A (zC dA ad σ) → va_S A s.heap H locs → lv_has ls 8 [(0, .ref (aK 3)), (1, .ref (ad 10 0)), (2, .int (Int32.ofInt v2)), (3, .int (Int32.ofInt v3)), (4, .int (Int32.ofInt v4)), (5, .int (Int32.ofInt v5)), (7, .int (Int32.ofInt v7))] → wpX9_ordinal_S3_102 K12 v2 v3 v4 v5 v7 s0 σ Q → W p l e (gR 5 0 0) s m #[.ref (aK 3), .ref (ad 10 0), .int (Int32.ofInt a2), .int (Int32.ofInt a3)] below meth c H locs 0 0 QQ (F0 m 102 ls [.int (Int32.ofInt s0)]) := by
      intro v4 v5 v7 s0 σ H locs ls hP hD hS hl hw
      unfold wpX9_ordinal_S3_102 at hw
      refine lv_istore (lv' := [(6, .int (Int32.ofInt s0)), (0, .ref (aK 3)), (1, .ref (ad 10 0)), (2, .int (Int32.ofInt v2)), (3, .int (Int32.ofInt v3)), (4, .int (Int32.ofInt v4)), (5, .int (Int32.ofInt v5)), (7, .int (Int32.ofInt v7))]) hx hb dX9_ordinal_102 hl (by decide) rfl (fun ls hl => ?_)
      refine lv_iinc (v := Int32.ofInt (v5 + 1)) (lv' := [(5, .int (Int32.ofInt (v5 + 1))), (6, .int (Int32.ofInt s0)), (0, .ref (aK 3)), (1, .ref (ad 10 0)), (2, .int (Int32.ofInt v2)), (3, .int (Int32.ofInt v3)), (4, .int (Int32.ofInt v4)), (7, .int (Int32.ofInt v7))]) hx hb dX9_ordinal_104 hl (k := 6) rfl (Int32.ofInt_add _ _).symm (by decide) rfl (fun ls hl => ?_)
      exact j107 v4 (v5 + 1) s0 v7 σ _ _ _ hP hD hS (lv_sub hl [2, 3, 4, 5, 6, 0, 1, 7] rfl) hw
    have j101 : ∀ (v4 v5 v7 : Int) (σ : ZS), ∀ (H : Heap) (locs : List Loc) (ls : Array Slot), va_P D vwC (zC dA ad σ) H → va_D A (zC dA ad σ) → va_S A s.heap H locs → lv_has ls 8 [(0, .ref (aK 3)), (1, .ref (ad 10 0)), (2, .int (Int32.ofInt v2)), (3, .int (Int32.ofInt v3)), (4, .int (Int32.ofInt v4)), (5, .int (Int32.ofInt v5)), (7, .int (Int32.ofInt v7))] → wpX9_ordinal_S3_101 K12 v2 v3 v4 v5 v7 σ Q → W p l e (gR 5 0 0) s m #[.ref (aK 3), .ref (ad 10 0), .int (Int32.ofInt a2), .int (Int32.ofInt a3)] below meth c H locs 0 0 QQ (F0 m 101 ls []) := by
      intro v4 v5 v7 σ H locs ls hP hD hS hl hw
      unfold wpX9_ordinal_S3_101 at hw
      refine lv_iconst (v := Int32.ofInt 0) hx hb dX9_ordinal_101 (by decide) ?_
      exact j102 v4 v5 v7 0 σ _ _ _ hP hD hS (lv_sub hl [0, 1, 2, 3, 4, 5, 6] rfl) hw
    have j57 : ∀ (v4 v7 : Int) (σ : ZS), ∀ (H : Heap) (locs : List Loc) (ls : Array Slot), va_P D vwC (zC dA ad σ) H → va_D A (zC dA ad σ) → va_S A s.heap H locs → lv_has ls 8 [(0, .ref (aK 3)), (1, .ref (ad 10 0)), (2, .int (Int32.ofInt v2)), (3, .int (Int32.ofInt v3)), (4, .int (Int32.ofInt v4)), (7, .int (Int32.ofInt v7))] → wpX9_ordinal_S3_57 K12 v2 v3 v4 v7 σ Q → W p l e (gR 5 0 0) s m #[.ref (aK 3), .ref (ad 10 0), .int (Int32.ofInt a2), .int (Int32.ofInt a3)] below meth c H locs 0 0 QQ (F0 m 57 ls []) := by
      intro v4 v7 σ H locs ls hP hD hS hl hw
      unfold wpX9_ordinal_S3_57 at hw
      refine lv_iinc (v := Int32.ofInt (v4 + 1)) (lv' := [(4, .int (Int32.ofInt (v4 + 1))), (0, .ref (aK 3)), (1, .ref (ad 10 0)), (2, .int (Int32.ofInt v2)), (3, .int (Int32.ofInt v3)), (7, .int (Int32.ofInt v7))]) hx hb dX9_ordinal_57 hl (k := 4) rfl (Int32.ofInt_add _ _).symm (by decide) rfl (fun ls hl => ?_)
      refine lv_iconst (v := Int32.ofInt 0) hx hb dX9_ordinal_60 (by decide) ?_
      refine lv_istore (lv' := [(5, .int (Int32.ofInt 0)), (4, .int (Int32.ofInt (v4 + 1))), (0, .ref (aK 3)), (1, .ref (ad 10 0)), (2, .int (Int32.ofInt v2)), (3, .int (Int32.ofInt v3)), (7, .int (Int32.ofInt v7))]) hx hb dX9_ordinal_61 hl (by decide) rfl (fun ls hl => ?_)
      refine lv_iconst (v := Int32.ofInt 1) hx hb dX9_ordinal_63 (by decide) ?_
      refine lv_istore (lv' := [(6, .int (Int32.ofInt 1)), (5, .int (Int32.ofInt 0)), (4, .int (Int32.ofInt (v4 + 1))), (0, .ref (aK 3)), (1, .ref (ad 10 0)), (2, .int (Int32.ofInt v2)), (3, .int (Int32.ofInt v3)), (7, .int (Int32.ofInt v7))]) hx hb dX9_ordinal_64 hl (by decide) rfl (fun ls hl => ?_)
      refine lv_goto (tgt := 107) hx hb dX9_ordinal_66 (by decide) ?_
      exact j107 (v4 + 1) 0 1 v7 σ _ _ _ hP hD hS (lv_sub hl [3, 4, 5, 6, 2, 1, 0, 7] rfl) hw
    have j41 : ∀ (v4 v5 v6 v7 : Int) (σ : ZS), ∀ (H : Heap) (locs : List Loc) (ls : Array Slot), va_P D vwC (zC dA ad σ) H → va_D A (zC dA ad σ) → va_S A s.heap H locs → lv_has ls 8 [(0, .ref (aK 3)), (1, .ref (ad 10 0)), (2, .int (Int32.ofInt v2)), (3, .int (Int32.ofInt v3)), (4, .int (Int32.ofInt v4)), (5, .int (Int32.ofInt v5)), (6, .int (Int32.ofInt v6)), (7, .int (Int32.ofInt v7))] → wpX9_ordinal_S3_41 K12 v2 v3 v4 v5 v6 v7 σ Q → W p l e (gR 5 0 0) s m #[.ref (aK 3), .ref (ad 10 0), .int (Int32.ofInt a2), .int (Int32.ofInt a3)] below meth c H locs 0 0 QQ (F0 m 41 ls []) := by
      intro v4 v5 v6 v7 σ H locs ls hP hD hS hl hw
      unfold wpX9_ordinal_S3_41 at hw
      refine lv_iload hx hb dX9_ordinal_41 (lv_at hl 6 rfl) ?_
      obtain ⟨o1, hw⟩ := hw
      refine z_if_eq (tgt := 57) hx hb o1 dX9_ordinal_43 (by decide) (fun k2 => ?_) (fun k2 => ?_)
      · replace hw := hw.1 k2
        exact j57 v4 v7 σ _ _ _ hP hD hS (lv_sub hl [0, 1, 2, 3, 4, 7] rfl) hw
      · replace hw := hw.2 k2
        refine lv_iload_n hx hb dX9_ordinal_46 rfl (lv_at hl 2 rfl) ?_
        refine lv_iload hx hb dX9_ordinal_47 (lv_at hl 5 rfl) ?_
        refine z_iadd hx hb dX9_ordinal_49 ?_
        refine lv_iload_n hx hb dX9_ordinal_50 rfl (lv_at hl 3 rfl) ?_
        obtain ⟨o3, hw⟩ := hw
        obtain ⟨o4, hw⟩ := hw
        refine z_icmp_ne (tgt := 57) hx hb o3 o4 dX9_ordinal_51 (by decide) (fun k5 => ?_) (fun k5 => ?_)
        · replace hw := hw.1 k5
          exact j57 v4 v7 σ _ _ _ hP hD hS (lv_sub hl [0, 1, 2, 3, 4, 7] rfl) hw
        · replace hw := hw.2 k5
          refine lv_iload hx hb dX9_ordinal_54 (lv_at hl 4 rfl) ?_
          exact hret v4 σ _ _ _ _ hw hP hD hS dX9_ordinal_56
    intro v4 v5 v6 v7 σ hw H locs ls hP hD hS hl
    unfold wpbX9_ordinal_S3_12 at hw
    refine lv_iload hx hb dX9_ordinal_12 (lv_at hl 7 rfl) ?_
    refine lv_aload_n hx hb dX9_ordinal_14 rfl (lv_at hl 0 rfl) ?_
    refine z_EVi (n := 0) (As := []) (rest := [.int (Int32.ofInt v7)]) hx hb hml hg hown hE hK hP hD hS hA (kJ0_length_8abf5_S3 l D dA ad tf tc aK aV σ _ _ hw) (vk_recv hE.2.2.2.2.2.2.1 (i := 3) (by decide) hS) q821 q166 q818 q819 q820 (by decide +kernel) ⟨(Nat.le_of_ble_eq_true rfl), (Nat.le_of_ble_eq_true rfl)⟩ rfl hl.1 rfl (Nat.le_of_ble_eq_true rfl) dX9_ordinal_15 ⟨(Nat.le_of_ble_eq_true rfl), (Nat.le_of_ble_eq_true rfl)⟩ (fun x6 σ7 H locs hw hP hD hS => ?_)
    obtain ⟨o8, hw⟩ := hw
    obtain ⟨o9, hw⟩ := hw
    refine z_icmp_gt (tgt := 113) hx hb o8 o9 dX9_ordinal_18 (by decide) (fun k10 => ?_) (fun k10 => ?_)
    · replace hw := hw.1 k10
      refine lv_iconst (v := Int32.ofInt (-1)) hx hb dX9_ordinal_113 (by decide) ?_
      exact hret (-1) σ7 _ _ _ _ hw hP hD hS dX9_ordinal_114
    · replace hw := hw.2 k10
      refine lv_iload hx hb dX9_ordinal_21 (lv_at hl 7 rfl) ?_
      refine lv_aload_n hx hb dX9_ordinal_23 rfl (lv_at hl 0 rfl) ?_
      refine z_EVi (n := 0) (As := []) (rest := [.int (Int32.ofInt v7)]) hx hb hml hg hown hE hK hP hD hS hA (kJ0_length_8abf5_S3 l D dA ad tf tc aK aV σ7 _ _ hw) (vk_recv hE.2.2.2.2.2.2.1 (i := 3) (by decide) hS) q821 q166 q818 q819 q820 (by decide +kernel) ⟨(Nat.le_of_ble_eq_true rfl), (Nat.le_of_ble_eq_true rfl)⟩ rfl hl.1 rfl (Nat.le_of_ble_eq_true rfl) dX9_ordinal_24 ⟨(Nat.le_of_ble_eq_true rfl), (Nat.le_of_ble_eq_true rfl)⟩ (fun x11 σ12 H locs hw hP hD hS => ?_)
      obtain ⟨o13, hw⟩ := hw
      refine z_icmp_eq (tgt := 41) hx hb o8 o13 dX9_ordinal_27 (by decide) (fun k14 => ?_) (fun k14 => ?_)
      · replace hw := hw.1 k14
        exact j41 v4 v5 v6 v7 σ12 _ _ _ hP hD hS (lv_sub hl [0, 1, 2, 3, 4, 5, 6, 7] rfl) hw
      · replace hw := hw.2 k14
        refine lv_aload_n hx hb dX9_ordinal_30 rfl (lv_at hl 0 rfl) ?_
        refine lv_iload hx hb dX9_ordinal_31 (lv_at hl 7 rfl) ?_
        refine z_EVi (n := 1) (As := [.int (Int32.ofInt v7)]) (rest := []) hx hb hml hg hown hE hK hP hD hS hA (kJ0_charAt_5068e_S3 l D dA ad tf tc aK aV v7 σ12 _ _ hw) (vk_recv hE.2.2.2.2.2.2.1 (i := 3) (by decide) hS) q831 q166 q828 q829 q830 (by decide +kernel) ⟨(Nat.le_of_ble_eq_true rfl), (Nat.le_of_ble_eq_true rfl)⟩ rfl hl.1 rfl (Nat.le_of_ble_eq_true rfl) dX9_ordinal_33 ⟨(Nat.le_of_ble_eq_true rfl), (Nat.le_of_ble_eq_true rfl)⟩ (fun x15 σ16 H locs hw hP hD hS => ?_)
        refine lv_bipush (v := Int32.ofInt 32) hx hb dX9_ordinal_36 (by decide) ?_
        obtain ⟨o17, hw⟩ := hw
        refine z_icmp_ne (tgt := 69) hx hb o17 (by decide) dX9_ordinal_38 (by decide) (fun k18 => ?_) (fun k18 => ?_)
        · replace hw := hw.1 k18
          refine lv_iload hx hb dX9_ordinal_69 (lv_at hl 6 rfl) ?_
          obtain ⟨o19, hw⟩ := hw
          refine z_if_eq (tgt := 101) hx hb o19 dX9_ordinal_71 (by decide) (fun k20 => ?_) (fun k20 => ?_)
          · replace hw := hw.1 k20
            exact j101 v4 v5 v7 σ16 _ _ _ hP hD hS (lv_sub hl [0, 1, 2, 3, 4, 5, 7] rfl) hw
          · replace hw := hw.2 k20
            refine lv_iload_n hx hb dX9_ordinal_74 rfl (lv_at hl 2 rfl) ?_
            refine lv_iload hx hb dX9_ordinal_75 (lv_at hl 5 rfl) ?_
            refine z_iadd hx hb dX9_ordinal_77 ?_
            refine lv_iload_n hx hb dX9_ordinal_78 rfl (lv_at hl 3 rfl) ?_
            obtain ⟨o21, hw⟩ := hw
            obtain ⟨o22, hw⟩ := hw
            refine z_icmp_ge (tgt := 101) hx hb o21 o22 dX9_ordinal_79 (by decide) (fun k23 => ?_) (fun k23 => ?_)
            · replace hw := hw.1 k23
              exact j101 v4 v5 v7 σ16 _ _ _ hP hD hS (lv_sub hl [0, 1, 2, 3, 4, 5, 7] rfl) hw
            · replace hw := hw.2 k23
              refine lv_aload_n hx hb dX9_ordinal_82 rfl (lv_at hl 1 rfl) ?_
              refine lv_iload_n hx hb dX9_ordinal_83 rfl (lv_at hl 2 rfl) ?_
              refine lv_iload hx hb dX9_ordinal_84 (lv_at hl 5 rfl) ?_
              refine z_iadd hx hb dX9_ordinal_86 ?_
              obtain ⟨o24, hw⟩ := hw
              refine zlC10_0 hx hb o24 hK hP dX9_ordinal_87 ?_
              refine lv_aload_n hx hb dX9_ordinal_88 rfl (lv_at hl 0 rfl) ?_
              refine lv_iload hx hb dX9_ordinal_89 (lv_at hl 7 rfl) ?_
              refine z_EVi (n := 1) (As := [.int (Int32.ofInt v7)]) (rest := [.int (Int32.ofInt (zA σ16 10 0 (v2 + v5)))]) hx hb hml hg hown hE hK hP hD hS hA (kJ0_charAt_5068e_S3 l D dA ad tf tc aK aV v7 σ16 _ _ hw) (vk_recv hE.2.2.2.2.2.2.1 (i := 3) (by decide) hS) q831 q166 q828 q829 q830 (by decide +kernel) ⟨(Nat.le_of_ble_eq_true rfl), (Nat.le_of_ble_eq_true rfl)⟩ rfl hl.1 rfl (Nat.le_of_ble_eq_true rfl) dX9_ordinal_91 ⟨(Nat.le_of_ble_eq_true rfl), (Nat.le_of_ble_eq_true rfl)⟩ (fun x25 σ26 H locs hw hP hD hS => ?_)
              obtain ⟨o27, hw⟩ := hw
              obtain ⟨o28, hw⟩ := hw
              refine z_icmp_ne (tgt := 101) hx hb o27 o28 dX9_ordinal_94 (by decide) (fun k29 => ?_) (fun k29 => ?_)
              · replace hw := hw.1 k29
                exact j101 v4 v5 v7 σ26 _ _ _ hP hD hS (lv_sub hl [0, 1, 2, 3, 4, 5, 7] rfl) hw
              · replace hw := hw.2 k29
                refine lv_iconst (v := Int32.ofInt 1) hx hb dX9_ordinal_97 (by decide) ?_
                refine lv_goto (tgt := 102) hx hb dX9_ordinal_98 (by decide) ?_
                exact j102 v4 v5 v7 1 σ26 _ _ _ hP hD hS (lv_sub hl [0, 1, 2, 3, 4, 5, 7] rfl) hw
        · replace hw := hw.2 k18
          exact j41 v4 v5 v6 v7 σ16 _ _ _ hP hD hS (lv_sub hl [0, 1, 2, 3, 4, 5, 6, 7] rfl) hw
  have j12 : ∀ (v2 v3 v4 v5 v6 v7 : Int) (σ : ZS), ∀ (H : Heap) (locs : List Loc) (ls : Array Slot), va_P D vwC (zC dA ad σ) H → va_D A (zC dA ad σ) → va_S A s.heap H locs → lv_has ls 8 [(0, .ref (aK 3)), (1, .ref (ad 10 0)), (2, .int (Int32.ofInt v2)), (3, .int (Int32.ofInt v3)), (4, .int (Int32.ofInt v4)), (5, .int (Int32.ofInt v5)), (6, .int (Int32.ofInt v6)), (7, .int (Int32.ofInt v7))] → wpX9_ordinal_S3_12 v2 v3 v4 v5 v6 v7 σ Q → W p l e (gR 5 0 0) s m #[.ref (aK 3), .ref (ad 10 0), .int (Int32.ofInt a2), .int (Int32.ofInt a3)] below meth c H locs 0 0 QQ (F0 m 12 ls []) := by
    intro v2 v3 v4 v5 v6 v7 σ H locs ls hP hD hS hl hw
    exact hw (fun v4 v5 v6 v7 σ => ∀ (H : Heap) (locs : List Loc) (ls : Array Slot), va_P D vwC (zC dA ad σ) H → va_D A (zC dA ad σ) → va_S A s.heap H locs → lv_has ls 8 [(0, .ref (aK 3)), (1, .ref (ad 10 0)), (2, .int (Int32.ofInt v2)), (3, .int (Int32.ofInt v3)), (4, .int (Int32.ofInt v4)), (5, .int (Int32.ofInt v5)), (6, .int (Int32.ofInt v6)), (7, .int (Int32.ofInt v7))] → W p l e (gR 5 0 0) s m #[.ref (aK 3), .ref (ad 10 0), .int (Int32.ofInt a2), .int (Int32.ofInt a3)] below meth c H locs 0 0 QQ (F0 m 12 ls [])) (b12 v2 v3 (fun v4 v5 v6 v7 σ => ∀ (H : Heap) (locs : List Loc) (ls : Array Slot), va_P D vwC (zC dA ad σ) H → va_D A (zC dA ad σ) → va_S A s.heap H locs → lv_has ls 8 [(0, .ref (aK 3)), (1, .ref (ad 10 0)), (2, .int (Int32.ofInt v2)), (3, .int (Int32.ofInt v3)), (4, .int (Int32.ofInt v4)), (5, .int (Int32.ofInt v5)), (6, .int (Int32.ofInt v6)), (7, .int (Int32.ofInt v7))] → W p l e (gR 5 0 0) s m #[.ref (aK 3), .ref (ad 10 0), .int (Int32.ofInt a2), .int (Int32.ofInt a3)] below meth c H locs 0 0 QQ (F0 m 12 ls [])) (fun v4 v5 v6 v7 σ h => h)) _ _ _ hP hD hS hl
  unfold wpX9_ordinal_S3 at hw
  refine lv_iconst (v := Int32.ofInt 0) hx hb dX9_ordinal_0 (by decide) ?_
  refine lv_istore (lv' := [(4, .int (Int32.ofInt 0)), (0, .ref (aK 3)), (1, .ref (ad 10 0)), (2, .int (Int32.ofInt a2)), (3, .int (Int32.ofInt a3))]) hx hb dX9_ordinal_1 hl (by decide) rfl (fun ls hl => ?_)
  refine lv_iconst (v := Int32.ofInt 0) hx hb dX9_ordinal_3 (by decide) ?_
  refine lv_istore (lv' := [(5, .int (Int32.ofInt 0)), (4, .int (Int32.ofInt 0)), (0, .ref (aK 3)), (1, .ref (ad 10 0)), (2, .int (Int32.ofInt a2)), (3, .int (Int32.ofInt a3))]) hx hb dX9_ordinal_4 hl (by decide) rfl (fun ls hl => ?_)
  refine lv_iconst (v := Int32.ofInt 1) hx hb dX9_ordinal_6 (by decide) ?_
  refine lv_istore (lv' := [(6, .int (Int32.ofInt 1)), (5, .int (Int32.ofInt 0)), (4, .int (Int32.ofInt 0)), (0, .ref (aK 3)), (1, .ref (ad 10 0)), (2, .int (Int32.ofInt a2)), (3, .int (Int32.ofInt a3))]) hx hb dX9_ordinal_7 hl (by decide) rfl (fun ls hl => ?_)
  refine lv_iconst (v := Int32.ofInt 0) hx hb dX9_ordinal_9 (by decide) ?_
  refine lv_istore (lv' := [(7, .int (Int32.ofInt 0)), (6, .int (Int32.ofInt 1)), (5, .int (Int32.ofInt 0)), (4, .int (Int32.ofInt 0)), (0, .ref (aK 3)), (1, .ref (ad 10 0)), (2, .int (Int32.ofInt a2)), (3, .int (Int32.ofInt a3))]) hx hb dX9_ordinal_10 hl (by decide) rfl (fun ls hl => ?_)
  exact j12 a2 a3 0 0 1 0 σ _ _ _ hP hD hS (lv_sub hl [4, 5, 6, 7, 3, 2, 1, 0] rfl) hw
def wpX9_readWord_144 (v2 v4 v7 v8 : Int) (σ : ZS) (Q : Int → ZS → Prop) : Prop := wpX9_put v7 v8 v2 σ (fun (σ2 : ZS) => Q v4 σ2)
def wpX9_readWord_124 (v2 v4 v5 v7 v8 : Int) (σ : ZS) (Q : Int → ZS → Prop) : Prop := (-2147483648 ≤ v8 ∧ v8 ≤ 2147483647) ∧ (0 ≤ v8 → wpX9_readWord_144 v2 v4 v7 v8 σ Q) ∧ (¬ 0 ≤ v8 → wpX5_numberOf v5 v2 σ (fun (x5 : Int) (σ6 : ZS) => wpX9_readWord_144 v2 v4 3 x5 σ6 Q))
def wpX9_readWord_104 (v2 v4 v5 v7 v8 : Int) (σ : ZS) (Q : Int → ZS → Prop) : Prop := (-2147483648 ≤ v8 ∧ v8 ≤ 2147483647) ∧ (0 ≤ v8 → wpX9_readWord_124 v2 v4 v5 v7 v8 σ Q) ∧ (¬ 0 ≤ v8 → wpX9_ordinal_S3 v2 v4 σ (fun (x9 : Int) (σ10 : ZS) => wpX9_readWord_124 v2 v4 v5 6 x9 σ10 Q))
def wpX9_readWord_52 (v2 v4 v5 : Int) (σ : ZS) (Q : Int → ZS → Prop) : Prop := (-2147483648 ≤ (v4 - v2) ∧ (v4 - v2) ≤ 2147483647) ∧ ((v4 - v2) ≤ 6 → wpX9_ordinal_S1 v2 v4 σ (fun (x13 : Int) (σ14 : ZS) => (-2147483648 ≤ x13 ∧ x13 ≤ 2147483647) ∧ (0 ≤ x13 → wpX9_readWord_104 v2 v4 v5 4 x13 σ14 Q) ∧ (¬ 0 ≤ x13 → wpX9_ordinal_S2 v2 v4 σ14 (fun (x17 : Int) (σ18 : ZS) => wpX9_readWord_104 v2 v4 v5 5 x17 σ18 Q)))) ∧ (¬ (v4 - v2) ≤ 6 → wpX9_put 1 0 v2 σ (fun (σ20 : ZS) => Q v4 σ20))
def wpX9_readWord_32 (K6 : Int → Int → ZS → Prop) (v2 v3 v4 v5 : Int) (σ : ZS) (Q : Int → ZS → Prop) : Prop := (0 ≤ v4 ∧ v4 < 480) ∧ (-2147483648 ≤ (zA σ 10 0 v4) ∧ (zA σ 10 0 v4) ≤ 2147483647) ∧ K6 (v4 + 1) ((v5 * 128) + (zA σ 10 0 v4)) σ
def wpbX9_readWord_6 (K6 : Int → Int → ZS → Prop) (v2 v3 v4 v5 : Int) (σ : ZS) (Q : Int → ZS → Prop) : Prop := (-2147483648 ≤ v4 ∧ v4 ≤ 2147483647) ∧ (-2147483648 ≤ v3 ∧ v3 ≤ 2147483647) ∧ (v3 ≤ v4 → wpX9_readWord_52 v2 v4 v5 σ Q) ∧ (¬ v3 ≤ v4 → (0 ≤ v4 ∧ v4 < 480) ∧ wpX9_isLetter (zA σ 10 0 v4) σ (fun (x27 : Int) (σ28 : ZS) => (-2147483648 ≤ x27 ∧ x27 ≤ 2147483647) ∧ (¬ x27 = 0 → wpX9_readWord_32 K6 v2 v3 v4 v5 σ28 Q) ∧ (x27 = 0 → wpX9_isDigit (zA σ28 10 0 v4) σ28 (fun (x31 : Int) (σ32 : ZS) => (-2147483648 ≤ x31 ∧ x31 ≤ 2147483647) ∧ (x31 = 0 → wpX9_readWord_52 v2 v4 v5 σ32 Q) ∧ (¬ x31 = 0 → wpX9_readWord_32 K6 v2 v3 v4 v5 σ32 Q)))))
def wpX9_readWord_6 (v2 v3 v4 v5 : Int) (σ : ZS) (Q : Int → ZS → Prop) : Prop := lfp2 (fun K6 v4 v5 σ => wpbX9_readWord_6 K6 v2 v3 v4 v5 σ Q) v4 v5 σ
def wpX9_readWord (a2 a3 : Int) (σ : ZS) (Q : Int → ZS → Prop) : Prop := wpX9_readWord_6 a2 a3 a2 0 σ Q
set_option maxHeartbeats 4000000 in
set_option maxRecDepth 100000 in
theorem kX9_readWord (l : Launch) (D : va_G) (dA : Nat → ClassId) (ad : Int → Nat → Nat) (tf tc : Nat) (aK aV : Nat → Nat) (a2 a3 : Int) (σ : ZS) (Q : Int → ZS → Prop) (sz : Nat) (hw : wpX9_readWord a2 a3 σ Q) : Met l yX9_readWord (gws yX9_readWord cX9_readWord 9 (some .int)) (gR 6 0 0) (gPreE D dA tf tc aK aV [.ref (ad 12 1000), .ref (ad 10 0), .int (Int32.ofInt a2), .int (Int32.ofInt a3)] (zC dA ad σ) sz) (va_Qi (zQi Q) (gAt D dA (va_A (zC dA ad σ) sz) (zC dA ad)) (va_A (zC dA ad σ) sz)) 0 0 (va_A (zC dA ad σ) sz) := by
  refine Met.ofW (cc := cX9_readWord) (maxL := 9) (ret := (some .int)) (by decide) rfl ?_
  intro p e s m args below meth c s₁ B hml hv
  obtain ⟨rfl, hsz, hP, hK, hD0, hE⟩ := hv
  have hx := B.exec
  have hb := B.bytes
  have hr := B.returns
  have hts := atoms_spec (ws := gws yX9_readWord cX9_readWord 9 (some .int)) B.pre
  have hg : ∀ w ∈ gw, w.before _ s = true := fun w h => hts w (List.mem_cons_of_mem _ h)
  have hown : s.vm.findClass RX9 = some m.cls := findClass_of_methodNamed B.named
  have hlocks := B.notSynchronized
  subst hsz
  have hD := hD0.self (sz := s.heap.size)
  generalize hAe : va_A (zC dA ad σ) s.heap.size = A at hD hE ⊢
  have hA : ∀ q : Nat, s.heap.size ≤ q → A q := fun q h => by rw [← hAe]; exact Or.inr h
  have hS : va_S A s.heap s.heap [] := va_S.rf
  have hl := lv_entry ([.ref (ad 12 1000), .ref (ad 10 0), .int (Int32.ofInt a2), .int (Int32.ofInt a3)]) (n := 9) (Nat.le_of_ble_eq_true rfl)
  rw [lg_entry_eq]
  generalize (lg_sl ([.ref (ad 12 1000), .ref (ad 10 0), .int (Int32.ofInt a2), .int (Int32.ofInt a3)]) ++ List.replicate (9 - (lg_sl ([.ref (ad 12 1000), .ref (ad 10 0), .int (Int32.ofInt a2), .int (Int32.ofInt a3)])).length) Slot.unset).toArray = ls at hl ⊢
  have hl : lv_has ls 9 [(0, .ref (ad 12 1000)), (1, .ref (ad 10 0)), (2, .int (Int32.ofInt a2)), (3, .int (Int32.ofInt a3))] := hl
  have hret : ∀ (v : Int) (σ : ZS) (H : Heap) (locs : List Loc) (ls : Array Slot) (pc : Nat), Q v σ → va_P D vwC (zC dA ad σ) H → va_D A (zC dA ad σ) → va_S A s.heap H locs → decode cX9_readWord pc = .ok (.ireturn, 1) → W p l e (gR 6 0 0) s m #[.ref (ad 12 1000), .ref (ad 10 0), .int (Int32.ofInt a2), .int (Int32.ofInt a3)] below meth c H locs 0 0 (MQ below (va_Qi (zQi Q) (gAt D dA A (zC dA ad)) A) #[.ref (ad 12 1000), .ref (ad 10 0), .int (Int32.ofInt a2), .int (Int32.ofInt a3)] s 0 0 A) (F0 m pc ls [.int (Int32.ofInt v)]) := fun v σ H locs ls pc hw hP hD hS hd => g_iret hx hb hr rfl hlocks hK σ hP hD hS ⟨v, rfl, hw⟩ (Nat.le_of_ble_eq_true rfl) (Nat.le_of_ble_eq_true rfl) hd
  generalize MQ below (va_Qi (zQi Q) (gAt D dA A (zC dA ad)) A) #[.ref (ad 12 1000), .ref (ad 10 0), .int (Int32.ofInt a2), .int (Int32.ofInt a3)] s 0 0 A = QQ at hret ⊢
  have j144 : ∀ (v2 v4 v7 v8 : Int) (σ : ZS), ∀ (H : Heap) (locs : List Loc) (ls : Array Slot), va_P D vwC (zC dA ad σ) H → va_D A (zC dA ad σ) → va_S A s.heap H locs → lv_has ls 9 [(0, .ref (ad 12 1000)), (2, .int (Int32.ofInt v2)), (4, .int (Int32.ofInt v4)), (7, .int (Int32.ofInt v7)), (8, .int (Int32.ofInt v8))] → wpX9_readWord_144 v2 v4 v7 v8 σ Q → W p l e (gR 6 0 0) s m #[.ref (ad 12 1000), .ref (ad 10 0), .int (Int32.ofInt a2), .int (Int32.ofInt a3)] below meth c H locs 0 0 QQ (F0 m 144 ls []) := by
    intro v2 v4 v7 v8 σ H locs ls hP hD hS hl hw
    unfold wpX9_readWord_144 at hw
    refine lv_aload_n hx hb dX9_readWord_144 rfl (lv_at hl 0 rfl) ?_
    refine lv_iload hx hb dX9_readWord_145 (lv_at hl 3 rfl) ?_
    refine lv_iload hx hb dX9_readWord_147 (lv_at hl 4 rfl) ?_
    refine lv_iload_n hx hb dX9_readWord_149 rfl (lv_at hl 1 rfl) ?_
    refine z_Vv (n := 3) (As := [.int (Int32.ofInt v7), .int (Int32.ofInt v8), .int (Int32.ofInt v2)]) (rest := []) hx hb hml hg hown hK hP hD hS hA (kX9_put l D dA ad v7 v8 v2 σ _ _ hw) (zoC12) rfl q813 q151 q810 q812 q3 (by decide +kernel) ⟨(Nat.le_of_ble_eq_true rfl), (Nat.le_of_ble_eq_true rfl)⟩ rfl hl.1 rfl (Nat.le_of_ble_eq_true rfl) dX9_readWord_150 ⟨(Nat.le_of_ble_eq_true rfl), (Nat.le_of_ble_eq_true rfl)⟩ (fun σ2 H locs hw hP hD hS => ?_)
    refine lv_iload hx hb dX9_readWord_153 (lv_at hl 2 rfl) ?_
    exact hret v4 σ2 _ _ _ _ hw hP hD hS dX9_readWord_155
  have j124 : ∀ (v2 v4 v5 v7 v8 : Int) (σ : ZS), ∀ (H : Heap) (locs : List Loc) (ls : Array Slot), va_P D vwC (zC dA ad σ) H → va_D A (zC dA ad σ) → va_S A s.heap H locs → lv_has ls 9 [(0, .ref (ad 12 1000)), (2, .int (Int32.ofInt v2)), (4, .int (Int32.ofInt v4)), (5, .long (Int64.ofInt v5)), (7, .int (Int32.ofInt v7)), (8, .int (Int32.ofInt v8))] → wpX9_readWord_124 v2 v4 v5 v7 v8 σ Q → W p l e (gR 6 0 0) s m #[.ref (ad 12 1000), .ref (ad 10 0), .int (Int32.ofInt a2), .int (Int32.ofInt a3)] below meth c H locs 0 0 QQ (F0 m 124 ls []) := by
    intro v2 v4 v5 v7 v8 σ H locs ls hP hD hS hl hw
    unfold wpX9_readWord_124 at hw
    refine lv_iload hx hb dX9_readWord_124 (lv_at hl 5 rfl) ?_
    obtain ⟨o3, hw⟩ := hw
    refine z_if_ge (tgt := 144) hx hb o3 dX9_readWord_126 (by decide) (fun k4 => ?_) (fun k4 => ?_)
    · replace hw := hw.1 k4
      exact j144 v2 v4 v7 v8 σ _ _ _ hP hD hS (lv_sub hl [0, 1, 2, 4, 5] rfl) hw
    · replace hw := hw.2 k4
      refine lv_iconst (v := Int32.ofInt 3) hx hb dX9_readWord_129 (by decide) ?_
      refine lv_istore (lv' := [(7, .int (Int32.ofInt 3)), (0, .ref (ad 12 1000)), (2, .int (Int32.ofInt v2)), (4, .int (Int32.ofInt v4)), (5, .long (Int64.ofInt v5)), (8, .int (Int32.ofInt v8))]) hx hb dX9_readWord_130 hl (by decide) rfl (fun ls hl => ?_)
      refine lv_aload_n hx hb dX9_readWord_132 rfl (lv_at hl 1 rfl) ?_
      refine zgC12_4 hx hb hg hown hK hP q239 dX9_readWord_133 ?_
      refine lv_lload hx hb dX9_readWord_136 (lv_at hl 4 rfl) ?_
      refine lv_iload_n hx hb dX9_readWord_138 rfl (lv_at hl 2 rfl) ?_
      refine z_Vi (n := 2) (As := [.long (Int64.ofInt v5), .int (Int32.ofInt v2)]) (rest := []) hx hb hml hg hown hK hP hD hS hA (kX5_numberOf l D dA ad v5 v2 σ _ _ hw) (zoC11) rfl q871 q150 q868 q869 q870 (by decide +kernel) ⟨(Nat.le_of_ble_eq_true rfl), (Nat.le_of_ble_eq_true rfl)⟩ rfl hl.1 rfl (Nat.le_of_ble_eq_true rfl) dX9_readWord_139 ⟨(Nat.le_of_ble_eq_true rfl), (Nat.le_of_ble_eq_true rfl)⟩ (fun x5 σ6 H locs hw hP hD hS => ?_)
      refine lv_istore (lv' := [(8, .int (Int32.ofInt x5)), (7, .int (Int32.ofInt 3)), (0, .ref (ad 12 1000)), (2, .int (Int32.ofInt v2)), (4, .int (Int32.ofInt v4)), (5, .long (Int64.ofInt v5))]) hx hb dX9_readWord_142 hl (by decide) rfl (fun ls hl => ?_)
      exact j144 v2 v4 3 x5 σ6 _ _ _ hP hD hS (lv_sub hl [2, 3, 4, 1, 0] rfl) hw
  have j104 : ∀ (v2 v4 v5 v7 v8 : Int) (σ : ZS), ∀ (H : Heap) (locs : List Loc) (ls : Array Slot), va_P D vwC (zC dA ad σ) H → va_D A (zC dA ad σ) → va_S A s.heap H locs → lv_has ls 9 [(0, .ref (ad 12 1000)), (1, .ref (ad 10 0)), (2, .int (Int32.ofInt v2)), (4, .int (Int32.ofInt v4)), (5, .long (Int64.ofInt v5)), (7, .int (Int32.ofInt v7)), (8, .int (Int32.ofInt v8))] → wpX9_readWord_104 v2 v4 v5 v7 v8 σ Q → W p l e (gR 6 0 0) s m #[.ref (ad 12 1000), .ref (ad 10 0), .int (Int32.ofInt a2), .int (Int32.ofInt a3)] below meth c H locs 0 0 QQ (F0 m 104 ls []) := by
    intro v2 v4 v5 v7 v8 σ H locs ls hP hD hS hl hw
    unfold wpX9_readWord_104 at hw
    refine lv_iload hx hb dX9_readWord_104 (lv_at hl 6 rfl) ?_
    obtain ⟨o7, hw⟩ := hw
    refine z_if_ge (tgt := 124) hx hb o7 dX9_readWord_106 (by decide) (fun k8 => ?_) (fun k8 => ?_)
    · replace hw := hw.1 k8
      exact j124 v2 v4 v5 v7 v8 σ _ _ _ hP hD hS (lv_sub hl [0, 2, 3, 4, 5, 6] rfl) hw
    · replace hw := hw.2 k8
      refine lv_bipush (v := Int32.ofInt 6) hx hb dX9_readWord_109 (by decide) ?_
      refine lv_istore (lv' := [(7, .int (Int32.ofInt 6)), (0, .ref (ad 12 1000)), (1, .ref (ad 10 0)), (2, .int (Int32.ofInt v2)), (4, .int (Int32.ofInt v4)), (5, .long (Int64.ofInt v5)), (8, .int (Int32.ofInt v8))]) hx hb dX9_readWord_111 hl (by decide) rfl (fun ls hl => ?_)
      refine va_ldcS hx hb hown hE.2.2.2.2.2.2.2.2.2.2.1 dX9_readWord_113 ?_
      refine lv_aload_n hx hb dX9_readWord_115 rfl (lv_at hl 2 rfl) ?_
      refine lv_iload_n hx hb dX9_readWord_116 rfl (lv_at hl 3 rfl) ?_
      refine lv_iload hx hb dX9_readWord_117 (lv_at hl 4 rfl) ?_
      refine z_ESi (n := 4) (As := [.ref (aK 3), .ref (ad 10 0), .int (Int32.ofInt v2), .int (Int32.ofInt v4)]) (rest := []) hx hb hml hg hown hE hK hP hD hS hA (kX9_ordinal_S3 l D dA ad tf tc aK aV v2 v4 σ _ _ hw) q817 q151 q815 q816 (by decide +kernel) ⟨(Nat.le_of_ble_eq_true rfl), (Nat.le_of_ble_eq_true rfl)⟩ rfl hl.1 rfl (Nat.le_of_ble_eq_true rfl) dX9_readWord_119 ⟨(Nat.le_of_ble_eq_true rfl), (Nat.le_of_ble_eq_true rfl)⟩ (fun x9 σ10 H locs hw hP hD hS => ?_)
      refine lv_istore (lv' := [(8, .int (Int32.ofInt x9)), (7, .int (Int32.ofInt 6)), (0, .ref (ad 12 1000)), (1, .ref (ad 10 0)), (2, .int (Int32.ofInt v2)), (4, .int (Int32.ofInt v4)), (5, .long (Int64.ofInt v5))]) hx hb dX9_readWord_122 hl (by decide) rfl (fun ls hl => ?_)
      exact j124 v2 v4 v5 6 x9 σ10 _ _ _ hP hD hS (lv_sub hl [2, 4, 5, 6, 1, 0] rfl) hw
  have j52 : ∀ (v2 v4 v5 : Int) (σ : ZS), ∀ (H : Heap) (locs : List Loc) (ls : Array Slot), va_P D vwC (zC dA ad σ) H → va_D A (zC dA ad σ) → va_S A s.heap H locs → lv_has ls 9 [(0, .ref (ad 12 1000)), (1, .ref (ad 10 0)), (2, .int (Int32.ofInt v2)), (4, .int (Int32.ofInt v4)), (5, .long (Int64.ofInt v5))] → wpX9_readWord_52 v2 v4 v5 σ Q → W p l e (gR 6 0 0) s m #[.ref (ad 12 1000), .ref (ad 10 0), .int (Int32.ofInt a2), .int (Int32.ofInt a3)] below meth c H locs 0 0 QQ (F0 m 52 ls []) := by
    intro v2 v4 v5 σ H locs ls hP hD hS hl hw
    unfold wpX9_readWord_52 at hw
    refine lv_iload hx hb dX9_readWord_52 (lv_at hl 3 rfl) ?_
    refine lv_iload_n hx hb dX9_readWord_54 rfl (lv_at hl 2 rfl) ?_
    refine z_isub hx hb dX9_readWord_55 ?_
    refine lv_bipush (v := Int32.ofInt 6) hx hb dX9_readWord_56 (by decide) ?_
    obtain ⟨o11, hw⟩ := hw
    refine z_icmp_le (tgt := 71) hx hb o11 (by decide) dX9_readWord_58 (by decide) (fun k12 => ?_) (fun k12 => ?_)
    · replace hw := hw.1 k12
      refine lv_iconst (v := Int32.ofInt 4) hx hb dX9_readWord_71 (by decide) ?_
      refine lv_istore (lv' := [(7, .int (Int32.ofInt 4)), (0, .ref (ad 12 1000)), (1, .ref (ad 10 0)), (2, .int (Int32.ofInt v2)), (4, .int (Int32.ofInt v4)), (5, .long (Int64.ofInt v5))]) hx hb dX9_readWord_72 hl (by decide) rfl (fun ls hl => ?_)
      refine va_ldcS hx hb hown hE.2.2.2.2.2.2.2.2.1 dX9_readWord_74 ?_
      refine lv_aload_n hx hb dX9_readWord_76 rfl (lv_at hl 2 rfl) ?_
      refine lv_iload_n hx hb dX9_readWord_77 rfl (lv_at hl 3 rfl) ?_
      refine lv_iload hx hb dX9_readWord_78 (lv_at hl 4 rfl) ?_
      refine z_ESi (n := 4) (As := [.ref (aK 1), .ref (ad 10 0), .int (Int32.ofInt v2), .int (Int32.ofInt v4)]) (rest := []) hx hb hml hg hown hE hK hP hD hS hA (kX9_ordinal_S1 l D dA ad tf tc aK aV v2 v4 σ _ _ hw) q817 q151 q815 q816 (by decide +kernel) ⟨(Nat.le_of_ble_eq_true rfl), (Nat.le_of_ble_eq_true rfl)⟩ rfl hl.1 rfl (Nat.le_of_ble_eq_true rfl) dX9_readWord_80 ⟨(Nat.le_of_ble_eq_true rfl), (Nat.le_of_ble_eq_true rfl)⟩ (fun x13 σ14 H locs hw hP hD hS => ?_)
      refine lv_istore (lv' := [(8, .int (Int32.ofInt x13)), (7, .int (Int32.ofInt 4)), (0, .ref (ad 12 1000)), (1, .ref (ad 10 0)), (2, .int (Int32.ofInt v2)), (4, .int (Int32.ofInt v4)), (5, .long (Int64.ofInt v5))]) hx hb dX9_readWord_83 hl (by decide) rfl (fun ls hl => ?_)
      refine lv_iload hx hb dX9_readWord_85 (lv_at hl 0 rfl) ?_
      obtain ⟨o15, hw⟩ := hw
      refine z_if_ge (tgt := 104) hx hb o15 dX9_readWord_87 (by decide) (fun k16 => ?_) (fun k16 => ?_)
      · replace hw := hw.1 k16
        exact j104 v2 v4 v5 4 x13 σ14 _ _ _ hP hD hS (lv_sub hl [2, 3, 4, 5, 6, 1, 0] rfl) hw
      · replace hw := hw.2 k16
        refine lv_iconst (v := Int32.ofInt 5) hx hb dX9_readWord_90 (by decide) ?_
        refine lv_istore (lv' := [(7, .int (Int32.ofInt 5)), (8, .int (Int32.ofInt x13)), (0, .ref (ad 12 1000)), (1, .ref (ad 10 0)), (2, .int (Int32.ofInt v2)), (4, .int (Int32.ofInt v4)), (5, .long (Int64.ofInt v5))]) hx hb dX9_readWord_91 hl (by decide) rfl (fun ls hl => ?_)
        refine va_ldcS hx hb hown hE.2.2.2.2.2.2.2.2.2.1 dX9_readWord_93 ?_
        refine lv_aload_n hx hb dX9_readWord_95 rfl (lv_at hl 3 rfl) ?_
        refine lv_iload_n hx hb dX9_readWord_96 rfl (lv_at hl 4 rfl) ?_
        refine lv_iload hx hb dX9_readWord_97 (lv_at hl 5 rfl) ?_
        refine z_ESi (n := 4) (As := [.ref (aK 2), .ref (ad 10 0), .int (Int32.ofInt v2), .int (Int32.ofInt v4)]) (rest := []) hx hb hml hg hown hE hK hP hD hS hA (kX9_ordinal_S2 l D dA ad tf tc aK aV v2 v4 σ14 _ _ hw) q817 q151 q815 q816 (by decide +kernel) ⟨(Nat.le_of_ble_eq_true rfl), (Nat.le_of_ble_eq_true rfl)⟩ rfl hl.1 rfl (Nat.le_of_ble_eq_true rfl) dX9_readWord_99 ⟨(Nat.le_of_ble_eq_true rfl), (Nat.le_of_ble_eq_true rfl)⟩ (fun x17 σ18 H locs hw hP hD hS => ?_)
        refine lv_istore (lv' := [(8, .int (Int32.ofInt x17)), (7, .int (Int32.ofInt 5)), (0, .ref (ad 12 1000)), (1, .ref (ad 10 0)), (2, .int (Int32.ofInt v2)), (4, .int (Int32.ofInt v4)), (5, .long (Int64.ofInt v5))]) hx hb dX9_readWord_102 hl (by decide) rfl (fun ls hl => ?_)
        exact j104 v2 v4 v5 5 x17 σ18 _ _ _ hP hD hS (lv_sub hl [2, 3, 4, 5, 6, 1, 0] rfl) hw
    · replace hw := hw.2 k12
      refine lv_aload_n hx hb dX9_readWord_61 rfl (lv_at hl 0 rfl) ?_
      refine lv_iconst (v := Int32.ofInt 1) hx hb dX9_readWord_62 (by decide) ?_
      refine lv_iconst (v := Int32.ofInt 0) hx hb dX9_readWord_63 (by decide) ?_
      refine lv_iload_n hx hb dX9_readWord_64 rfl (lv_at hl 2 rfl) ?_
      refine z_Vv (n := 3) (As := [.int (Int32.ofInt 1), .int (Int32.ofInt 0), .int (Int32.ofInt v2)]) (rest := []) hx hb hml hg hown hK hP hD hS hA (kX9_put l D dA ad 1 0 v2 σ _ _ hw) (zoC12) rfl q813 q151 q810 q812 q3 (by decide +kernel) ⟨(Nat.le_of_ble_eq_true rfl), (Nat.le_of_ble_eq_true rfl)⟩ rfl hl.1 rfl (Nat.le_of_ble_eq_true rfl) dX9_readWord_65 ⟨(Nat.le_of_ble_eq_true rfl), (Nat.le_of_ble_eq_true rfl)⟩ (fun σ20 H locs hw hP hD hS => ?_)
      refine lv_iload hx hb dX9_readWord_68 (lv_at hl 3 rfl) ?_
      exact hret v4 σ20 _ _ _ _ hw hP hD hS dX9_readWord_70
  have b6 : ∀ (v2 v3 : Int) (K6 : Int → Int → ZS → Prop), (∀ (v4 v5 : Int) (σ : ZS), K6 v4 v5 σ → ∀ (H : Heap) (locs : List Loc) (ls : Array Slot), va_P D vwC (zC dA ad σ) H → va_D A (zC dA ad σ) → va_S A s.heap H locs → lv_has ls 9 [(0, .ref (ad 12 1000)), (1, .ref (ad 10 0)), (2, .int (Int32.ofInt v2)), (3, .int (Int32.ofInt v3)), (4, .int (Int32.ofInt v4)), (5, .long (Int64.ofInt v5))] → W p l e (gR 6 0 0) s m #[.ref (ad 12 1000), .ref (ad 10 0), .int (Int32.ofInt a2), .int (Int32.ofInt a3)] below meth c H locs 0 0 QQ (F0 m 6 ls [])) → ∀ (v4 v5 : Int) (σ : ZS), wpbX9_readWord_6 K6 v2 v3 v4 v5 σ Q → ∀ (H : Heap) (locs : List Loc) (ls : Array Slot), va_P D vwC (zC dA ad σ) H → va_D A (zC dA ad σ) → va_S A s.heap H locs → lv_has ls 9 [(0, .ref (ad 12 1000)), (1, .ref (ad 10 0)), (2, .int (Int32.ofInt v2)), (3, .int (Int32.ofInt v3)), (4, .int (Int32.ofInt v4)), (5, .long (Int64.ofInt v5))] → W p l e (gR 6 0 0) s m #[.ref (ad 12 1000), .ref (ad 10 0), .int (Int32.ofInt a2), .int (Int32.ofInt a3)] below meth c H locs 0 0 QQ (F0 m 6 ls []) := by
    intro v2 v3 K6 hK6
    have j32 : ∀ (v4 v5 : Int) (σ : ZS), ∀ (H : Heap) (locs : List Loc) (ls : Array Slot), va_P D vwC (zC dA ad σ) H → va_D A (zC dA ad σ) → va_S A s.heap H locs → lv_has ls 9 [(0, .ref (ad 12 1000)), (1, .ref (ad 10 0)), (2, .int (Int32.ofInt v2)), (3, .int (Int32.ofInt v3)), (4, .int (Int32.ofInt v4)), (5, .long (Int64.ofInt v5))] → wpX9_readWord_32 K6 v2 v3 v4 v5 σ Q → W p l e (gR 6 0 0) s m #[.ref (ad 12 1000), .ref (ad 10 0), .int (Int32.ofInt a2), .int (Int32.ofInt a3)] below meth c H locs 0 0 QQ (F0 m 32 ls []) := by
      intro v4 v5 σ H locs ls hP hD hS hl hw
      unfold wpX9_readWord_32 at hw
      refine lv_lload hx hb dX9_readWord_32 (lv_at hl 5 rfl) ?_
      refine lv_ldc2 hx hb hown (hg _ q809) dX9_readWord_34 ?_
      refine g_nrmL (y := Int64.ofInt 128) (by decide) ?_
      refine z_lmul hx hb dX9_readWord_37 ?_
      refine lv_aload_n hx hb dX9_readWord_38 rfl (lv_at hl 1 rfl) ?_
      refine lv_iload hx hb dX9_readWord_39 (lv_at hl 4 rfl) ?_
      obtain ⟨o21, hw⟩ := hw
      refine zlC10_0 hx hb o21 hK hP dX9_readWord_41 ?_
      obtain ⟨o22, hw⟩ := hw
      refine z_i2l hx hb o22 dX9_readWord_42 ?_
      refine z_ladd hx hb dX9_readWord_43 ?_
      refine lv_lstore (lv' := [(5, .long (Int64.ofInt ((v5 * 128) + (zA σ 10 0 v4)))), (0, .ref (ad 12 1000)), (1, .ref (ad 10 0)), (2, .int (Int32.ofInt v2)), (3, .int (Int32.ofInt v3)), (4, .int (Int32.ofInt v4))]) hx hb dX9_readWord_44 hl (by decide) rfl (fun ls hl => ?_)
      refine lv_iinc (v := Int32.ofInt (v4 + 1)) (lv' := [(4, .int (Int32.ofInt (v4 + 1))), (5, .long (Int64.ofInt ((v5 * 128) + (zA σ 10 0 v4)))), (0, .ref (ad 12 1000)), (1, .ref (ad 10 0)), (2, .int (Int32.ofInt v2)), (3, .int (Int32.ofInt v3))]) hx hb dX9_readWord_46 hl (k := 5) rfl (Int32.ofInt_add _ _).symm (by decide) rfl (fun ls hl => ?_)
      refine lv_goto (tgt := 6) hx hb dX9_readWord_49 (by decide) ?_
      exact hK6 (v4 + 1) ((v5 * 128) + (zA σ 10 0 v4)) σ hw _ _ _ hP hD hS (lv_sub hl [2, 3, 4, 5, 0, 1] rfl)
    intro v4 v5 σ hw H locs ls hP hD hS hl
    unfold wpbX9_readWord_6 at hw
    refine lv_iload hx hb dX9_readWord_6 (lv_at hl 4 rfl) ?_
    refine lv_iload_n hx hb dX9_readWord_8 rfl (lv_at hl 3 rfl) ?_
    obtain ⟨o23, hw⟩ := hw
    obtain ⟨o24, hw⟩ := hw
    refine z_icmp_ge (tgt := 52) hx hb o23 o24 dX9_readWord_9 (by decide) (fun k25 => ?_) (fun k25 => ?_)
    · replace hw := hw.1 k25
      exact j52 v2 v4 v5 σ _ _ _ hP hD hS (lv_sub hl [0, 1, 2, 4, 5] rfl) hw
    · replace hw := hw.2 k25
      refine lv_aload_n hx hb dX9_readWord_12 rfl (lv_at hl 1 rfl) ?_
      refine lv_iload hx hb dX9_readWord_13 (lv_at hl 4 rfl) ?_
      obtain ⟨o26, hw⟩ := hw
      refine zlC10_0 hx hb o26 hK hP dX9_readWord_15 ?_
      refine z_Si (n := 1) (As := [.int (Int32.ofInt (zA σ 10 0 v4))]) (rest := []) hx hb hml hg hown hK hP hD hS hA (kX9_isLetter l D dA ad (zA σ 10 0 v4) σ _ _ hw) q801 q151 q799 q800 (by decide +kernel) ⟨(Nat.le_of_ble_eq_true rfl), (Nat.le_of_ble_eq_true rfl)⟩ rfl hl.1 rfl (Nat.le_of_ble_eq_true rfl) dX9_readWord_16 ⟨(Nat.le_of_ble_eq_true rfl), (Nat.le_of_ble_eq_true rfl)⟩ (fun x27 σ28 H locs hw hP hD hS => ?_)
      obtain ⟨o29, hw⟩ := hw
      refine z_if_ne (tgt := 32) hx hb o29 dX9_readWord_19 (by decide) (fun k30 => ?_) (fun k30 => ?_)
      · replace hw := hw.1 k30
        exact j32 v4 v5 σ28 _ _ _ hP hD hS (lv_sub hl [0, 1, 2, 3, 4, 5] rfl) hw
      · replace hw := hw.2 k30
        refine lv_aload_n hx hb dX9_readWord_22 rfl (lv_at hl 1 rfl) ?_
        refine lv_iload hx hb dX9_readWord_23 (lv_at hl 4 rfl) ?_
        refine zlC10_0 hx hb o26 hK hP dX9_readWord_25 ?_
        refine z_Si (n := 1) (As := [.int (Int32.ofInt (zA σ28 10 0 v4))]) (rest := []) hx hb hml hg hown hK hP hD hS hA (kX9_isDigit l D dA ad (zA σ28 10 0 v4) σ28 _ _ hw) q808 q151 q806 q807 (by decide +kernel) ⟨(Nat.le_of_ble_eq_true rfl), (Nat.le_of_ble_eq_true rfl)⟩ rfl hl.1 rfl (Nat.le_of_ble_eq_true rfl) dX9_readWord_26 ⟨(Nat.le_of_ble_eq_true rfl), (Nat.le_of_ble_eq_true rfl)⟩ (fun x31 σ32 H locs hw hP hD hS => ?_)
        obtain ⟨o33, hw⟩ := hw
        refine z_if_eq (tgt := 52) hx hb o33 dX9_readWord_29 (by decide) (fun k34 => ?_) (fun k34 => ?_)
        · replace hw := hw.1 k34
          exact j52 v2 v4 v5 σ32 _ _ _ hP hD hS (lv_sub hl [0, 1, 2, 4, 5] rfl) hw
        · replace hw := hw.2 k34
          exact j32 v4 v5 σ32 _ _ _ hP hD hS (lv_sub hl [0, 1, 2, 3, 4, 5] rfl) hw
  have j6 : ∀ (v2 v3 v4 v5 : Int) (σ : ZS), ∀ (H : Heap) (locs : List Loc) (ls : Array Slot), va_P D vwC (zC dA ad σ) H → va_D A (zC dA ad σ) → va_S A s.heap H locs → lv_has ls 9 [(0, .ref (ad 12 1000)), (1, .ref (ad 10 0)), (2, .int (Int32.ofInt v2)), (3, .int (Int32.ofInt v3)), (4, .int (Int32.ofInt v4)), (5, .long (Int64.ofInt v5))] → wpX9_readWord_6 v2 v3 v4 v5 σ Q → W p l e (gR 6 0 0) s m #[.ref (ad 12 1000), .ref (ad 10 0), .int (Int32.ofInt a2), .int (Int32.ofInt a3)] below meth c H locs 0 0 QQ (F0 m 6 ls []) := by
    intro v2 v3 v4 v5 σ H locs ls hP hD hS hl hw
    exact hw (fun v4 v5 σ => ∀ (H : Heap) (locs : List Loc) (ls : Array Slot), va_P D vwC (zC dA ad σ) H → va_D A (zC dA ad σ) → va_S A s.heap H locs → lv_has ls 9 [(0, .ref (ad 12 1000)), (1, .ref (ad 10 0)), (2, .int (Int32.ofInt v2)), (3, .int (Int32.ofInt v3)), (4, .int (Int32.ofInt v4)), (5, .long (Int64.ofInt v5))] → W p l e (gR 6 0 0) s m #[.ref (ad 12 1000), .ref (ad 10 0), .int (Int32.ofInt a2), .int (Int32.ofInt a3)] below meth c H locs 0 0 QQ (F0 m 6 ls [])) (b6 v2 v3 (fun v4 v5 σ => ∀ (H : Heap) (locs : List Loc) (ls : Array Slot), va_P D vwC (zC dA ad σ) H → va_D A (zC dA ad σ) → va_S A s.heap H locs → lv_has ls 9 [(0, .ref (ad 12 1000)), (1, .ref (ad 10 0)), (2, .int (Int32.ofInt v2)), (3, .int (Int32.ofInt v3)), (4, .int (Int32.ofInt v4)), (5, .long (Int64.ofInt v5))] → W p l e (gR 6 0 0) s m #[.ref (ad 12 1000), .ref (ad 10 0), .int (Int32.ofInt a2), .int (Int32.ofInt a3)] below meth c H locs 0 0 QQ (F0 m 6 ls [])) (fun v4 v5 σ h => h)) _ _ _ hP hD hS hl
  unfold wpX9_readWord at hw
  refine lv_iload_n hx hb dX9_readWord_0 rfl (lv_at hl 2 rfl) ?_
  refine lv_istore (lv' := [(4, .int (Int32.ofInt a2)), (0, .ref (ad 12 1000)), (1, .ref (ad 10 0)), (2, .int (Int32.ofInt a2)), (3, .int (Int32.ofInt a3))]) hx hb dX9_readWord_1 hl (by decide) rfl (fun ls hl => ?_)
  refine lv_lconst (v := Int64.ofInt 0) hx hb dX9_readWord_3 (by decide) ?_
  refine lv_lstore (lv' := [(5, .long (Int64.ofInt 0)), (4, .int (Int32.ofInt a2)), (0, .ref (ad 12 1000)), (1, .ref (ad 10 0)), (2, .int (Int32.ofInt a2)), (3, .int (Int32.ofInt a3))]) hx hb dX9_readWord_4 hl (by decide) rfl (fun ls hl => ?_)
  exact j6 a2 a3 a2 0 σ _ _ _ hP hD hS (lv_sub hl [2, 3, 4, 5, 1, 0] rfl) hw
def wpX9_read_109 (v2 : Int) (σ : ZS) (Q : ZS → Prop) : Prop := wpX9_put 0 0 v2 σ (fun (σ2 : ZS) => Q σ2)
def wpX9_read_103 (K17 : Int → Int → ZS → Prop) (v2 v3 v4 : Int) (σ : ZS) (Q : ZS → Prop) : Prop := K17 v3 (v4 + 1) σ
def wpX9_read_100 (K17 : Int → Int → ZS → Prop) (v2 v3 v4 : Int) (σ : ZS) (Q : ZS → Prop) : Prop := wpX9_read_103 K17 v2 (v3 + 1) v4 σ Q
def wpX9_read_95 (K17 : Int → Int → ZS → Prop) (v2 v3 v4 s1 : Int) (σ : ZS) (Q : ZS → Prop) : Prop := wpX9_put s1 0 v3 σ (fun (σ4 : ZS) => wpX9_read_100 K17 v2 v3 v4 σ4 Q)
def wpbX9_read_17 (K17 : Int → Int → ZS → Prop) (v2 v3 v4 : Int) (σ : ZS) (Q : ZS → Prop) : Prop := (-2147483648 ≤ v4 ∧ v4 ≤ 2147483647) ∧ (-2147483648 ≤ v2 ∧ v2 ≤ 2147483647) ∧ (v2 ≤ v4 → wpX9_read_109 v2 σ Q) ∧ (¬ v2 ≤ v4 → (-2147483648 ≤ v3 ∧ v3 ≤ 2147483647) ∧ (v2 ≤ v3 → wpX9_read_109 v2 σ Q) ∧ (¬ v2 ≤ v3 → (0 ≤ v3 ∧ v3 < 480) ∧ wpX9_isLetter (zA σ 10 0 v3) σ (fun (x11 : Int) (σ12 : ZS) => (-2147483648 ≤ x11 ∧ x11 ≤ 2147483647) ∧ (x11 = 0 → wpX9_isDigit (zA σ 10 0 v3) σ12 (fun (x15 : Int) (σ16 : ZS) => (-2147483648 ≤ x15 ∧ x15 ≤ 2147483647) ∧ (x15 = 0 → (-2147483648 ≤ (zA σ 10 0 v3) ∧ (zA σ 10 0 v3) ≤ 2147483647) ∧ ((zA σ 10 0 v3) = 32 → wpX9_read_100 K17 v2 v3 v4 σ16 Q) ∧ (¬ (zA σ 10 0 v3) = 32 → wpJ0_indexOf_0f7a4_S0 (zA σ 10 0 v3) σ16 (fun (x21 : Int) (σ22 : ZS) => (-2147483648 ≤ x21 ∧ x21 ≤ 2147483647) ∧ (x21 < 0 → wpX9_read_95 K17 v2 v3 v4 1 σ22 Q) ∧ (¬ x21 < 0 → wpX9_read_95 K17 v2 v3 v4 (zA σ 10 0 v3) σ22 Q)))) ∧ (¬ x15 = 0 → wpX9_readNumber v3 v2 σ16 (fun (x25 : Int) (σ26 : ZS) => wpX9_read_103 K17 v2 x25 v4 σ26 Q)))) ∧ (¬ x11 = 0 → wpX9_readWord v3 v2 σ12 (fun (x27 : Int) (σ28 : ZS) => wpX9_read_103 K17 v2 x27 v4 σ28 Q)))))
def wpX9_read_17 (v2 v3 v4 : Int) (σ : ZS) (Q : ZS → Prop) : Prop := lfp2 (fun K17 v3 v4 σ => wpbX9_read_17 K17 v2 v3 v4 σ Q) v3 v4 σ
def wpX9_read (a2 : Int) (σ : ZS) (Q : ZS → Prop) : Prop := wpX5_clear (zsI σ 12 3 0) (fun (σ30 : ZS) => wpX9_read_17 a2 0 0 σ30 Q)
set_option maxHeartbeats 4000000 in
set_option maxRecDepth 100000 in
theorem kX9_read (l : Launch) (D : va_G) (dA : Nat → ClassId) (ad : Int → Nat → Nat) (tf tc : Nat) (aK aV : Nat → Nat) (a2 : Int) (σ : ZS) (Q : ZS → Prop) (sz : Nat) (hw : wpX9_read a2 σ Q) : Met l yX9_read (gws yX9_read cX9_read 6 none) (gR 7 0 0) (gPreE D dA tf tc aK aV [.ref (ad 12 1000), .ref (ad 10 0), .int (Int32.ofInt a2)] (zC dA ad σ) sz) (va_Qv Q (gAt D dA (va_A (zC dA ad σ) sz) (zC dA ad)) (va_A (zC dA ad σ) sz)) 0 0 (va_A (zC dA ad σ) sz) := by
  refine Met.ofW (cc := cX9_read) (maxL := 6) (ret := none) (by decide) rfl ?_
  intro p e s m args below meth c s₁ B hml hv
  obtain ⟨rfl, hsz, hP, hK, hD0, hE⟩ := hv
  have hx := B.exec
  have hb := B.bytes
  have hr := B.returns
  have hts := atoms_spec (ws := gws yX9_read cX9_read 6 none) B.pre
  have hg : ∀ w ∈ gw, w.before _ s = true := fun w h => hts w (List.mem_cons_of_mem _ h)
  have hown : s.vm.findClass RX9 = some m.cls := findClass_of_methodNamed B.named
  have hlocks := B.notSynchronized
  subst hsz
  have hD := hD0.self (sz := s.heap.size)
  generalize hAe : va_A (zC dA ad σ) s.heap.size = A at hD hE ⊢
  have hA : ∀ q : Nat, s.heap.size ≤ q → A q := fun q h => by rw [← hAe]; exact Or.inr h
  have hS : va_S A s.heap s.heap [] := va_S.rf
  have hl := lv_entry ([.ref (ad 12 1000), .ref (ad 10 0), .int (Int32.ofInt a2)]) (n := 6) (Nat.le_of_ble_eq_true rfl)
  rw [lg_entry_eq]
  generalize (lg_sl ([.ref (ad 12 1000), .ref (ad 10 0), .int (Int32.ofInt a2)]) ++ List.replicate (6 - (lg_sl ([.ref (ad 12 1000), .ref (ad 10 0), .int (Int32.ofInt a2)])).length) Slot.unset).toArray = ls at hl ⊢
  have hl : lv_has ls 6 [(0, .ref (ad 12 1000)), (1, .ref (ad 10 0)), (2, .int (Int32.ofInt a2))] := hl
  have hret : ∀ (σ : ZS) (H : Heap) (locs : List Loc) (ls : Array Slot) (pc : Nat), Q σ → va_P D vwC (zC dA ad σ) H → va_D A (zC dA ad σ) → va_S A s.heap H locs → decode cX9_read pc = .ok (.return_, 1) → W p l e (gR 7 0 0) s m #[.ref (ad 12 1000), .ref (ad 10 0), .int (Int32.ofInt a2)] below meth c H locs 0 0 (MQ below (va_Qv Q (gAt D dA A (zC dA ad)) A) #[.ref (ad 12 1000), .ref (ad 10 0), .int (Int32.ofInt a2)] s 0 0 A) (F0 m pc ls []) := fun σ H locs ls pc hw hP hD hS hd => g_vret hx hb hr hlocks hK σ hP hD hS hw (Nat.le_of_ble_eq_true rfl) (Nat.le_of_ble_eq_true rfl) hd
  generalize MQ below (va_Qv Q (gAt D dA A (zC dA ad)) A) #[.ref (ad 12 1000), .ref (ad 10 0), .int (Int32.ofInt a2)] s 0 0 A = QQ at hret ⊢
  have j109 : ∀ (v2 : Int) (σ : ZS), ∀ (H : Heap) (locs : List Loc) (ls : Array Slot), va_P D vwC (zC dA ad σ) H → va_D A (zC dA ad σ) → va_S A s.heap H locs → lv_has ls 6 [(0, .ref (ad 12 1000)), (2, .int (Int32.ofInt v2))] → wpX9_read_109 v2 σ Q → W p l e (gR 7 0 0) s m #[.ref (ad 12 1000), .ref (ad 10 0), .int (Int32.ofInt a2)] below meth c H locs 0 0 QQ (F0 m 109 ls []) := by
    intro v2 σ H locs ls hP hD hS hl hw
    unfold wpX9_read_109 at hw
    refine lv_aload_n hx hb dX9_read_109 rfl (lv_at hl 0 rfl) ?_
    refine lv_iconst (v := Int32.ofInt 0) hx hb dX9_read_110 (by decide) ?_
    refine lv_iconst (v := Int32.ofInt 0) hx hb dX9_read_111 (by decide) ?_
    refine lv_iload_n hx hb dX9_read_112 rfl (lv_at hl 1 rfl) ?_
    refine z_Vv (n := 3) (As := [.int (Int32.ofInt 0), .int (Int32.ofInt 0), .int (Int32.ofInt v2)]) (rest := []) hx hb hml hg hown hK hP hD hS hA (kX9_put l D dA ad 0 0 v2 σ _ _ hw) (zoC12) rfl q813 q151 q810 q812 q3 (by decide +kernel) ⟨(Nat.le_of_ble_eq_true rfl), (Nat.le_of_ble_eq_true rfl)⟩ rfl hl.1 rfl (Nat.le_of_ble_eq_true rfl) dX9_read_113 ⟨(Nat.le_of_ble_eq_true rfl), (Nat.le_of_ble_eq_true rfl)⟩ (fun σ2 H locs hw hP hD hS => ?_)
    exact hret σ2 _ _ _ _ hw hP hD hS dX9_read_116
  have b17 : ∀ (v2 : Int) (K17 : Int → Int → ZS → Prop), (∀ (v3 v4 : Int) (σ : ZS), K17 v3 v4 σ → ∀ (H : Heap) (locs : List Loc) (ls : Array Slot), va_P D vwC (zC dA ad σ) H → va_D A (zC dA ad σ) → va_S A s.heap H locs → lv_has ls 6 [(0, .ref (ad 12 1000)), (1, .ref (ad 10 0)), (2, .int (Int32.ofInt v2)), (3, .int (Int32.ofInt v3)), (4, .int (Int32.ofInt v4))] → W p l e (gR 7 0 0) s m #[.ref (ad 12 1000), .ref (ad 10 0), .int (Int32.ofInt a2)] below meth c H locs 0 0 QQ (F0 m 17 ls [])) → ∀ (v3 v4 : Int) (σ : ZS), wpbX9_read_17 K17 v2 v3 v4 σ Q → ∀ (H : Heap) (locs : List Loc) (ls : Array Slot), va_P D vwC (zC dA ad σ) H → va_D A (zC dA ad σ) → va_S A s.heap H locs → lv_has ls 6 [(0, .ref (ad 12 1000)), (1, .ref (ad 10 0)), (2, .int (Int32.ofInt v2)), (3, .int (Int32.ofInt v3)), (4, .int (Int32.ofInt v4))] → W p l e (gR 7 0 0) s m #[.ref (ad 12 1000), .ref (ad 10 0), .int (Int32.ofInt a2)] below meth c H locs 0 0 QQ (F0 m 17 ls []) := by
    intro v2 K17 hK17
    have j103 : ∀ (v3 v4 : Int) (σ : ZS), ∀ (H : Heap) (locs : List Loc) (ls : Array Slot), va_P D vwC (zC dA ad σ) H → va_D A (zC dA ad σ) → va_S A s.heap H locs → lv_has ls 6 [(0, .ref (ad 12 1000)), (1, .ref (ad 10 0)), (2, .int (Int32.ofInt v2)), (3, .int (Int32.ofInt v3)), (4, .int (Int32.ofInt v4))] → wpX9_read_103 K17 v2 v3 v4 σ Q → W p l e (gR 7 0 0) s m #[.ref (ad 12 1000), .ref (ad 10 0), .int (Int32.ofInt a2)] below meth c H locs 0 0 QQ (F0 m 103 ls []) := by
      intro v3 v4 σ H locs ls hP hD hS hl hw
      unfold wpX9_read_103 at hw
      refine lv_iinc (v := Int32.ofInt (v4 + 1)) (lv' := [(4, .int (Int32.ofInt (v4 + 1))), (0, .ref (ad 12 1000)), (1, .ref (ad 10 0)), (2, .int (Int32.ofInt v2)), (3, .int (Int32.ofInt v3))]) hx hb dX9_read_103 hl (k := 4) rfl (Int32.ofInt_add _ _).symm (by decide) rfl (fun ls hl => ?_)
      refine lv_goto (tgt := 17) hx hb dX9_read_106 (by decide) ?_
      exact hK17 v3 (v4 + 1) σ hw _ _ _ hP hD hS (lv_sub hl [1, 2, 3, 4, 0] rfl)
    have j100 : ∀ (v3 v4 : Int) (σ : ZS), ∀ (H : Heap) (locs : List Loc) (ls : Array Slot), va_P D vwC (zC dA ad σ) H → va_D A (zC dA ad σ) → va_S A s.heap H locs → lv_has ls 6 [(0, .ref (ad 12 1000)), (1, .ref (ad 10 0)), (2, .int (Int32.ofInt v2)), (3, .int (Int32.ofInt v3)), (4, .int (Int32.ofInt v4))] → wpX9_read_100 K17 v2 v3 v4 σ Q → W p l e (gR 7 0 0) s m #[.ref (ad 12 1000), .ref (ad 10 0), .int (Int32.ofInt a2)] below meth c H locs 0 0 QQ (F0 m 100 ls []) := by
      intro v3 v4 σ H locs ls hP hD hS hl hw
      unfold wpX9_read_100 at hw
      refine lv_iinc (v := Int32.ofInt (v3 + 1)) (lv' := [(3, .int (Int32.ofInt (v3 + 1))), (0, .ref (ad 12 1000)), (1, .ref (ad 10 0)), (2, .int (Int32.ofInt v2)), (4, .int (Int32.ofInt v4))]) hx hb dX9_read_100 hl (k := 3) rfl (Int32.ofInt_add _ _).symm (by decide) rfl (fun ls hl => ?_)
      exact j103 (v3 + 1) v4 σ _ _ _ hP hD hS (lv_sub hl [1, 2, 3, 0, 4] rfl) hw
    have j95 : ∀ (v3 v4 s1 : Int) (σ : ZS), ∀ (H : Heap) (locs : List Loc) (ls : Array Slot), va_P D vwC (zC dA ad σ) H → va_D A (zC dA ad σ) → va_S A s.heap H locs → lv_has ls 6 [(0, .ref (ad 12 1000)), (1, .ref (ad 10 0)), (2, .int (Int32.ofInt v2)), (3, .int (Int32.ofInt v3)), (4, .int (Int32.ofInt v4))] → wpX9_read_95 K17 v2 v3 v4 s1 σ Q → W p l e (gR 7 0 0) s m #[.ref (ad 12 1000), .ref (ad 10 0), .int (Int32.ofInt a2)] below meth c H locs 0 0 QQ (F0 m 95 ls [.int (Int32.ofInt s1), .ref (ad 12 1000)]) := by
      intro v3 v4 s1 σ H locs ls hP hD hS hl hw
      unfold wpX9_read_95 at hw
      refine lv_iconst (v := Int32.ofInt 0) hx hb dX9_read_95 (by decide) ?_
      refine lv_iload_n hx hb dX9_read_96 rfl (lv_at hl 3 rfl) ?_
      refine z_Vv (n := 3) (As := [.int (Int32.ofInt s1), .int (Int32.ofInt 0), .int (Int32.ofInt v3)]) (rest := []) hx hb hml hg hown hK hP hD hS hA (kX9_put l D dA ad s1 0 v3 σ _ _ hw) (zoC12) rfl q813 q151 q810 q812 q3 (by decide +kernel) ⟨(Nat.le_of_ble_eq_true rfl), (Nat.le_of_ble_eq_true rfl)⟩ rfl hl.1 rfl (Nat.le_of_ble_eq_true rfl) dX9_read_97 ⟨(Nat.le_of_ble_eq_true rfl), (Nat.le_of_ble_eq_true rfl)⟩ (fun σ4 H locs hw hP hD hS => ?_)
      exact j100 v3 v4 σ4 _ _ _ hP hD hS (lv_sub hl [0, 1, 2, 3, 4] rfl) hw
    intro v3 v4 σ hw H locs ls hP hD hS hl
    unfold wpbX9_read_17 at hw
    refine lv_iload hx hb dX9_read_17 (lv_at hl 4 rfl) ?_
    refine lv_iload_n hx hb dX9_read_19 rfl (lv_at hl 2 rfl) ?_
    obtain ⟨o5, hw⟩ := hw
    obtain ⟨o6, hw⟩ := hw
    refine z_icmp_ge (tgt := 109) hx hb o5 o6 dX9_read_20 (by decide) (fun k7 => ?_) (fun k7 => ?_)
    · replace hw := hw.1 k7
      exact j109 v2 σ _ _ _ hP hD hS (lv_sub hl [0, 2] rfl) hw
    · replace hw := hw.2 k7
      refine lv_iload_n hx hb dX9_read_23 rfl (lv_at hl 3 rfl) ?_
      refine lv_iload_n hx hb dX9_read_24 rfl (lv_at hl 2 rfl) ?_
      obtain ⟨o8, hw⟩ := hw
      refine z_icmp_ge (tgt := 109) hx hb o8 o6 dX9_read_25 (by decide) (fun k9 => ?_) (fun k9 => ?_)
      · replace hw := hw.1 k9
        exact j109 v2 σ _ _ _ hP hD hS (lv_sub hl [0, 2] rfl) hw
      · replace hw := hw.2 k9
        refine lv_aload_n hx hb dX9_read_28 rfl (lv_at hl 1 rfl) ?_
        refine lv_iload_n hx hb dX9_read_29 rfl (lv_at hl 3 rfl) ?_
        obtain ⟨o10, hw⟩ := hw
        refine zlC10_0 hx hb o10 hK hP dX9_read_30 ?_
        refine lv_istore (lv' := [(5, .int (Int32.ofInt (zA σ 10 0 v3))), (0, .ref (ad 12 1000)), (1, .ref (ad 10 0)), (2, .int (Int32.ofInt v2)), (3, .int (Int32.ofInt v3)), (4, .int (Int32.ofInt v4))]) hx hb dX9_read_31 hl (by decide) rfl (fun ls hl => ?_)
        refine lv_iload hx hb dX9_read_33 (lv_at hl 0 rfl) ?_
        refine z_Si (n := 1) (As := [.int (Int32.ofInt (zA σ 10 0 v3))]) (rest := []) hx hb hml hg hown hK hP hD hS hA (kX9_isLetter l D dA ad (zA σ 10 0 v3) σ _ _ hw) q801 q151 q799 q800 (by decide +kernel) ⟨(Nat.le_of_ble_eq_true rfl), (Nat.le_of_ble_eq_true rfl)⟩ rfl hl.1 rfl (Nat.le_of_ble_eq_true rfl) dX9_read_35 ⟨(Nat.le_of_ble_eq_true rfl), (Nat.le_of_ble_eq_true rfl)⟩ (fun x11 σ12 H locs hw hP hD hS => ?_)
        obtain ⟨o13, hw⟩ := hw
        refine z_if_eq (tgt := 52) hx hb o13 dX9_read_38 (by decide) (fun k14 => ?_) (fun k14 => ?_)
        · replace hw := hw.1 k14
          refine lv_iload hx hb dX9_read_52 (lv_at hl 0 rfl) ?_
          refine z_Si (n := 1) (As := [.int (Int32.ofInt (zA σ 10 0 v3))]) (rest := []) hx hb hml hg hown hK hP hD hS hA (kX9_isDigit l D dA ad (zA σ 10 0 v3) σ12 _ _ hw) q808 q151 q806 q807 (by decide +kernel) ⟨(Nat.le_of_ble_eq_true rfl), (Nat.le_of_ble_eq_true rfl)⟩ rfl hl.1 rfl (Nat.le_of_ble_eq_true rfl) dX9_read_54 ⟨(Nat.le_of_ble_eq_true rfl), (Nat.le_of_ble_eq_true rfl)⟩ (fun x15 σ16 H locs hw hP hD hS => ?_)
          obtain ⟨o17, hw⟩ := hw
          refine z_if_eq (tgt := 71) hx hb o17 dX9_read_57 (by decide) (fun k18 => ?_) (fun k18 => ?_)
          · replace hw := hw.1 k18
            refine lv_iload hx hb dX9_read_71 (lv_at hl 0 rfl) ?_
            refine lv_bipush (v := Int32.ofInt 32) hx hb dX9_read_73 (by decide) ?_
            obtain ⟨o19, hw⟩ := hw
            refine z_icmp_eq (tgt := 100) hx hb o19 (by decide) dX9_read_75 (by decide) (fun k20 => ?_) (fun k20 => ?_)
            · replace hw := hw.1 k20
              exact j100 v3 v4 σ16 _ _ _ hP hD hS (lv_sub hl [1, 2, 3, 4, 5] rfl) hw
            · replace hw := hw.2 k20
              refine lv_aload_n hx hb dX9_read_78 rfl (lv_at hl 1 rfl) ?_
              refine va_ldcS hx hb hown hE.2.2.2.2.2.2.2.1 dX9_read_79 ?_
              refine lv_iload hx hb dX9_read_81 (lv_at hl 0 rfl) ?_
              refine z_EVi (n := 1) (As := [.int (Int32.ofInt (zA σ 10 0 v3))]) (rest := [.ref (ad 12 1000)]) hx hb hml hg hown hE hK hP hD hS hA (kJ0_indexOf_0f7a4_S0 l D dA ad tf tc aK aV (zA σ 10 0 v3) σ16 _ _ hw) (vk_recv hE.2.2.2.2.2.2.1 (i := 0) (by decide) hS) q885 q166 q882 q883 q884 (by decide +kernel) ⟨(Nat.le_of_ble_eq_true rfl), (Nat.le_of_ble_eq_true rfl)⟩ rfl hl.1 rfl (Nat.le_of_ble_eq_true rfl) dX9_read_83 ⟨(Nat.le_of_ble_eq_true rfl), (Nat.le_of_ble_eq_true rfl)⟩ (fun x21 σ22 H locs hw hP hD hS => ?_)
              obtain ⟨o23, hw⟩ := hw
              refine z_if_lt (tgt := 94) hx hb o23 dX9_read_86 (by decide) (fun k24 => ?_) (fun k24 => ?_)
              · replace hw := hw.1 k24
                refine lv_iconst (v := Int32.ofInt 1) hx hb dX9_read_94 (by decide) ?_
                exact j95 v3 v4 1 σ22 _ _ _ hP hD hS (lv_sub hl [1, 2, 3, 4, 5] rfl) hw
              · replace hw := hw.2 k24
                refine lv_iload hx hb dX9_read_89 (lv_at hl 0 rfl) ?_
                refine lv_goto (tgt := 95) hx hb dX9_read_91 (by decide) ?_
                exact j95 v3 v4 (zA σ 10 0 v3) σ22 _ _ _ hP hD hS (lv_sub hl [1, 2, 3, 4, 5] rfl) hw
          · replace hw := hw.2 k18
            refine lv_aload_n hx hb dX9_read_60 rfl (lv_at hl 1 rfl) ?_
            refine lv_aload_n hx hb dX9_read_61 rfl (lv_at hl 2 rfl) ?_
            refine lv_iload_n hx hb dX9_read_62 rfl (lv_at hl 4 rfl) ?_
            refine lv_iload_n hx hb dX9_read_63 rfl (lv_at hl 3 rfl) ?_
            refine z_Vi (n := 3) (As := [.ref (ad 10 0), .int (Int32.ofInt v3), .int (Int32.ofInt v2)]) (rest := []) hx hb hml hg hown hK hP hD hS hA (kX9_readNumber l D dA ad v3 v2 σ16 _ _ hw) (zoC12) rfl q875 q151 q872 q874 q4 (by decide +kernel) ⟨(Nat.le_of_ble_eq_true rfl), (Nat.le_of_ble_eq_true rfl)⟩ rfl hl.1 rfl (Nat.le_of_ble_eq_true rfl) dX9_read_64 ⟨(Nat.le_of_ble_eq_true rfl), (Nat.le_of_ble_eq_true rfl)⟩ (fun x25 σ26 H locs hw hP hD hS => ?_)
            refine lv_istore_n (lv' := [(3, .int (Int32.ofInt x25)), (5, .int (Int32.ofInt (zA σ 10 0 v3))), (0, .ref (ad 12 1000)), (1, .ref (ad 10 0)), (2, .int (Int32.ofInt v2)), (4, .int (Int32.ofInt v4))]) hx hb dX9_read_67 rfl hl (by decide) rfl (fun ls hl => ?_)
            refine lv_goto (tgt := 103) hx hb dX9_read_68 (by decide) ?_
            exact j103 x25 v4 σ26 _ _ _ hP hD hS (lv_sub hl [2, 3, 4, 0, 5] rfl) hw
        · replace hw := hw.2 k14
          refine lv_aload_n hx hb dX9_read_41 rfl (lv_at hl 1 rfl) ?_
          refine lv_aload_n hx hb dX9_read_42 rfl (lv_at hl 2 rfl) ?_
          refine lv_iload_n hx hb dX9_read_43 rfl (lv_at hl 4 rfl) ?_
          refine lv_iload_n hx hb dX9_read_44 rfl (lv_at hl 3 rfl) ?_
          refine z_EVi (n := 3) (As := [.ref (ad 10 0), .int (Int32.ofInt v3), .int (Int32.ofInt v2)]) (rest := []) hx hb hml hg hown hE hK hP hD hS hA (kX9_readWord l D dA ad tf tc aK aV v3 v2 σ12 _ _ hw) (z_rec hK hP (zoC12) rfl) q805 q151 q802 q804 q2 (by decide +kernel) ⟨(Nat.le_of_ble_eq_true rfl), (Nat.le_of_ble_eq_true rfl)⟩ rfl hl.1 rfl (Nat.le_of_ble_eq_true rfl) dX9_read_45 ⟨(Nat.le_of_ble_eq_true rfl), (Nat.le_of_ble_eq_true rfl)⟩ (fun x27 σ28 H locs hw hP hD hS => ?_)
          refine lv_istore_n (lv' := [(3, .int (Int32.ofInt x27)), (5, .int (Int32.ofInt (zA σ 10 0 v3))), (0, .ref (ad 12 1000)), (1, .ref (ad 10 0)), (2, .int (Int32.ofInt v2)), (4, .int (Int32.ofInt v4))]) hx hb dX9_read_48 rfl hl (by decide) rfl (fun ls hl => ?_)
          refine lv_goto (tgt := 103) hx hb dX9_read_49 (by decide) ?_
          exact j103 x27 v4 σ28 _ _ _ hP hD hS (lv_sub hl [2, 3, 4, 0, 5] rfl) hw
  have j17 : ∀ (v2 v3 v4 : Int) (σ : ZS), ∀ (H : Heap) (locs : List Loc) (ls : Array Slot), va_P D vwC (zC dA ad σ) H → va_D A (zC dA ad σ) → va_S A s.heap H locs → lv_has ls 6 [(0, .ref (ad 12 1000)), (1, .ref (ad 10 0)), (2, .int (Int32.ofInt v2)), (3, .int (Int32.ofInt v3)), (4, .int (Int32.ofInt v4))] → wpX9_read_17 v2 v3 v4 σ Q → W p l e (gR 7 0 0) s m #[.ref (ad 12 1000), .ref (ad 10 0), .int (Int32.ofInt a2)] below meth c H locs 0 0 QQ (F0 m 17 ls []) := by
    intro v2 v3 v4 σ H locs ls hP hD hS hl hw
    exact hw (fun v3 v4 σ => ∀ (H : Heap) (locs : List Loc) (ls : Array Slot), va_P D vwC (zC dA ad σ) H → va_D A (zC dA ad σ) → va_S A s.heap H locs → lv_has ls 6 [(0, .ref (ad 12 1000)), (1, .ref (ad 10 0)), (2, .int (Int32.ofInt v2)), (3, .int (Int32.ofInt v3)), (4, .int (Int32.ofInt v4))] → W p l e (gR 7 0 0) s m #[.ref (ad 12 1000), .ref (ad 10 0), .int (Int32.ofInt a2)] below meth c H locs 0 0 QQ (F0 m 17 ls [])) (b17 v2 (fun v3 v4 σ => ∀ (H : Heap) (locs : List Loc) (ls : Array Slot), va_P D vwC (zC dA ad σ) H → va_D A (zC dA ad σ) → va_S A s.heap H locs → lv_has ls 6 [(0, .ref (ad 12 1000)), (1, .ref (ad 10 0)), (2, .int (Int32.ofInt v2)), (3, .int (Int32.ofInt v3)), (4, .int (Int32.ofInt v4))] → W p l e (gR 7 0 0) s m #[.ref (ad 12 1000), .ref (ad 10 0), .int (Int32.ofInt a2)] below meth c H locs 0 0 QQ (F0 m 17 ls [])) (fun v3 v4 σ h => h)) _ _ _ hP hD hS hl
  unfold wpX9_read at hw
  refine lv_aload_n hx hb dX9_read_0 rfl (lv_at hl 0 rfl) ?_
  refine lv_iconst (v := Int32.ofInt 0) hx hb dX9_read_1 (by decide) ?_
  refine zpC12_3 (v := 0) hx hb hg hown hK hP hD hS q237 dX9_read_2 (fun H locs hP hD hS => ?_)
  refine lv_aload_n hx hb dX9_read_5 rfl (lv_at hl 0 rfl) ?_
  refine zgC12_4 hx hb hg hown hK hP q239 dX9_read_6 ?_
  refine z_Vv (n := 0) (As := []) (rest := []) hx hb hml hg hown hK hP hD hS hA (kX5_clear l D dA ad (zsI σ 12 3 0) _ _ hw) (zoC11) rfl q798 q150 q795 q796 q797 (by decide +kernel) ⟨(Nat.le_of_ble_eq_true rfl), (Nat.le_of_ble_eq_true rfl)⟩ rfl hl.1 rfl (Nat.le_of_ble_eq_true rfl) dX9_read_9 ⟨(Nat.le_of_ble_eq_true rfl), (Nat.le_of_ble_eq_true rfl)⟩ (fun σ30 H locs hw hP hD hS => ?_)
  refine lv_iconst (v := Int32.ofInt 0) hx hb dX9_read_12 (by decide) ?_
  refine lv_istore_n (lv' := [(3, .int (Int32.ofInt 0)), (0, .ref (ad 12 1000)), (1, .ref (ad 10 0)), (2, .int (Int32.ofInt a2))]) hx hb dX9_read_13 rfl hl (by decide) rfl (fun ls hl => ?_)
  refine lv_iconst (v := Int32.ofInt 0) hx hb dX9_read_14 (by decide) ?_
  refine lv_istore (lv' := [(4, .int (Int32.ofInt 0)), (3, .int (Int32.ofInt 0)), (0, .ref (ad 12 1000)), (1, .ref (ad 10 0)), (2, .int (Int32.ofInt a2))]) hx hb dX9_read_15 hl (by decide) rfl (fun ls hl => ?_)
  exact j17 a2 0 0 σ30 _ _ _ hP hD hS (lv_sub hl [2, 3, 4, 1, 0] rfl) hw
def wpX8_mayStand_33 (s0 : Int) (σ : ZS) (Q : Int → ZS → Prop) : Prop := (0 ≤ s0 ∧ s0 ≤ 1) ∧ Q s0 σ
def wpX8_mayStand_32 (σ : ZS) (Q : Int → ZS → Prop) : Prop := wpX8_mayStand_33 0 σ Q
def wpX8_mayStand_28 (σ : ZS) (Q : Int → ZS → Prop) : Prop := wpX8_mayStand_33 1 σ Q
def wpX8_mayStand (a1 : Int) (σ : ZS) (Q : Int → ZS → Prop) : Prop := (-2147483648 ≤ a1 ∧ a1 ≤ 2147483647) ∧ (a1 < 0 → wpX8_mayStand_32 σ Q) ∧ (¬ a1 < 0 → (36 ≤ a1 → wpX8_mayStand_32 σ Q) ∧ (¬ 36 ≤ a1 → (-2147483648 ≤ (zI σ 14 5) ∧ (zI σ 14 5) ≤ 2147483647) ∧ (¬ (zI σ 14 5) = 0 → wpX8_mayStand_28 σ Q) ∧ ((zI σ 14 5) = 0 → (0 ≤ a1 ∧ a1 < 36) ∧ (-2147483648 ≤ (zform a1) ∧ (zform a1) ≤ 2147483647) ∧ (2 < (zform a1) → wpX8_mayStand_32 σ Q) ∧ (¬ 2 < (zform a1) → wpX8_mayStand_28 σ Q))))
set_option maxHeartbeats 4000000 in
set_option maxRecDepth 100000 in
theorem kX8_mayStand (l : Launch) (D : va_G) (dA : Nat → ClassId) (ad : Int → Nat → Nat) (tf tc : Nat) (aK aV : Nat → Nat) (a1 : Int) (σ : ZS) (Q : Int → ZS → Prop) (sz : Nat) (hw : wpX8_mayStand a1 σ Q) : Met l yX8_mayStand (gws yX8_mayStand cX8_mayStand 2 (some .boolean)) (gR 1 0 0) (gPreE D dA tf tc aK aV [.ref (ad 14 1000), .int (Int32.ofInt a1)] (zC dA ad σ) sz) (va_Qi (zQi Q) (gAt D dA (va_A (zC dA ad σ) sz) (zC dA ad)) (va_A (zC dA ad σ) sz)) 0 0 (va_A (zC dA ad σ) sz) := by
  refine Met.ofW (cc := cX8_mayStand) (maxL := 2) (ret := (some .boolean)) (by decide) rfl ?_
  intro p e s m args below meth c s₁ B hml hv
  obtain ⟨rfl, hsz, hP, hK, hD0, hE⟩ := hv
  have hx := B.exec
  have hb := B.bytes
  have hr := B.returns
  have hts := atoms_spec (ws := gws yX8_mayStand cX8_mayStand 2 (some .boolean)) B.pre
  have hg : ∀ w ∈ gw, w.before _ s = true := fun w h => hts w (List.mem_cons_of_mem _ h)
  have hown : s.vm.findClass RX8 = some m.cls := findClass_of_methodNamed B.named
  have hlocks := B.notSynchronized
  subst hsz
  have hD := hD0.self (sz := s.heap.size)
  generalize hAe : va_A (zC dA ad σ) s.heap.size = A at hD hE ⊢
  have hA : ∀ q : Nat, s.heap.size ≤ q → A q := fun q h => by rw [← hAe]; exact Or.inr h
  have hS : va_S A s.heap s.heap [] := va_S.rf
  have hl := lv_entry ([.ref (ad 14 1000), .int (Int32.ofInt a1)]) (n := 2) (Nat.le_of_ble_eq_true rfl)
  rw [lg_entry_eq]
  generalize (lg_sl ([.ref (ad 14 1000), .int (Int32.ofInt a1)]) ++ List.replicate (2 - (lg_sl ([.ref (ad 14 1000), .int (Int32.ofInt a1)])).length) Slot.unset).toArray = ls at hl ⊢
  have hl : lv_has ls 2 [(0, .ref (ad 14 1000)), (1, .int (Int32.ofInt a1))] := hl
  have hret : ∀ (v : Int) (σ : ZS) (H : Heap) (locs : List Loc) (ls : Array Slot) (pc : Nat), (0 ≤ v ∧ v ≤ 1) → Q v σ → va_P D vwC (zC dA ad σ) H → va_D A (zC dA ad σ) → va_S A s.heap H locs → decode cX8_mayStand pc = .ok (.ireturn, 1) → W p l e (gR 1 0 0) s m #[.ref (ad 14 1000), .int (Int32.ofInt a1)] below meth c H locs 0 0 (MQ below (va_Qi (zQi Q) (gAt D dA A (zC dA ad)) A) #[.ref (ad 14 1000), .int (Int32.ofInt a1)] s 0 0 A) (F0 m pc ls [.int (Int32.ofInt v)]) := fun v σ H locs ls pc hv hw hP hD hS hd => g_iret hx hb hr (z_nb hv) hlocks hK σ hP hD hS ⟨v, rfl, hw⟩ (Nat.le_of_ble_eq_true rfl) (Nat.le_of_ble_eq_true rfl) hd
  generalize MQ below (va_Qi (zQi Q) (gAt D dA A (zC dA ad)) A) #[.ref (ad 14 1000), .int (Int32.ofInt a1)] s 0 0 A = QQ at hret ⊢
  have j33 : ∀ (s0 : Int) (σ : ZS), ∀ (H : Heap) (locs : List Loc) (ls : Array Slot), va_P D vwC (zC dA ad σ) H → va_D A (zC dA ad σ) → va_S A s.heap H locs → lv_has ls 2 [] → wpX8_mayStand_33 s0 σ Q → W p l e (gR 1 0 0) s m #[.ref (ad 14 1000), .int (Int32.ofInt a1)] below meth c H locs 0 0 QQ (F0 m 33 ls [.int (Int32.ofInt s0)]) := by
    intro s0 σ H locs ls hP hD hS hl hw
    unfold wpX8_mayStand_33 at hw
    obtain ⟨o1, hw⟩ := hw
    exact hret s0 σ _ _ _ _ o1 hw hP hD hS dX8_mayStand_33
  have j32 : ∀ (σ : ZS), ∀ (H : Heap) (locs : List Loc) (ls : Array Slot), va_P D vwC (zC dA ad σ) H → va_D A (zC dA ad σ) → va_S A s.heap H locs → lv_has ls 2 [] → wpX8_mayStand_32 σ Q → W p l e (gR 1 0 0) s m #[.ref (ad 14 1000), .int (Int32.ofInt a1)] below meth c H locs 0 0 QQ (F0 m 32 ls []) := by
    intro σ H locs ls hP hD hS hl hw
    unfold wpX8_mayStand_32 at hw
    refine lv_iconst (v := Int32.ofInt 0) hx hb dX8_mayStand_32 (by decide) ?_
    exact j33 0 σ _ _ _ hP hD hS (lv_sub hl [] rfl) hw
  have j28 : ∀ (σ : ZS), ∀ (H : Heap) (locs : List Loc) (ls : Array Slot), va_P D vwC (zC dA ad σ) H → va_D A (zC dA ad σ) → va_S A s.heap H locs → lv_has ls 2 [] → wpX8_mayStand_28 σ Q → W p l e (gR 1 0 0) s m #[.ref (ad 14 1000), .int (Int32.ofInt a1)] below meth c H locs 0 0 QQ (F0 m 28 ls []) := by
    intro σ H locs ls hP hD hS hl hw
    unfold wpX8_mayStand_28 at hw
    refine lv_iconst (v := Int32.ofInt 1) hx hb dX8_mayStand_28 (by decide) ?_
    refine lv_goto (tgt := 33) hx hb dX8_mayStand_29 (by decide) ?_
    exact j33 1 σ _ _ _ hP hD hS (lv_sub hl [] rfl) hw
  unfold wpX8_mayStand at hw
  refine lv_iload_n hx hb dX8_mayStand_0 rfl (lv_at hl 1 rfl) ?_
  obtain ⟨o2, hw⟩ := hw
  refine z_if_lt (tgt := 32) hx hb o2 dX8_mayStand_1 (by decide) (fun k3 => ?_) (fun k3 => ?_)
  · replace hw := hw.1 k3
    exact j32 σ _ _ _ hP hD hS (lv_sub hl [] rfl) hw
  · replace hw := hw.2 k3
    refine lv_iload_n hx hb dX8_mayStand_4 rfl (lv_at hl 1 rfl) ?_
    refine va_gets hx hb hE.1 hS hown (hg _ q971) (fun _ h => h) dX8_mayStand_5 ?_
    refine va_tlen (v := Int32.ofInt 36) hx hb hE.2.2.1 hS rfl dX8_mayStand_8 ?_
    refine z_icmp_ge (tgt := 32) hx hb o2 (by decide) dX8_mayStand_9 (by decide) (fun k4 => ?_) (fun k4 => ?_)
    · replace hw := hw.1 k4
      exact j32 σ _ _ _ hP hD hS (lv_sub hl [] rfl) hw
    · replace hw := hw.2 k4
      refine lv_aload_n hx hb dX8_mayStand_12 rfl (lv_at hl 0 rfl) ?_
      refine zgC14_5 hx hb hg hown hK hP q351 dX8_mayStand_13 ?_
      obtain ⟨o5, hw⟩ := hw
      refine z_if_ne (tgt := 28) hx hb o5 dX8_mayStand_16 (by decide) (fun k6 => ?_) (fun k6 => ?_)
      · replace hw := hw.1 k6
        exact j28 σ _ _ _ hP hD hS (lv_sub hl [] rfl) hw
      · replace hw := hw.2 k6
        refine va_gets hx hb hE.1 hS hown (hg _ q971) (fun _ h => h) dX8_mayStand_19 ?_
        refine lv_iload_n hx hb dX8_mayStand_22 rfl (lv_at hl 1 rfl) ?_
        obtain ⟨o7, hw⟩ := hw
        refine va_ti hx hb hE.2.2.1 hS (z_in (n := 36) o7 (by decide)) (z_tF o7) dX8_mayStand_23 ?_
        refine lv_iconst (v := Int32.ofInt 2) hx hb dX8_mayStand_24 (by decide) ?_
        obtain ⟨o8, hw⟩ := hw
        refine z_icmp_gt (tgt := 32) hx hb o8 (by decide) dX8_mayStand_25 (by decide) (fun k9 => ?_) (fun k9 => ?_)
        · replace hw := hw.1 k9
          exact j32 σ _ _ _ hP hD hS (lv_sub hl [] rfl) hw
        · replace hw := hw.2 k9
          exact j28 σ _ _ _ hP hD hS (lv_sub hl [] rfl) hw
def wpX8_parse_165 (σ : ZS) (Q : Int → ZS → Prop) : Prop := Q (-1) σ
def wpX8_parse_146 (σ : ZS) (Q : Int → ZS → Prop) : Prop := (0 ≤ (zI σ 14 4) ∧ (zI σ 14 4) < 481) ∧ Q (zA σ 12 2 (zI σ 14 4)) σ
def wpX8_parse_133 (K20 : Int → ZS → Prop) (v1 v2 : Int) (σ : ZS) (Q : Int → ZS → Prop) : Prop := (-2147483648 ≤ v2 ∧ v2 ≤ 2147483647) ∧ (v2 = 0 → wpX8_parse_146 σ Q) ∧ (¬ v2 = 0 → wpX8_take 59 σ (fun (x4 : Int) (σ5 : ZS) => (-2147483648 ≤ x4 ∧ x4 ≤ 2147483647) ∧ (¬ x4 = 0 → K20 (v1 + 1) σ5) ∧ (x4 = 0 → wpX8_parse_146 σ5 Q)))
def wpX8_parse_132 (K20 : Int → ZS → Prop) (v1 s0 : Int) (σ : ZS) (Q : Int → ZS → Prop) : Prop := wpX8_parse_133 K20 v1 s0 σ Q
def wpX8_parse_131 (K20 : Int → ZS → Prop) (v1 : Int) (σ : ZS) (Q : Int → ZS → Prop) : Prop := wpX8_parse_132 K20 v1 0 σ Q
def wpX8_parse_127 (K20 : Int → ZS → Prop) (v1 : Int) (σ : ZS) (Q : Int → ZS → Prop) : Prop := wpX8_parse_132 K20 v1 1 σ Q
def wpX8_parse_58 (K20 : Int → ZS → Prop) (v1 s0 : Int) (σ : ZS) (Q : Int → ZS → Prop) : Prop := (-2147483648 ≤ s0 ∧ s0 ≤ 2147483647) ∧ (s0 = 0 → wpX8_parse_133 K20 v1 s0 σ Q) ∧ (¬ s0 = 0 → wpX8_type σ (fun (x10 : Int) (σ11 : ZS) => (-2147483648 ≤ x10 ∧ x10 ≤ 2147483647) ∧ (¬ x10 = 6 → wpX8_parse_133 K20 v1 s0 σ11 Q) ∧ (x10 = 6 → wpX8_value σ11 (fun (x14 : Int) (σ15 : ZS) => wpX8_mayStand x14 σ15 (fun (x16 : Int) (σ17 : ZS) => (-2147483648 ≤ x16 ∧ x16 ≤ 2147483647) ∧ (x16 = 0 → wpX8_parse_131 K20 v1 σ17 Q) ∧ (¬ x16 = 0 → (0 ≤ x14 ∧ x14 < 36) ∧ (-2147483648 ≤ (zform x14) ∧ (zform x14) ≤ 2147483647) ∧ (6 ≤ (zform x14) → wpX8_instruction (zform x14) (zcode x14) σ17 (fun (x23 : Int) (σ24 : ZS) => (-2147483648 ≤ x23 ∧ x23 ≤ 2147483647) ∧ (x23 = 0 → wpX8_parse_131 K20 v1 σ24 Q) ∧ (¬ x23 = 0 → wpX8_parse_127 K20 v1 σ24 Q))) ∧ (¬ 6 ≤ (zform x14) → wpX8_directive (zform x14) σ17 (fun (x27 : Int) (σ28 : ZS) => (-2147483648 ≤ x27 ∧ x27 ≤ 2147483647) ∧ (x27 = 0 → wpX8_parse_131 K20 v1 σ28 Q) ∧ (¬ x27 = 0 → wpX8_parse_127 K20 v1 σ28 Q)))))))))
def wpX8_parse_53 (K20 : Int → ZS → Prop) (v1 : Int) (σ : ZS) (Q : Int → ZS → Prop) : Prop := wpX8_parse_58 K20 v1 1 σ Q
def wpbX8_parse_20 (K20 : Int → ZS → Prop) (v1 : Int) (σ : ZS) (Q : Int → ZS → Prop) : Prop := (-2147483648 ≤ v1 ∧ v1 ≤ 2147483647) ∧ (-2147483648 ≤ (zI σ 12 3) ∧ (zI σ 12 3) ≤ 2147483647) ∧ ((zI σ 12 3) ≤ v1 → wpX8_parse_165 σ Q) ∧ (¬ (zI σ 12 3) ≤ v1 → wpX8_type σ (fun (x34 : Int) (σ35 : ZS) => (-2147483648 ≤ x34 ∧ x34 ≤ 2147483647) ∧ (x34 = 0 → wpX8_parse_165 σ35 Q) ∧ (¬ x34 = 0 → wpX8_type σ35 (fun (x38 : Int) (σ39 : ZS) => (-2147483648 ≤ x38 ∧ x38 ≤ 2147483647) ∧ (¬ x38 = 3 → wpX8_parse_53 K20 v1 σ39 Q) ∧ (x38 = 3 → wpX8_label σ39 (fun (x42 : Int) (σ43 : ZS) => (-2147483648 ≤ x42 ∧ x42 ≤ 2147483647) ∧ (x42 = 0 → wpX8_parse_58 K20 v1 0 σ43 Q) ∧ (¬ x42 = 0 → wpX8_parse_53 K20 v1 σ43 Q)))))))
def wpX8_parse_20 (v1 : Int) (σ : ZS) (Q : Int → ZS → Prop) : Prop := lfp1 (fun K20 v1 σ => wpbX8_parse_20 K20 v1 σ Q) v1 σ
def wpX8_parse (σ : ZS) (Q : Int → ZS → Prop) : Prop := wpX8_parse_20 0 (zsI (zsI (zsI σ 14 4 0) 14 5 0) 13 7 0) Q
set_option maxHeartbeats 4000000 in
set_option maxRecDepth 100000 in
theorem kX8_parse (l : Launch) (D : va_G) (dA : Nat → ClassId) (ad : Int → Nat → Nat) (tf tc : Nat) (aK aV : Nat → Nat) (σ : ZS) (Q : Int → ZS → Prop) (sz : Nat) (hw : wpX8_parse σ Q) : Met l yX8_parse (gws yX8_parse cX8_parse 4 (some .int)) (gR 6 0 0) (gPreE D dA tf tc aK aV [.ref (ad 14 1000)] (zC dA ad σ) sz) (va_Qi (zQi Q) (gAt D dA (va_A (zC dA ad σ) sz) (zC dA ad)) (va_A (zC dA ad σ) sz)) 0 0 (va_A (zC dA ad σ) sz) := by
  refine Met.ofW (cc := cX8_parse) (maxL := 4) (ret := (some .int)) (by decide) rfl ?_
  intro p e s m args below meth c s₁ B hml hv
  obtain ⟨rfl, hsz, hP, hK, hD0, hE⟩ := hv
  have hx := B.exec
  have hb := B.bytes
  have hr := B.returns
  have hts := atoms_spec (ws := gws yX8_parse cX8_parse 4 (some .int)) B.pre
  have hg : ∀ w ∈ gw, w.before _ s = true := fun w h => hts w (List.mem_cons_of_mem _ h)
  have hown : s.vm.findClass RX8 = some m.cls := findClass_of_methodNamed B.named
  have hlocks := B.notSynchronized
  subst hsz
  have hD := hD0.self (sz := s.heap.size)
  generalize hAe : va_A (zC dA ad σ) s.heap.size = A at hD hE ⊢
  have hA : ∀ q : Nat, s.heap.size ≤ q → A q := fun q h => by rw [← hAe]; exact Or.inr h
  have hS : va_S A s.heap s.heap [] := va_S.rf
  have hl := lv_entry ([.ref (ad 14 1000)]) (n := 4) (Nat.le_of_ble_eq_true rfl)
  rw [lg_entry_eq]
  generalize (lg_sl ([.ref (ad 14 1000)]) ++ List.replicate (4 - (lg_sl ([.ref (ad 14 1000)])).length) Slot.unset).toArray = ls at hl ⊢
  have hl : lv_has ls 4 [(0, .ref (ad 14 1000))] := hl
  have hret : ∀ (v : Int) (σ : ZS) (H : Heap) (locs : List Loc) (ls : Array Slot) (pc : Nat), Q v σ → va_P D vwC (zC dA ad σ) H → va_D A (zC dA ad σ) → va_S A s.heap H locs → decode cX8_parse pc = .ok (.ireturn, 1) → W p l e (gR 6 0 0) s m #[.ref (ad 14 1000)] below meth c H locs 0 0 (MQ below (va_Qi (zQi Q) (gAt D dA A (zC dA ad)) A) #[.ref (ad 14 1000)] s 0 0 A) (F0 m pc ls [.int (Int32.ofInt v)]) := fun v σ H locs ls pc hw hP hD hS hd => g_iret hx hb hr rfl hlocks hK σ hP hD hS ⟨v, rfl, hw⟩ (Nat.le_of_ble_eq_true rfl) (Nat.le_of_ble_eq_true rfl) hd
  generalize MQ below (va_Qi (zQi Q) (gAt D dA A (zC dA ad)) A) #[.ref (ad 14 1000)] s 0 0 A = QQ at hret ⊢
  have j165 : ∀ (σ : ZS), ∀ (H : Heap) (locs : List Loc) (ls : Array Slot), va_P D vwC (zC dA ad σ) H → va_D A (zC dA ad σ) → va_S A s.heap H locs → lv_has ls 4 [] → wpX8_parse_165 σ Q → W p l e (gR 6 0 0) s m #[.ref (ad 14 1000)] below meth c H locs 0 0 QQ (F0 m 165 ls []) := by
    intro σ H locs ls hP hD hS hl hw
    unfold wpX8_parse_165 at hw
    refine lv_iconst (v := Int32.ofInt (-1)) hx hb dX8_parse_165 (by decide) ?_
    exact hret (-1) σ _ _ _ _ hw hP hD hS dX8_parse_166
  have j146 : ∀ (σ : ZS), ∀ (H : Heap) (locs : List Loc) (ls : Array Slot), va_P D vwC (zC dA ad σ) H → va_D A (zC dA ad σ) → va_S A s.heap H locs → lv_has ls 4 [(0, .ref (ad 14 1000))] → wpX8_parse_146 σ Q → W p l e (gR 6 0 0) s m #[.ref (ad 14 1000)] below meth c H locs 0 0 QQ (F0 m 146 ls []) := by
    intro σ H locs ls hP hD hS hl hw
    unfold wpX8_parse_146 at hw
    refine lv_aload_n hx hb dX8_parse_146 rfl (lv_at hl 0 rfl) ?_
    refine zgC14_0 hx hb hg hown hK hP q346 dX8_parse_147 ?_
    refine zgC12_2 hx hb hg hown hK hP q236 dX8_parse_150 ?_
    refine lv_aload_n hx hb dX8_parse_153 rfl (lv_at hl 0 rfl) ?_
    refine zgC14_4 hx hb hg hown hK hP q350 dX8_parse_154 ?_
    obtain ⟨o1, hw⟩ := hw
    refine zlC12_2 hx hb o1 hK hP dX8_parse_157 ?_
    exact hret (zA σ 12 2 (zI σ 14 4)) σ _ _ _ _ hw hP hD hS dX8_parse_158
  have b20 : ∀ (K20 : Int → ZS → Prop), (∀ (v1 : Int) (σ : ZS), K20 v1 σ → ∀ (H : Heap) (locs : List Loc) (ls : Array Slot), va_P D vwC (zC dA ad σ) H → va_D A (zC dA ad σ) → va_S A s.heap H locs → lv_has ls 4 [(0, .ref (ad 14 1000)), (1, .int (Int32.ofInt v1))] → W p l e (gR 6 0 0) s m #[.ref (ad 14 1000)] below meth c H locs 0 0 QQ (F0 m 20 ls [])) → ∀ (v1 : Int) (σ : ZS), wpbX8_parse_20 K20 v1 σ Q → ∀ (H : Heap) (locs : List Loc) (ls : Array Slot), va_P D vwC (zC dA ad σ) H → va_D A (zC dA ad σ) → va_S A s.heap H locs → lv_has ls 4 [(0, .ref (ad 14 1000)), (1, .int (Int32.ofInt v1))] → W p l e (gR 6 0 0) s m #[.ref (ad 14 1000)] below meth c H locs 0 0 QQ (F0 m 20 ls []) := by
    intro K20 hK20
    have j133 : ∀ (v1 v2 : Int) (σ : ZS), ∀ (H : Heap) (locs : List Loc) (ls : Array Slot), va_P D vwC (zC dA ad σ) H → va_D A (zC dA ad σ) → va_S A s.heap H locs → lv_has ls 4 [(0, .ref (ad 14 1000)), (1, .int (Int32.ofInt v1)), (2, .int (Int32.ofInt v2))] → wpX8_parse_133 K20 v1 v2 σ Q → W p l e (gR 6 0 0) s m #[.ref (ad 14 1000)] below meth c H locs 0 0 QQ (F0 m 133 ls []) := by
      intro v1 v2 σ H locs ls hP hD hS hl hw
      unfold wpX8_parse_133 at hw
      refine lv_iload_n hx hb dX8_parse_133 rfl (lv_at hl 2 rfl) ?_
      obtain ⟨o2, hw⟩ := hw
      refine z_if_eq (tgt := 146) hx hb o2 dX8_parse_134 (by decide) (fun k3 => ?_) (fun k3 => ?_)
      · replace hw := hw.1 k3
        exact j146 σ _ _ _ hP hD hS (lv_sub hl [0] rfl) hw
      · replace hw := hw.2 k3
        refine lv_aload_n hx hb dX8_parse_137 rfl (lv_at hl 0 rfl) ?_
        refine lv_bipush (v := Int32.ofInt 59) hx hb dX8_parse_138 (by decide) ?_
        refine z_Vi (n := 1) (As := [.int (Int32.ofInt 59)]) (rest := []) hx hb hml hg hown hK hP hD hS hA (kX8_take l D dA ad 59 σ _ _ hw) (zoC14) rfl q954 q153 q951 q953 q7 (by decide +kernel) ⟨(Nat.le_of_ble_eq_true rfl), (Nat.le_of_ble_eq_true rfl)⟩ rfl hl.1 rfl (Nat.le_of_ble_eq_true rfl) dX8_parse_140 ⟨(Nat.le_of_ble_eq_true rfl), (Nat.le_of_ble_eq_true rfl)⟩ (fun x4 σ5 H locs hw hP hD hS => ?_)
        obtain ⟨o6, hw⟩ := hw
        refine z_if_ne (tgt := 159) hx hb o6 dX8_parse_143 (by decide) (fun k7 => ?_) (fun k7 => ?_)
        · replace hw := hw.1 k7
          refine lv_iinc (v := Int32.ofInt (v1 + 1)) (lv' := [(1, .int (Int32.ofInt (v1 + 1))), (0, .ref (ad 14 1000)), (2, .int (Int32.ofInt v2))]) hx hb dX8_parse_159 hl (k := 1) rfl (Int32.ofInt_add _ _).symm (by decide) rfl (fun ls hl => ?_)
          refine lv_goto (tgt := 20) hx hb dX8_parse_162 (by decide) ?_
          exact hK20 (v1 + 1) σ5 hw _ _ _ hP hD hS (lv_sub hl [1, 0] rfl)
        · replace hw := hw.2 k7
          exact j146 σ5 _ _ _ hP hD hS (lv_sub hl [0] rfl) hw
    have j132 : ∀ (v1 s0 : Int) (σ : ZS), ∀ (H : Heap) (locs : List Loc) (ls : Array Slot), va_P D vwC (zC dA ad σ) H → va_D A (zC dA ad σ) → va_S A s.heap H locs → lv_has ls 4 [(0, .ref (ad 14 1000)), (1, .int (Int32.ofInt v1))] → wpX8_parse_132 K20 v1 s0 σ Q → W p l e (gR 6 0 0) s m #[.ref (ad 14 1000)] below meth c H locs 0 0 QQ (F0 m 132 ls [.int (Int32.ofInt s0)]) := by
      intro v1 s0 σ H locs ls hP hD hS hl hw
      unfold wpX8_parse_132 at hw
      refine lv_istore_n (lv' := [(2, .int (Int32.ofInt s0)), (0, .ref (ad 14 1000)), (1, .int (Int32.ofInt v1))]) hx hb dX8_parse_132 rfl hl (by decide) rfl (fun ls hl => ?_)
      exact j133 v1 s0 σ _ _ _ hP hD hS (lv_sub hl [1, 2, 0] rfl) hw
    have j131 : ∀ (v1 : Int) (σ : ZS), ∀ (H : Heap) (locs : List Loc) (ls : Array Slot), va_P D vwC (zC dA ad σ) H → va_D A (zC dA ad σ) → va_S A s.heap H locs → lv_has ls 4 [(0, .ref (ad 14 1000)), (1, .int (Int32.ofInt v1))] → wpX8_parse_131 K20 v1 σ Q → W p l e (gR 6 0 0) s m #[.ref (ad 14 1000)] below meth c H locs 0 0 QQ (F0 m 131 ls []) := by
      intro v1 σ H locs ls hP hD hS hl hw
      unfold wpX8_parse_131 at hw
      refine lv_iconst (v := Int32.ofInt 0) hx hb dX8_parse_131 (by decide) ?_
      exact j132 v1 0 σ _ _ _ hP hD hS (lv_sub hl [0, 1] rfl) hw
    have j127 : ∀ (v1 : Int) (σ : ZS), ∀ (H : Heap) (locs : List Loc) (ls : Array Slot), va_P D vwC (zC dA ad σ) H → va_D A (zC dA ad σ) → va_S A s.heap H locs → lv_has ls 4 [(0, .ref (ad 14 1000)), (1, .int (Int32.ofInt v1))] → wpX8_parse_127 K20 v1 σ Q → W p l e (gR 6 0 0) s m #[.ref (ad 14 1000)] below meth c H locs 0 0 QQ (F0 m 127 ls []) := by
      intro v1 σ H locs ls hP hD hS hl hw
      unfold wpX8_parse_127 at hw
      refine lv_iconst (v := Int32.ofInt 1) hx hb dX8_parse_127 (by decide) ?_
      refine lv_goto (tgt := 132) hx hb dX8_parse_128 (by decide) ?_
      exact j132 v1 1 σ _ _ _ hP hD hS (lv_sub hl [0, 1] rfl) hw
    have j58 : ∀ (v1 s0 : Int) (σ : ZS), ∀ (H : Heap) (locs : List Loc) (ls : Array Slot), va_P D vwC (zC dA ad σ) H → va_D A (zC dA ad σ) → va_S A s.heap H locs → lv_has ls 4 [(0, .ref (ad 14 1000)), (1, .int (Int32.ofInt v1))] → wpX8_parse_58 K20 v1 s0 σ Q → W p l e (gR 6 0 0) s m #[.ref (ad 14 1000)] below meth c H locs 0 0 QQ (F0 m 58 ls [.int (Int32.ofInt s0)]) := by
      intro v1 s0 σ H locs ls hP hD hS hl hw
      unfold wpX8_parse_58 at hw
      refine lv_istore_n (lv' := [(2, .int (Int32.ofInt s0)), (0, .ref (ad 14 1000)), (1, .int (Int32.ofInt v1))]) hx hb dX8_parse_58 rfl hl (by decide) rfl (fun ls hl => ?_)
      refine lv_iload_n hx hb dX8_parse_59 rfl (lv_at hl 0 rfl) ?_
      obtain ⟨o8, hw⟩ := hw
      refine z_if_eq (tgt := 133) hx hb o8 dX8_parse_60 (by decide) (fun k9 => ?_) (fun k9 => ?_)
      · replace hw := hw.1 k9
        exact j133 v1 s0 σ _ _ _ hP hD hS (lv_sub hl [1, 2, 0] rfl) hw
      · replace hw := hw.2 k9
        refine lv_aload_n hx hb dX8_parse_63 rfl (lv_at hl 1 rfl) ?_
        refine z_Vi (n := 0) (As := []) (rest := []) hx hb hml hg hown hK hP hD hS hA (kX8_type l D dA ad σ _ _ hw) (zoC14) rfl q946 q153 q943 q945 q5 (by decide +kernel) ⟨(Nat.le_of_ble_eq_true rfl), (Nat.le_of_ble_eq_true rfl)⟩ rfl hl.1 rfl (Nat.le_of_ble_eq_true rfl) dX8_parse_64 ⟨(Nat.le_of_ble_eq_true rfl), (Nat.le_of_ble_eq_true rfl)⟩ (fun x10 σ11 H locs hw hP hD hS => ?_)
        refine lv_bipush (v := Int32.ofInt 6) hx hb dX8_parse_67 (by decide) ?_
        obtain ⟨o12, hw⟩ := hw
        refine z_icmp_ne (tgt := 133) hx hb o12 (by decide) dX8_parse_69 (by decide) (fun k13 => ?_) (fun k13 => ?_)
        · replace hw := hw.1 k13
          exact j133 v1 s0 σ11 _ _ _ hP hD hS (lv_sub hl [1, 2, 0] rfl) hw
        · replace hw := hw.2 k13
          refine lv_aload_n hx hb dX8_parse_72 rfl (lv_at hl 1 rfl) ?_
          refine z_Vi (n := 0) (As := []) (rest := []) hx hb hml hg hown hK hP hD hS hA (kX8_value l D dA ad σ11 _ _ hw) (zoC14) rfl q966 q153 q963 q965 q9 (by decide +kernel) ⟨(Nat.le_of_ble_eq_true rfl), (Nat.le_of_ble_eq_true rfl)⟩ rfl hl.1 rfl (Nat.le_of_ble_eq_true rfl) dX8_parse_73 ⟨(Nat.le_of_ble_eq_true rfl), (Nat.le_of_ble_eq_true rfl)⟩ (fun x14 σ15 H locs hw hP hD hS => ?_)
          refine lv_istore_n (lv' := [(3, .int (Int32.ofInt x14)), (2, .int (Int32.ofInt s0)), (0, .ref (ad 14 1000)), (1, .int (Int32.ofInt v1))]) hx hb dX8_parse_76 rfl hl (by decide) rfl (fun ls hl => ?_)
          refine lv_aload_n hx hb dX8_parse_77 rfl (lv_at hl 2 rfl) ?_
          refine lv_iload_n hx hb dX8_parse_78 rfl (lv_at hl 0 rfl) ?_
          refine z_EVi (n := 1) (As := [.int (Int32.ofInt x14)]) (rest := []) hx hb hml hg hown hE hK hP hD hS hA (kX8_mayStand l D dA ad tf tc aK aV x14 σ15 _ _ hw) (z_rec hK hP (zoC14) rfl) q970 q153 q967 q969 q10 (by decide +kernel) ⟨(Nat.le_of_ble_eq_true rfl), (Nat.le_of_ble_eq_true rfl)⟩ rfl hl.1 rfl (Nat.le_of_ble_eq_true rfl) dX8_parse_79 ⟨(Nat.le_of_ble_eq_true rfl), (Nat.le_of_ble_eq_true rfl)⟩ (fun x16 σ17 H locs hw hP hD hS => ?_)
          obtain ⟨o18, hw⟩ := hw
          refine z_if_eq (tgt := 131) hx hb o18 dX8_parse_82 (by decide) (fun k19 => ?_) (fun k19 => ?_)
          · replace hw := hw.1 k19
            exact j131 v1 σ17 _ _ _ hP hD hS (lv_sub hl [2, 3] rfl) hw
          · replace hw := hw.2 k19
            refine va_gets hx hb hE.1 hS hown (hg _ q971) (fun _ h => h) dX8_parse_85 ?_
            refine lv_iload_n hx hb dX8_parse_88 rfl (lv_at hl 0 rfl) ?_
            obtain ⟨o20, hw⟩ := hw
            refine va_ti hx hb hE.2.2.1 hS (z_in (n := 36) o20 (by decide)) (z_tF o20) dX8_parse_89 ?_
            refine lv_bipush (v := Int32.ofInt 6) hx hb dX8_parse_90 (by decide) ?_
            obtain ⟨o21, hw⟩ := hw
            refine z_icmp_ge (tgt := 110) hx hb o21 (by decide) dX8_parse_92 (by decide) (fun k22 => ?_) (fun k22 => ?_)
            · replace hw := hw.1 k22
              refine lv_aload_n hx hb dX8_parse_110 rfl (lv_at hl 2 rfl) ?_
              refine va_gets hx hb hE.1 hS hown (hg _ q971) (fun _ h => h) dX8_parse_111 ?_
              refine lv_iload_n hx hb dX8_parse_114 rfl (lv_at hl 0 rfl) ?_
              refine va_ti hx hb hE.2.2.1 hS (z_in (n := 36) o20 (by decide)) (z_tF o20) dX8_parse_115 ?_
              refine va_gets hx hb hE.2.1 hS hown (hg _ q1033) (fun _ h => h) dX8_parse_116 ?_
              refine lv_iload_n hx hb dX8_parse_119 rfl (lv_at hl 0 rfl) ?_
              refine va_ti hx hb hE.2.2.2.1 hS (z_in (n := 36) o20 (by decide)) (z_tC o20) dX8_parse_120 ?_
              refine z_Vi (n := 2) (As := [.int (Int32.ofInt (zform x14)), .int (Int32.ofInt (zcode x14))]) (rest := []) hx hb hml hg hown hK hP hD hS hA (kX8_instruction l D dA ad (zform x14) (zcode x14) σ17 _ _ hw) (zoC14) rfl q1038 q153 q1035 q1037 q22 (by decide +kernel) ⟨(Nat.le_of_ble_eq_true rfl), (Nat.le_of_ble_eq_true rfl)⟩ rfl hl.1 rfl (Nat.le_of_ble_eq_true rfl) dX8_parse_121 ⟨(Nat.le_of_ble_eq_true rfl), (Nat.le_of_ble_eq_true rfl)⟩ (fun x23 σ24 H locs hw hP hD hS => ?_)
              obtain ⟨o25, hw⟩ := hw
              refine z_if_eq (tgt := 131) hx hb o25 dX8_parse_124 (by decide) (fun k26 => ?_) (fun k26 => ?_)
              · replace hw := hw.1 k26
                exact j131 v1 σ24 _ _ _ hP hD hS (lv_sub hl [2, 3] rfl) hw
              · replace hw := hw.2 k26
                exact j127 v1 σ24 _ _ _ hP hD hS (lv_sub hl [2, 3] rfl) hw
            · replace hw := hw.2 k22
              refine lv_aload_n hx hb dX8_parse_95 rfl (lv_at hl 2 rfl) ?_
              refine va_gets hx hb hE.1 hS hown (hg _ q971) (fun _ h => h) dX8_parse_96 ?_
              refine lv_iload_n hx hb dX8_parse_99 rfl (lv_at hl 0 rfl) ?_
              refine va_ti hx hb hE.2.2.1 hS (z_in (n := 36) o20 (by decide)) (z_tF o20) dX8_parse_100 ?_
              refine z_Vi (n := 1) (As := [.int (Int32.ofInt (zform x14))]) (rest := []) hx hb hml hg hown hK hP hD hS hA (kX8_directive l D dA ad (zform x14) σ17 _ _ hw) (zoC14) rfl q976 q153 q973 q975 q11 (by decide +kernel) ⟨(Nat.le_of_ble_eq_true rfl), (Nat.le_of_ble_eq_true rfl)⟩ rfl hl.1 rfl (Nat.le_of_ble_eq_true rfl) dX8_parse_101 ⟨(Nat.le_of_ble_eq_true rfl), (Nat.le_of_ble_eq_true rfl)⟩ (fun x27 σ28 H locs hw hP hD hS => ?_)
              obtain ⟨o29, hw⟩ := hw
              refine z_if_eq (tgt := 131) hx hb o29 dX8_parse_104 (by decide) (fun k30 => ?_) (fun k30 => ?_)
              · replace hw := hw.1 k30
                exact j131 v1 σ28 _ _ _ hP hD hS (lv_sub hl [2, 3] rfl) hw
              · replace hw := hw.2 k30
                refine lv_goto (tgt := 127) hx hb dX8_parse_107 (by decide) ?_
                exact j127 v1 σ28 _ _ _ hP hD hS (lv_sub hl [2, 3] rfl) hw
    have j53 : ∀ (v1 : Int) (σ : ZS), ∀ (H : Heap) (locs : List Loc) (ls : Array Slot), va_P D vwC (zC dA ad σ) H → va_D A (zC dA ad σ) → va_S A s.heap H locs → lv_has ls 4 [(0, .ref (ad 14 1000)), (1, .int (Int32.ofInt v1))] → wpX8_parse_53 K20 v1 σ Q → W p l e (gR 6 0 0) s m #[.ref (ad 14 1000)] below meth c H locs 0 0 QQ (F0 m 53 ls []) := by
      intro v1 σ H locs ls hP hD hS hl hw
      unfold wpX8_parse_53 at hw
      refine lv_iconst (v := Int32.ofInt 1) hx hb dX8_parse_53 (by decide) ?_
      refine lv_goto (tgt := 58) hx hb dX8_parse_54 (by decide) ?_
      exact j58 v1 1 σ _ _ _ hP hD hS (lv_sub hl [0, 1] rfl) hw
    intro v1 σ hw H locs ls hP hD hS hl
    unfold wpbX8_parse_20 at hw
    refine lv_iload_n hx hb dX8_parse_20 rfl (lv_at hl 1 rfl) ?_
    refine lv_aload_n hx hb dX8_parse_21 rfl (lv_at hl 0 rfl) ?_
    refine zgC14_0 hx hb hg hown hK hP q346 dX8_parse_22 ?_
    refine zgC12_3 hx hb hg hown hK hP q238 dX8_parse_25 ?_
    obtain ⟨o31, hw⟩ := hw
    obtain ⟨o32, hw⟩ := hw
    refine z_icmp_ge (tgt := 165) hx hb o31 o32 dX8_parse_28 (by decide) (fun k33 => ?_) (fun k33 => ?_)
    · replace hw := hw.1 k33
      exact j165 σ _ _ _ hP hD hS (lv_sub hl [] rfl) hw
    · replace hw := hw.2 k33
      refine lv_aload_n hx hb dX8_parse_31 rfl (lv_at hl 0 rfl) ?_
      refine z_Vi (n := 0) (As := []) (rest := []) hx hb hml hg hown hK hP hD hS hA (kX8_type l D dA ad σ _ _ hw) (zoC14) rfl q946 q153 q943 q945 q5 (by decide +kernel) ⟨(Nat.le_of_ble_eq_true rfl), (Nat.le_of_ble_eq_true rfl)⟩ rfl hl.1 rfl (Nat.le_of_ble_eq_true rfl) dX8_parse_32 ⟨(Nat.le_of_ble_eq_true rfl), (Nat.le_of_ble_eq_true rfl)⟩ (fun x34 σ35 H locs hw hP hD hS => ?_)
      obtain ⟨o36, hw⟩ := hw
      refine z_if_eq (tgt := 165) hx hb o36 dX8_parse_35 (by decide) (fun k37 => ?_) (fun k37 => ?_)
      · replace hw := hw.1 k37
        exact j165 σ35 _ _ _ hP hD hS (lv_sub hl [] rfl) hw
      · replace hw := hw.2 k37
        refine lv_aload_n hx hb dX8_parse_38 rfl (lv_at hl 0 rfl) ?_
        refine z_Vi (n := 0) (As := []) (rest := []) hx hb hml hg hown hK hP hD hS hA (kX8_type l D dA ad σ35 _ _ hw) (zoC14) rfl q946 q153 q943 q945 q5 (by decide +kernel) ⟨(Nat.le_of_ble_eq_true rfl), (Nat.le_of_ble_eq_true rfl)⟩ rfl hl.1 rfl (Nat.le_of_ble_eq_true rfl) dX8_parse_39 ⟨(Nat.le_of_ble_eq_true rfl), (Nat.le_of_ble_eq_true rfl)⟩ (fun x38 σ39 H locs hw hP hD hS => ?_)
        refine lv_iconst (v := Int32.ofInt 3) hx hb dX8_parse_42 (by decide) ?_
        obtain ⟨o40, hw⟩ := hw
        refine z_icmp_ne (tgt := 53) hx hb o40 (by decide) dX8_parse_43 (by decide) (fun k41 => ?_) (fun k41 => ?_)
        · replace hw := hw.1 k41
          exact j53 v1 σ39 _ _ _ hP hD hS (lv_sub hl [0, 1] rfl) hw
        · replace hw := hw.2 k41
          refine lv_aload_n hx hb dX8_parse_46 rfl (lv_at hl 0 rfl) ?_
          refine z_Vi (n := 0) (As := []) (rest := []) hx hb hml hg hown hK hP hD hS hA (kX8_label l D dA ad σ39 _ _ hw) (zoC14) rfl q950 q153 q947 q949 q6 (by decide +kernel) ⟨(Nat.le_of_ble_eq_true rfl), (Nat.le_of_ble_eq_true rfl)⟩ rfl hl.1 rfl (Nat.le_of_ble_eq_true rfl) dX8_parse_47 ⟨(Nat.le_of_ble_eq_true rfl), (Nat.le_of_ble_eq_true rfl)⟩ (fun x42 σ43 H locs hw hP hD hS => ?_)
          obtain ⟨o44, hw⟩ := hw
          refine z_if_eq (tgt := 57) hx hb o44 dX8_parse_50 (by decide) (fun k45 => ?_) (fun k45 => ?_)
          · replace hw := hw.1 k45
            refine lv_iconst (v := Int32.ofInt 0) hx hb dX8_parse_57 (by decide) ?_
            exact j58 v1 0 σ43 _ _ _ hP hD hS (lv_sub hl [0, 1] rfl) hw
          · replace hw := hw.2 k45
            exact j53 v1 σ43 _ _ _ hP hD hS (lv_sub hl [0, 1] rfl) hw
  have j20 : ∀ (v1 : Int) (σ : ZS), ∀ (H : Heap) (locs : List Loc) (ls : Array Slot), va_P D vwC (zC dA ad σ) H → va_D A (zC dA ad σ) → va_S A s.heap H locs → lv_has ls 4 [(0, .ref (ad 14 1000)), (1, .int (Int32.ofInt v1))] → wpX8_parse_20 v1 σ Q → W p l e (gR 6 0 0) s m #[.ref (ad 14 1000)] below meth c H locs 0 0 QQ (F0 m 20 ls []) := by
    intro v1 σ H locs ls hP hD hS hl hw
    exact hw (fun v1 σ => ∀ (H : Heap) (locs : List Loc) (ls : Array Slot), va_P D vwC (zC dA ad σ) H → va_D A (zC dA ad σ) → va_S A s.heap H locs → lv_has ls 4 [(0, .ref (ad 14 1000)), (1, .int (Int32.ofInt v1))] → W p l e (gR 6 0 0) s m #[.ref (ad 14 1000)] below meth c H locs 0 0 QQ (F0 m 20 ls [])) (b20 (fun v1 σ => ∀ (H : Heap) (locs : List Loc) (ls : Array Slot), va_P D vwC (zC dA ad σ) H → va_D A (zC dA ad σ) → va_S A s.heap H locs → lv_has ls 4 [(0, .ref (ad 14 1000)), (1, .int (Int32.ofInt v1))] → W p l e (gR 6 0 0) s m #[.ref (ad 14 1000)] below meth c H locs 0 0 QQ (F0 m 20 ls [])) (fun v1 σ h => h)) _ _ _ hP hD hS hl
  unfold wpX8_parse at hw
  refine lv_aload_n hx hb dX8_parse_0 rfl (lv_at hl 0 rfl) ?_
  refine lv_iconst (v := Int32.ofInt 0) hx hb dX8_parse_1 (by decide) ?_
  refine zpC14_4 (v := 0) hx hb hg hown hK hP hD hS q350 dX8_parse_2 (fun H locs hP hD hS => ?_)
  refine lv_aload_n hx hb dX8_parse_5 rfl (lv_at hl 0 rfl) ?_
  refine lv_iconst (v := Int32.ofInt 0) hx hb dX8_parse_6 (by decide) ?_
  refine zpC14_5 (v := 0) hx hb hg hown (by decide) hK hP hD hS q351 dX8_parse_7 (fun H locs hP hD hS => ?_)
  refine lv_aload_n hx hb dX8_parse_10 rfl (lv_at hl 0 rfl) ?_
  refine zgC14_1 hx hb hg hown hK hP q347 dX8_parse_11 ?_
  refine lv_iconst (v := Int32.ofInt 0) hx hb dX8_parse_14 (by decide) ?_
  refine zpC13_7 (v := 0) hx hb hg hown hK hP hD hS q272 dX8_parse_15 (fun H locs hP hD hS => ?_)
  refine lv_iconst (v := Int32.ofInt 0) hx hb dX8_parse_18 (by decide) ?_
  refine lv_istore_n (lv' := [(1, .int (Int32.ofInt 0)), (0, .ref (ad 14 1000))]) hx hb dX8_parse_19 rfl hl (by decide) rfl (fun ls hl => ?_)
  exact j20 0 (zsI (zsI (zsI σ 14 4 0) 14 5 0) 13 7 0) _ _ _ hP hD hS (lv_sub hl [1, 0] rfl) hw
