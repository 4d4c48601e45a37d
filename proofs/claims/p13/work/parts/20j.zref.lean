theorem dX11_fixup_0 : decode cX11_fixup 0 = .ok (.aload_n 0, 1) := by decide +kernel
theorem dX11_fixup_1 : decode cX11_fixup 1 = .ok (.iconst 0, 1) := by decide +kernel
theorem dX11_fixup_2 : decode cX11_fixup 2 = .ok (.putfield 263, 3) := by decide +kernel
theorem dX11_fixup_5 : decode cX11_fixup 5 = .ok (.iload_n 3, 1) := by decide +kernel
theorem dX11_fixup_6 : decode cX11_fixup 6 = .ok (.ifCond .lt 8, 3) := by decide +kernel
theorem dX11_fixup_9 : decode cX11_fixup 9 = .ok (.iload_n 3, 1) := by decide +kernel
theorem dX11_fixup_10 : decode cX11_fixup 10 = .ok (.iconst 3, 1) := by decide +kernel
theorem dX11_fixup_11 : decode cX11_fixup 11 = .ok (.if_icmp .le 9, 3) := by decide +kernel
theorem dX11_fixup_20 : decode cX11_fixup 20 = .ok (.iload_n 1, 1) := by decide +kernel
theorem dX11_fixup_21 : decode cX11_fixup 21 = .ok (.ifCond .lt 31, 3) := by decide +kernel
theorem dX11_fixup_24 : decode cX11_fixup 24 = .ok (.iload_n 1, 1) := by decide +kernel
theorem dX11_fixup_25 : decode cX11_fixup 25 = .ok (.iconst 2, 1) := by decide +kernel
theorem dX11_fixup_26 : decode cX11_fixup 26 = .ok (.if_icmp .gt 26, 3) := by decide +kernel
theorem dX11_fixup_29 : decode cX11_fixup 29 = .ok (.aload_n 0, 1) := by decide +kernel
theorem dX11_fixup_30 : decode cX11_fixup 30 = .ok (.getfield 175, 3) := by decide +kernel
theorem dX11_fixup_33 : decode cX11_fixup 33 = .ok (.iload_n 1, 1) := by decide +kernel
theorem dX11_fixup_34 : decode cX11_fixup 34 = .ok (.baload, 1) := by decide +kernel
theorem dX11_fixup_35 : decode cX11_fixup 35 = .ok (.ifCond .eq 17, 3) := by decide +kernel
theorem dX11_fixup_38 : decode cX11_fixup 38 = .ok (.iload_n 2, 1) := by decide +kernel
theorem dX11_fixup_39 : decode cX11_fixup 39 = .ok (.ifCond .lt 13, 3) := by decide +kernel
theorem dX11_fixup_42 : decode cX11_fixup 42 = .ok (.iload_n 2, 1) := by decide +kernel
theorem dX11_fixup_43 : decode cX11_fixup 43 = .ok (.aload_n 0, 1) := by decide +kernel
theorem dX11_fixup_44 : decode cX11_fixup 44 = .ok (.getfield 196, 3) := by decide +kernel
theorem dX11_fixup_47 : decode cX11_fixup 47 = .ok (.iload_n 1, 1) := by decide +kernel
theorem dX11_fixup_48 : decode cX11_fixup 48 = .ok (.iaload, 1) := by decide +kernel
theorem dX11_fixup_49 : decode cX11_fixup 49 = .ok (.if_icmp .lt 9, 3) := by decide +kernel
theorem dX11_fixup_58 : decode cX11_fixup 58 = .ok (.sipush 200, 3) := by decide +kernel
theorem dX11_fixup_61 : decode cX11_fixup 61 = .ok (.iload_n 1, 1) := by decide +kernel
theorem dX11_fixup_62 : decode cX11_fixup 62 = .ok (.imul, 1) := by decide +kernel
theorem dX11_fixup_63 : decode cX11_fixup 63 = .ok (.iload_n 2, 1) := by decide +kernel
theorem dX11_fixup_64 : decode cX11_fixup 64 = .ok (.iadd, 1) := by decide +kernel
theorem dX11_fixup_65 : decode cX11_fixup 65 = .ok (.istore 4, 2) := by decide +kernel
theorem dX11_fixup_67 : decode cX11_fixup 67 = .ok (.iload_n 3, 1) := by decide +kernel
theorem dX11_fixup_68 : decode cX11_fixup 68 = .ok (.ifCond .ne 13, 3) := by decide +kernel
theorem dX11_fixup_81 : decode cX11_fixup 81 = .ok (.iload_n 3, 1) := by decide +kernel
theorem dX11_fixup_82 : decode cX11_fixup 82 = .ok (.iconst 1, 1) := by decide +kernel
theorem dX11_fixup_83 : decode cX11_fixup 83 = .ok (.if_icmp .ne 13, 3) := by decide +kernel
theorem dX11_fixup_96 : decode cX11_fixup 96 = .ok (.iload_n 3, 1) := by decide +kernel
theorem dX11_fixup_97 : decode cX11_fixup 97 = .ok (.iconst 2, 1) := by decide +kernel
theorem dX11_fixup_98 : decode cX11_fixup 98 = .ok (.if_icmp .ne 13, 3) := by decide +kernel
theorem dX11_fixup_111 : decode cX11_fixup 111 = .ok (.aload_n 0, 1) := by decide +kernel
theorem dX11_fixup_112 : decode cX11_fixup 112 = .ok (.getfield 208, 3) := by decide +kernel
theorem dX11_fixup_115 : decode cX11_fixup 115 = .ok (.iload 4, 2) := by decide +kernel
theorem dX11_fixup_117 : decode cX11_fixup 117 = .ok (.iaload, 1) := by decide +kernel
theorem dX11_fixup_101 : decode cX11_fixup 101 = .ok (.aload_n 0, 1) := by decide +kernel
theorem dX11_fixup_102 : decode cX11_fixup 102 = .ok (.getfield 205, 3) := by decide +kernel
theorem dX11_fixup_105 : decode cX11_fixup 105 = .ok (.iload 4, 2) := by decide +kernel
theorem dX11_fixup_107 : decode cX11_fixup 107 = .ok (.iaload, 1) := by decide +kernel
theorem dX11_fixup_108 : decode cX11_fixup 108 = .ok (.goto 10, 3) := by decide +kernel
theorem dX11_fixup_86 : decode cX11_fixup 86 = .ok (.aload_n 0, 1) := by decide +kernel
theorem dX11_fixup_87 : decode cX11_fixup 87 = .ok (.getfield 202, 3) := by decide +kernel
theorem dX11_fixup_90 : decode cX11_fixup 90 = .ok (.iload 4, 2) := by decide +kernel
theorem dX11_fixup_92 : decode cX11_fixup 92 = .ok (.iaload, 1) := by decide +kernel
theorem dX11_fixup_93 : decode cX11_fixup 93 = .ok (.goto 25, 3) := by decide +kernel
theorem dX11_fixup_71 : decode cX11_fixup 71 = .ok (.aload_n 0, 1) := by decide +kernel
theorem dX11_fixup_72 : decode cX11_fixup 72 = .ok (.getfield 199, 3) := by decide +kernel
theorem dX11_fixup_75 : decode cX11_fixup 75 = .ok (.iload 4, 2) := by decide +kernel
theorem dX11_fixup_77 : decode cX11_fixup 77 = .ok (.iaload, 1) := by decide +kernel
theorem dX11_fixup_78 : decode cX11_fixup 78 = .ok (.goto 40, 3) := by decide +kernel
theorem dX11_fixup_14 : decode cX11_fixup 14 = .ok (.aload_n 0, 1) := by decide +kernel
theorem dX11_fixup_15 : decode cX11_fixup 15 = .ok (.iconst 1, 1) := by decide +kernel
theorem dX11_fixup_16 : decode cX11_fixup 16 = .ok (.invokevirtual 448, 3) := by decide +kernel
theorem dX11_fixup_19 : decode cX11_fixup 19 = .ok (.ireturn, 1) := by decide +kernel
theorem dX11_fixup_52 : decode cX11_fixup 52 = .ok (.aload_n 0, 1) := by decide +kernel
theorem dX11_fixup_53 : decode cX11_fixup 53 = .ok (.iconst 2, 1) := by decide +kernel
theorem dX11_fixup_54 : decode cX11_fixup 54 = .ok (.invokevirtual 448, 3) := by decide +kernel
theorem dX11_fixup_57 : decode cX11_fixup 57 = .ok (.ireturn, 1) := by decide +kernel
theorem dX11_fixup_118 : decode cX11_fixup 118 = .ok (.ireturn, 1) := by decide +kernel
theorem dX11_image_0 : decode cX11_image 0 = .ok (.aload_n 0, 1) := by decide +kernel
theorem dX11_image_1 : decode cX11_image 1 = .ok (.iconst 0, 1) := by decide +kernel
theorem dX11_image_2 : decode cX11_image 2 = .ok (.putfield 263, 3) := by decide +kernel
theorem dX11_image_5 : decode cX11_image 5 = .ok (.iload_n 1, 1) := by decide +kernel
theorem dX11_image_6 : decode cX11_image 6 = .ok (.ifCond .lt 11, 3) := by decide +kernel
theorem dX11_image_9 : decode cX11_image 9 = .ok (.iload_n 1, 1) := by decide +kernel
theorem dX11_image_10 : decode cX11_image 10 = .ok (.aload_n 0, 1) := by decide +kernel
theorem dX11_image_11 : decode cX11_image 11 = .ok (.getfield 512, 3) := by decide +kernel
theorem dX11_image_14 : decode cX11_image 14 = .ok (.if_icmp .lt 9, 3) := by decide +kernel
theorem dX11_image_23 : decode cX11_image 23 = .ok (.aload_n 0, 1) := by decide +kernel
theorem dX11_image_24 : decode cX11_image 24 = .ok (.getfield 226, 3) := by decide +kernel
theorem dX11_image_27 : decode cX11_image 27 = .ok (.iload_n 1, 1) := by decide +kernel
theorem dX11_image_28 : decode cX11_image 28 = .ok (.iaload, 1) := by decide +kernel
theorem dX11_image_29 : decode cX11_image 29 = .ok (.ireturn, 1) := by decide +kernel
theorem dX11_image_17 : decode cX11_image 17 = .ok (.aload_n 0, 1) := by decide +kernel
theorem dX11_image_18 : decode cX11_image 18 = .ok (.iconst 1, 1) := by decide +kernel
theorem dX11_image_19 : decode cX11_image 19 = .ok (.invokevirtual 448, 3) := by decide +kernel
theorem dX11_image_22 : decode cX11_image 22 = .ok (.ireturn, 1) := by decide +kernel
theorem dX11_memory_0 : decode cX11_memory 0 = .ok (.aload_n 0, 1) := by decide +kernel
theorem dX11_memory_1 : decode cX11_memory 1 = .ok (.iconst 0, 1) := by decide +kernel
theorem dX11_memory_2 : decode cX11_memory 2 = .ok (.putfield 263, 3) := by decide +kernel
theorem dX11_memory_5 : decode cX11_memory 5 = .ok (.iload_n 1, 1) := by decide +kernel
theorem dX11_memory_6 : decode cX11_memory 6 = .ok (.ifCond .lt 10, 3) := by decide +kernel
theorem dX11_memory_9 : decode cX11_memory 9 = .ok (.iload_n 1, 1) := by decide +kernel
theorem dX11_memory_10 : decode cX11_memory 10 = .ok (.sipush 4095, 3) := by decide +kernel
theorem dX11_memory_13 : decode cX11_memory 13 = .ok (.if_icmp .le 9, 3) := by decide +kernel
theorem dX11_memory_22 : decode cX11_memory 22 = .ok (.aload_n 0, 1) := by decide +kernel
theorem dX11_memory_23 : decode cX11_memory 23 = .ok (.getfield 250, 3) := by decide +kernel
theorem dX11_memory_26 : decode cX11_memory 26 = .ok (.iload_n 1, 1) := by decide +kernel
theorem dX11_memory_27 : decode cX11_memory 27 = .ok (.iaload, 1) := by decide +kernel
theorem dX11_memory_28 : decode cX11_memory 28 = .ok (.ireturn, 1) := by decide +kernel
theorem dX11_memory_16 : decode cX11_memory 16 = .ok (.aload_n 0, 1) := by decide +kernel
theorem dX11_memory_17 : decode cX11_memory 17 = .ok (.iconst 1, 1) := by decide +kernel
theorem dX11_memory_18 : decode cX11_memory 18 = .ok (.invokevirtual 448, 3) := by decide +kernel
theorem dX11_memory_21 : decode cX11_memory 21 = .ok (.ireturn, 1) := by decide +kernel
theorem dX11_register_0 : decode cX11_register 0 = .ok (.aload_n 0, 1) := by decide +kernel
theorem dX11_register_1 : decode cX11_register 1 = .ok (.iconst 0, 1) := by decide +kernel
theorem dX11_register_2 : decode cX11_register 2 = .ok (.putfield 263, 3) := by decide +kernel
theorem dX11_register_5 : decode cX11_register 5 = .ok (.iload_n 1, 1) := by decide +kernel
theorem dX11_register_6 : decode cX11_register 6 = .ok (.ifCond .lt 9, 3) := by decide +kernel
theorem dX11_register_9 : decode cX11_register 9 = .ok (.iload_n 1, 1) := by decide +kernel
theorem dX11_register_10 : decode cX11_register 10 = .ok (.bipush 15, 2) := by decide +kernel
theorem dX11_register_12 : decode cX11_register 12 = .ok (.if_icmp .le 9, 3) := by decide +kernel
theorem dX11_register_21 : decode cX11_register 21 = .ok (.aload_n 0, 1) := by decide +kernel
theorem dX11_register_22 : decode cX11_register 22 = .ok (.getfield 253, 3) := by decide +kernel
theorem dX11_register_25 : decode cX11_register 25 = .ok (.iload_n 1, 1) := by decide +kernel
theorem dX11_register_26 : decode cX11_register 26 = .ok (.iaload, 1) := by decide +kernel
theorem dX11_register_27 : decode cX11_register 27 = .ok (.ireturn, 1) := by decide +kernel
theorem dX11_register_15 : decode cX11_register 15 = .ok (.aload_n 0, 1) := by decide +kernel
theorem dX11_register_16 : decode cX11_register 16 = .ok (.iconst 1, 1) := by decide +kernel
theorem dX11_register_17 : decode cX11_register 17 = .ok (.invokevirtual 448, 3) := by decide +kernel
theorem dX11_register_20 : decode cX11_register 20 = .ok (.ireturn, 1) := by decide +kernel
theorem dX11_trace_0 : decode cX11_trace 0 = .ok (.aload_n 0, 1) := by decide +kernel
theorem dX11_trace_1 : decode cX11_trace 1 = .ok (.iconst 0, 1) := by decide +kernel
theorem dX11_trace_2 : decode cX11_trace 2 = .ok (.putfield 263, 3) := by decide +kernel
theorem dX11_trace_5 : decode cX11_trace 5 = .ok (.iload_n 1, 1) := by decide +kernel
theorem dX11_trace_6 : decode cX11_trace 6 = .ok (.ifCond .lt 17, 3) := by decide +kernel
theorem dX11_trace_9 : decode cX11_trace 9 = .ok (.iload_n 1, 1) := by decide +kernel
theorem dX11_trace_10 : decode cX11_trace 10 = .ok (.aload_n 0, 1) := by decide +kernel
theorem dX11_trace_11 : decode cX11_trace 11 = .ok (.getfield 530, 3) := by decide +kernel
theorem dX11_trace_14 : decode cX11_trace 14 = .ok (.if_icmp .ge 9, 3) := by decide +kernel
theorem dX11_trace_17 : decode cX11_trace 17 = .ok (.iload_n 1, 1) := by decide +kernel
theorem dX11_trace_18 : decode cX11_trace 18 = .ok (.bipush 30, 2) := by decide +kernel
theorem dX11_trace_20 : decode cX11_trace 20 = .ok (.if_icmp .lt 9, 3) := by decide +kernel
theorem dX11_trace_29 : decode cX11_trace 29 = .ok (.aload_n 0, 1) := by decide +kernel
theorem dX11_trace_30 : decode cX11_trace 30 = .ok (.getfield 260, 3) := by decide +kernel
theorem dX11_trace_33 : decode cX11_trace 33 = .ok (.iload_n 1, 1) := by decide +kernel
theorem dX11_trace_34 : decode cX11_trace 34 = .ok (.iaload, 1) := by decide +kernel
theorem dX11_trace_35 : decode cX11_trace 35 = .ok (.ireturn, 1) := by decide +kernel
theorem dX11_trace_23 : decode cX11_trace 23 = .ok (.aload_n 0, 1) := by decide +kernel
theorem dX11_trace_24 : decode cX11_trace 24 = .ok (.iconst 1, 1) := by decide +kernel
theorem dX11_trace_25 : decode cX11_trace 25 = .ok (.invokevirtual 448, 3) := by decide +kernel
theorem dX11_trace_28 : decode cX11_trace 28 = .ok (.ireturn, 1) := by decide +kernel
theorem dX11_count_0 : decode cX11_count 0 = .ok (.aload_n 0, 1) := by decide +kernel
theorem dX11_count_1 : decode cX11_count 1 = .ok (.iconst 0, 1) := by decide +kernel
theorem dX11_count_2 : decode cX11_count 2 = .ok (.putfield 263, 3) := by decide +kernel
theorem dX11_count_5 : decode cX11_count 5 = .ok (.iload_n 1, 1) := by decide +kernel
theorem dX11_count_6 : decode cX11_count 6 = .ok (.ifCond .lt 9, 3) := by decide +kernel
theorem dX11_count_9 : decode cX11_count 9 = .ok (.iload_n 1, 1) := by decide +kernel
theorem dX11_count_10 : decode cX11_count 10 = .ok (.bipush 13, 2) := by decide +kernel
theorem dX11_count_12 : decode cX11_count 12 = .ok (.if_icmp .le 9, 3) := by decide +kernel
theorem dX11_count_21 : decode cX11_count 21 = .ok (.iload_n 1, 1) := by decide +kernel
theorem dX11_count_22 : decode cX11_count 22 = .ok (.bipush 11, 2) := by decide +kernel
theorem dX11_count_24 : decode cX11_count 24 = .ok (.if_icmp .lt 29, 3) := by decide +kernel
theorem dX11_count_53 : decode cX11_count 53 = .ok (.iload_n 1, 1) := by decide +kernel
theorem dX11_count_54 : decode cX11_count 54 = .ok (.bipush 8, 2) := by decide +kernel
theorem dX11_count_56 : decode cX11_count 56 = .ok (.if_icmp .lt 29, 3) := by decide +kernel
theorem dX11_count_85 : decode cX11_count 85 = .ok (.iload_n 1, 1) := by decide +kernel
theorem dX11_count_86 : decode cX11_count 86 = .ok (.tableswitch 77 0 6 #[42, 47, 52, 57, 62, 67, 72], 42) := by decide +kernel
theorem dX11_count_128 : decode cX11_count 128 = .ok (.aload_n 0, 1) := by decide +kernel
theorem dX11_count_129 : decode cX11_count 129 = .ok (.getfield 266, 3) := by decide +kernel
theorem dX11_count_132 : decode cX11_count 132 = .ok (.ireturn, 1) := by decide +kernel
theorem dX11_count_133 : decode cX11_count 133 = .ok (.aload_n 0, 1) := by decide +kernel
theorem dX11_count_134 : decode cX11_count 134 = .ok (.getfield 13, 3) := by decide +kernel
theorem dX11_count_137 : decode cX11_count 137 = .ok (.ireturn, 1) := by decide +kernel
theorem dX11_count_138 : decode cX11_count 138 = .ok (.aload_n 0, 1) := by decide +kernel
theorem dX11_count_139 : decode cX11_count 139 = .ok (.getfield 17, 3) := by decide +kernel
theorem dX11_count_142 : decode cX11_count 142 = .ok (.ireturn, 1) := by decide +kernel
theorem dX11_count_143 : decode cX11_count 143 = .ok (.aload_n 0, 1) := by decide +kernel
theorem dX11_count_144 : decode cX11_count 144 = .ok (.getfield 512, 3) := by decide +kernel
theorem dX11_count_147 : decode cX11_count 147 = .ok (.ireturn, 1) := by decide +kernel
theorem dX11_count_148 : decode cX11_count 148 = .ok (.aload_n 0, 1) := by decide +kernel
theorem dX11_count_149 : decode cX11_count 149 = .ok (.getfield 495, 3) := by decide +kernel
theorem dX11_count_152 : decode cX11_count 152 = .ok (.ireturn, 1) := by decide +kernel
theorem dX11_count_153 : decode cX11_count 153 = .ok (.aload_n 0, 1) := by decide +kernel
theorem dX11_count_154 : decode cX11_count 154 = .ok (.getfield 527, 3) := by decide +kernel
theorem dX11_count_157 : decode cX11_count 157 = .ok (.ireturn, 1) := by decide +kernel
theorem dX11_count_158 : decode cX11_count 158 = .ok (.aload_n 0, 1) := by decide +kernel
theorem dX11_count_159 : decode cX11_count 159 = .ok (.getfield 530, 3) := by decide +kernel
theorem dX11_count_162 : decode cX11_count 162 = .ok (.ireturn, 1) := by decide +kernel
theorem dX11_count_163 : decode cX11_count 163 = .ok (.aload_n 0, 1) := by decide +kernel
theorem dX11_count_164 : decode cX11_count 164 = .ok (.getfield 256, 3) := by decide +kernel
theorem dX11_count_167 : decode cX11_count 167 = .ok (.ifCond .eq 7, 3) := by decide +kernel
theorem dX11_count_174 : decode cX11_count 174 = .ok (.iconst 0, 1) := by decide +kernel
theorem dX11_count_170 : decode cX11_count 170 = .ok (.iconst 1, 1) := by decide +kernel
theorem dX11_count_171 : decode cX11_count 171 = .ok (.goto 4, 3) := by decide +kernel
theorem dX11_count_59 : decode cX11_count 59 = .ok (.aload_n 0, 1) := by decide +kernel
theorem dX11_count_60 : decode cX11_count 60 = .ok (.getfield 175, 3) := by decide +kernel
theorem dX11_count_63 : decode cX11_count 63 = .ok (.iload_n 1, 1) := by decide +kernel
theorem dX11_count_64 : decode cX11_count 64 = .ok (.bipush 8, 2) := by decide +kernel
theorem dX11_count_66 : decode cX11_count 66 = .ok (.isub, 1) := by decide +kernel
theorem dX11_count_67 : decode cX11_count 67 = .ok (.baload, 1) := by decide +kernel
theorem dX11_count_68 : decode cX11_count 68 = .ok (.ifCond .eq 15, 3) := by decide +kernel
theorem dX11_count_83 : decode cX11_count 83 = .ok (.iconst 0, 1) := by decide +kernel
theorem dX11_count_71 : decode cX11_count 71 = .ok (.aload_n 0, 1) := by decide +kernel
theorem dX11_count_72 : decode cX11_count 72 = .ok (.getfield 178, 3) := by decide +kernel
theorem dX11_count_75 : decode cX11_count 75 = .ok (.iload_n 1, 1) := by decide +kernel
theorem dX11_count_76 : decode cX11_count 76 = .ok (.bipush 8, 2) := by decide +kernel
theorem dX11_count_78 : decode cX11_count 78 = .ok (.isub, 1) := by decide +kernel
theorem dX11_count_79 : decode cX11_count 79 = .ok (.iaload, 1) := by decide +kernel
theorem dX11_count_80 : decode cX11_count 80 = .ok (.goto 4, 3) := by decide +kernel
theorem dX11_count_27 : decode cX11_count 27 = .ok (.aload_n 0, 1) := by decide +kernel
theorem dX11_count_28 : decode cX11_count 28 = .ok (.getfield 175, 3) := by decide +kernel
theorem dX11_count_31 : decode cX11_count 31 = .ok (.iload_n 1, 1) := by decide +kernel
theorem dX11_count_32 : decode cX11_count 32 = .ok (.bipush 11, 2) := by decide +kernel
theorem dX11_count_34 : decode cX11_count 34 = .ok (.isub, 1) := by decide +kernel
theorem dX11_count_35 : decode cX11_count 35 = .ok (.baload, 1) := by decide +kernel
theorem dX11_count_36 : decode cX11_count 36 = .ok (.ifCond .eq 15, 3) := by decide +kernel
theorem dX11_count_51 : decode cX11_count 51 = .ok (.iconst 0, 1) := by decide +kernel
theorem dX11_count_39 : decode cX11_count 39 = .ok (.aload_n 0, 1) := by decide +kernel
theorem dX11_count_40 : decode cX11_count 40 = .ok (.getfield 196, 3) := by decide +kernel
theorem dX11_count_43 : decode cX11_count 43 = .ok (.iload_n 1, 1) := by decide +kernel
theorem dX11_count_44 : decode cX11_count 44 = .ok (.bipush 11, 2) := by decide +kernel
theorem dX11_count_46 : decode cX11_count 46 = .ok (.isub, 1) := by decide +kernel
theorem dX11_count_47 : decode cX11_count 47 = .ok (.iaload, 1) := by decide +kernel
theorem dX11_count_48 : decode cX11_count 48 = .ok (.goto 4, 3) := by decide +kernel
theorem dX11_count_15 : decode cX11_count 15 = .ok (.aload_n 0, 1) := by decide +kernel
theorem dX11_count_16 : decode cX11_count 16 = .ok (.iconst 1, 1) := by decide +kernel
theorem dX11_count_17 : decode cX11_count 17 = .ok (.invokevirtual 448, 3) := by decide +kernel
theorem dX11_count_20 : decode cX11_count 20 = .ok (.ireturn, 1) := by decide +kernel
theorem dX11_count_175 : decode cX11_count 175 = .ok (.ireturn, 1) := by decide +kernel
theorem dX11_count_84 : decode cX11_count 84 = .ok (.ireturn, 1) := by decide +kernel
theorem dX11_count_52 : decode cX11_count 52 = .ok (.ireturn, 1) := by decide +kernel
def wpX11_fixup_118 (s0 : Int) (σ : ZS) (Q : Int → ZS → Prop) : Prop := Q s0 σ
def wpX11_fixup_52 (σ : ZS) (Q : Int → ZS → Prop) : Prop := wpX11_raise 2 σ (fun (x1 : Int) (σ2 : ZS) => Q x1 σ2)
def wpX11_fixup_14 (σ : ZS) (Q : Int → ZS → Prop) : Prop := wpX11_raise 1 σ (fun (x3 : Int) (σ4 : ZS) => Q x3 σ4)
def wpX11_fixup (a1 a2 a3 : Int) (σ : ZS) (Q : Int → ZS → Prop) : Prop := (-2147483648 ≤ a3 ∧ a3 ≤ 2147483647) ∧ (a3 < 0 → wpX11_fixup_14 (zsI σ 0 0 0) Q) ∧ (¬ a3 < 0 → (a3 ≤ 3 → (-2147483648 ≤ a1 ∧ a1 ≤ 2147483647) ∧ (a1 < 0 → wpX11_fixup_52 (zsI σ 0 0 0) Q) ∧ (¬ a1 < 0 → (2 < a1 → wpX11_fixup_52 (zsI σ 0 0 0) Q) ∧ (¬ 2 < a1 → (0 ≤ a1 ∧ a1 < 3) ∧ (-2147483648 ≤ (zA σ 0 43 a1) ∧ (zA σ 0 43 a1) ≤ 2147483647) ∧ ((zA σ 0 43 a1) = 0 → wpX11_fixup_52 (zsI σ 0 0 0) Q) ∧ (¬ (zA σ 0 43 a1) = 0 → (-2147483648 ≤ a2 ∧ a2 ≤ 2147483647) ∧ (a2 < 0 → wpX11_fixup_52 (zsI σ 0 0 0) Q) ∧ (¬ a2 < 0 → (-2147483648 ≤ (zA σ 0 50 a1) ∧ (zA σ 0 50 a1) ≤ 2147483647) ∧ (a2 < (zA σ 0 50 a1) → (¬ a3 = 0 → (¬ a3 = 1 → (¬ a3 = 2 → (0 ≤ ((200 * a1) + a2) ∧ ((200 * a1) + a2) < 600) ∧ wpX11_fixup_118 (zA σ 0 54 ((200 * a1) + a2)) (zsI σ 0 0 0) Q) ∧ (a3 = 2 → (0 ≤ ((200 * a1) + a2) ∧ ((200 * a1) + a2) < 600) ∧ wpX11_fixup_118 (zA σ 0 53 ((200 * a1) + a2)) (zsI σ 0 0 0) Q)) ∧ (a3 = 1 → (0 ≤ ((200 * a1) + a2) ∧ ((200 * a1) + a2) < 600) ∧ wpX11_fixup_118 (zA σ 0 52 ((200 * a1) + a2)) (zsI σ 0 0 0) Q)) ∧ (a3 = 0 → (0 ≤ ((200 * a1) + a2) ∧ ((200 * a1) + a2) < 600) ∧ wpX11_fixup_118 (zA σ 0 51 ((200 * a1) + a2)) (zsI σ 0 0 0) Q)) ∧ (¬ a2 < (zA σ 0 50 a1) → wpX11_fixup_52 (zsI σ 0 0 0) Q)))))) ∧ (¬ a3 ≤ 3 → wpX11_fixup_14 (zsI σ 0 0 0) Q))
set_option maxHeartbeats 4000000 in
set_option maxRecDepth 100000 in
theorem kX11_fixup (l : Launch) (D : va_G) (dA : Nat → ClassId) (ad : Int → Nat → Nat) (a1 a2 a3 : Int) (σ : ZS) (Q : Int → ZS → Prop) (sz : Nat) (hw : wpX11_fixup a1 a2 a3 σ Q) : Met l yX11_fixup (gws yX11_fixup cX11_fixup 5 (some .int)) (gR 2 0 0) (gPre D dA [.ref (ad 0 1000), .int (Int32.ofInt a1), .int (Int32.ofInt a2), .int (Int32.ofInt a3)] (zR dA ad σ) sz) (va_Qi (zQi Q) (gAt D dA (va_A (zR dA ad σ) sz) (zR dA ad)) (va_A (zR dA ad σ) sz)) 0 0 (va_A (zR dA ad σ) sz) := by
  refine Met.ofW (cc := cX11_fixup) (maxL := 5) (ret := (some .int)) (by decide) rfl ?_
  intro p e s m args below meth c s₁ B hml hv
  obtain ⟨rfl, hsz, hP, hK, hD0⟩ := hv
  have hx := B.exec
  have hb := B.bytes
  have hr := B.returns
  have hts := atoms_spec (ws := gws yX11_fixup cX11_fixup 5 (some .int)) B.pre
  have hg : ∀ w ∈ gw, w.before _ s = true := fun w h => hts w (List.mem_cons_of_mem _ h)
  have hown : s.vm.findClass RX11 = some m.cls := findClass_of_methodNamed B.named
  have hlocks := B.notSynchronized
  subst hsz
  have hD := hD0.self (sz := s.heap.size)
  generalize hAe : va_A (zR dA ad σ) s.heap.size = A at hD ⊢
  have hA : ∀ q : Nat, s.heap.size ≤ q → A q := fun q h => by rw [← hAe]; exact Or.inr h
  have hS : va_S A s.heap s.heap [] := va_S.rf
  have hl := lv_entry ([.ref (ad 0 1000), .int (Int32.ofInt a1), .int (Int32.ofInt a2), .int (Int32.ofInt a3)]) (n := 5) (Nat.le_of_ble_eq_true rfl)
  rw [lg_entry_eq]
  generalize (lg_sl ([.ref (ad 0 1000), .int (Int32.ofInt a1), .int (Int32.ofInt a2), .int (Int32.ofInt a3)]) ++ List.replicate (5 - (lg_sl ([.ref (ad 0 1000), .int (Int32.ofInt a1), .int (Int32.ofInt a2), .int (Int32.ofInt a3)])).length) Slot.unset).toArray = ls at hl ⊢
  have hl : lv_has ls 5 [(0, .ref (ad 0 1000)), (1, .int (Int32.ofInt a1)), (2, .int (Int32.ofInt a2)), (3, .int (Int32.ofInt a3))] := hl
  have hret : ∀ (v : Int) (σ : ZS) (H : Heap) (locs : List Loc) (ls : Array Slot) (pc : Nat), Q v σ → va_P D vwC (zR dA ad σ) H → va_D A (zR dA ad σ) → va_S A s.heap H locs → decode cX11_fixup pc = .ok (.ireturn, 1) → W p l e (gR 2 0 0) s m #[.ref (ad 0 1000), .int (Int32.ofInt a1), .int (Int32.ofInt a2), .int (Int32.ofInt a3)] below meth c H locs 0 0 (MQ below (va_Qi (zQi Q) (gAt D dA A (zR dA ad)) A) #[.ref (ad 0 1000), .int (Int32.ofInt a1), .int (Int32.ofInt a2), .int (Int32.ofInt a3)] s 0 0 A) (F0 m pc ls [.int (Int32.ofInt v)]) := fun v σ H locs ls pc hw hP hD hS hd => g_iret hx hb hr rfl hlocks hK σ hP hD hS ⟨v, rfl, hw⟩ (Nat.le_of_ble_eq_true rfl) (Nat.le_of_ble_eq_true rfl) hd
  generalize MQ below (va_Qi (zQi Q) (gAt D dA A (zR dA ad)) A) #[.ref (ad 0 1000), .int (Int32.ofInt a1), .int (Int32.ofInt a2), .int (Int32.ofInt a3)] s 0 0 A = QQ at hret ⊢
  have j118 : ∀ (s0 : Int) (σ : ZS), ∀ (H : Heap) (locs : List Loc) (ls : Array Slot), va_P D vwC (zR dA ad σ) H → va_D A (zR dA ad σ) → va_S A s.heap H locs → lv_has ls 5 [] → wpX11_fixup_118 s0 σ Q → W p l e (gR 2 0 0) s m #[.ref (ad 0 1000), .int (Int32.ofInt a1), .int (Int32.ofInt a2), .int (Int32.ofInt a3)] below meth c H locs 0 0 QQ (F0 m 118 ls [.int (Int32.ofInt s0)]) := by
    intro s0 σ H locs ls hP hD hS hl hw
    unfold wpX11_fixup_118 at hw
    exact hret s0 σ _ _ _ _ hw hP hD hS dX11_fixup_118
  have j52 : ∀ (σ : ZS), ∀ (H : Heap) (locs : List Loc) (ls : Array Slot), va_P D vwC (zR dA ad σ) H → va_D A (zR dA ad σ) → va_S A s.heap H locs → lv_has ls 5 [(0, .ref (ad 0 1000))] → wpX11_fixup_52 σ Q → W p l e (gR 2 0 0) s m #[.ref (ad 0 1000), .int (Int32.ofInt a1), .int (Int32.ofInt a2), .int (Int32.ofInt a3)] below meth c H locs 0 0 QQ (F0 m 52 ls []) := by
    intro σ H locs ls hP hD hS hl hw
    unfold wpX11_fixup_52 at hw
    refine lv_aload_n hx hb dX11_fixup_52 rfl (lv_at hl 0 rfl) ?_
    refine lv_iconst (v := Int32.ofInt 2) hx hb dX11_fixup_53 (by decide) ?_
    refine z_Vi (n := 1) (As := [.int (Int32.ofInt 2)]) (rest := []) hx hb hml hg hown hK hP hD hS hA (kX11_raise l D dA ad 2 σ _ _ hw) (zoR0) rfl q1883 q160 q1880 q1882 q77 (by decide +kernel) ⟨(Nat.le_of_ble_eq_true rfl), (Nat.le_of_ble_eq_true rfl)⟩ rfl hl.1 rfl (Nat.le_of_ble_eq_true rfl) dX11_fixup_54 ⟨(Nat.le_of_ble_eq_true rfl), (Nat.le_of_ble_eq_true rfl)⟩ (fun x1 σ2 H locs hw hP hD hS => ?_)
    exact hret x1 σ2 _ _ _ _ hw hP hD hS dX11_fixup_57
  have j14 : ∀ (σ : ZS), ∀ (H : Heap) (locs : List Loc) (ls : Array Slot), va_P D vwC (zR dA ad σ) H → va_D A (zR dA ad σ) → va_S A s.heap H locs → lv_has ls 5 [(0, .ref (ad 0 1000))] → wpX11_fixup_14 σ Q → W p l e (gR 2 0 0) s m #[.ref (ad 0 1000), .int (Int32.ofInt a1), .int (Int32.ofInt a2), .int (Int32.ofInt a3)] below meth c H locs 0 0 QQ (F0 m 14 ls []) := by
    intro σ H locs ls hP hD hS hl hw
    unfold wpX11_fixup_14 at hw
    refine lv_aload_n hx hb dX11_fixup_14 rfl (lv_at hl 0 rfl) ?_
    refine lv_iconst (v := Int32.ofInt 1) hx hb dX11_fixup_15 (by decide) ?_
    refine z_Vi (n := 1) (As := [.int (Int32.ofInt 1)]) (rest := []) hx hb hml hg hown hK hP hD hS hA (kX11_raise l D dA ad 1 σ _ _ hw) (zoR0) rfl q1883 q160 q1880 q1882 q77 (by decide +kernel) ⟨(Nat.le_of_ble_eq_true rfl), (Nat.le_of_ble_eq_true rfl)⟩ rfl hl.1 rfl (Nat.le_of_ble_eq_true rfl) dX11_fixup_16 ⟨(Nat.le_of_ble_eq_true rfl), (Nat.le_of_ble_eq_true rfl)⟩ (fun x3 σ4 H locs hw hP hD hS => ?_)
    exact hret x3 σ4 _ _ _ _ hw hP hD hS dX11_fixup_19
  unfold wpX11_fixup at hw
  refine lv_aload_n hx hb dX11_fixup_0 rfl (lv_at hl 0 rfl) ?_
  refine lv_iconst (v := Int32.ofInt 0) hx hb dX11_fixup_1 (by decide) ?_
  refine zpR0_0 (v := 0) hx hb hg hown hK hP hD hS q1615 dX11_fixup_2 (fun H locs hP hD hS => ?_)
  refine lv_iload_n hx hb dX11_fixup_5 rfl (lv_at hl 3 rfl) ?_
  obtain ⟨o5, hw⟩ := hw
  refine z_if_lt (tgt := 14) hx hb o5 dX11_fixup_6 (by decide) (fun k6 => ?_) (fun k6 => ?_)
  · replace hw := hw.1 k6
    exact j14 (zsI σ 0 0 0) _ _ _ hP hD hS (lv_sub hl [0] rfl) hw
  · replace hw := hw.2 k6
    refine lv_iload_n hx hb dX11_fixup_9 rfl (lv_at hl 3 rfl) ?_
    refine lv_iconst (v := Int32.ofInt 3) hx hb dX11_fixup_10 (by decide) ?_
    refine z_icmp_le (tgt := 20) hx hb o5 (by decide) dX11_fixup_11 (by decide) (fun k7 => ?_) (fun k7 => ?_)
    · replace hw := hw.1 k7
      refine lv_iload_n hx hb dX11_fixup_20 rfl (lv_at hl 1 rfl) ?_
      obtain ⟨o8, hw⟩ := hw
      refine z_if_lt (tgt := 52) hx hb o8 dX11_fixup_21 (by decide) (fun k9 => ?_) (fun k9 => ?_)
      · replace hw := hw.1 k9
        exact j52 (zsI σ 0 0 0) _ _ _ hP hD hS (lv_sub hl [0] rfl) hw
      · replace hw := hw.2 k9
        refine lv_iload_n hx hb dX11_fixup_24 rfl (lv_at hl 1 rfl) ?_
        refine lv_iconst (v := Int32.ofInt 2) hx hb dX11_fixup_25 (by decide) ?_
        refine z_icmp_gt (tgt := 52) hx hb o8 (by decide) dX11_fixup_26 (by decide) (fun k10 => ?_) (fun k10 => ?_)
        · replace hw := hw.1 k10
          exact j52 (zsI σ 0 0 0) _ _ _ hP hD hS (lv_sub hl [0] rfl) hw
        · replace hw := hw.2 k10
          refine lv_aload_n hx hb dX11_fixup_29 rfl (lv_at hl 0 rfl) ?_
          refine zgR0_43 hx hb hg hown hK hP q1658 dX11_fixup_30 ?_
          refine lv_iload_n hx hb dX11_fixup_33 rfl (lv_at hl 1 rfl) ?_
          obtain ⟨o11, hw⟩ := hw
          refine zlR0_43 hx hb o11 hK hP dX11_fixup_34 ?_
          refine g_nrm (y := Int32.ofInt (zA σ 0 43 a1)) rfl ?_
          obtain ⟨o12, hw⟩ := hw
          refine z_if_eq (tgt := 52) hx hb o12 dX11_fixup_35 (by decide) (fun k13 => ?_) (fun k13 => ?_)
          · replace hw := hw.1 k13
            exact j52 (zsI σ 0 0 0) _ _ _ hP hD hS (lv_sub hl [0] rfl) hw
          · replace hw := hw.2 k13
            refine lv_iload_n hx hb dX11_fixup_38 rfl (lv_at hl 2 rfl) ?_
            obtain ⟨o14, hw⟩ := hw
            refine z_if_lt (tgt := 52) hx hb o14 dX11_fixup_39 (by decide) (fun k15 => ?_) (fun k15 => ?_)
            · replace hw := hw.1 k15
              exact j52 (zsI σ 0 0 0) _ _ _ hP hD hS (lv_sub hl [0] rfl) hw
            · replace hw := hw.2 k15
              refine lv_iload_n hx hb dX11_fixup_42 rfl (lv_at hl 2 rfl) ?_
              refine lv_aload_n hx hb dX11_fixup_43 rfl (lv_at hl 0 rfl) ?_
              refine zgR0_50 hx hb hg hown hK hP q1665 dX11_fixup_44 ?_
              refine lv_iload_n hx hb dX11_fixup_47 rfl (lv_at hl 1 rfl) ?_
              refine zlR0_50 hx hb o11 hK hP dX11_fixup_48 ?_
              refine g_nrm (y := Int32.ofInt (zA σ 0 50 a1)) rfl ?_
              obtain ⟨o16, hw⟩ := hw
              refine z_icmp_lt (tgt := 58) hx hb o14 o16 dX11_fixup_49 (by decide) (fun k17 => ?_) (fun k17 => ?_)
              · replace hw := hw.1 k17
                refine lv_sipush (v := Int32.ofInt 200) hx hb dX11_fixup_58 (by decide) ?_
                refine lv_iload_n hx hb dX11_fixup_61 rfl (lv_at hl 1 rfl) ?_
                refine z_imul hx hb dX11_fixup_62 ?_
                refine lv_iload_n hx hb dX11_fixup_63 rfl (lv_at hl 2 rfl) ?_
                refine z_iadd hx hb dX11_fixup_64 ?_
                refine lv_istore (lv' := [(4, .int (Int32.ofInt ((200 * a1) + a2))), (0, .ref (ad 0 1000)), (1, .int (Int32.ofInt a1)), (2, .int (Int32.ofInt a2)), (3, .int (Int32.ofInt a3))]) hx hb dX11_fixup_65 hl (by decide) rfl (fun ls hl => ?_)
                refine lv_iload_n hx hb dX11_fixup_67 rfl (lv_at hl 4 rfl) ?_
                refine z_if_ne (tgt := 81) hx hb o5 dX11_fixup_68 (by decide) (fun k18 => ?_) (fun k18 => ?_)
                · replace hw := hw.1 k18
                  refine lv_iload_n hx hb dX11_fixup_81 rfl (lv_at hl 4 rfl) ?_
                  refine lv_iconst (v := Int32.ofInt 1) hx hb dX11_fixup_82 (by decide) ?_
                  refine z_icmp_ne (tgt := 96) hx hb o5 (by decide) dX11_fixup_83 (by decide) (fun k19 => ?_) (fun k19 => ?_)
                  · replace hw := hw.1 k19
                    refine lv_iload_n hx hb dX11_fixup_96 rfl (lv_at hl 4 rfl) ?_
                    refine lv_iconst (v := Int32.ofInt 2) hx hb dX11_fixup_97 (by decide) ?_
                    refine z_icmp_ne (tgt := 111) hx hb o5 (by decide) dX11_fixup_98 (by decide) (fun k20 => ?_) (fun k20 => ?_)
                    · replace hw := hw.1 k20
                      refine lv_aload_n hx hb dX11_fixup_111 rfl (lv_at hl 1 rfl) ?_
                      refine zgR0_54 hx hb hg hown hK hP q1669 dX11_fixup_112 ?_
                      refine lv_iload hx hb dX11_fixup_115 (lv_at hl 0 rfl) ?_
                      obtain ⟨o21, hw⟩ := hw
                      refine zlR0_54 hx hb o21 hK hP dX11_fixup_117 ?_
                      refine g_nrm (y := Int32.ofInt (zA σ 0 54 ((200 * a1) + a2))) rfl ?_
                      exact j118 (zA σ 0 54 ((200 * a1) + a2)) (zsI σ 0 0 0) _ _ _ hP hD hS (lv_sub hl [] rfl) hw
                    · replace hw := hw.2 k20
                      refine lv_aload_n hx hb dX11_fixup_101 rfl (lv_at hl 1 rfl) ?_
                      refine zgR0_53 hx hb hg hown hK hP q1668 dX11_fixup_102 ?_
                      refine lv_iload hx hb dX11_fixup_105 (lv_at hl 0 rfl) ?_
                      obtain ⟨o22, hw⟩ := hw
                      refine zlR0_53 hx hb o22 hK hP dX11_fixup_107 ?_
                      refine g_nrm (y := Int32.ofInt (zA σ 0 53 ((200 * a1) + a2))) rfl ?_
                      refine lv_goto (tgt := 118) hx hb dX11_fixup_108 (by decide) ?_
                      exact j118 (zA σ 0 53 ((200 * a1) + a2)) (zsI σ 0 0 0) _ _ _ hP hD hS (lv_sub hl [] rfl) hw
                  · replace hw := hw.2 k19
                    refine lv_aload_n hx hb dX11_fixup_86 rfl (lv_at hl 1 rfl) ?_
                    refine zgR0_52 hx hb hg hown hK hP q1667 dX11_fixup_87 ?_
                    refine lv_iload hx hb dX11_fixup_90 (lv_at hl 0 rfl) ?_
                    obtain ⟨o23, hw⟩ := hw
                    refine zlR0_52 hx hb o23 hK hP dX11_fixup_92 ?_
                    refine g_nrm (y := Int32.ofInt (zA σ 0 52 ((200 * a1) + a2))) rfl ?_
                    refine lv_goto (tgt := 118) hx hb dX11_fixup_93 (by decide) ?_
                    exact j118 (zA σ 0 52 ((200 * a1) + a2)) (zsI σ 0 0 0) _ _ _ hP hD hS (lv_sub hl [] rfl) hw
                · replace hw := hw.2 k18
                  refine lv_aload_n hx hb dX11_fixup_71 rfl (lv_at hl 1 rfl) ?_
                  refine zgR0_51 hx hb hg hown hK hP q1666 dX11_fixup_72 ?_
                  refine lv_iload hx hb dX11_fixup_75 (lv_at hl 0 rfl) ?_
                  obtain ⟨o24, hw⟩ := hw
                  refine zlR0_51 hx hb o24 hK hP dX11_fixup_77 ?_
                  refine g_nrm (y := Int32.ofInt (zA σ 0 51 ((200 * a1) + a2))) rfl ?_
                  refine lv_goto (tgt := 118) hx hb dX11_fixup_78 (by decide) ?_
                  exact j118 (zA σ 0 51 ((200 * a1) + a2)) (zsI σ 0 0 0) _ _ _ hP hD hS (lv_sub hl [] rfl) hw
              · replace hw := hw.2 k17
                exact j52 (zsI σ 0 0 0) _ _ _ hP hD hS (lv_sub hl [0] rfl) hw
    · replace hw := hw.2 k7
      exact j14 (zsI σ 0 0 0) _ _ _ hP hD hS (lv_sub hl [0] rfl) hw
def wpX11_image_17 (σ : ZS) (Q : Int → ZS → Prop) : Prop := wpX11_raise 1 σ (fun (x1 : Int) (σ2 : ZS) => Q x1 σ2)
def wpX11_image (a1 : Int) (σ : ZS) (Q : Int → ZS → Prop) : Prop := (-2147483648 ≤ a1 ∧ a1 ≤ 2147483647) ∧ (a1 < 0 → wpX11_image_17 (zsI σ 0 0 0) Q) ∧ (¬ a1 < 0 → (-2147483648 ≤ (zI σ 0 62) ∧ (zI σ 0 62) ≤ 2147483647) ∧ (a1 < (zI σ 0 62) → (0 ≤ a1 ∧ a1 < 1200) ∧ Q (zA σ 0 61 a1) (zsI σ 0 0 0)) ∧ (¬ a1 < (zI σ 0 62) → wpX11_image_17 (zsI σ 0 0 0) Q))
set_option maxHeartbeats 4000000 in
set_option maxRecDepth 100000 in
theorem kX11_image (l : Launch) (D : va_G) (dA : Nat → ClassId) (ad : Int → Nat → Nat) (a1 : Int) (σ : ZS) (Q : Int → ZS → Prop) (sz : Nat) (hw : wpX11_image a1 σ Q) : Met l yX11_image (gws yX11_image cX11_image 2 (some .int)) (gR 2 0 0) (gPre D dA [.ref (ad 0 1000), .int (Int32.ofInt a1)] (zR dA ad σ) sz) (va_Qi (zQi Q) (gAt D dA (va_A (zR dA ad σ) sz) (zR dA ad)) (va_A (zR dA ad σ) sz)) 0 0 (va_A (zR dA ad σ) sz) := by
  refine Met.ofW (cc := cX11_image) (maxL := 2) (ret := (some .int)) (by decide) rfl ?_
  intro p e s m args below meth c s₁ B hml hv
  obtain ⟨rfl, hsz, hP, hK, hD0⟩ := hv
  have hx := B.exec
  have hb := B.bytes
  have hr := B.returns
  have hts := atoms_spec (ws := gws yX11_image cX11_image 2 (some .int)) B.pre
  have hg : ∀ w ∈ gw, w.before _ s = true := fun w h => hts w (List.mem_cons_of_mem _ h)
  have hown : s.vm.findClass RX11 = some m.cls := findClass_of_methodNamed B.named
  have hlocks := B.notSynchronized
  subst hsz
  have hD := hD0.self (sz := s.heap.size)
  generalize hAe : va_A (zR dA ad σ) s.heap.size = A at hD ⊢
  have hA : ∀ q : Nat, s.heap.size ≤ q → A q := fun q h => by rw [← hAe]; exact Or.inr h
  have hS : va_S A s.heap s.heap [] := va_S.rf
  have hl := lv_entry ([.ref (ad 0 1000), .int (Int32.ofInt a1)]) (n := 2) (Nat.le_of_ble_eq_true rfl)
  rw [lg_entry_eq]
  generalize (lg_sl ([.ref (ad 0 1000), .int (Int32.ofInt a1)]) ++ List.replicate (2 - (lg_sl ([.ref (ad 0 1000), .int (Int32.ofInt a1)])).length) Slot.unset).toArray = ls at hl ⊢
  have hl : lv_has ls 2 [(0, .ref (ad 0 1000)), (1, .int (Int32.ofInt a1))] := hl
  have hret : ∀ (v : Int) (σ : ZS) (H : Heap) (locs : List Loc) (ls : Array Slot) (pc : Nat), Q v σ → va_P D vwC (zR dA ad σ) H → va_D A (zR dA ad σ) → va_S A s.heap H locs → decode cX11_image pc = .ok (.ireturn, 1) → W p l e (gR 2 0 0) s m #[.ref (ad 0 1000), .int (Int32.ofInt a1)] below meth c H locs 0 0 (MQ below (va_Qi (zQi Q) (gAt D dA A (zR dA ad)) A) #[.ref (ad 0 1000), .int (Int32.ofInt a1)] s 0 0 A) (F0 m pc ls [.int (Int32.ofInt v)]) := fun v σ H locs ls pc hw hP hD hS hd => g_iret hx hb hr rfl hlocks hK σ hP hD hS ⟨v, rfl, hw⟩ (Nat.le_of_ble_eq_true rfl) (Nat.le_of_ble_eq_true rfl) hd
  generalize MQ below (va_Qi (zQi Q) (gAt D dA A (zR dA ad)) A) #[.ref (ad 0 1000), .int (Int32.ofInt a1)] s 0 0 A = QQ at hret ⊢
  have j17 : ∀ (σ : ZS), ∀ (H : Heap) (locs : List Loc) (ls : Array Slot), va_P D vwC (zR dA ad σ) H → va_D A (zR dA ad σ) → va_S A s.heap H locs → lv_has ls 2 [(0, .ref (ad 0 1000))] → wpX11_image_17 σ Q → W p l e (gR 2 0 0) s m #[.ref (ad 0 1000), .int (Int32.ofInt a1)] below meth c H locs 0 0 QQ (F0 m 17 ls []) := by
    intro σ H locs ls hP hD hS hl hw
    unfold wpX11_image_17 at hw
    refine lv_aload_n hx hb dX11_image_17 rfl (lv_at hl 0 rfl) ?_
    refine lv_iconst (v := Int32.ofInt 1) hx hb dX11_image_18 (by decide) ?_
    refine z_Vi (n := 1) (As := [.int (Int32.ofInt 1)]) (rest := []) hx hb hml hg hown hK hP hD hS hA (kX11_raise l D dA ad 1 σ _ _ hw) (zoR0) rfl q1883 q160 q1880 q1882 q77 (by decide +kernel) ⟨(Nat.le_of_ble_eq_true rfl), (Nat.le_of_ble_eq_true rfl)⟩ rfl hl.1 rfl (Nat.le_of_ble_eq_true rfl) dX11_image_19 ⟨(Nat.le_of_ble_eq_true rfl), (Nat.le_of_ble_eq_true rfl)⟩ (fun x1 σ2 H locs hw hP hD hS => ?_)
    exact hret x1 σ2 _ _ _ _ hw hP hD hS dX11_image_22
  unfold wpX11_image at hw
  refine lv_aload_n hx hb dX11_image_0 rfl (lv_at hl 0 rfl) ?_
  refine lv_iconst (v := Int32.ofInt 0) hx hb dX11_image_1 (by decide) ?_
  refine zpR0_0 (v := 0) hx hb hg hown hK hP hD hS q1615 dX11_image_2 (fun H locs hP hD hS => ?_)
  refine lv_iload_n hx hb dX11_image_5 rfl (lv_at hl 1 rfl) ?_
  obtain ⟨o3, hw⟩ := hw
  refine z_if_lt (tgt := 17) hx hb o3 dX11_image_6 (by decide) (fun k4 => ?_) (fun k4 => ?_)
  · replace hw := hw.1 k4
    exact j17 (zsI σ 0 0 0) _ _ _ hP hD hS (lv_sub hl [0] rfl) hw
  · replace hw := hw.2 k4
    refine lv_iload_n hx hb dX11_image_9 rfl (lv_at hl 1 rfl) ?_
    refine lv_aload_n hx hb dX11_image_10 rfl (lv_at hl 0 rfl) ?_
    refine zgR0_62 hx hb hg hown hK hP q1677 dX11_image_11 ?_
    refine g_nrm (y := Int32.ofInt (zI σ 0 62)) rfl ?_
    obtain ⟨o5, hw⟩ := hw
    refine z_icmp_lt (tgt := 23) hx hb o3 o5 dX11_image_14 (by decide) (fun k6 => ?_) (fun k6 => ?_)
    · replace hw := hw.1 k6
      refine lv_aload_n hx hb dX11_image_23 rfl (lv_at hl 0 rfl) ?_
      refine zgR0_61 hx hb hg hown hK hP q1676 dX11_image_24 ?_
      refine lv_iload_n hx hb dX11_image_27 rfl (lv_at hl 1 rfl) ?_
      obtain ⟨o7, hw⟩ := hw
      refine zlR0_61 hx hb o7 hK hP dX11_image_28 ?_
      refine g_nrm (y := Int32.ofInt (zA σ 0 61 a1)) rfl ?_
      exact hret (zA σ 0 61 a1) (zsI σ 0 0 0) _ _ _ _ hw hP hD hS dX11_image_29
    · replace hw := hw.2 k6
      exact j17 (zsI σ 0 0 0) _ _ _ hP hD hS (lv_sub hl [0] rfl) hw
def wpX11_memory_16 (σ : ZS) (Q : Int → ZS → Prop) : Prop := wpX11_raise 1 σ (fun (x1 : Int) (σ2 : ZS) => Q x1 σ2)
def wpX11_memory (a1 : Int) (σ : ZS) (Q : Int → ZS → Prop) : Prop := (-2147483648 ≤ a1 ∧ a1 ≤ 2147483647) ∧ (a1 < 0 → wpX11_memory_16 (zsI σ 0 0 0) Q) ∧ (¬ a1 < 0 → (a1 ≤ 4095 → (0 ≤ a1 ∧ a1 < 4096) ∧ Q (zA σ 0 74 a1) (zsI σ 0 0 0)) ∧ (¬ a1 ≤ 4095 → wpX11_memory_16 (zsI σ 0 0 0) Q))
set_option maxHeartbeats 4000000 in
set_option maxRecDepth 100000 in
theorem kX11_memory (l : Launch) (D : va_G) (dA : Nat → ClassId) (ad : Int → Nat → Nat) (a1 : Int) (σ : ZS) (Q : Int → ZS → Prop) (sz : Nat) (hw : wpX11_memory a1 σ Q) : Met l yX11_memory (gws yX11_memory cX11_memory 2 (some .int)) (gR 2 0 0) (gPre D dA [.ref (ad 0 1000), .int (Int32.ofInt a1)] (zR dA ad σ) sz) (va_Qi (zQi Q) (gAt D dA (va_A (zR dA ad σ) sz) (zR dA ad)) (va_A (zR dA ad σ) sz)) 0 0 (va_A (zR dA ad σ) sz) := by
  refine Met.ofW (cc := cX11_memory) (maxL := 2) (ret := (some .int)) (by decide) rfl ?_
  intro p e s m args below meth c s₁ B hml hv
  obtain ⟨rfl, hsz, hP, hK, hD0⟩ := hv
  have hx := B.exec
  have hb := B.bytes
  have hr := B.returns
  have hts := atoms_spec (ws := gws yX11_memory cX11_memory 2 (some .int)) B.pre
  have hg : ∀ w ∈ gw, w.before _ s = true := fun w h => hts w (List.mem_cons_of_mem _ h)
  have hown : s.vm.findClass RX11 = some m.cls := findClass_of_methodNamed B.named
  have hlocks := B.notSynchronized
  subst hsz
  have hD := hD0.self (sz := s.heap.size)
  generalize hAe : va_A (zR dA ad σ) s.heap.size = A at hD ⊢
  have hA : ∀ q : Nat, s.heap.size ≤ q → A q := fun q h => by rw [← hAe]; exact Or.inr h
  have hS : va_S A s.heap s.heap [] := va_S.rf
  have hl := lv_entry ([.ref (ad 0 1000), .int (Int32.ofInt a1)]) (n := 2) (Nat.le_of_ble_eq_true rfl)
  rw [lg_entry_eq]
  generalize (lg_sl ([.ref (ad 0 1000), .int (Int32.ofInt a1)]) ++ List.replicate (2 - (lg_sl ([.ref (ad 0 1000), .int (Int32.ofInt a1)])).length) Slot.unset).toArray = ls at hl ⊢
  have hl : lv_has ls 2 [(0, .ref (ad 0 1000)), (1, .int (Int32.ofInt a1))] := hl
  have hret : ∀ (v : Int) (σ : ZS) (H : Heap) (locs : List Loc) (ls : Array Slot) (pc : Nat), Q v σ → va_P D vwC (zR dA ad σ) H → va_D A (zR dA ad σ) → va_S A s.heap H locs → decode cX11_memory pc = .ok (.ireturn, 1) → W p l e (gR 2 0 0) s m #[.ref (ad 0 1000), .int (Int32.ofInt a1)] below meth c H locs 0 0 (MQ below (va_Qi (zQi Q) (gAt D dA A (zR dA ad)) A) #[.ref (ad 0 1000), .int (Int32.ofInt a1)] s 0 0 A) (F0 m pc ls [.int (Int32.ofInt v)]) := fun v σ H locs ls pc hw hP hD hS hd => g_iret hx hb hr rfl hlocks hK σ hP hD hS ⟨v, rfl, hw⟩ (Nat.le_of_ble_eq_true rfl) (Nat.le_of_ble_eq_true rfl) hd
  generalize MQ below (va_Qi (zQi Q) (gAt D dA A (zR dA ad)) A) #[.ref (ad 0 1000), .int (Int32.ofInt a1)] s 0 0 A = QQ at hret ⊢
  have j16 : ∀ (σ : ZS), ∀ (H : Heap) (locs : List Loc) (ls : Array Slot), va_P D vwC (zR dA ad σ) H → va_D A (zR dA ad σ) → va_S A s.heap H locs → lv_has ls 2 [(0, .ref (ad 0 1000))] → wpX11_memory_16 σ Q → W p l e (gR 2 0 0) s m #[.ref (ad 0 1000), .int (Int32.ofInt a1)] below meth c H locs 0 0 QQ (F0 m 16 ls []) := by
    intro σ H locs ls hP hD hS hl hw
    unfold wpX11_memory_16 at hw
    refine lv_aload_n hx hb dX11_memory_16 rfl (lv_at hl 0 rfl) ?_
    refine lv_iconst (v := Int32.ofInt 1) hx hb dX11_memory_17 (by decide) ?_
    refine z_Vi (n := 1) (As := [.int (Int32.ofInt 1)]) (rest := []) hx hb hml hg hown hK hP hD hS hA (kX11_raise l D dA ad 1 σ _ _ hw) (zoR0) rfl q1883 q160 q1880 q1882 q77 (by decide +kernel) ⟨(Nat.le_of_ble_eq_true rfl), (Nat.le_of_ble_eq_true rfl)⟩ rfl hl.1 rfl (Nat.le_of_ble_eq_true rfl) dX11_memory_18 ⟨(Nat.le_of_ble_eq_true rfl), (Nat.le_of_ble_eq_true rfl)⟩ (fun x1 σ2 H locs hw hP hD hS => ?_)
    exact hret x1 σ2 _ _ _ _ hw hP hD hS dX11_memory_21
  unfold wpX11_memory at hw
  refine lv_aload_n hx hb dX11_memory_0 rfl (lv_at hl 0 rfl) ?_
  refine lv_iconst (v := Int32.ofInt 0) hx hb dX11_memory_1 (by decide) ?_
  refine zpR0_0 (v := 0) hx hb hg hown hK hP hD hS q1615 dX11_memory_2 (fun H locs hP hD hS => ?_)
  refine lv_iload_n hx hb dX11_memory_5 rfl (lv_at hl 1 rfl) ?_
  obtain ⟨o3, hw⟩ := hw
  refine z_if_lt (tgt := 16) hx hb o3 dX11_memory_6 (by decide) (fun k4 => ?_) (fun k4 => ?_)
  · replace hw := hw.1 k4
    exact j16 (zsI σ 0 0 0) _ _ _ hP hD hS (lv_sub hl [0] rfl) hw
  · replace hw := hw.2 k4
    refine lv_iload_n hx hb dX11_memory_9 rfl (lv_at hl 1 rfl) ?_
    refine lv_sipush (v := Int32.ofInt 4095) hx hb dX11_memory_10 (by decide) ?_
    refine z_icmp_le (tgt := 22) hx hb o3 (by decide) dX11_memory_13 (by decide) (fun k5 => ?_) (fun k5 => ?_)
    · replace hw := hw.1 k5
      refine lv_aload_n hx hb dX11_memory_22 rfl (lv_at hl 0 rfl) ?_
      refine zgR0_74 hx hb hg hown hK hP q1689 dX11_memory_23 ?_
      refine lv_iload_n hx hb dX11_memory_26 rfl (lv_at hl 1 rfl) ?_
      obtain ⟨o6, hw⟩ := hw
      refine zlR0_74 hx hb o6 hK hP dX11_memory_27 ?_
      refine g_nrm (y := Int32.ofInt (zA σ 0 74 a1)) rfl ?_
      exact hret (zA σ 0 74 a1) (zsI σ 0 0 0) _ _ _ _ hw hP hD hS dX11_memory_28
    · replace hw := hw.2 k5
      exact j16 (zsI σ 0 0 0) _ _ _ hP hD hS (lv_sub hl [0] rfl) hw
def wpX11_register_15 (σ : ZS) (Q : Int → ZS → Prop) : Prop := wpX11_raise 1 σ (fun (x1 : Int) (σ2 : ZS) => Q x1 σ2)
def wpX11_register (a1 : Int) (σ : ZS) (Q : Int → ZS → Prop) : Prop := (-2147483648 ≤ a1 ∧ a1 ≤ 2147483647) ∧ (a1 < 0 → wpX11_register_15 (zsI σ 0 0 0) Q) ∧ (¬ a1 < 0 → (a1 ≤ 15 → (0 ≤ a1 ∧ a1 < 16) ∧ Q (zA σ 0 75 a1) (zsI σ 0 0 0)) ∧ (¬ a1 ≤ 15 → wpX11_register_15 (zsI σ 0 0 0) Q))
set_option maxHeartbeats 4000000 in
set_option maxRecDepth 100000 in
theorem kX11_register (l : Launch) (D : va_G) (dA : Nat → ClassId) (ad : Int → Nat → Nat) (a1 : Int) (σ : ZS) (Q : Int → ZS → Prop) (sz : Nat) (hw : wpX11_register a1 σ Q) : Met l yX11_register (gws yX11_register cX11_register 2 (some .int)) (gR 2 0 0) (gPre D dA [.ref (ad 0 1000), .int (Int32.ofInt a1)] (zR dA ad σ) sz) (va_Qi (zQi Q) (gAt D dA (va_A (zR dA ad σ) sz) (zR dA ad)) (va_A (zR dA ad σ) sz)) 0 0 (va_A (zR dA ad σ) sz) := by
  refine Met.ofW (cc := cX11_register) (maxL := 2) (ret := (some .int)) (by decide) rfl ?_
  intro p e s m args below meth c s₁ B hml hv
  obtain ⟨rfl, hsz, hP, hK, hD0⟩ := hv
  have hx := B.exec
  have hb := B.bytes
  have hr := B.returns
  have hts := atoms_spec (ws := gws yX11_register cX11_register 2 (some .int)) B.pre
  have hg : ∀ w ∈ gw, w.before _ s = true := fun w h => hts w (List.mem_cons_of_mem _ h)
  have hown : s.vm.findClass RX11 = some m.cls := findClass_of_methodNamed B.named
  have hlocks := B.notSynchronized
  subst hsz
  have hD := hD0.self (sz := s.heap.size)
  generalize hAe : va_A (zR dA ad σ) s.heap.size = A at hD ⊢
  have hA : ∀ q : Nat, s.heap.size ≤ q → A q := fun q h => by rw [← hAe]; exact Or.inr h
  have hS : va_S A s.heap s.heap [] := va_S.rf
  have hl := lv_entry ([.ref (ad 0 1000), .int (Int32.ofInt a1)]) (n := 2) (Nat.le_of_ble_eq_true rfl)
  rw [lg_entry_eq]
  generalize (lg_sl ([.ref (ad 0 1000), .int (Int32.ofInt a1)]) ++ List.replicate (2 - (lg_sl ([.ref (ad 0 1000), .int (Int32.ofInt a1)])).length) Slot.unset).toArray = ls at hl ⊢
  have hl : lv_has ls 2 [(0, .ref (ad 0 1000)), (1, .int (Int32.ofInt a1))] := hl
  have hret : ∀ (v : Int) (σ : ZS) (H : Heap) (locs : List Loc) (ls : Array Slot) (pc : Nat), Q v σ → va_P D vwC (zR dA ad σ) H → va_D A (zR dA ad σ) → va_S A s.heap H locs → decode cX11_register pc = .ok (.ireturn, 1) → W p l e (gR 2 0 0) s m #[.ref (ad 0 1000), .int (Int32.ofInt a1)] below meth c H locs 0 0 (MQ below (va_Qi (zQi Q) (gAt D dA A (zR dA ad)) A) #[.ref (ad 0 1000), .int (Int32.ofInt a1)] s 0 0 A) (F0 m pc ls [.int (Int32.ofInt v)]) := fun v σ H locs ls pc hw hP hD hS hd => g_iret hx hb hr rfl hlocks hK σ hP hD hS ⟨v, rfl, hw⟩ (Nat.le_of_ble_eq_true rfl) (Nat.le_of_ble_eq_true rfl) hd
  generalize MQ below (va_Qi (zQi Q) (gAt D dA A (zR dA ad)) A) #[.ref (ad 0 1000), .int (Int32.ofInt a1)] s 0 0 A = QQ at hret ⊢
  have j15 : ∀ (σ : ZS), ∀ (H : Heap) (locs : List Loc) (ls : Array Slot), va_P D vwC (zR dA ad σ) H → va_D A (zR dA ad σ) → va_S A s.heap H locs → lv_has ls 2 [(0, .ref (ad 0 1000))] → wpX11_register_15 σ Q → W p l e (gR 2 0 0) s m #[.ref (ad 0 1000), .int (Int32.ofInt a1)] below meth c H locs 0 0 QQ (F0 m 15 ls []) := by
    intro σ H locs ls hP hD hS hl hw
    unfold wpX11_register_15 at hw
    refine lv_aload_n hx hb dX11_register_15 rfl (lv_at hl 0 rfl) ?_
    refine lv_iconst (v := Int32.ofInt 1) hx hb dX11_register_16 (by decide) ?_
    refine z_Vi (n := 1) (As := [.int (Int32.ofInt 1)]) (rest := []) hx hb hml hg hown hK hP hD hS hA (kX11_raise l D dA ad 1 σ _ _ hw) (zoR0) rfl q1883 q160 q1880 q1882 q77 (by decide +kernel) ⟨(Nat.le_of_ble_eq_true rfl), (Nat.le_of_ble_eq_true rfl)⟩ rfl hl.1 rfl (Nat.le_of_ble_eq_true rfl) dX11_register_17 ⟨(Nat.le_of_ble_eq_true rfl), (Nat.le_of_ble_eq_true rfl)⟩ (fun x1 σ2 H locs hw hP hD hS => ?_)
    exact hret x1 σ2 _ _ _ _ hw hP hD hS dX11_register_20
  unfold wpX11_register at hw
  refine lv_aload_n hx hb dX11_register_0 rfl (lv_at hl 0 rfl) ?_
  refine lv_iconst (v := Int32.ofInt 0) hx hb dX11_register_1 (by decide) ?_
  refine zpR0_0 (v := 0) hx hb hg hown hK hP hD hS q1615 dX11_register_2 (fun H locs hP hD hS => ?_)
  refine lv_iload_n hx hb dX11_register_5 rfl (lv_at hl 1 rfl) ?_
  obtain ⟨o3, hw⟩ := hw
  refine z_if_lt (tgt := 15) hx hb o3 dX11_register_6 (by decide) (fun k4 => ?_) (fun k4 => ?_)
  · replace hw := hw.1 k4
    exact j15 (zsI σ 0 0 0) _ _ _ hP hD hS (lv_sub hl [0] rfl) hw
  · replace hw := hw.2 k4
    refine lv_iload_n hx hb dX11_register_9 rfl (lv_at hl 1 rfl) ?_
    refine lv_bipush (v := Int32.ofInt 15) hx hb dX11_register_10 (by decide) ?_
    refine z_icmp_le (tgt := 21) hx hb o3 (by decide) dX11_register_12 (by decide) (fun k5 => ?_) (fun k5 => ?_)
    · replace hw := hw.1 k5
      refine lv_aload_n hx hb dX11_register_21 rfl (lv_at hl 0 rfl) ?_
      refine zgR0_75 hx hb hg hown hK hP q1690 dX11_register_22 ?_
      refine lv_iload_n hx hb dX11_register_25 rfl (lv_at hl 1 rfl) ?_
      obtain ⟨o6, hw⟩ := hw
      refine zlR0_75 hx hb o6 hK hP dX11_register_26 ?_
      refine g_nrm (y := Int32.ofInt (zA σ 0 75 a1)) rfl ?_
      exact hret (zA σ 0 75 a1) (zsI σ 0 0 0) _ _ _ _ hw hP hD hS dX11_register_27
    · replace hw := hw.2 k5
      exact j15 (zsI σ 0 0 0) _ _ _ hP hD hS (lv_sub hl [0] rfl) hw
def wpX11_trace_23 (σ : ZS) (Q : Int → ZS → Prop) : Prop := wpX11_raise 1 σ (fun (x1 : Int) (σ2 : ZS) => Q x1 σ2)
def wpX11_trace (a1 : Int) (σ : ZS) (Q : Int → ZS → Prop) : Prop := (-2147483648 ≤ a1 ∧ a1 ≤ 2147483647) ∧ (a1 < 0 → wpX11_trace_23 (zsI σ 0 0 0) Q) ∧ (¬ a1 < 0 → (-2147483648 ≤ (zI σ 0 78) ∧ (zI σ 0 78) ≤ 2147483647) ∧ ((zI σ 0 78) ≤ a1 → wpX11_trace_23 (zsI σ 0 0 0) Q) ∧ (¬ (zI σ 0 78) ≤ a1 → (a1 < 30 → (0 ≤ a1 ∧ a1 < 30) ∧ Q (zA σ 0 79 a1) (zsI σ 0 0 0)) ∧ (¬ a1 < 30 → wpX11_trace_23 (zsI σ 0 0 0) Q)))
set_option maxHeartbeats 4000000 in
set_option maxRecDepth 100000 in
theorem kX11_trace (l : Launch) (D : va_G) (dA : Nat → ClassId) (ad : Int → Nat → Nat) (a1 : Int) (σ : ZS) (Q : Int → ZS → Prop) (sz : Nat) (hw : wpX11_trace a1 σ Q) : Met l yX11_trace (gws yX11_trace cX11_trace 2 (some .int)) (gR 2 0 0) (gPre D dA [.ref (ad 0 1000), .int (Int32.ofInt a1)] (zR dA ad σ) sz) (va_Qi (zQi Q) (gAt D dA (va_A (zR dA ad σ) sz) (zR dA ad)) (va_A (zR dA ad σ) sz)) 0 0 (va_A (zR dA ad σ) sz) := by
  refine Met.ofW (cc := cX11_trace) (maxL := 2) (ret := (some .int)) (by decide) rfl ?_
  intro p e s m args below meth c s₁ B hml hv
  obtain ⟨rfl, hsz, hP, hK, hD0⟩ := hv
  have hx := B.exec
  have hb := B.bytes
  have hr := B.returns
  have hts := atoms_spec (ws := gws yX11_trace cX11_trace 2 (some .int)) B.pre
  have hg : ∀ w ∈ gw, w.before _ s = true := fun w h => hts w (List.mem_cons_of_mem _ h)
  have hown : s.vm.findClass RX11 = some m.cls := findClass_of_methodNamed B.named
  have hlocks := B.notSynchronized
  subst hsz
  have hD := hD0.self (sz := s.heap.size)
  generalize hAe : va_A (zR dA ad σ) s.heap.size = A at hD ⊢
  have hA : ∀ q : Nat, s.heap.size ≤ q → A q := fun q h => by rw [← hAe]; exact Or.inr h
  have hS : va_S A s.heap s.heap [] := va_S.rf
  have hl := lv_entry ([.ref (ad 0 1000), .int (Int32.ofInt a1)]) (n := 2) (Nat.le_of_ble_eq_true rfl)
  rw [lg_entry_eq]
  generalize (lg_sl ([.ref (ad 0 1000), .int (Int32.ofInt a1)]) ++ List.replicate (2 - (lg_sl ([.ref (ad 0 1000), .int (Int32.ofInt a1)])).length) Slot.unset).toArray = ls at hl ⊢
  have hl : lv_has ls 2 [(0, .ref (ad 0 1000)), (1, .int (Int32.ofInt a1))] := hl
  have hret : ∀ (v : Int) (σ : ZS) (H : Heap) (locs : List Loc) (ls : Array Slot) (pc : Nat), Q v σ → va_P D vwC (zR dA ad σ) H → va_D A (zR dA ad σ) → va_S A s.heap H locs → decode cX11_trace pc = .ok (.ireturn, 1) → W p l e (gR 2 0 0) s m #[.ref (ad 0 1000), .int (Int32.ofInt a1)] below meth c H locs 0 0 (MQ below (va_Qi (zQi Q) (gAt D dA A (zR dA ad)) A) #[.ref (ad 0 1000), .int (Int32.ofInt a1)] s 0 0 A) (F0 m pc ls [.int (Int32.ofInt v)]) := fun v σ H locs ls pc hw hP hD hS hd => g_iret hx hb hr rfl hlocks hK σ hP hD hS ⟨v, rfl, hw⟩ (Nat.le_of_ble_eq_true rfl) (Nat.le_of_ble_eq_true rfl) hd
  generalize MQ below (va_Qi (zQi Q) (gAt D dA A (zR dA ad)) A) #[.ref (ad 0 1000), .int (Int32.ofInt a1)] s 0 0 A = QQ at hret ⊢
  have j23 : ∀ (σ : ZS), ∀ (H : Heap) (locs : List Loc) (ls : Array Slot), va_P D vwC (zR dA ad σ) H → va_D A (zR dA ad σ) → va_S A s.heap H locs → lv_has ls 2 [(0, .ref (ad 0 1000))] → wpX11_trace_23 σ Q → W p l e (gR 2 0 0) s m #[.ref (ad 0 1000), .int (Int32.ofInt a1)] below meth c H locs 0 0 QQ (F0 m 23 ls []) := by
    intro σ H locs ls hP hD hS hl hw
    unfold wpX11_trace_23 at hw
    refine lv_aload_n hx hb dX11_trace_23 rfl (lv_at hl 0 rfl) ?_
    refine lv_iconst (v := Int32.ofInt 1) hx hb dX11_trace_24 (by decide) ?_
    refine z_Vi (n := 1) (As := [.int (Int32.ofInt 1)]) (rest := []) hx hb hml hg hown hK hP hD hS hA (kX11_raise l D dA ad 1 σ _ _ hw) (zoR0) rfl q1883 q160 q1880 q1882 q77 (by decide +kernel) ⟨(Nat.le_of_ble_eq_true rfl), (Nat.le_of_ble_eq_true rfl)⟩ rfl hl.1 rfl (Nat.le_of_ble_eq_true rfl) dX11_trace_25 ⟨(Nat.le_of_ble_eq_true rfl), (Nat.le_of_ble_eq_true rfl)⟩ (fun x1 σ2 H locs hw hP hD hS => ?_)
    exact hret x1 σ2 _ _ _ _ hw hP hD hS dX11_trace_28
  unfold wpX11_trace at hw
  refine lv_aload_n hx hb dX11_trace_0 rfl (lv_at hl 0 rfl) ?_
  refine lv_iconst (v := Int32.ofInt 0) hx hb dX11_trace_1 (by decide) ?_
  refine zpR0_0 (v := 0) hx hb hg hown hK hP hD hS q1615 dX11_trace_2 (fun H locs hP hD hS => ?_)
  refine lv_iload_n hx hb dX11_trace_5 rfl (lv_at hl 1 rfl) ?_
  obtain ⟨o3, hw⟩ := hw
  refine z_if_lt (tgt := 23) hx hb o3 dX11_trace_6 (by decide) (fun k4 => ?_) (fun k4 => ?_)
  · replace hw := hw.1 k4
    exact j23 (zsI σ 0 0 0) _ _ _ hP hD hS (lv_sub hl [0] rfl) hw
  · replace hw := hw.2 k4
    refine lv_iload_n hx hb dX11_trace_9 rfl (lv_at hl 1 rfl) ?_
    refine lv_aload_n hx hb dX11_trace_10 rfl (lv_at hl 0 rfl) ?_
    refine zgR0_78 hx hb hg hown hK hP q1693 dX11_trace_11 ?_
    refine g_nrm (y := Int32.ofInt (zI σ 0 78)) rfl ?_
    obtain ⟨o5, hw⟩ := hw
    refine z_icmp_ge (tgt := 23) hx hb o3 o5 dX11_trace_14 (by decide) (fun k6 => ?_) (fun k6 => ?_)
    · replace hw := hw.1 k6
      exact j23 (zsI σ 0 0 0) _ _ _ hP hD hS (lv_sub hl [0] rfl) hw
    · replace hw := hw.2 k6
      refine lv_iload_n hx hb dX11_trace_17 rfl (lv_at hl 1 rfl) ?_
      refine lv_bipush (v := Int32.ofInt 30) hx hb dX11_trace_18 (by decide) ?_
      refine z_icmp_lt (tgt := 29) hx hb o3 (by decide) dX11_trace_20 (by decide) (fun k7 => ?_) (fun k7 => ?_)
      · replace hw := hw.1 k7
        refine lv_aload_n hx hb dX11_trace_29 rfl (lv_at hl 0 rfl) ?_
        refine zgR0_79 hx hb hg hown hK hP q1694 dX11_trace_30 ?_
        refine lv_iload_n hx hb dX11_trace_33 rfl (lv_at hl 1 rfl) ?_
        obtain ⟨o8, hw⟩ := hw
        refine zlR0_79 hx hb o8 hK hP dX11_trace_34 ?_
        refine g_nrm (y := Int32.ofInt (zA σ 0 79 a1)) rfl ?_
        exact hret (zA σ 0 79 a1) (zsI σ 0 0 0) _ _ _ _ hw hP hD hS dX11_trace_35
      · replace hw := hw.2 k7
        exact j23 (zsI σ 0 0 0) _ _ _ hP hD hS (lv_sub hl [0] rfl) hw
def wpX11_count_175 (s0 : Int) (σ : ZS) (Q : Int → ZS → Prop) : Prop := Q s0 σ
def wpX11_count_84 (s0 : Int) (σ : ZS) (Q : Int → ZS → Prop) : Prop := Q s0 σ
def wpX11_count_52 (s0 : Int) (σ : ZS) (Q : Int → ZS → Prop) : Prop := Q s0 σ
def wpX11_count_15 (σ : ZS) (Q : Int → ZS → Prop) : Prop := wpX11_raise 1 σ (fun (x1 : Int) (σ2 : ZS) => Q x1 σ2)
def wpX11_count (a1 : Int) (σ : ZS) (Q : Int → ZS → Prop) : Prop := (-2147483648 ≤ a1 ∧ a1 ≤ 2147483647) ∧ (a1 < 0 → wpX11_count_15 (zsI σ 0 0 0) Q) ∧ (¬ a1 < 0 → (a1 ≤ 13 → (a1 < 11 → (a1 < 8 → (a1 = 0 → Q (zI σ 0 2) (zsI σ 0 0 0)) ∧ (¬ a1 = 0 → (a1 = 1 → Q (zI σ 0 3) (zsI σ 0 0 0)) ∧ (¬ a1 = 1 → (a1 = 2 → Q (zI σ 0 4) (zsI σ 0 0 0)) ∧ (¬ a1 = 2 → (a1 = 3 → Q (zI σ 0 62) (zsI σ 0 0 0)) ∧ (¬ a1 = 3 → (a1 = 4 → Q (zI σ 0 64) (zsI σ 0 0 0)) ∧ (¬ a1 = 4 → (a1 = 5 → Q (zI σ 0 77) (zsI σ 0 0 0)) ∧ (¬ a1 = 5 → (a1 = 6 → Q (zI σ 0 78) (zsI σ 0 0 0)) ∧ (¬ a1 = 6 → (-2147483648 ≤ (zI σ 0 76) ∧ (zI σ 0 76) ≤ 2147483647) ∧ ((zI σ 0 76) = 0 → wpX11_count_175 0 (zsI σ 0 0 0) Q) ∧ (¬ (zI σ 0 76) = 0 → wpX11_count_175 1 (zsI σ 0 0 0) Q))))))))) ∧ (¬ a1 < 8 → (0 ≤ (a1 - 8) ∧ (a1 - 8) < 3) ∧ (-2147483648 ≤ (zA σ 0 43 (a1 - 8)) ∧ (zA σ 0 43 (a1 - 8)) ≤ 2147483647) ∧ ((zA σ 0 43 (a1 - 8)) = 0 → wpX11_count_84 0 (zsI σ 0 0 0) Q) ∧ (¬ (zA σ 0 43 (a1 - 8)) = 0 → wpX11_count_84 (zA σ 0 44 (a1 - 8)) (zsI σ 0 0 0) Q))) ∧ (¬ a1 < 11 → (0 ≤ (a1 - 11) ∧ (a1 - 11) < 3) ∧ (-2147483648 ≤ (zA σ 0 43 (a1 - 11)) ∧ (zA σ 0 43 (a1 - 11)) ≤ 2147483647) ∧ ((zA σ 0 43 (a1 - 11)) = 0 → wpX11_count_52 0 (zsI σ 0 0 0) Q) ∧ (¬ (zA σ 0 43 (a1 - 11)) = 0 → wpX11_count_52 (zA σ 0 50 (a1 - 11)) (zsI σ 0 0 0) Q))) ∧ (¬ a1 ≤ 13 → wpX11_count_15 (zsI σ 0 0 0) Q))
set_option maxHeartbeats 4000000 in
set_option maxRecDepth 100000 in
theorem kX11_count (l : Launch) (D : va_G) (dA : Nat → ClassId) (ad : Int → Nat → Nat) (a1 : Int) (σ : ZS) (Q : Int → ZS → Prop) (sz : Nat) (hw : wpX11_count a1 σ Q) : Met l yX11_count (gws yX11_count cX11_count 2 (some .int)) (gR 2 0 0) (gPre D dA [.ref (ad 0 1000), .int (Int32.ofInt a1)] (zR dA ad σ) sz) (va_Qi (zQi Q) (gAt D dA (va_A (zR dA ad σ) sz) (zR dA ad)) (va_A (zR dA ad σ) sz)) 0 0 (va_A (zR dA ad σ) sz) := by
  refine Met.ofW (cc := cX11_count) (maxL := 2) (ret := (some .int)) (by decide) rfl ?_
  intro p e s m args below meth c s₁ B hml hv
  obtain ⟨rfl, hsz, hP, hK, hD0⟩ := hv
  have hx := B.exec
  have hb := B.bytes
  have hr := B.returns
  have hts := atoms_spec (ws := gws yX11_count cX11_count 2 (some .int)) B.pre
  have hg : ∀ w ∈ gw, w.before _ s = true := fun w h => hts w (List.mem_cons_of_mem _ h)
  have hown : s.vm.findClass RX11 = some m.cls := findClass_of_methodNamed B.named
  have hlocks := B.notSynchronized
  subst hsz
  have hD := hD0.self (sz := s.heap.size)
  generalize hAe : va_A (zR dA ad σ) s.heap.size = A at hD ⊢
  have hA : ∀ q : Nat, s.heap.size ≤ q → A q := fun q h => by rw [← hAe]; exact Or.inr h
  have hS : va_S A s.heap s.heap [] := va_S.rf
  have hl := lv_entry ([.ref (ad 0 1000), .int (Int32.ofInt a1)]) (n := 2) (Nat.le_of_ble_eq_true rfl)
  rw [lg_entry_eq]
  generalize (lg_sl ([.ref (ad 0 1000), .int (Int32.ofInt a1)]) ++ List.replicate (2 - (lg_sl ([.ref (ad 0 1000), .int (Int32.ofInt a1)])).length) Slot.unset).toArray = ls at hl ⊢
  have hl : lv_has ls 2 [(0, .ref (ad 0 1000)), (1, .int (Int32.ofInt a1))] := hl
  have hret : ∀ (v : Int) (σ : ZS) (H : Heap) (locs : List Loc) (ls : Array Slot) (pc : Nat), Q v σ → va_P D vwC (zR dA ad σ) H → va_D A (zR dA ad σ) → va_S A s.heap H locs → decode cX11_count pc = .ok (.ireturn, 1) → W p l e (gR 2 0 0) s m #[.ref (ad 0 1000), .int (Int32.ofInt a1)] below meth c H locs 0 0 (MQ below (va_Qi (zQi Q) (gAt D dA A (zR dA ad)) A) #[.ref (ad 0 1000), .int (Int32.ofInt a1)] s 0 0 A) (F0 m pc ls [.int (Int32.ofInt v)]) := fun v σ H locs ls pc hw hP hD hS hd => g_iret hx hb hr rfl hlocks hK σ hP hD hS ⟨v, rfl, hw⟩ (Nat.le_of_ble_eq_true rfl) (Nat.le_of_ble_eq_true rfl) hd
  generalize MQ below (va_Qi (zQi Q) (gAt D dA A (zR dA ad)) A) #[.ref (ad 0 1000), .int (Int32.ofInt a1)] s 0 0 A = QQ at hret ⊢
  have j175 : ∀ (s0 : Int) (σ : ZS), ∀ (H : Heap) (locs : List Loc) (ls : Array Slot), va_P D vwC (zR dA ad σ) H → va_D A (zR dA ad σ) → va_S A s.heap H locs → lv_has ls 2 [] → wpX11_count_175 s0 σ Q → W p l e (gR 2 0 0) s m #[.ref (ad 0 1000), .int (Int32.ofInt a1)] below meth c H locs 0 0 QQ (F0 m 175 ls [.int (Int32.ofInt s0)]) := by
    intro s0 σ H locs ls hP hD hS hl hw
    unfold wpX11_count_175 at hw
    exact hret s0 σ _ _ _ _ hw hP hD hS dX11_count_175
  have j84 : ∀ (s0 : Int) (σ : ZS), ∀ (H : Heap) (locs : List Loc) (ls : Array Slot), va_P D vwC (zR dA ad σ) H → va_D A (zR dA ad σ) → va_S A s.heap H locs → lv_has ls 2 [] → wpX11_count_84 s0 σ Q → W p l e (gR 2 0 0) s m #[.ref (ad 0 1000), .int (Int32.ofInt a1)] below meth c H locs 0 0 QQ (F0 m 84 ls [.int (Int32.ofInt s0)]) := by
    intro s0 σ H locs ls hP hD hS hl hw
    unfold wpX11_count_84 at hw
    exact hret s0 σ _ _ _ _ hw hP hD hS dX11_count_84
  have j52 : ∀ (s0 : Int) (σ : ZS), ∀ (H : Heap) (locs : List Loc) (ls : Array Slot), va_P D vwC (zR dA ad σ) H → va_D A (zR dA ad σ) → va_S A s.heap H locs → lv_has ls 2 [] → wpX11_count_52 s0 σ Q → W p l e (gR 2 0 0) s m #[.ref (ad 0 1000), .int (Int32.ofInt a1)] below meth c H locs 0 0 QQ (F0 m 52 ls [.int (Int32.ofInt s0)]) := by
    intro s0 σ H locs ls hP hD hS hl hw
    unfold wpX11_count_52 at hw
    exact hret s0 σ _ _ _ _ hw hP hD hS dX11_count_52
  have j15 : ∀ (σ : ZS), ∀ (H : Heap) (locs : List Loc) (ls : Array Slot), va_P D vwC (zR dA ad σ) H → va_D A (zR dA ad σ) → va_S A s.heap H locs → lv_has ls 2 [(0, .ref (ad 0 1000))] → wpX11_count_15 σ Q → W p l e (gR 2 0 0) s m #[.ref (ad 0 1000), .int (Int32.ofInt a1)] below meth c H locs 0 0 QQ (F0 m 15 ls []) := by
    intro σ H locs ls hP hD hS hl hw
    unfold wpX11_count_15 at hw
    refine lv_aload_n hx hb dX11_count_15 rfl (lv_at hl 0 rfl) ?_
    refine lv_iconst (v := Int32.ofInt 1) hx hb dX11_count_16 (by decide) ?_
    refine z_Vi (n := 1) (As := [.int (Int32.ofInt 1)]) (rest := []) hx hb hml hg hown hK hP hD hS hA (kX11_raise l D dA ad 1 σ _ _ hw) (zoR0) rfl q1883 q160 q1880 q1882 q77 (by decide +kernel) ⟨(Nat.le_of_ble_eq_true rfl), (Nat.le_of_ble_eq_true rfl)⟩ rfl hl.1 rfl (Nat.le_of_ble_eq_true rfl) dX11_count_17 ⟨(Nat.le_of_ble_eq_true rfl), (Nat.le_of_ble_eq_true rfl)⟩ (fun x1 σ2 H locs hw hP hD hS => ?_)
    exact hret x1 σ2 _ _ _ _ hw hP hD hS dX11_count_20
  unfold wpX11_count at hw
  refine lv_aload_n hx hb dX11_count_0 rfl (lv_at hl 0 rfl) ?_
  refine lv_iconst (v := Int32.ofInt 0) hx hb dX11_count_1 (by decide) ?_
  refine zpR0_0 (v := 0) hx hb hg hown hK hP hD hS q1615 dX11_count_2 (fun H locs hP hD hS => ?_)
  refine lv_iload_n hx hb dX11_count_5 rfl (lv_at hl 1 rfl) ?_
  obtain ⟨o3, hw⟩ := hw
  refine z_if_lt (tgt := 15) hx hb o3 dX11_count_6 (by decide) (fun k4 => ?_) (fun k4 => ?_)
  · replace hw := hw.1 k4
    exact j15 (zsI σ 0 0 0) _ _ _ hP hD hS (lv_sub hl [0] rfl) hw
  · replace hw := hw.2 k4
    refine lv_iload_n hx hb dX11_count_9 rfl (lv_at hl 1 rfl) ?_
    refine lv_bipush (v := Int32.ofInt 13) hx hb dX11_count_10 (by decide) ?_
    refine z_icmp_le (tgt := 21) hx hb o3 (by decide) dX11_count_12 (by decide) (fun k5 => ?_) (fun k5 => ?_)
    · replace hw := hw.1 k5
      refine lv_iload_n hx hb dX11_count_21 rfl (lv_at hl 1 rfl) ?_
      refine lv_bipush (v := Int32.ofInt 11) hx hb dX11_count_22 (by decide) ?_
      refine z_icmp_lt (tgt := 53) hx hb o3 (by decide) dX11_count_24 (by decide) (fun k6 => ?_) (fun k6 => ?_)
      · replace hw := hw.1 k6
        refine lv_iload_n hx hb dX11_count_53 rfl (lv_at hl 1 rfl) ?_
        refine lv_bipush (v := Int32.ofInt 8) hx hb dX11_count_54 (by decide) ?_
        refine z_icmp_lt (tgt := 85) hx hb o3 (by decide) dX11_count_56 (by decide) (fun k7 => ?_) (fun k7 => ?_)
        · replace hw := hw.1 k7
          refine lv_iload_n hx hb dX11_count_85 rfl (lv_at hl 1 rfl) ?_
          have t8 := z_ti o3
          by_cases s9 : a1 = 0
          · replace hw := hw.1 s9
            refine lv_tableIn (tgt := 128) hx hb dX11_count_86 (by rw [t8, s9]; decide) (by rw [t8, s9]; decide) (by rw [t8, s9]; rfl) (by decide) ?_
            refine lv_aload_n hx hb dX11_count_128 rfl (lv_at hl 0 rfl) ?_
            refine zgR0_2 hx hb hg hown hK hP q1617 dX11_count_129 ?_
            refine g_nrm (y := Int32.ofInt (zI σ 0 2)) rfl ?_
            exact hret (zI σ 0 2) (zsI σ 0 0 0) _ _ _ _ hw hP hD hS dX11_count_132
          replace hw := hw.2 s9
          by_cases s10 : a1 = 1
          · replace hw := hw.1 s10
            refine lv_tableIn (tgt := 133) hx hb dX11_count_86 (by rw [t8, s10]; decide) (by rw [t8, s10]; decide) (by rw [t8, s10]; rfl) (by decide) ?_
            refine lv_aload_n hx hb dX11_count_133 rfl (lv_at hl 0 rfl) ?_
            refine zgR0_3 hx hb hg hown hK hP q1618 dX11_count_134 ?_
            refine g_nrm (y := Int32.ofInt (zI σ 0 3)) rfl ?_
            exact hret (zI σ 0 3) (zsI σ 0 0 0) _ _ _ _ hw hP hD hS dX11_count_137
          replace hw := hw.2 s10
          by_cases s11 : a1 = 2
          · replace hw := hw.1 s11
            refine lv_tableIn (tgt := 138) hx hb dX11_count_86 (by rw [t8, s11]; decide) (by rw [t8, s11]; decide) (by rw [t8, s11]; rfl) (by decide) ?_
            refine lv_aload_n hx hb dX11_count_138 rfl (lv_at hl 0 rfl) ?_
            refine zgR0_4 hx hb hg hown hK hP q1619 dX11_count_139 ?_
            refine g_nrm (y := Int32.ofInt (zI σ 0 4)) rfl ?_
            exact hret (zI σ 0 4) (zsI σ 0 0 0) _ _ _ _ hw hP hD hS dX11_count_142
          replace hw := hw.2 s11
          by_cases s12 : a1 = 3
          · replace hw := hw.1 s12
            refine lv_tableIn (tgt := 143) hx hb dX11_count_86 (by rw [t8, s12]; decide) (by rw [t8, s12]; decide) (by rw [t8, s12]; rfl) (by decide) ?_
            refine lv_aload_n hx hb dX11_count_143 rfl (lv_at hl 0 rfl) ?_
            refine zgR0_62 hx hb hg hown hK hP q1677 dX11_count_144 ?_
            refine g_nrm (y := Int32.ofInt (zI σ 0 62)) rfl ?_
            exact hret (zI σ 0 62) (zsI σ 0 0 0) _ _ _ _ hw hP hD hS dX11_count_147
          replace hw := hw.2 s12
          by_cases s13 : a1 = 4
          · replace hw := hw.1 s13
            refine lv_tableIn (tgt := 148) hx hb dX11_count_86 (by rw [t8, s13]; decide) (by rw [t8, s13]; decide) (by rw [t8, s13]; rfl) (by decide) ?_
            refine lv_aload_n hx hb dX11_count_148 rfl (lv_at hl 0 rfl) ?_
            refine zgR0_64 hx hb hg hown hK hP q1679 dX11_count_149 ?_
            refine g_nrm (y := Int32.ofInt (zI σ 0 64)) rfl ?_
            exact hret (zI σ 0 64) (zsI σ 0 0 0) _ _ _ _ hw hP hD hS dX11_count_152
          replace hw := hw.2 s13
          by_cases s14 : a1 = 5
          · replace hw := hw.1 s14
            refine lv_tableIn (tgt := 153) hx hb dX11_count_86 (by rw [t8, s14]; decide) (by rw [t8, s14]; decide) (by rw [t8, s14]; rfl) (by decide) ?_
            refine lv_aload_n hx hb dX11_count_153 rfl (lv_at hl 0 rfl) ?_
            refine zgR0_77 hx hb hg hown hK hP q1692 dX11_count_154 ?_
            refine g_nrm (y := Int32.ofInt (zI σ 0 77)) rfl ?_
            exact hret (zI σ 0 77) (zsI σ 0 0 0) _ _ _ _ hw hP hD hS dX11_count_157
          replace hw := hw.2 s14
          by_cases s15 : a1 = 6
          · replace hw := hw.1 s15
            refine lv_tableIn (tgt := 158) hx hb dX11_count_86 (by rw [t8, s15]; decide) (by rw [t8, s15]; decide) (by rw [t8, s15]; rfl) (by decide) ?_
            refine lv_aload_n hx hb dX11_count_158 rfl (lv_at hl 0 rfl) ?_
            refine zgR0_78 hx hb hg hown hK hP q1693 dX11_count_159 ?_
            refine g_nrm (y := Int32.ofInt (zI σ 0 78)) rfl ?_
            exact hret (zI σ 0 78) (zsI σ 0 0 0) _ _ _ _ hw hP hD hS dX11_count_162
          replace hw := hw.2 s15
          refine lv_tableOut (tgt := 163) hx hb dX11_count_86 (by rw [t8]; clear hw; omega) (by decide) ?_
          refine lv_aload_n hx hb dX11_count_163 rfl (lv_at hl 0 rfl) ?_
          refine zgR0_76 hx hb hg hown hK hP q1691 dX11_count_164 ?_
          refine g_nrm (y := Int32.ofInt (zI σ 0 76)) rfl ?_
          obtain ⟨o16, hw⟩ := hw
          refine z_if_eq (tgt := 174) hx hb o16 dX11_count_167 (by decide) (fun k17 => ?_) (fun k17 => ?_)
          · replace hw := hw.1 k17
            refine lv_iconst (v := Int32.ofInt 0) hx hb dX11_count_174 (by decide) ?_
            exact j175 0 (zsI σ 0 0 0) _ _ _ hP hD hS (lv_sub hl [] rfl) hw
          · replace hw := hw.2 k17
            refine lv_iconst (v := Int32.ofInt 1) hx hb dX11_count_170 (by decide) ?_
            refine lv_goto (tgt := 175) hx hb dX11_count_171 (by decide) ?_
            exact j175 1 (zsI σ 0 0 0) _ _ _ hP hD hS (lv_sub hl [] rfl) hw
        · replace hw := hw.2 k7
          refine lv_aload_n hx hb dX11_count_59 rfl (lv_at hl 0 rfl) ?_
          refine zgR0_43 hx hb hg hown hK hP q1658 dX11_count_60 ?_
          refine lv_iload_n hx hb dX11_count_63 rfl (lv_at hl 1 rfl) ?_
          refine lv_bipush (v := Int32.ofInt 8) hx hb dX11_count_64 (by decide) ?_
          refine z_isub hx hb dX11_count_66 ?_
          obtain ⟨o18, hw⟩ := hw
          refine zlR0_43 hx hb o18 hK hP dX11_count_67 ?_
          refine g_nrm (y := Int32.ofInt (zA σ 0 43 (a1 - 8))) rfl ?_
          obtain ⟨o19, hw⟩ := hw
          refine z_if_eq (tgt := 83) hx hb o19 dX11_count_68 (by decide) (fun k20 => ?_) (fun k20 => ?_)
          · replace hw := hw.1 k20
            refine lv_iconst (v := Int32.ofInt 0) hx hb dX11_count_83 (by decide) ?_
            exact j84 0 (zsI σ 0 0 0) _ _ _ hP hD hS (lv_sub hl [] rfl) hw
          · replace hw := hw.2 k20
            refine lv_aload_n hx hb dX11_count_71 rfl (lv_at hl 0 rfl) ?_
            refine zgR0_44 hx hb hg hown hK hP q1659 dX11_count_72 ?_
            refine lv_iload_n hx hb dX11_count_75 rfl (lv_at hl 1 rfl) ?_
            refine lv_bipush (v := Int32.ofInt 8) hx hb dX11_count_76 (by decide) ?_
            refine z_isub hx hb dX11_count_78 ?_
            refine zlR0_44 hx hb o18 hK hP dX11_count_79 ?_
            refine g_nrm (y := Int32.ofInt (zA σ 0 44 (a1 - 8))) rfl ?_
            refine lv_goto (tgt := 84) hx hb dX11_count_80 (by decide) ?_
            exact j84 (zA σ 0 44 (a1 - 8)) (zsI σ 0 0 0) _ _ _ hP hD hS (lv_sub hl [] rfl) hw
      · replace hw := hw.2 k6
        refine lv_aload_n hx hb dX11_count_27 rfl (lv_at hl 0 rfl) ?_
        refine zgR0_43 hx hb hg hown hK hP q1658 dX11_count_28 ?_
        refine lv_iload_n hx hb dX11_count_31 rfl (lv_at hl 1 rfl) ?_
        refine lv_bipush (v := Int32.ofInt 11) hx hb dX11_count_32 (by decide) ?_
        refine z_isub hx hb dX11_count_34 ?_
        obtain ⟨o21, hw⟩ := hw
        refine zlR0_43 hx hb o21 hK hP dX11_count_35 ?_
        refine g_nrm (y := Int32.ofInt (zA σ 0 43 (a1 - 11))) rfl ?_
        obtain ⟨o22, hw⟩ := hw
        refine z_if_eq (tgt := 51) hx hb o22 dX11_count_36 (by decide) (fun k23 => ?_) (fun k23 => ?_)
        · replace hw := hw.1 k23
          refine lv_iconst (v := Int32.ofInt 0) hx hb dX11_count_51 (by decide) ?_
          exact j52 0 (zsI σ 0 0 0) _ _ _ hP hD hS (lv_sub hl [] rfl) hw
        · replace hw := hw.2 k23
          refine lv_aload_n hx hb dX11_count_39 rfl (lv_at hl 0 rfl) ?_
          refine zgR0_50 hx hb hg hown hK hP q1665 dX11_count_40 ?_
          refine lv_iload_n hx hb dX11_count_43 rfl (lv_at hl 1 rfl) ?_
          refine lv_bipush (v := Int32.ofInt 11) hx hb dX11_count_44 (by decide) ?_
          refine z_isub hx hb dX11_count_46 ?_
          refine zlR0_50 hx hb o21 hK hP dX11_count_47 ?_
          refine g_nrm (y := Int32.ofInt (zA σ 0 50 (a1 - 11))) rfl ?_
          refine lv_goto (tgt := 52) hx hb dX11_count_48 (by decide) ?_
          exact j52 (zA σ 0 50 (a1 - 11)) (zsI σ 0 0 0) _ _ _ hP hD hS (lv_sub hl [] rfl) hw
    · replace hw := hw.2 k5
      exact j15 (zsI σ 0 0 0) _ _ _ hP hD hS (lv_sub hl [0] rfl) hw
