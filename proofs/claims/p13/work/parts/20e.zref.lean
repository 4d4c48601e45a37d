theorem q77 : Cond.selects RX11 yX11_raise yX11_raise ∈ gw := gw_in (i := 77) (by decide +kernel) rfl
theorem q112 : Cond.selects RX11 yX11_lay yX11_lay ∈ gw := gw_in (i := 112) (by decide +kernel) rfl
theorem q114 : Cond.selects RX11 yX11_distance yX11_distance ∈ gw := gw_in (i := 114) (by decide +kernel) rfl
theorem q116 : Cond.selects RX11 yX11_put yX11_put ∈ gw := gw_in (i := 116) (by decide +kernel) rfl
theorem q117 : Cond.selects RX11 yX11_set yX11_set ∈ gw := gw_in (i := 117) (by decide +kernel) rfl
theorem q118 : Cond.selects RX11 yX11_fix yX11_fix ∈ gw := gw_in (i := 118) (by decide +kernel) rfl
theorem q1658 : Cond.fieldLink RX11 175 "SegmentBenchModel" "there" "[Z" ∈ gw := gw_in (i := 1658) (by decide +kernel) rfl
theorem q1659 : Cond.fieldLink RX11 178 "SegmentBenchModel" "mSegments" "[I" ∈ gw := gw_in (i := 1659) (by decide +kernel) rfl
theorem q1660 : Cond.fieldLink RX11 181 "SegmentBenchModel" "mName" "[J" ∈ gw := gw_in (i := 1660) (by decide +kernel) rfl
theorem q1661 : Cond.fieldLink RX11 184 "SegmentBenchModel" "mAlign" "[I" ∈ gw := gw_in (i := 1661) (by decide +kernel) rfl
theorem q1662 : Cond.fieldLink RX11 187 "SegmentBenchModel" "mStart" "[I" ∈ gw := gw_in (i := 1662) (by decide +kernel) rfl
theorem q1663 : Cond.fieldLink RX11 190 "SegmentBenchModel" "mSize" "[I" ∈ gw := gw_in (i := 1663) (by decide +kernel) rfl
theorem q1664 : Cond.fieldLink RX11 193 "SegmentBenchModel" "mBytes" "[I" ∈ gw := gw_in (i := 1664) (by decide +kernel) rfl
theorem q1665 : Cond.fieldLink RX11 196 "SegmentBenchModel" "mFixups" "[I" ∈ gw := gw_in (i := 1665) (by decide +kernel) rfl
theorem q1666 : Cond.fieldLink RX11 199 "SegmentBenchModel" "fKind" "[I" ∈ gw := gw_in (i := 1666) (by decide +kernel) rfl
theorem q1667 : Cond.fieldLink RX11 202 "SegmentBenchModel" "fSegment" "[I" ∈ gw := gw_in (i := 1667) (by decide +kernel) rfl
theorem q1668 : Cond.fieldLink RX11 205 "SegmentBenchModel" "fPlace" "[I" ∈ gw := gw_in (i := 1668) (by decide +kernel) rfl
theorem q1669 : Cond.fieldLink RX11 208 "SegmentBenchModel" "fAbout" "[I" ∈ gw := gw_in (i := 1669) (by decide +kernel) rfl
theorem q1670 : Cond.fieldLink RX11 211 "SegmentBenchModel" "fName" "[J" ∈ gw := gw_in (i := 1670) (by decide +kernel) rfl
theorem q1671 : Cond.fieldLink RX11 214 "SegmentBenchModel" "mPublics" "[I" ∈ gw := gw_in (i := 1671) (by decide +kernel) rfl
theorem q1672 : Cond.fieldLink RX11 217 "SegmentBenchModel" "pName" "[J" ∈ gw := gw_in (i := 1672) (by decide +kernel) rfl
theorem q1673 : Cond.fieldLink RX11 220 "SegmentBenchModel" "pSegment" "[I" ∈ gw := gw_in (i := 1673) (by decide +kernel) rfl
theorem q1674 : Cond.fieldLink RX11 223 "SegmentBenchModel" "pOffset" "[I" ∈ gw := gw_in (i := 1674) (by decide +kernel) rfl
theorem q1880 : Cond.methodLink RX11 448 yX11_raise ∈ gw := gw_in (i := 1880) (by decide +kernel) rfl
theorem q1882 : Cond.instanceMethod yX11_raise ∈ gw := gw_in (i := 1882) (by decide +kernel) rfl
theorem q1883 : Cond.code yX11_raise cX11_raise 2 (some .int) ∈ gw := gw_in (i := 1883) (by decide +kernel) rfl
theorem q2035 : Cond.methodLink RX11 439 yX11_lay ∈ gw := gw_in (i := 2035) (by decide +kernel) rfl
theorem q2037 : Cond.instanceMethod yX11_lay ∈ gw := gw_in (i := 2037) (by decide +kernel) rfl
theorem q2038 : Cond.code yX11_lay cX11_lay 3 none ∈ gw := gw_in (i := 2038) (by decide +kernel) rfl
theorem q2043 : Cond.methodLink RX11 442 yX11_distance ∈ gw := gw_in (i := 2043) (by decide +kernel) rfl
theorem q2045 : Cond.instanceMethod yX11_distance ∈ gw := gw_in (i := 2045) (by decide +kernel) rfl
theorem q2046 : Cond.code yX11_distance cX11_distance 2 (some .int) ∈ gw := gw_in (i := 2046) (by decide +kernel) rfl
theorem q2047 : Cond.methodLink RX11 445 yX11_isShort ∈ gw := gw_in (i := 2047) (by decide +kernel) rfl
theorem q2048 : Cond.static yX11_isShort ∈ gw := gw_in (i := 2048) (by decide +kernel) rfl
theorem q2049 : Cond.code yX11_isShort cX11_isShort 1 (some .boolean) ∈ gw := gw_in (i := 2049) (by decide +kernel) rfl
theorem q2054 : Cond.methodLink RX11 467 yX11_put ∈ gw := gw_in (i := 2054) (by decide +kernel) rfl
theorem q2056 : Cond.instanceMethod yX11_put ∈ gw := gw_in (i := 2056) (by decide +kernel) rfl
theorem q2057 : Cond.code yX11_put cX11_put 9 none ∈ gw := gw_in (i := 2057) (by decide +kernel) rfl
theorem q2058 : Cond.methodLink RX11 470 yX11_set ∈ gw := gw_in (i := 2058) (by decide +kernel) rfl
theorem q2060 : Cond.instanceMethod yX11_set ∈ gw := gw_in (i := 2060) (by decide +kernel) rfl
theorem q2061 : Cond.code yX11_set cX11_set 5 none ∈ gw := gw_in (i := 2061) (by decide +kernel) rfl
theorem q2062 : Cond.methodLink RX11 473 yX11_fix ∈ gw := gw_in (i := 2062) (by decide +kernel) rfl
theorem q2064 : Cond.instanceMethod yX11_fix ∈ gw := gw_in (i := 2064) (by decide +kernel) rfl
theorem q2065 : Cond.code yX11_fix cX11_fix 7 none ∈ gw := gw_in (i := 2065) (by decide +kernel) rfl
theorem dX11_isShort_0 : decode cX11_isShort 0 = .ok (.iload_n 0, 1) := by decide +kernel
theorem dX11_isShort_1 : decode cX11_isShort 1 = .ok (.bipush (-128), 2) := by decide +kernel
theorem dX11_isShort_3 : decode cX11_isShort 3 = .ok (.if_icmp .lt 13, 3) := by decide +kernel
theorem dX11_isShort_6 : decode cX11_isShort 6 = .ok (.iload_n 0, 1) := by decide +kernel
theorem dX11_isShort_7 : decode cX11_isShort 7 = .ok (.bipush 127, 2) := by decide +kernel
theorem dX11_isShort_9 : decode cX11_isShort 9 = .ok (.if_icmp .gt 7, 3) := by decide +kernel
theorem dX11_isShort_12 : decode cX11_isShort 12 = .ok (.iconst 1, 1) := by decide +kernel
theorem dX11_isShort_13 : decode cX11_isShort 13 = .ok (.goto 4, 3) := by decide +kernel
theorem dX11_isShort_16 : decode cX11_isShort 16 = .ok (.iconst 0, 1) := by decide +kernel
theorem dX11_isShort_17 : decode cX11_isShort 17 = .ok (.ireturn, 1) := by decide +kernel
theorem dX11_settle_0 : decode cX11_settle 0 = .ok (.iconst 0, 1) := by decide +kernel
theorem dX11_settle_1 : decode cX11_settle 1 = .ok (.istore_n 1, 1) := by decide +kernel
theorem dX11_settle_2 : decode cX11_settle 2 = .ok (.iload_n 1, 1) := by decide +kernel
theorem dX11_settle_3 : decode cX11_settle 3 = .ok (.aload_n 0, 1) := by decide +kernel
theorem dX11_settle_4 : decode cX11_settle 4 = .ok (.getfield 324, 3) := by decide +kernel
theorem dX11_settle_7 : decode cX11_settle 7 = .ok (.if_icmp .ge 45, 3) := by decide +kernel
theorem dX11_settle_52 : decode cX11_settle 52 = .ok (.iconst 1, 1) := by decide +kernel
theorem dX11_settle_53 : decode cX11_settle 53 = .ok (.istore_n 1, 1) := by decide +kernel
theorem dX11_settle_10 : decode cX11_settle 10 = .ok (.aload_n 0, 1) := by decide +kernel
theorem dX11_settle_11 : decode cX11_settle 11 = .ok (.getfield 165, 3) := by decide +kernel
theorem dX11_settle_14 : decode cX11_settle 14 = .ok (.iload_n 1, 1) := by decide +kernel
theorem dX11_settle_15 : decode cX11_settle 15 = .ok (.aload_n 0, 1) := by decide +kernel
theorem dX11_settle_16 : decode cX11_settle 16 = .ok (.getfield 147, 3) := by decide +kernel
theorem dX11_settle_19 : decode cX11_settle 19 = .ok (.iload_n 1, 1) := by decide +kernel
theorem dX11_settle_20 : decode cX11_settle 20 = .ok (.iaload, 1) := by decide +kernel
theorem dX11_settle_21 : decode cX11_settle 21 = .ok (.iconst 4, 1) := by decide +kernel
theorem dX11_settle_22 : decode cX11_settle 22 = .ok (.if_icmp .ne 22, 3) := by decide +kernel
theorem dX11_settle_25 : decode cX11_settle 25 = .ok (.aload_n 0, 1) := by decide +kernel
theorem dX11_settle_26 : decode cX11_settle 26 = .ok (.getfield 123, 3) := by decide +kernel
theorem dX11_settle_29 : decode cX11_settle 29 = .ok (.aload_n 0, 1) := by decide +kernel
theorem dX11_settle_30 : decode cX11_settle 30 = .ok (.getfield 150, 3) := by decide +kernel
theorem dX11_settle_33 : decode cX11_settle 33 = .ok (.iload_n 1, 1) := by decide +kernel
theorem dX11_settle_34 : decode cX11_settle 34 = .ok (.iaload, 1) := by decide +kernel
theorem dX11_settle_35 : decode cX11_settle 35 = .ok (.iaload, 1) := by decide +kernel
theorem dX11_settle_36 : decode cX11_settle 36 = .ok (.iconst 3, 1) := by decide +kernel
theorem dX11_settle_37 : decode cX11_settle 37 = .ok (.if_icmp .ne 7, 3) := by decide +kernel
theorem dX11_settle_40 : decode cX11_settle 40 = .ok (.iconst 1, 1) := by decide +kernel
theorem dX11_settle_41 : decode cX11_settle 41 = .ok (.goto 4, 3) := by decide +kernel
theorem dX11_settle_54 : decode cX11_settle 54 = .ok (.iload_n 1, 1) := by decide +kernel
theorem dX11_settle_55 : decode cX11_settle 55 = .ok (.ifCond .eq 70, 3) := by decide +kernel
theorem dX11_settle_125 : decode cX11_settle 125 = .ok (.return_, 1) := by decide +kernel
theorem dX11_settle_58 : decode cX11_settle 58 = .ok (.iconst 0, 1) := by decide +kernel
theorem dX11_settle_59 : decode cX11_settle 59 = .ok (.istore_n 1, 1) := by decide +kernel
theorem dX11_settle_60 : decode cX11_settle 60 = .ok (.aload_n 0, 1) := by decide +kernel
theorem dX11_settle_61 : decode cX11_settle 61 = .ok (.invokevirtual 439, 3) := by decide +kernel
theorem dX11_settle_64 : decode cX11_settle 64 = .ok (.iconst 0, 1) := by decide +kernel
theorem dX11_settle_65 : decode cX11_settle 65 = .ok (.istore_n 2, 1) := by decide +kernel
theorem dX11_settle_44 : decode cX11_settle 44 = .ok (.iconst 0, 1) := by decide +kernel
theorem dX11_settle_45 : decode cX11_settle 45 = .ok (.bastore, 1) := by decide +kernel
theorem dX11_settle_46 : decode cX11_settle 46 = .ok (.iinc 1 1, 3) := by decide +kernel
theorem dX11_settle_49 : decode cX11_settle 49 = .ok (.goto (-47), 3) := by decide +kernel
theorem dX11_settle_66 : decode cX11_settle 66 = .ok (.iload_n 2, 1) := by decide +kernel
theorem dX11_settle_67 : decode cX11_settle 67 = .ok (.aload_n 0, 1) := by decide +kernel
theorem dX11_settle_68 : decode cX11_settle 68 = .ok (.getfield 324, 3) := by decide +kernel
theorem dX11_settle_71 : decode cX11_settle 71 = .ok (.if_icmp .ge 51, 3) := by decide +kernel
theorem dX11_settle_122 : decode cX11_settle 122 = .ok (.goto (-68), 3) := by decide +kernel
theorem dX11_settle_74 : decode cX11_settle 74 = .ok (.aload_n 0, 1) := by decide +kernel
theorem dX11_settle_75 : decode cX11_settle 75 = .ok (.getfield 147, 3) := by decide +kernel
theorem dX11_settle_78 : decode cX11_settle 78 = .ok (.iload_n 2, 1) := by decide +kernel
theorem dX11_settle_79 : decode cX11_settle 79 = .ok (.iaload, 1) := by decide +kernel
theorem dX11_settle_80 : decode cX11_settle 80 = .ok (.iconst 4, 1) := by decide +kernel
theorem dX11_settle_81 : decode cX11_settle 81 = .ok (.if_icmp .ne 35, 3) := by decide +kernel
theorem dX11_settle_84 : decode cX11_settle 84 = .ok (.aload_n 0, 1) := by decide +kernel
theorem dX11_settle_85 : decode cX11_settle 85 = .ok (.getfield 165, 3) := by decide +kernel
theorem dX11_settle_88 : decode cX11_settle 88 = .ok (.iload_n 2, 1) := by decide +kernel
theorem dX11_settle_89 : decode cX11_settle 89 = .ok (.baload, 1) := by decide +kernel
theorem dX11_settle_90 : decode cX11_settle 90 = .ok (.ifCond .ne 26, 3) := by decide +kernel
theorem dX11_settle_93 : decode cX11_settle 93 = .ok (.aload_n 0, 1) := by decide +kernel
theorem dX11_settle_94 : decode cX11_settle 94 = .ok (.iload_n 2, 1) := by decide +kernel
theorem dX11_settle_95 : decode cX11_settle 95 = .ok (.invokevirtual 442, 3) := by decide +kernel
theorem dX11_settle_98 : decode cX11_settle 98 = .ok (.invokestatic 445, 3) := by decide +kernel
theorem dX11_settle_101 : decode cX11_settle 101 = .ok (.ifCond .eq 6, 3) := by decide +kernel
theorem dX11_settle_107 : decode cX11_settle 107 = .ok (.aload_n 0, 1) := by decide +kernel
theorem dX11_settle_108 : decode cX11_settle 108 = .ok (.getfield 165, 3) := by decide +kernel
theorem dX11_settle_111 : decode cX11_settle 111 = .ok (.iload_n 2, 1) := by decide +kernel
theorem dX11_settle_112 : decode cX11_settle 112 = .ok (.iconst 1, 1) := by decide +kernel
theorem dX11_settle_113 : decode cX11_settle 113 = .ok (.bastore, 1) := by decide +kernel
theorem dX11_settle_114 : decode cX11_settle 114 = .ok (.iconst 1, 1) := by decide +kernel
theorem dX11_settle_115 : decode cX11_settle 115 = .ok (.istore_n 1, 1) := by decide +kernel
theorem dX11_settle_104 : decode cX11_settle 104 = .ok (.goto 12, 3) := by decide +kernel
theorem dX11_settle_116 : decode cX11_settle 116 = .ok (.iinc 2 1, 3) := by decide +kernel
theorem dX11_settle_119 : decode cX11_settle 119 = .ok (.goto (-53), 3) := by decide +kernel
theorem dX11_tell_0 : decode cX11_tell 0 = .ok (.aload_n 0, 1) := by decide +kernel
theorem dX11_tell_1 : decode cX11_tell 1 = .ok (.iload_n 1, 1) := by decide +kernel
theorem dX11_tell_2 : decode cX11_tell 2 = .ok (.putfield 13, 3) := by decide +kernel
theorem dX11_tell_5 : decode cX11_tell 5 = .ok (.aload_n 0, 1) := by decide +kernel
theorem dX11_tell_6 : decode cX11_tell 6 = .ok (.iload_n 2, 1) := by decide +kernel
theorem dX11_tell_7 : decode cX11_tell 7 = .ok (.putfield 17, 3) := by decide +kernel
theorem dX11_tell_10 : decode cX11_tell 10 = .ok (.aload_n 0, 1) := by decide +kernel
theorem dX11_tell_11 : decode cX11_tell 11 = .ok (.iload_n 3, 1) := by decide +kernel
theorem dX11_tell_12 : decode cX11_tell 12 = .ok (.invokevirtual 448, 3) := by decide +kernel
theorem dX11_tell_15 : decode cX11_tell 15 = .ok (.ireturn, 1) := by decide +kernel
theorem dX11_append_0 : decode cX11_append 0 = .ok (.aload_n 0, 1) := by decide +kernel
theorem dX11_append_1 : decode cX11_append 1 = .ok (.iconst 0, 1) := by decide +kernel
theorem dX11_append_2 : decode cX11_append 2 = .ok (.putfield 263, 3) := by decide +kernel
theorem dX11_append_5 : decode cX11_append 5 = .ok (.iload_n 3, 1) := by decide +kernel
theorem dX11_append_6 : decode cX11_append 6 = .ok (.iconst 1, 1) := by decide +kernel
theorem dX11_append_7 : decode cX11_append 7 = .ok (.if_icmp .lt 9, 3) := by decide +kernel
theorem dX11_append_10 : decode cX11_append 10 = .ok (.iload_n 3, 1) := by decide +kernel
theorem dX11_append_11 : decode cX11_append 11 = .ok (.bipush 8, 2) := by decide +kernel
theorem dX11_append_13 : decode cX11_append 13 = .ok (.if_icmp .le 9, 3) := by decide +kernel
theorem dX11_append_22 : decode cX11_append 22 = .ok (.iconst 0, 1) := by decide +kernel
theorem dX11_append_23 : decode cX11_append 23 = .ok (.istore 4, 2) := by decide +kernel
theorem dX11_append_16 : decode cX11_append 16 = .ok (.aload_n 0, 1) := by decide +kernel
theorem dX11_append_17 : decode cX11_append 17 = .ok (.iconst 1, 1) := by decide +kernel
theorem dX11_append_18 : decode cX11_append 18 = .ok (.invokevirtual 448, 3) := by decide +kernel
theorem dX11_append_21 : decode cX11_append 21 = .ok (.ireturn, 1) := by decide +kernel
theorem dX11_append_25 : decode cX11_append 25 = .ok (.iload 4, 2) := by decide +kernel
theorem dX11_append_27 : decode cX11_append 27 = .ok (.iload_n 3, 1) := by decide +kernel
theorem dX11_append_28 : decode cX11_append 28 = .ok (.if_icmp .ge 43, 3) := by decide +kernel
theorem dX11_append_71 : decode cX11_append 71 = .ok (.aload_n 0, 1) := by decide +kernel
theorem dX11_append_72 : decode cX11_append 72 = .ok (.getfield 266, 3) := by decide +kernel
theorem dX11_append_75 : decode cX11_append 75 = .ok (.iload_n 3, 1) := by decide +kernel
theorem dX11_append_76 : decode cX11_append 76 = .ok (.iadd, 1) := by decide +kernel
theorem dX11_append_77 : decode cX11_append 77 = .ok (.sipush 480, 3) := by decide +kernel
theorem dX11_append_80 : decode cX11_append 80 = .ok (.if_icmp .le 9, 3) := by decide +kernel
theorem dX11_append_89 : decode cX11_append 89 = .ok (.iload_n 3, 1) := by decide +kernel
theorem dX11_append_90 : decode cX11_append 90 = .ok (.iconst 1, 1) := by decide +kernel
theorem dX11_append_91 : decode cX11_append 91 = .ok (.isub, 1) := by decide +kernel
theorem dX11_append_92 : decode cX11_append 92 = .ok (.istore 4, 2) := by decide +kernel
theorem dX11_append_83 : decode cX11_append 83 = .ok (.aload_n 0, 1) := by decide +kernel
theorem dX11_append_84 : decode cX11_append 84 = .ok (.iconst 2, 1) := by decide +kernel
theorem dX11_append_85 : decode cX11_append 85 = .ok (.invokevirtual 448, 3) := by decide +kernel
theorem dX11_append_88 : decode cX11_append 88 = .ok (.ireturn, 1) := by decide +kernel
theorem dX11_append_31 : decode cX11_append 31 = .ok (.lload_n 1, 1) := by decide +kernel
theorem dX11_append_32 : decode cX11_append 32 = .ok (.bipush 8, 2) := by decide +kernel
theorem dX11_append_34 : decode cX11_append 34 = .ok (.iload 4, 2) := by decide +kernel
theorem dX11_append_36 : decode cX11_append 36 = .ok (.imul, 1) := by decide +kernel
theorem dX11_append_37 : decode cX11_append 37 = .ok (.lshr, 1) := by decide +kernel
theorem dX11_append_38 : decode cX11_append 38 = .ok (.l2i, 1) := by decide +kernel
theorem dX11_append_39 : decode cX11_append 39 = .ok (.sipush 255, 3) := by decide +kernel
theorem dX11_append_42 : decode cX11_append 42 = .ok (.iand, 1) := by decide +kernel
theorem dX11_append_43 : decode cX11_append 43 = .ok (.istore 5, 2) := by decide +kernel
theorem dX11_append_45 : decode cX11_append 45 = .ok (.iload 5, 2) := by decide +kernel
theorem dX11_append_47 : decode cX11_append 47 = .ok (.bipush 32, 2) := by decide +kernel
theorem dX11_append_49 : decode cX11_append 49 = .ok (.if_icmp .lt 10, 3) := by decide +kernel
theorem dX11_append_52 : decode cX11_append 52 = .ok (.iload 5, 2) := by decide +kernel
theorem dX11_append_54 : decode cX11_append 54 = .ok (.bipush 126, 2) := by decide +kernel
theorem dX11_append_56 : decode cX11_append 56 = .ok (.if_icmp .le 9, 3) := by decide +kernel
theorem dX11_append_65 : decode cX11_append 65 = .ok (.iinc 4 1, 3) := by decide +kernel
theorem dX11_append_68 : decode cX11_append 68 = .ok (.goto (-43), 3) := by decide +kernel
theorem dX11_append_94 : decode cX11_append 94 = .ok (.iload 4, 2) := by decide +kernel
theorem dX11_append_96 : decode cX11_append 96 = .ok (.ifCond .lt 40, 3) := by decide +kernel
theorem dX11_append_136 : decode cX11_append 136 = .ok (.aload_n 0, 1) := by decide +kernel
theorem dX11_append_137 : decode cX11_append 137 = .ok (.getfield 266, 3) := by decide +kernel
theorem dX11_append_140 : decode cX11_append 140 = .ok (.ireturn, 1) := by decide +kernel
theorem dX11_append_99 : decode cX11_append 99 = .ok (.aload_n 0, 1) := by decide +kernel
theorem dX11_append_100 : decode cX11_append 100 = .ok (.getfield 7, 3) := by decide +kernel
theorem dX11_append_103 : decode cX11_append 103 = .ok (.aload_n 0, 1) := by decide +kernel
theorem dX11_append_104 : decode cX11_append 104 = .ok (.getfield 266, 3) := by decide +kernel
theorem dX11_append_107 : decode cX11_append 107 = .ok (.lload_n 1, 1) := by decide +kernel
theorem dX11_append_108 : decode cX11_append 108 = .ok (.bipush 8, 2) := by decide +kernel
theorem dX11_append_110 : decode cX11_append 110 = .ok (.iload 4, 2) := by decide +kernel
theorem dX11_append_112 : decode cX11_append 112 = .ok (.imul, 1) := by decide +kernel
theorem dX11_append_113 : decode cX11_append 113 = .ok (.lshr, 1) := by decide +kernel
theorem dX11_append_114 : decode cX11_append 114 = .ok (.l2i, 1) := by decide +kernel
theorem dX11_append_115 : decode cX11_append 115 = .ok (.sipush 255, 3) := by decide +kernel
theorem dX11_append_118 : decode cX11_append 118 = .ok (.iand, 1) := by decide +kernel
theorem dX11_append_119 : decode cX11_append 119 = .ok (.iastore, 1) := by decide +kernel
theorem dX11_append_120 : decode cX11_append 120 = .ok (.aload_n 0, 1) := by decide +kernel
theorem dX11_append_121 : decode cX11_append 121 = .ok (.dup, 1) := by decide +kernel
theorem dX11_append_122 : decode cX11_append 122 = .ok (.getfield 266, 3) := by decide +kernel
theorem dX11_append_125 : decode cX11_append 125 = .ok (.iconst 1, 1) := by decide +kernel
theorem dX11_append_126 : decode cX11_append 126 = .ok (.iadd, 1) := by decide +kernel
theorem dX11_append_127 : decode cX11_append 127 = .ok (.putfield 266, 3) := by decide +kernel
theorem dX11_append_130 : decode cX11_append 130 = .ok (.iinc 4 (-1), 3) := by decide +kernel
theorem dX11_append_133 : decode cX11_append 133 = .ok (.goto (-39), 3) := by decide +kernel
theorem dX11_append_59 : decode cX11_append 59 = .ok (.aload_n 0, 1) := by decide +kernel
theorem dX11_append_60 : decode cX11_append 60 = .ok (.iconst 1, 1) := by decide +kernel
theorem dX11_append_61 : decode cX11_append 61 = .ok (.invokevirtual 448, 3) := by decide +kernel
theorem dX11_append_64 : decode cX11_append 64 = .ok (.ireturn, 1) := by decide +kernel
theorem dX11_set_0 : decode cX11_set 0 = .ok (.aload_n 0, 1) := by decide +kernel
theorem dX11_set_1 : decode cX11_set 1 = .ok (.getfield 193, 3) := by decide +kernel
theorem dX11_set_4 : decode cX11_set 4 = .ok (.sipush 400, 3) := by decide +kernel
theorem dX11_set_7 : decode cX11_set 7 = .ok (.iload_n 1, 1) := by decide +kernel
theorem dX11_set_8 : decode cX11_set 8 = .ok (.imul, 1) := by decide +kernel
theorem dX11_set_9 : decode cX11_set 9 = .ok (.aload_n 0, 1) := by decide +kernel
theorem dX11_set_10 : decode cX11_set 10 = .ok (.getfield 187, 3) := by decide +kernel
theorem dX11_set_13 : decode cX11_set 13 = .ok (.bipush 24, 2) := by decide +kernel
theorem dX11_set_15 : decode cX11_set 15 = .ok (.iload_n 1, 1) := by decide +kernel
theorem dX11_set_16 : decode cX11_set 16 = .ok (.imul, 1) := by decide +kernel
theorem dX11_set_17 : decode cX11_set 17 = .ok (.iload_n 2, 1) := by decide +kernel
theorem dX11_set_18 : decode cX11_set 18 = .ok (.iadd, 1) := by decide +kernel
theorem dX11_set_19 : decode cX11_set 19 = .ok (.iaload, 1) := by decide +kernel
theorem dX11_set_20 : decode cX11_set 20 = .ok (.iadd, 1) := by decide +kernel
theorem dX11_set_21 : decode cX11_set 21 = .ok (.iload_n 3, 1) := by decide +kernel
theorem dX11_set_22 : decode cX11_set 22 = .ok (.iadd, 1) := by decide +kernel
theorem dX11_set_23 : decode cX11_set 23 = .ok (.iload 4, 2) := by decide +kernel
theorem dX11_set_25 : decode cX11_set 25 = .ok (.sipush 255, 3) := by decide +kernel
theorem dX11_set_28 : decode cX11_set 28 = .ok (.iand, 1) := by decide +kernel
theorem dX11_set_29 : decode cX11_set 29 = .ok (.iastore, 1) := by decide +kernel
theorem dX11_set_30 : decode cX11_set 30 = .ok (.return_, 1) := by decide +kernel
theorem dX11_fix_0 : decode cX11_fix 0 = .ok (.sipush 200, 3) := by decide +kernel
theorem dX11_fix_3 : decode cX11_fix 3 = .ok (.iload_n 1, 1) := by decide +kernel
theorem dX11_fix_4 : decode cX11_fix 4 = .ok (.imul, 1) := by decide +kernel
theorem dX11_fix_5 : decode cX11_fix 5 = .ok (.aload_n 0, 1) := by decide +kernel
theorem dX11_fix_6 : decode cX11_fix 6 = .ok (.getfield 196, 3) := by decide +kernel
theorem dX11_fix_9 : decode cX11_fix 9 = .ok (.iload_n 1, 1) := by decide +kernel
theorem dX11_fix_10 : decode cX11_fix 10 = .ok (.iaload, 1) := by decide +kernel
theorem dX11_fix_11 : decode cX11_fix 11 = .ok (.iadd, 1) := by decide +kernel
theorem dX11_fix_12 : decode cX11_fix 12 = .ok (.istore 6, 2) := by decide +kernel
theorem dX11_fix_14 : decode cX11_fix 14 = .ok (.aload_n 0, 1) := by decide +kernel
theorem dX11_fix_15 : decode cX11_fix 15 = .ok (.getfield 199, 3) := by decide +kernel
theorem dX11_fix_18 : decode cX11_fix 18 = .ok (.iload 6, 2) := by decide +kernel
theorem dX11_fix_20 : decode cX11_fix 20 = .ok (.iload_n 2, 1) := by decide +kernel
theorem dX11_fix_21 : decode cX11_fix 21 = .ok (.iastore, 1) := by decide +kernel
theorem dX11_fix_22 : decode cX11_fix 22 = .ok (.aload_n 0, 1) := by decide +kernel
theorem dX11_fix_23 : decode cX11_fix 23 = .ok (.getfield 202, 3) := by decide +kernel
theorem dX11_fix_26 : decode cX11_fix 26 = .ok (.iload 6, 2) := by decide +kernel
theorem dX11_fix_28 : decode cX11_fix 28 = .ok (.iload_n 3, 1) := by decide +kernel
theorem dX11_fix_29 : decode cX11_fix 29 = .ok (.iastore, 1) := by decide +kernel
theorem dX11_fix_30 : decode cX11_fix 30 = .ok (.aload_n 0, 1) := by decide +kernel
theorem dX11_fix_31 : decode cX11_fix 31 = .ok (.getfield 205, 3) := by decide +kernel
theorem dX11_fix_34 : decode cX11_fix 34 = .ok (.iload 6, 2) := by decide +kernel
theorem dX11_fix_36 : decode cX11_fix 36 = .ok (.iload 4, 2) := by decide +kernel
theorem dX11_fix_38 : decode cX11_fix 38 = .ok (.iastore, 1) := by decide +kernel
theorem dX11_fix_39 : decode cX11_fix 39 = .ok (.aload_n 0, 1) := by decide +kernel
theorem dX11_fix_40 : decode cX11_fix 40 = .ok (.getfield 208, 3) := by decide +kernel
theorem dX11_fix_43 : decode cX11_fix 43 = .ok (.iload 6, 2) := by decide +kernel
theorem dX11_fix_45 : decode cX11_fix 45 = .ok (.aload_n 0, 1) := by decide +kernel
theorem dX11_fix_46 : decode cX11_fix 46 = .ok (.getfield 123, 3) := by decide +kernel
theorem dX11_fix_49 : decode cX11_fix 49 = .ok (.iload 5, 2) := by decide +kernel
theorem dX11_fix_51 : decode cX11_fix 51 = .ok (.iaload, 1) := by decide +kernel
theorem dX11_fix_52 : decode cX11_fix 52 = .ok (.iconst 3, 1) := by decide +kernel
theorem dX11_fix_53 : decode cX11_fix 53 = .ok (.if_icmp .ne 7, 3) := by decide +kernel
theorem dX11_fix_60 : decode cX11_fix 60 = .ok (.aload_n 0, 1) := by decide +kernel
theorem dX11_fix_61 : decode cX11_fix 61 = .ok (.getfield 126, 3) := by decide +kernel
theorem dX11_fix_64 : decode cX11_fix 64 = .ok (.iload 5, 2) := by decide +kernel
theorem dX11_fix_66 : decode cX11_fix 66 = .ok (.iaload, 1) := by decide +kernel
theorem dX11_fix_56 : decode cX11_fix 56 = .ok (.iconst (-1), 1) := by decide +kernel
theorem dX11_fix_57 : decode cX11_fix 57 = .ok (.goto 10, 3) := by decide +kernel
theorem dX11_fix_67 : decode cX11_fix 67 = .ok (.iastore, 1) := by decide +kernel
theorem dX11_fix_68 : decode cX11_fix 68 = .ok (.aload_n 0, 1) := by decide +kernel
theorem dX11_fix_69 : decode cX11_fix 69 = .ok (.getfield 211, 3) := by decide +kernel
theorem dX11_fix_72 : decode cX11_fix 72 = .ok (.iload 6, 2) := by decide +kernel
theorem dX11_fix_74 : decode cX11_fix 74 = .ok (.aload_n 0, 1) := by decide +kernel
theorem dX11_fix_75 : decode cX11_fix 75 = .ok (.getfield 120, 3) := by decide +kernel
theorem dX11_fix_78 : decode cX11_fix 78 = .ok (.iload 5, 2) := by decide +kernel
theorem dX11_fix_80 : decode cX11_fix 80 = .ok (.laload, 1) := by decide +kernel
theorem dX11_fix_81 : decode cX11_fix 81 = .ok (.lastore, 1) := by decide +kernel
theorem dX11_fix_82 : decode cX11_fix 82 = .ok (.aload_n 0, 1) := by decide +kernel
theorem dX11_fix_83 : decode cX11_fix 83 = .ok (.getfield 196, 3) := by decide +kernel
theorem dX11_fix_86 : decode cX11_fix 86 = .ok (.iload_n 1, 1) := by decide +kernel
theorem dX11_fix_87 : decode cX11_fix 87 = .ok (.dup2, 1) := by decide +kernel
theorem dX11_fix_88 : decode cX11_fix 88 = .ok (.iaload, 1) := by decide +kernel
theorem dX11_fix_89 : decode cX11_fix 89 = .ok (.iconst 1, 1) := by decide +kernel
theorem dX11_fix_90 : decode cX11_fix 90 = .ok (.iadd, 1) := by decide +kernel
theorem dX11_fix_91 : decode cX11_fix 91 = .ok (.iastore, 1) := by decide +kernel
theorem dX11_fix_92 : decode cX11_fix 92 = .ok (.return_, 1) := by decide +kernel
theorem dX11_put_0 : decode cX11_put 0 = .ok (.aload_n 0, 1) := by decide +kernel
theorem dX11_put_1 : decode cX11_put 1 = .ok (.getfield 159, 3) := by decide +kernel
theorem dX11_put_4 : decode cX11_put 4 = .ok (.iload_n 2, 1) := by decide +kernel
theorem dX11_put_5 : decode cX11_put 5 = .ok (.iaload, 1) := by decide +kernel
theorem dX11_put_6 : decode cX11_put 6 = .ok (.istore_n 3, 1) := by decide +kernel
theorem dX11_put_7 : decode cX11_put 7 = .ok (.aload_n 0, 1) := by decide +kernel
theorem dX11_put_8 : decode cX11_put 8 = .ok (.getfield 162, 3) := by decide +kernel
theorem dX11_put_11 : decode cX11_put 11 = .ok (.iload_n 2, 1) := by decide +kernel
theorem dX11_put_12 : decode cX11_put 12 = .ok (.iaload, 1) := by decide +kernel
theorem dX11_put_13 : decode cX11_put 13 = .ok (.istore 4, 2) := by decide +kernel
theorem dX11_put_15 : decode cX11_put 15 = .ok (.aload_n 0, 1) := by decide +kernel
theorem dX11_put_16 : decode cX11_put 16 = .ok (.getfield 150, 3) := by decide +kernel
theorem dX11_put_19 : decode cX11_put 19 = .ok (.iload_n 2, 1) := by decide +kernel
theorem dX11_put_20 : decode cX11_put 20 = .ok (.iaload, 1) := by decide +kernel
theorem dX11_put_21 : decode cX11_put 21 = .ok (.istore 5, 2) := by decide +kernel
theorem dX11_put_23 : decode cX11_put 23 = .ok (.iconst 0, 1) := by decide +kernel
theorem dX11_put_24 : decode cX11_put 24 = .ok (.istore 6, 2) := by decide +kernel
theorem dX11_put_26 : decode cX11_put 26 = .ok (.iconst 0, 1) := by decide +kernel
theorem dX11_put_27 : decode cX11_put 27 = .ok (.istore 7, 2) := by decide +kernel
theorem dX11_put_29 : decode cX11_put 29 = .ok (.aload_n 0, 1) := by decide +kernel
theorem dX11_put_30 : decode cX11_put 30 = .ok (.getfield 147, 3) := by decide +kernel
theorem dX11_put_33 : decode cX11_put 33 = .ok (.iload_n 2, 1) := by decide +kernel
theorem dX11_put_34 : decode cX11_put 34 = .ok (.iaload, 1) := by decide +kernel
theorem dX11_put_35 : decode cX11_put 35 = .ok (.tableswitch 284 0 6 #[41, 52, 59, 104, 148, 118, 148], 41) := by decide +kernel
theorem dX11_put_76 : decode cX11_put 76 = .ok (.aload_n 0, 1) := by decide +kernel
theorem dX11_put_77 : decode cX11_put 77 = .ok (.iload_n 1, 1) := by decide +kernel
theorem dX11_put_78 : decode cX11_put 78 = .ok (.iload_n 3, 1) := by decide +kernel
theorem dX11_put_79 : decode cX11_put 79 = .ok (.iload 4, 2) := by decide +kernel
theorem dX11_put_81 : decode cX11_put 81 = .ok (.iload 5, 2) := by decide +kernel
theorem dX11_put_83 : decode cX11_put 83 = .ok (.invokevirtual 470, 3) := by decide +kernel
theorem dX11_put_86 : decode cX11_put 86 = .ok (.return_, 1) := by decide +kernel
theorem dX11_put_87 : decode cX11_put 87 = .ok (.iload 5, 2) := by decide +kernel
theorem dX11_put_89 : decode cX11_put 89 = .ok (.istore 6, 2) := by decide +kernel
theorem dX11_put_91 : decode cX11_put 91 = .ok (.goto 229, 3) := by decide +kernel
theorem dX11_put_94 : decode cX11_put 94 = .ok (.aload_n 0, 1) := by decide +kernel
theorem dX11_put_95 : decode cX11_put 95 = .ok (.getfield 153, 3) := by decide +kernel
theorem dX11_put_98 : decode cX11_put 98 = .ok (.iload_n 2, 1) := by decide +kernel
theorem dX11_put_99 : decode cX11_put 99 = .ok (.iaload, 1) := by decide +kernel
theorem dX11_put_100 : decode cX11_put 100 = .ok (.aload_n 0, 1) := by decide +kernel
theorem dX11_put_101 : decode cX11_put 101 = .ok (.getfield 123, 3) := by decide +kernel
theorem dX11_put_104 : decode cX11_put 104 = .ok (.iload 5, 2) := by decide +kernel
theorem dX11_put_106 : decode cX11_put 106 = .ok (.iaload, 1) := by decide +kernel
theorem dX11_put_107 : decode cX11_put 107 = .ok (.iconst 2, 1) := by decide +kernel
theorem dX11_put_108 : decode cX11_put 108 = .ok (.if_icmp .ne 13, 3) := by decide +kernel
theorem dX11_put_121 : decode cX11_put 121 = .ok (.iconst 0, 1) := by decide +kernel
theorem dX11_put_111 : decode cX11_put 111 = .ok (.aload_n 0, 1) := by decide +kernel
theorem dX11_put_112 : decode cX11_put 112 = .ok (.getfield 132, 3) := by decide +kernel
theorem dX11_put_115 : decode cX11_put 115 = .ok (.iload 5, 2) := by decide +kernel
theorem dX11_put_117 : decode cX11_put 117 = .ok (.iaload, 1) := by decide +kernel
theorem dX11_put_118 : decode cX11_put 118 = .ok (.goto 4, 3) := by decide +kernel
theorem dX11_put_139 : decode cX11_put 139 = .ok (.aload_n 0, 1) := by decide +kernel
theorem dX11_put_140 : decode cX11_put 140 = .ok (.iload_n 1, 1) := by decide +kernel
theorem dX11_put_141 : decode cX11_put 141 = .ok (.iconst 1, 1) := by decide +kernel
theorem dX11_put_142 : decode cX11_put 142 = .ok (.iload_n 3, 1) := by decide +kernel
theorem dX11_put_143 : decode cX11_put 143 = .ok (.iload 4, 2) := by decide +kernel
theorem dX11_put_145 : decode cX11_put 145 = .ok (.iload 5, 2) := by decide +kernel
theorem dX11_put_147 : decode cX11_put 147 = .ok (.invokevirtual 473, 3) := by decide +kernel
theorem dX11_put_150 : decode cX11_put 150 = .ok (.goto 170, 3) := by decide +kernel
theorem dX11_put_153 : decode cX11_put 153 = .ok (.aload_n 0, 1) := by decide +kernel
theorem dX11_put_154 : decode cX11_put 154 = .ok (.iload_n 1, 1) := by decide +kernel
theorem dX11_put_155 : decode cX11_put 155 = .ok (.iload_n 3, 1) := by decide +kernel
theorem dX11_put_156 : decode cX11_put 156 = .ok (.iload 4, 2) := by decide +kernel
theorem dX11_put_158 : decode cX11_put 158 = .ok (.aload_n 0, 1) := by decide +kernel
theorem dX11_put_159 : decode cX11_put 159 = .ok (.getfield 153, 3) := by decide +kernel
theorem dX11_put_162 : decode cX11_put 162 = .ok (.iload_n 2, 1) := by decide +kernel
theorem dX11_put_163 : decode cX11_put 163 = .ok (.iaload, 1) := by decide +kernel
theorem dX11_put_164 : decode cX11_put 164 = .ok (.invokevirtual 470, 3) := by decide +kernel
theorem dX11_put_167 : decode cX11_put 167 = .ok (.aload_n 0, 1) := by decide +kernel
theorem dX11_put_168 : decode cX11_put 168 = .ok (.iload_n 1, 1) := by decide +kernel
theorem dX11_put_169 : decode cX11_put 169 = .ok (.iload_n 3, 1) := by decide +kernel
theorem dX11_put_170 : decode cX11_put 170 = .ok (.iload 4, 2) := by decide +kernel
theorem dX11_put_172 : decode cX11_put 172 = .ok (.iconst 1, 1) := by decide +kernel
theorem dX11_put_173 : decode cX11_put 173 = .ok (.iadd, 1) := by decide +kernel
theorem dX11_put_174 : decode cX11_put 174 = .ok (.aload_n 0, 1) := by decide +kernel
theorem dX11_put_175 : decode cX11_put 175 = .ok (.iload_n 2, 1) := by decide +kernel
theorem dX11_put_176 : decode cX11_put 176 = .ok (.invokevirtual 442, 3) := by decide +kernel
theorem dX11_put_179 : decode cX11_put 179 = .ok (.invokevirtual 470, 3) := by decide +kernel
theorem dX11_put_182 : decode cX11_put 182 = .ok (.return_, 1) := by decide +kernel
theorem dX11_put_319 : decode cX11_put 319 = .ok (.return_, 1) := by decide +kernel
theorem dX11_put_320 : decode cX11_put 320 = .ok (.aload_n 0, 1) := by decide +kernel
theorem dX11_put_321 : decode cX11_put 321 = .ok (.iload_n 1, 1) := by decide +kernel
theorem dX11_put_322 : decode cX11_put 322 = .ok (.iload_n 3, 1) := by decide +kernel
theorem dX11_put_323 : decode cX11_put 323 = .ok (.iload 4, 2) := by decide +kernel
theorem dX11_put_325 : decode cX11_put 325 = .ok (.iload 7, 2) := by decide +kernel
theorem dX11_put_327 : decode cX11_put 327 = .ok (.iadd, 1) := by decide +kernel
theorem dX11_put_328 : decode cX11_put 328 = .ok (.iload 6, 2) := by decide +kernel
theorem dX11_put_330 : decode cX11_put 330 = .ok (.invokevirtual 470, 3) := by decide +kernel
theorem dX11_put_333 : decode cX11_put 333 = .ok (.aload_n 0, 1) := by decide +kernel
theorem dX11_put_334 : decode cX11_put 334 = .ok (.iload_n 1, 1) := by decide +kernel
theorem dX11_put_335 : decode cX11_put 335 = .ok (.iload_n 3, 1) := by decide +kernel
theorem dX11_put_336 : decode cX11_put 336 = .ok (.iload 4, 2) := by decide +kernel
theorem dX11_put_338 : decode cX11_put 338 = .ok (.iload 7, 2) := by decide +kernel
theorem dX11_put_340 : decode cX11_put 340 = .ok (.iadd, 1) := by decide +kernel
theorem dX11_put_341 : decode cX11_put 341 = .ok (.iconst 1, 1) := by decide +kernel
theorem dX11_put_342 : decode cX11_put 342 = .ok (.iadd, 1) := by decide +kernel
theorem dX11_put_343 : decode cX11_put 343 = .ok (.iload 6, 2) := by decide +kernel
theorem dX11_put_345 : decode cX11_put 345 = .ok (.bipush 8, 2) := by decide +kernel
theorem dX11_put_347 : decode cX11_put 347 = .ok (.ishr, 1) := by decide +kernel
theorem dX11_put_348 : decode cX11_put 348 = .ok (.invokevirtual 470, 3) := by decide +kernel
theorem dX11_put_351 : decode cX11_put 351 = .ok (.return_, 1) := by decide +kernel
theorem dX11_put_122 : decode cX11_put 122 = .ok (.iadd, 1) := by decide +kernel
theorem dX11_put_123 : decode cX11_put 123 = .ok (.istore 6, 2) := by decide +kernel
theorem dX11_put_125 : decode cX11_put 125 = .ok (.aload_n 0, 1) := by decide +kernel
theorem dX11_put_126 : decode cX11_put 126 = .ok (.iload_n 1, 1) := by decide +kernel
theorem dX11_put_127 : decode cX11_put 127 = .ok (.iconst 0, 1) := by decide +kernel
theorem dX11_put_128 : decode cX11_put 128 = .ok (.iload_n 3, 1) := by decide +kernel
theorem dX11_put_129 : decode cX11_put 129 = .ok (.iload 4, 2) := by decide +kernel
theorem dX11_put_131 : decode cX11_put 131 = .ok (.iload 5, 2) := by decide +kernel
theorem dX11_put_133 : decode cX11_put 133 = .ok (.invokevirtual 473, 3) := by decide +kernel
theorem dX11_put_136 : decode cX11_put 136 = .ok (.goto 184, 3) := by decide +kernel
theorem dX11_put_183 : decode cX11_put 183 = .ok (.aload_n 0, 1) := by decide +kernel
theorem dX11_put_184 : decode cX11_put 184 = .ok (.getfield 147, 3) := by decide +kernel
theorem dX11_put_187 : decode cX11_put 187 = .ok (.iload_n 2, 1) := by decide +kernel
theorem dX11_put_188 : decode cX11_put 188 = .ok (.iaload, 1) := by decide +kernel
theorem dX11_put_189 : decode cX11_put 189 = .ok (.bipush 6, 2) := by decide +kernel
theorem dX11_put_191 : decode cX11_put 191 = .ok (.if_icmp .eq 12, 3) := by decide +kernel
theorem dX11_put_194 : decode cX11_put 194 = .ok (.aload_n 0, 1) := by decide +kernel
theorem dX11_put_195 : decode cX11_put 195 = .ok (.getfield 165, 3) := by decide +kernel
theorem dX11_put_198 : decode cX11_put 198 = .ok (.iload_n 2, 1) := by decide +kernel
theorem dX11_put_199 : decode cX11_put 199 = .ok (.baload, 1) := by decide +kernel
theorem dX11_put_200 : decode cX11_put 200 = .ok (.ifCond .eq 7, 3) := by decide +kernel
theorem dX11_put_207 : decode cX11_put 207 = .ok (.iconst 0, 1) := by decide +kernel
theorem dX11_put_203 : decode cX11_put 203 = .ok (.iconst 1, 1) := by decide +kernel
theorem dX11_put_204 : decode cX11_put 204 = .ok (.goto 4, 3) := by decide +kernel
theorem dX11_put_208 : decode cX11_put 208 = .ok (.istore 8, 2) := by decide +kernel
theorem dX11_put_210 : decode cX11_put 210 = .ok (.aload_n 0, 1) := by decide +kernel
theorem dX11_put_211 : decode cX11_put 211 = .ok (.iload_n 1, 1) := by decide +kernel
theorem dX11_put_212 : decode cX11_put 212 = .ok (.iload_n 3, 1) := by decide +kernel
theorem dX11_put_213 : decode cX11_put 213 = .ok (.iload 4, 2) := by decide +kernel
theorem dX11_put_215 : decode cX11_put 215 = .ok (.aload_n 0, 1) := by decide +kernel
theorem dX11_put_216 : decode cX11_put 216 = .ok (.getfield 147, 3) := by decide +kernel
theorem dX11_put_219 : decode cX11_put 219 = .ok (.iload_n 2, 1) := by decide +kernel
theorem dX11_put_220 : decode cX11_put 220 = .ok (.iaload, 1) := by decide +kernel
theorem dX11_put_221 : decode cX11_put 221 = .ok (.bipush 6, 2) := by decide +kernel
theorem dX11_put_223 : decode cX11_put 223 = .ok (.if_icmp .ne 9, 3) := by decide +kernel
theorem dX11_put_232 : decode cX11_put 232 = .ok (.iload 8, 2) := by decide +kernel
theorem dX11_put_234 : decode cX11_put 234 = .ok (.ifCond .eq 9, 3) := by decide +kernel
theorem dX11_put_243 : decode cX11_put 243 = .ok (.sipush 235, 3) := by decide +kernel
theorem dX11_put_237 : decode cX11_put 237 = .ok (.sipush 233, 3) := by decide +kernel
theorem dX11_put_240 : decode cX11_put 240 = .ok (.goto 6, 3) := by decide +kernel
theorem dX11_put_226 : decode cX11_put 226 = .ok (.sipush 232, 3) := by decide +kernel
theorem dX11_put_229 : decode cX11_put 229 = .ok (.goto 17, 3) := by decide +kernel
theorem dX11_put_246 : decode cX11_put 246 = .ok (.invokevirtual 470, 3) := by decide +kernel
theorem dX11_put_249 : decode cX11_put 249 = .ok (.aload_n 0, 1) := by decide +kernel
theorem dX11_put_250 : decode cX11_put 250 = .ok (.getfield 123, 3) := by decide +kernel
theorem dX11_put_253 : decode cX11_put 253 = .ok (.iload 5, 2) := by decide +kernel
theorem dX11_put_255 : decode cX11_put 255 = .ok (.iaload, 1) := by decide +kernel
theorem dX11_put_256 : decode cX11_put 256 = .ok (.iconst 3, 1) := by decide +kernel
theorem dX11_put_257 : decode cX11_put 257 = .ok (.if_icmp .ne 7, 3) := by decide +kernel
theorem dX11_put_264 : decode cX11_put 264 = .ok (.aload_n 0, 1) := by decide +kernel
theorem dX11_put_265 : decode cX11_put 265 = .ok (.iload_n 2, 1) := by decide +kernel
theorem dX11_put_266 : decode cX11_put 266 = .ok (.invokevirtual 442, 3) := by decide +kernel
theorem dX11_put_260 : decode cX11_put 260 = .ok (.iconst 0, 1) := by decide +kernel
theorem dX11_put_261 : decode cX11_put 261 = .ok (.goto 8, 3) := by decide +kernel
theorem dX11_put_269 : decode cX11_put 269 = .ok (.istore 6, 2) := by decide +kernel
theorem dX11_put_271 : decode cX11_put 271 = .ok (.aload_n 0, 1) := by decide +kernel
theorem dX11_put_272 : decode cX11_put 272 = .ok (.getfield 123, 3) := by decide +kernel
theorem dX11_put_275 : decode cX11_put 275 = .ok (.iload 5, 2) := by decide +kernel
theorem dX11_put_277 : decode cX11_put 277 = .ok (.iaload, 1) := by decide +kernel
theorem dX11_put_278 : decode cX11_put 278 = .ok (.iconst 3, 1) := by decide +kernel
theorem dX11_put_279 : decode cX11_put 279 = .ok (.if_icmp .ne 16, 3) := by decide +kernel
theorem dX11_put_282 : decode cX11_put 282 = .ok (.aload_n 0, 1) := by decide +kernel
theorem dX11_put_283 : decode cX11_put 283 = .ok (.iload_n 1, 1) := by decide +kernel
theorem dX11_put_284 : decode cX11_put 284 = .ok (.iconst 2, 1) := by decide +kernel
theorem dX11_put_285 : decode cX11_put 285 = .ok (.iload_n 3, 1) := by decide +kernel
theorem dX11_put_286 : decode cX11_put 286 = .ok (.iload 4, 2) := by decide +kernel
theorem dX11_put_288 : decode cX11_put 288 = .ok (.iconst 1, 1) := by decide +kernel
theorem dX11_put_289 : decode cX11_put 289 = .ok (.iadd, 1) := by decide +kernel
theorem dX11_put_290 : decode cX11_put 290 = .ok (.iload 5, 2) := by decide +kernel
theorem dX11_put_292 : decode cX11_put 292 = .ok (.invokevirtual 473, 3) := by decide +kernel
theorem dX11_put_295 : decode cX11_put 295 = .ok (.iload 8, 2) := by decide +kernel
theorem dX11_put_297 : decode cX11_put 297 = .ok (.ifCond .ne 16, 3) := by decide +kernel
theorem dX11_put_313 : decode cX11_put 313 = .ok (.iconst 1, 1) := by decide +kernel
theorem dX11_put_314 : decode cX11_put 314 = .ok (.istore 7, 2) := by decide +kernel
theorem dX11_put_316 : decode cX11_put 316 = .ok (.goto 4, 3) := by decide +kernel
theorem dX11_put_300 : decode cX11_put 300 = .ok (.aload_n 0, 1) := by decide +kernel
theorem dX11_put_301 : decode cX11_put 301 = .ok (.iload_n 1, 1) := by decide +kernel
theorem dX11_put_302 : decode cX11_put 302 = .ok (.iload_n 3, 1) := by decide +kernel
theorem dX11_put_303 : decode cX11_put 303 = .ok (.iload 4, 2) := by decide +kernel
theorem dX11_put_305 : decode cX11_put 305 = .ok (.iconst 1, 1) := by decide +kernel
theorem dX11_put_306 : decode cX11_put 306 = .ok (.iadd, 1) := by decide +kernel
theorem dX11_put_307 : decode cX11_put 307 = .ok (.iload 6, 2) := by decide +kernel
theorem dX11_put_309 : decode cX11_put 309 = .ok (.invokevirtual 470, 3) := by decide +kernel
theorem dX11_put_312 : decode cX11_put 312 = .ok (.return_, 1) := by decide +kernel
theorem dX11_write_0 : decode cX11_write 0 = .ok (.aload_n 0, 1) := by decide +kernel
theorem dX11_write_1 : decode cX11_write 1 = .ok (.getfield 175, 3) := by decide +kernel
theorem dX11_write_4 : decode cX11_write 4 = .ok (.iload_n 1, 1) := by decide +kernel
theorem dX11_write_5 : decode cX11_write 5 = .ok (.iconst 1, 1) := by decide +kernel
theorem dX11_write_6 : decode cX11_write 6 = .ok (.bastore, 1) := by decide +kernel
theorem dX11_write_7 : decode cX11_write 7 = .ok (.aload_n 0, 1) := by decide +kernel
theorem dX11_write_8 : decode cX11_write 8 = .ok (.getfield 178, 3) := by decide +kernel
theorem dX11_write_11 : decode cX11_write 11 = .ok (.iload_n 1, 1) := by decide +kernel
theorem dX11_write_12 : decode cX11_write 12 = .ok (.aload_n 0, 1) := by decide +kernel
theorem dX11_write_13 : decode cX11_write 13 = .ok (.getfield 331, 3) := by decide +kernel
theorem dX11_write_16 : decode cX11_write 16 = .ok (.iastore, 1) := by decide +kernel
theorem dX11_write_17 : decode cX11_write 17 = .ok (.aload_n 0, 1) := by decide +kernel
theorem dX11_write_18 : decode cX11_write 18 = .ok (.getfield 196, 3) := by decide +kernel
theorem dX11_write_21 : decode cX11_write 21 = .ok (.iload_n 1, 1) := by decide +kernel
theorem dX11_write_22 : decode cX11_write 22 = .ok (.iconst 0, 1) := by decide +kernel
theorem dX11_write_23 : decode cX11_write 23 = .ok (.iastore, 1) := by decide +kernel
theorem dX11_write_24 : decode cX11_write 24 = .ok (.aload_n 0, 1) := by decide +kernel
theorem dX11_write_25 : decode cX11_write 25 = .ok (.getfield 214, 3) := by decide +kernel
theorem dX11_write_28 : decode cX11_write 28 = .ok (.iload_n 1, 1) := by decide +kernel
theorem dX11_write_29 : decode cX11_write 29 = .ok (.iconst 0, 1) := by decide +kernel
theorem dX11_write_30 : decode cX11_write 30 = .ok (.iastore, 1) := by decide +kernel
theorem dX11_write_31 : decode cX11_write 31 = .ok (.iconst 0, 1) := by decide +kernel
theorem dX11_write_32 : decode cX11_write 32 = .ok (.istore_n 2, 1) := by decide +kernel
theorem dX11_write_33 : decode cX11_write 33 = .ok (.iconst 0, 1) := by decide +kernel
theorem dX11_write_34 : decode cX11_write 34 = .ok (.istore_n 3, 1) := by decide +kernel
theorem dX11_write_35 : decode cX11_write 35 = .ok (.iload_n 3, 1) := by decide +kernel
theorem dX11_write_36 : decode cX11_write 36 = .ok (.aload_n 0, 1) := by decide +kernel
theorem dX11_write_37 : decode cX11_write 37 = .ok (.getfield 331, 3) := by decide +kernel
theorem dX11_write_40 : decode cX11_write 40 = .ok (.if_icmp .ge 91, 3) := by decide +kernel
theorem dX11_write_131 : decode cX11_write 131 = .ok (.iconst 0, 1) := by decide +kernel
theorem dX11_write_132 : decode cX11_write 132 = .ok (.istore_n 3, 1) := by decide +kernel
theorem dX11_write_43 : decode cX11_write 43 = .ok (.aload_n 0, 1) := by decide +kernel
theorem dX11_write_44 : decode cX11_write 44 = .ok (.getfield 181, 3) := by decide +kernel
theorem dX11_write_47 : decode cX11_write 47 = .ok (.bipush 24, 2) := by decide +kernel
theorem dX11_write_49 : decode cX11_write 49 = .ok (.iload_n 1, 1) := by decide +kernel
theorem dX11_write_50 : decode cX11_write 50 = .ok (.imul, 1) := by decide +kernel
theorem dX11_write_51 : decode cX11_write 51 = .ok (.iload_n 3, 1) := by decide +kernel
theorem dX11_write_52 : decode cX11_write 52 = .ok (.iadd, 1) := by decide +kernel
theorem dX11_write_53 : decode cX11_write 53 = .ok (.aload_n 0, 1) := by decide +kernel
theorem dX11_write_54 : decode cX11_write 54 = .ok (.getfield 120, 3) := by decide +kernel
theorem dX11_write_57 : decode cX11_write 57 = .ok (.aload_n 0, 1) := by decide +kernel
theorem dX11_write_58 : decode cX11_write 58 = .ok (.getfield 169, 3) := by decide +kernel
theorem dX11_write_61 : decode cX11_write 61 = .ok (.iload_n 3, 1) := by decide +kernel
theorem dX11_write_62 : decode cX11_write 62 = .ok (.iaload, 1) := by decide +kernel
theorem dX11_write_63 : decode cX11_write 63 = .ok (.laload, 1) := by decide +kernel
theorem dX11_write_64 : decode cX11_write 64 = .ok (.lastore, 1) := by decide +kernel
theorem dX11_write_65 : decode cX11_write 65 = .ok (.aload_n 0, 1) := by decide +kernel
theorem dX11_write_66 : decode cX11_write 66 = .ok (.getfield 184, 3) := by decide +kernel
theorem dX11_write_69 : decode cX11_write 69 = .ok (.bipush 24, 2) := by decide +kernel
theorem dX11_write_71 : decode cX11_write 71 = .ok (.iload_n 1, 1) := by decide +kernel
theorem dX11_write_72 : decode cX11_write 72 = .ok (.imul, 1) := by decide +kernel
theorem dX11_write_73 : decode cX11_write 73 = .ok (.iload_n 3, 1) := by decide +kernel
theorem dX11_write_74 : decode cX11_write 74 = .ok (.iadd, 1) := by decide +kernel
theorem dX11_write_75 : decode cX11_write 75 = .ok (.aload_n 0, 1) := by decide +kernel
theorem dX11_write_76 : decode cX11_write 76 = .ok (.getfield 129, 3) := by decide +kernel
theorem dX11_write_79 : decode cX11_write 79 = .ok (.aload_n 0, 1) := by decide +kernel
theorem dX11_write_80 : decode cX11_write 80 = .ok (.getfield 169, 3) := by decide +kernel
theorem dX11_write_83 : decode cX11_write 83 = .ok (.iload_n 3, 1) := by decide +kernel
theorem dX11_write_84 : decode cX11_write 84 = .ok (.iaload, 1) := by decide +kernel
theorem dX11_write_85 : decode cX11_write 85 = .ok (.iaload, 1) := by decide +kernel
theorem dX11_write_86 : decode cX11_write 86 = .ok (.iastore, 1) := by decide +kernel
theorem dX11_write_87 : decode cX11_write 87 = .ok (.aload_n 0, 1) := by decide +kernel
theorem dX11_write_88 : decode cX11_write 88 = .ok (.getfield 187, 3) := by decide +kernel
theorem dX11_write_91 : decode cX11_write 91 = .ok (.bipush 24, 2) := by decide +kernel
theorem dX11_write_93 : decode cX11_write 93 = .ok (.iload_n 1, 1) := by decide +kernel
theorem dX11_write_94 : decode cX11_write 94 = .ok (.imul, 1) := by decide +kernel
theorem dX11_write_95 : decode cX11_write 95 = .ok (.iload_n 3, 1) := by decide +kernel
theorem dX11_write_96 : decode cX11_write 96 = .ok (.iadd, 1) := by decide +kernel
theorem dX11_write_97 : decode cX11_write 97 = .ok (.iload_n 2, 1) := by decide +kernel
theorem dX11_write_98 : decode cX11_write 98 = .ok (.iastore, 1) := by decide +kernel
theorem dX11_write_99 : decode cX11_write 99 = .ok (.aload_n 0, 1) := by decide +kernel
theorem dX11_write_100 : decode cX11_write 100 = .ok (.getfield 190, 3) := by decide +kernel
theorem dX11_write_103 : decode cX11_write 103 = .ok (.bipush 24, 2) := by decide +kernel
theorem dX11_write_105 : decode cX11_write 105 = .ok (.iload_n 1, 1) := by decide +kernel
theorem dX11_write_106 : decode cX11_write 106 = .ok (.imul, 1) := by decide +kernel
theorem dX11_write_107 : decode cX11_write 107 = .ok (.iload_n 3, 1) := by decide +kernel
theorem dX11_write_108 : decode cX11_write 108 = .ok (.iadd, 1) := by decide +kernel
theorem dX11_write_109 : decode cX11_write 109 = .ok (.aload_n 0, 1) := by decide +kernel
theorem dX11_write_110 : decode cX11_write 110 = .ok (.getfield 172, 3) := by decide +kernel
theorem dX11_write_113 : decode cX11_write 113 = .ok (.iload_n 3, 1) := by decide +kernel
theorem dX11_write_114 : decode cX11_write 114 = .ok (.iaload, 1) := by decide +kernel
theorem dX11_write_115 : decode cX11_write 115 = .ok (.iastore, 1) := by decide +kernel
theorem dX11_write_116 : decode cX11_write 116 = .ok (.iload_n 2, 1) := by decide +kernel
theorem dX11_write_117 : decode cX11_write 117 = .ok (.aload_n 0, 1) := by decide +kernel
theorem dX11_write_118 : decode cX11_write 118 = .ok (.getfield 172, 3) := by decide +kernel
theorem dX11_write_121 : decode cX11_write 121 = .ok (.iload_n 3, 1) := by decide +kernel
theorem dX11_write_122 : decode cX11_write 122 = .ok (.iaload, 1) := by decide +kernel
theorem dX11_write_123 : decode cX11_write 123 = .ok (.iadd, 1) := by decide +kernel
theorem dX11_write_124 : decode cX11_write 124 = .ok (.istore_n 2, 1) := by decide +kernel
theorem dX11_write_125 : decode cX11_write 125 = .ok (.iinc 3 1, 3) := by decide +kernel
theorem dX11_write_128 : decode cX11_write 128 = .ok (.goto (-93), 3) := by decide +kernel
theorem dX11_write_133 : decode cX11_write 133 = .ok (.iload_n 3, 1) := by decide +kernel
theorem dX11_write_134 : decode cX11_write 134 = .ok (.sipush 400, 3) := by decide +kernel
theorem dX11_write_137 : decode cX11_write 137 = .ok (.if_icmp .ge 22, 3) := by decide +kernel
theorem dX11_write_159 : decode cX11_write 159 = .ok (.iconst 0, 1) := by decide +kernel
theorem dX11_write_160 : decode cX11_write 160 = .ok (.istore_n 3, 1) := by decide +kernel
theorem dX11_write_140 : decode cX11_write 140 = .ok (.aload_n 0, 1) := by decide +kernel
theorem dX11_write_141 : decode cX11_write 141 = .ok (.getfield 193, 3) := by decide +kernel
theorem dX11_write_144 : decode cX11_write 144 = .ok (.sipush 400, 3) := by decide +kernel
theorem dX11_write_147 : decode cX11_write 147 = .ok (.iload_n 1, 1) := by decide +kernel
theorem dX11_write_148 : decode cX11_write 148 = .ok (.imul, 1) := by decide +kernel
theorem dX11_write_149 : decode cX11_write 149 = .ok (.iload_n 3, 1) := by decide +kernel
theorem dX11_write_150 : decode cX11_write 150 = .ok (.iadd, 1) := by decide +kernel
theorem dX11_write_151 : decode cX11_write 151 = .ok (.iconst 0, 1) := by decide +kernel
theorem dX11_write_152 : decode cX11_write 152 = .ok (.iastore, 1) := by decide +kernel
theorem dX11_write_153 : decode cX11_write 153 = .ok (.iinc 3 1, 3) := by decide +kernel
theorem dX11_write_156 : decode cX11_write 156 = .ok (.goto (-23), 3) := by decide +kernel
theorem dX11_write_161 : decode cX11_write 161 = .ok (.iload_n 3, 1) := by decide +kernel
theorem dX11_write_162 : decode cX11_write 162 = .ok (.aload_n 0, 1) := by decide +kernel
theorem dX11_write_163 : decode cX11_write 163 = .ok (.getfield 324, 3) := by decide +kernel
theorem dX11_write_166 : decode cX11_write 166 = .ok (.if_icmp .ge 15, 3) := by decide +kernel
theorem dX11_write_181 : decode cX11_write 181 = .ok (.iconst 0, 1) := by decide +kernel
theorem dX11_write_182 : decode cX11_write 182 = .ok (.istore_n 3, 1) := by decide +kernel
theorem dX11_write_169 : decode cX11_write 169 = .ok (.aload_n 0, 1) := by decide +kernel
theorem dX11_write_170 : decode cX11_write 170 = .ok (.iload_n 1, 1) := by decide +kernel
theorem dX11_write_171 : decode cX11_write 171 = .ok (.iload_n 3, 1) := by decide +kernel
theorem dX11_write_172 : decode cX11_write 172 = .ok (.invokevirtual 467, 3) := by decide +kernel
theorem dX11_write_175 : decode cX11_write 175 = .ok (.iinc 3 1, 3) := by decide +kernel
theorem dX11_write_178 : decode cX11_write 178 = .ok (.goto (-17), 3) := by decide +kernel
theorem dX11_write_183 : decode cX11_write 183 = .ok (.iload_n 3, 1) := by decide +kernel
theorem dX11_write_184 : decode cX11_write 184 = .ok (.aload_n 0, 1) := by decide +kernel
theorem dX11_write_185 : decode cX11_write 185 = .ok (.getfield 318, 3) := by decide +kernel
theorem dX11_write_188 : decode cX11_write 188 = .ok (.if_icmp .ge 98, 3) := by decide +kernel
theorem dX11_write_286 : decode cX11_write 286 = .ok (.return_, 1) := by decide +kernel
theorem dX11_write_191 : decode cX11_write 191 = .ok (.aload_n 0, 1) := by decide +kernel
theorem dX11_write_192 : decode cX11_write 192 = .ok (.getfield 135, 3) := by decide +kernel
theorem dX11_write_195 : decode cX11_write 195 = .ok (.iload_n 3, 1) := by decide +kernel
theorem dX11_write_196 : decode cX11_write 196 = .ok (.iaload, 1) := by decide +kernel
theorem dX11_write_197 : decode cX11_write 197 = .ok (.ifCond .eq 6, 3) := by decide +kernel
theorem dX11_write_203 : decode cX11_write 203 = .ok (.bipush 80, 2) := by decide +kernel
theorem dX11_write_205 : decode cX11_write 205 = .ok (.iload_n 1, 1) := by decide +kernel
theorem dX11_write_206 : decode cX11_write 206 = .ok (.imul, 1) := by decide +kernel
theorem dX11_write_207 : decode cX11_write 207 = .ok (.aload_n 0, 1) := by decide +kernel
theorem dX11_write_208 : decode cX11_write 208 = .ok (.getfield 214, 3) := by decide +kernel
theorem dX11_write_211 : decode cX11_write 211 = .ok (.iload_n 1, 1) := by decide +kernel
theorem dX11_write_212 : decode cX11_write 212 = .ok (.iaload, 1) := by decide +kernel
theorem dX11_write_213 : decode cX11_write 213 = .ok (.iadd, 1) := by decide +kernel
theorem dX11_write_214 : decode cX11_write 214 = .ok (.istore 4, 2) := by decide +kernel
theorem dX11_write_216 : decode cX11_write 216 = .ok (.aload_n 0, 1) := by decide +kernel
theorem dX11_write_217 : decode cX11_write 217 = .ok (.getfield 217, 3) := by decide +kernel
theorem dX11_write_220 : decode cX11_write 220 = .ok (.iload 4, 2) := by decide +kernel
theorem dX11_write_222 : decode cX11_write 222 = .ok (.aload_n 0, 1) := by decide +kernel
theorem dX11_write_223 : decode cX11_write 223 = .ok (.getfield 120, 3) := by decide +kernel
theorem dX11_write_226 : decode cX11_write 226 = .ok (.aload_n 0, 1) := by decide +kernel
theorem dX11_write_227 : decode cX11_write 227 = .ok (.getfield 138, 3) := by decide +kernel
theorem dX11_write_230 : decode cX11_write 230 = .ok (.iload_n 3, 1) := by decide +kernel
theorem dX11_write_231 : decode cX11_write 231 = .ok (.iaload, 1) := by decide +kernel
theorem dX11_write_232 : decode cX11_write 232 = .ok (.laload, 1) := by decide +kernel
theorem dX11_write_233 : decode cX11_write 233 = .ok (.lastore, 1) := by decide +kernel
theorem dX11_write_234 : decode cX11_write 234 = .ok (.aload_n 0, 1) := by decide +kernel
theorem dX11_write_235 : decode cX11_write 235 = .ok (.getfield 220, 3) := by decide +kernel
theorem dX11_write_238 : decode cX11_write 238 = .ok (.iload 4, 2) := by decide +kernel
theorem dX11_write_240 : decode cX11_write 240 = .ok (.aload_n 0, 1) := by decide +kernel
theorem dX11_write_241 : decode cX11_write 241 = .ok (.getfield 126, 3) := by decide +kernel
theorem dX11_write_244 : decode cX11_write 244 = .ok (.aload_n 0, 1) := by decide +kernel
theorem dX11_write_245 : decode cX11_write 245 = .ok (.getfield 138, 3) := by decide +kernel
theorem dX11_write_248 : decode cX11_write 248 = .ok (.iload_n 3, 1) := by decide +kernel
theorem dX11_write_249 : decode cX11_write 249 = .ok (.iaload, 1) := by decide +kernel
theorem dX11_write_250 : decode cX11_write 250 = .ok (.iaload, 1) := by decide +kernel
theorem dX11_write_251 : decode cX11_write 251 = .ok (.iastore, 1) := by decide +kernel
theorem dX11_write_252 : decode cX11_write 252 = .ok (.aload_n 0, 1) := by decide +kernel
theorem dX11_write_253 : decode cX11_write 253 = .ok (.getfield 223, 3) := by decide +kernel
theorem dX11_write_256 : decode cX11_write 256 = .ok (.iload 4, 2) := by decide +kernel
theorem dX11_write_258 : decode cX11_write 258 = .ok (.aload_n 0, 1) := by decide +kernel
theorem dX11_write_259 : decode cX11_write 259 = .ok (.getfield 132, 3) := by decide +kernel
theorem dX11_write_262 : decode cX11_write 262 = .ok (.aload_n 0, 1) := by decide +kernel
theorem dX11_write_263 : decode cX11_write 263 = .ok (.getfield 138, 3) := by decide +kernel
theorem dX11_write_266 : decode cX11_write 266 = .ok (.iload_n 3, 1) := by decide +kernel
theorem dX11_write_267 : decode cX11_write 267 = .ok (.iaload, 1) := by decide +kernel
theorem dX11_write_268 : decode cX11_write 268 = .ok (.iaload, 1) := by decide +kernel
theorem dX11_write_269 : decode cX11_write 269 = .ok (.iastore, 1) := by decide +kernel
theorem dX11_write_270 : decode cX11_write 270 = .ok (.aload_n 0, 1) := by decide +kernel
theorem dX11_write_271 : decode cX11_write 271 = .ok (.getfield 214, 3) := by decide +kernel
theorem dX11_write_274 : decode cX11_write 274 = .ok (.iload_n 1, 1) := by decide +kernel
theorem dX11_write_275 : decode cX11_write 275 = .ok (.dup2, 1) := by decide +kernel
theorem dX11_write_276 : decode cX11_write 276 = .ok (.iaload, 1) := by decide +kernel
theorem dX11_write_277 : decode cX11_write 277 = .ok (.iconst 1, 1) := by decide +kernel
theorem dX11_write_278 : decode cX11_write 278 = .ok (.iadd, 1) := by decide +kernel
theorem dX11_write_279 : decode cX11_write 279 = .ok (.iastore, 1) := by decide +kernel
theorem dX11_write_200 : decode cX11_write 200 = .ok (.goto 80, 3) := by decide +kernel
theorem dX11_write_280 : decode cX11_write 280 = .ok (.iinc 3 1, 3) := by decide +kernel
theorem dX11_write_283 : decode cX11_write 283 = .ok (.goto (-100), 3) := by decide +kernel
def wpX11_isShort_17 (s0 : Int) (σ : ZS) (Q : Int → ZS → Prop) : Prop := (0 ≤ s0 ∧ s0 ≤ 1) ∧ Q s0 σ
def wpX11_isShort_16 (σ : ZS) (Q : Int → ZS → Prop) : Prop := wpX11_isShort_17 0 σ Q
def wpX11_isShort (a0 : Int) (σ : ZS) (Q : Int → ZS → Prop) : Prop := (-2147483648 ≤ a0 ∧ a0 ≤ 2147483647) ∧ (a0 < (-128) → wpX11_isShort_16 σ Q) ∧ (¬ a0 < (-128) → (127 < a0 → wpX11_isShort_16 σ Q) ∧ (¬ 127 < a0 → wpX11_isShort_17 1 σ Q))
set_option maxHeartbeats 4000000 in
set_option maxRecDepth 100000 in
theorem kX11_isShort (l : Launch) (D : va_G) (dA : Nat → ClassId) (ad : Int → Nat → Nat) (a0 : Int) (σ : ZS) (Q : Int → ZS → Prop) (sz : Nat) (hw : wpX11_isShort a0 σ Q) : Met l yX11_isShort (gws yX11_isShort cX11_isShort 1 (some .boolean)) (gR 1 0 0) (gPre D dA [.int (Int32.ofInt a0)] (zR dA ad σ) sz) (va_Qi (zQi Q) (gAt D dA (va_A (zR dA ad σ) sz) (zR dA ad)) (va_A (zR dA ad σ) sz)) 0 0 (va_A (zR dA ad σ) sz) := by
  refine Met.ofW (cc := cX11_isShort) (maxL := 1) (ret := (some .boolean)) (by decide) rfl ?_
  intro p e s m args below meth c s₁ B hml hv
  obtain ⟨rfl, hsz, hP, hK, hD0⟩ := hv
  have hx := B.exec
  have hb := B.bytes
  have hr := B.returns
  have hts := atoms_spec (ws := gws yX11_isShort cX11_isShort 1 (some .boolean)) B.pre
  have hg : ∀ w ∈ gw, w.before _ s = true := fun w h => hts w (List.mem_cons_of_mem _ h)
  have hown : s.vm.findClass RX11 = some m.cls := findClass_of_methodNamed B.named
  have hlocks := B.notSynchronized
  subst hsz
  have hD := hD0.self (sz := s.heap.size)
  generalize hAe : va_A (zR dA ad σ) s.heap.size = A at hD ⊢
  have hA : ∀ q : Nat, s.heap.size ≤ q → A q := fun q h => by rw [← hAe]; exact Or.inr h
  have hS : va_S A s.heap s.heap [] := va_S.rf
  have hl := lv_entry ([.int (Int32.ofInt a0)]) (n := 1) (Nat.le_of_ble_eq_true rfl)
  rw [lg_entry_eq]
  generalize (lg_sl ([.int (Int32.ofInt a0)]) ++ List.replicate (1 - (lg_sl ([.int (Int32.ofInt a0)])).length) Slot.unset).toArray = ls at hl ⊢
  have hl : lv_has ls 1 [(0, .int (Int32.ofInt a0))] := hl
  have hret : ∀ (v : Int) (σ : ZS) (H : Heap) (locs : List Loc) (ls : Array Slot) (pc : Nat), (0 ≤ v ∧ v ≤ 1) → Q v σ → va_P D vwC (zR dA ad σ) H → va_D A (zR dA ad σ) → va_S A s.heap H locs → decode cX11_isShort pc = .ok (.ireturn, 1) → W p l e (gR 1 0 0) s m #[.int (Int32.ofInt a0)] below meth c H locs 0 0 (MQ below (va_Qi (zQi Q) (gAt D dA A (zR dA ad)) A) #[.int (Int32.ofInt a0)] s 0 0 A) (F0 m pc ls [.int (Int32.ofInt v)]) := fun v σ H locs ls pc hv hw hP hD hS hd => g_iret hx hb hr (z_nb hv) hlocks hK σ hP hD hS ⟨v, rfl, hw⟩ (Nat.le_of_ble_eq_true rfl) (Nat.le_of_ble_eq_true rfl) hd
  generalize MQ below (va_Qi (zQi Q) (gAt D dA A (zR dA ad)) A) #[.int (Int32.ofInt a0)] s 0 0 A = QQ at hret ⊢
  have j17 : ∀ (s0 : Int) (σ : ZS), ∀ (H : Heap) (locs : List Loc) (ls : Array Slot), va_P D vwC (zR dA ad σ) H → va_D A (zR dA ad σ) → va_S A s.heap H locs → lv_has ls 1 [] → wpX11_isShort_17 s0 σ Q → W p l e (gR 1 0 0) s m #[.int (Int32.ofInt a0)] below meth c H locs 0 0 QQ (F0 m 17 ls [.int (Int32.ofInt s0)]) := by
    intro s0 σ H locs ls hP hD hS hl hw
    unfold wpX11_isShort_17 at hw
    obtain ⟨o1, hw⟩ := hw
    exact hret s0 σ _ _ _ _ o1 hw hP hD hS dX11_isShort_17
  have j16 : ∀ (σ : ZS), ∀ (H : Heap) (locs : List Loc) (ls : Array Slot), va_P D vwC (zR dA ad σ) H → va_D A (zR dA ad σ) → va_S A s.heap H locs → lv_has ls 1 [] → wpX11_isShort_16 σ Q → W p l e (gR 1 0 0) s m #[.int (Int32.ofInt a0)] below meth c H locs 0 0 QQ (F0 m 16 ls []) := by
    intro σ H locs ls hP hD hS hl hw
    unfold wpX11_isShort_16 at hw
    refine lv_iconst (v := Int32.ofInt 0) hx hb dX11_isShort_16 (by decide) ?_
    exact j17 0 σ _ _ _ hP hD hS (lv_sub hl [] rfl) hw
  unfold wpX11_isShort at hw
  refine lv_iload_n hx hb dX11_isShort_0 rfl (lv_at hl 0 rfl) ?_
  refine lv_bipush (v := Int32.ofInt (-128)) hx hb dX11_isShort_1 (by decide) ?_
  obtain ⟨o2, hw⟩ := hw
  refine z_icmp_lt (tgt := 16) hx hb o2 (by decide) dX11_isShort_3 (by decide) (fun k3 => ?_) (fun k3 => ?_)
  · replace hw := hw.1 k3
    exact j16 σ _ _ _ hP hD hS (lv_sub hl [] rfl) hw
  · replace hw := hw.2 k3
    refine lv_iload_n hx hb dX11_isShort_6 rfl (lv_at hl 0 rfl) ?_
    refine lv_bipush (v := Int32.ofInt 127) hx hb dX11_isShort_7 (by decide) ?_
    refine z_icmp_gt (tgt := 16) hx hb o2 (by decide) dX11_isShort_9 (by decide) (fun k4 => ?_) (fun k4 => ?_)
    · replace hw := hw.1 k4
      exact j16 σ _ _ _ hP hD hS (lv_sub hl [] rfl) hw
    · replace hw := hw.2 k4
      refine lv_iconst (v := Int32.ofInt 1) hx hb dX11_isShort_12 (by decide) ?_
      refine lv_goto (tgt := 17) hx hb dX11_isShort_13 (by decide) ?_
      exact j17 1 σ _ _ _ hP hD hS (lv_sub hl [] rfl) hw
def wpX11_settle_116 (K54 : Int → ZS → Prop) (K66 : Int → Int → ZS → Prop) (v1 v2 : Int) (σ : ZS) (Q : ZS → Prop) : Prop := K66 v1 (v2 + 1) σ
def wpbX11_settle_66 (K54 : Int → ZS → Prop) (K66 : Int → Int → ZS → Prop) (v1 v2 : Int) (σ : ZS) (Q : ZS → Prop) : Prop := (-2147483648 ≤ v2 ∧ v2 ≤ 2147483647) ∧ (-2147483648 ≤ (zI σ 0 31) ∧ (zI σ 0 31) ≤ 2147483647) ∧ ((zI σ 0 31) ≤ v2 → K54 v1 σ) ∧ (¬ (zI σ 0 31) ≤ v2 → (0 ≤ v2 ∧ v2 < 1200) ∧ (-2147483648 ≤ (zA σ 0 24 v2) ∧ (zA σ 0 24 v2) ≤ 2147483647) ∧ (¬ (zA σ 0 24 v2) = 4 → wpX11_settle_116 K54 K66 v1 v2 σ Q) ∧ ((zA σ 0 24 v2) = 4 → (-2147483648 ≤ (zA σ 0 30 v2) ∧ (zA σ 0 30 v2) ≤ 2147483647) ∧ (¬ (zA σ 0 30 v2) = 0 → wpX11_settle_116 K54 K66 v1 v2 σ Q) ∧ ((zA σ 0 30 v2) = 0 → wpX11_distance v2 σ (fun (x9 : Int) (σ10 : ZS) => wpX11_isShort x9 σ10 (fun (x11 : Int) (σ12 : ZS) => (-2147483648 ≤ x11 ∧ x11 ≤ 2147483647) ∧ (x11 = 0 → wpX11_settle_116 K54 K66 1 v2 (zsA σ12 0 30 v2 1) Q) ∧ (¬ x11 = 0 → wpX11_settle_116 K54 K66 v1 v2 σ12 Q))))))
def wpX11_settle_66 (K54 : Int → ZS → Prop) (v1 v2 : Int) (σ : ZS) (Q : ZS → Prop) : Prop := lfp2 (fun K66 v1 v2 σ => wpbX11_settle_66 K54 K66 v1 v2 σ Q) v1 v2 σ
def wpbX11_settle_54 (K54 : Int → ZS → Prop) (v1 : Int) (σ : ZS) (Q : ZS → Prop) : Prop := (-2147483648 ≤ v1 ∧ v1 ≤ 2147483647) ∧ (v1 = 0 → Q σ) ∧ (¬ v1 = 0 → wpX11_lay σ (fun (σ18 : ZS) => wpX11_settle_66 K54 0 0 σ18 Q))
def wpX11_settle_54 (v1 : Int) (σ : ZS) (Q : ZS → Prop) : Prop := lfp1 (fun K54 v1 σ => wpbX11_settle_54 K54 v1 σ Q) v1 σ
def wpX11_settle_45 (K2 : Int → ZS → Prop) (v1 s2 s1 : Int) (σ : ZS) (Q : ZS → Prop) : Prop := (0 ≤ s1 ∧ s1 < 1200) ∧ (0 ≤ s2 ∧ s2 ≤ 1) ∧ K2 (v1 + 1) (zsA σ 0 30 s1 s2)
def wpX11_settle_44 (K2 : Int → ZS → Prop) (v1 s1 : Int) (σ : ZS) (Q : ZS → Prop) : Prop := wpX11_settle_45 K2 v1 0 s1 σ Q
def wpbX11_settle_2 (K2 : Int → ZS → Prop) (v1 : Int) (σ : ZS) (Q : ZS → Prop) : Prop := (-2147483648 ≤ v1 ∧ v1 ≤ 2147483647) ∧ (-2147483648 ≤ (zI σ 0 31) ∧ (zI σ 0 31) ≤ 2147483647) ∧ ((zI σ 0 31) ≤ v1 → wpX11_settle_54 1 σ Q) ∧ (¬ (zI σ 0 31) ≤ v1 → (0 ≤ v1 ∧ v1 < 1200) ∧ (-2147483648 ≤ (zA σ 0 24 v1) ∧ (zA σ 0 24 v1) ≤ 2147483647) ∧ (¬ (zA σ 0 24 v1) = 4 → wpX11_settle_44 K2 v1 v1 σ Q) ∧ ((zA σ 0 24 v1) = 4 → (0 ≤ (zA σ 0 25 v1) ∧ (zA σ 0 25 v1) < 240) ∧ (-2147483648 ≤ (zA σ 0 13 (zA σ 0 25 v1)) ∧ (zA σ 0 13 (zA σ 0 25 v1)) ≤ 2147483647) ∧ (¬ (zA σ 0 13 (zA σ 0 25 v1)) = 3 → wpX11_settle_44 K2 v1 v1 σ Q) ∧ ((zA σ 0 13 (zA σ 0 25 v1)) = 3 → wpX11_settle_45 K2 v1 1 v1 σ Q)))
def wpX11_settle_2 (v1 : Int) (σ : ZS) (Q : ZS → Prop) : Prop := lfp1 (fun K2 v1 σ => wpbX11_settle_2 K2 v1 σ Q) v1 σ
def wpX11_settle (σ : ZS) (Q : ZS → Prop) : Prop := wpX11_settle_2 0 σ Q
set_option maxHeartbeats 4000000 in
set_option maxRecDepth 100000 in
theorem kX11_settle (l : Launch) (D : va_G) (dA : Nat → ClassId) (ad : Int → Nat → Nat) (σ : ZS) (Q : ZS → Prop) (sz : Nat) (hw : wpX11_settle σ Q) : Met l yX11_settle (gws yX11_settle cX11_settle 3 none) (gR 3 0 0) (gPre D dA [.ref (ad 0 1000)] (zR dA ad σ) sz) (va_Qv Q (gAt D dA (va_A (zR dA ad σ) sz) (zR dA ad)) (va_A (zR dA ad σ) sz)) 0 0 (va_A (zR dA ad σ) sz) := by
  refine Met.ofW (cc := cX11_settle) (maxL := 3) (ret := none) (by decide) rfl ?_
  intro p e s m args below meth c s₁ B hml hv
  obtain ⟨rfl, hsz, hP, hK, hD0⟩ := hv
  have hx := B.exec
  have hb := B.bytes
  have hr := B.returns
  have hts := atoms_spec (ws := gws yX11_settle cX11_settle 3 none) B.pre
  have hg : ∀ w ∈ gw, w.before _ s = true := fun w h => hts w (List.mem_cons_of_mem _ h)
  have hown : s.vm.findClass RX11 = some m.cls := findClass_of_methodNamed B.named
  have hlocks := B.notSynchronized
  subst hsz
  have hD := hD0.self (sz := s.heap.size)
  generalize hAe : va_A (zR dA ad σ) s.heap.size = A at hD ⊢
  have hA : ∀ q : Nat, s.heap.size ≤ q → A q := fun q h => by rw [← hAe]; exact Or.inr h
  have hS : va_S A s.heap s.heap [] := va_S.rf
  have hl := lv_entry ([.ref (ad 0 1000)]) (n := 3) (Nat.le_of_ble_eq_true rfl)
  rw [lg_entry_eq]
  generalize (lg_sl ([.ref (ad 0 1000)]) ++ List.replicate (3 - (lg_sl ([.ref (ad 0 1000)])).length) Slot.unset).toArray = ls at hl ⊢
  have hl : lv_has ls 3 [(0, .ref (ad 0 1000))] := hl
  have hret : ∀ (σ : ZS) (H : Heap) (locs : List Loc) (ls : Array Slot) (pc : Nat), Q σ → va_P D vwC (zR dA ad σ) H → va_D A (zR dA ad σ) → va_S A s.heap H locs → decode cX11_settle pc = .ok (.return_, 1) → W p l e (gR 3 0 0) s m #[.ref (ad 0 1000)] below meth c H locs 0 0 (MQ below (va_Qv Q (gAt D dA A (zR dA ad)) A) #[.ref (ad 0 1000)] s 0 0 A) (F0 m pc ls []) := fun σ H locs ls pc hw hP hD hS hd => g_vret hx hb hr hlocks hK σ hP hD hS hw (Nat.le_of_ble_eq_true rfl) (Nat.le_of_ble_eq_true rfl) hd
  generalize MQ below (va_Qv Q (gAt D dA A (zR dA ad)) A) #[.ref (ad 0 1000)] s 0 0 A = QQ at hret ⊢
  have b54 : ∀ (K54 : Int → ZS → Prop), (∀ (v1 : Int) (σ : ZS), K54 v1 σ → ∀ (H : Heap) (locs : List Loc) (ls : Array Slot), va_P D vwC (zR dA ad σ) H → va_D A (zR dA ad σ) → va_S A s.heap H locs → lv_has ls 3 [(0, .ref (ad 0 1000)), (1, .int (Int32.ofInt v1))] → W p l e (gR 3 0 0) s m #[.ref (ad 0 1000)] below meth c H locs 0 0 QQ (F0 m 54 ls [])) → ∀ (v1 : Int) (σ : ZS), wpbX11_settle_54 K54 v1 σ Q → ∀ (H : Heap) (locs : List Loc) (ls : Array Slot), va_P D vwC (zR dA ad σ) H → va_D A (zR dA ad σ) → va_S A s.heap H locs → lv_has ls 3 [(0, .ref (ad 0 1000)), (1, .int (Int32.ofInt v1))] → W p l e (gR 3 0 0) s m #[.ref (ad 0 1000)] below meth c H locs 0 0 QQ (F0 m 54 ls []) := by
    intro K54 hK54
    have b66 : ∀ (K66 : Int → Int → ZS → Prop), (∀ (v1 v2 : Int) (σ : ZS), K66 v1 v2 σ → ∀ (H : Heap) (locs : List Loc) (ls : Array Slot), va_P D vwC (zR dA ad σ) H → va_D A (zR dA ad σ) → va_S A s.heap H locs → lv_has ls 3 [(0, .ref (ad 0 1000)), (1, .int (Int32.ofInt v1)), (2, .int (Int32.ofInt v2))] → W p l e (gR 3 0 0) s m #[.ref (ad 0 1000)] below meth c H locs 0 0 QQ (F0 m 66 ls [])) → ∀ (v1 v2 : Int) (σ : ZS), wpbX11_settle_66 K54 K66 v1 v2 σ Q → ∀ (H : Heap) (locs : List Loc) (ls : Array Slot), va_P D vwC (zR dA ad σ) H → va_D A (zR dA ad σ) → va_S A s.heap H locs → lv_has ls 3 [(0, .ref (ad 0 1000)), (1, .int (Int32.ofInt v1)), (2, .int (Int32.ofInt v2))] → W p l e (gR 3 0 0) s m #[.ref (ad 0 1000)] below meth c H locs 0 0 QQ (F0 m 66 ls []) := by
      intro K66 hK66
      have j116 : ∀ (v1 v2 : Int) (σ : ZS), ∀ (H : Heap) (locs : List Loc) (ls : Array Slot), va_P D vwC (zR dA ad σ) H → va_D A (zR dA ad σ) → va_S A s.heap H locs → lv_has ls 3 [(0, .ref (ad 0 1000)), (1, .int (Int32.ofInt v1)), (2, .int (Int32.ofInt v2))] → wpX11_settle_116 K54 K66 v1 v2 σ Q → W p l e (gR 3 0 0) s m #[.ref (ad 0 1000)] below meth c H locs 0 0 QQ (F0 m 116 ls []) := by
        intro v1 v2 σ H locs ls hP hD hS hl hw
        unfold wpX11_settle_116 at hw
        refine lv_iinc (v := Int32.ofInt (v2 + 1)) (lv' := [(2, .int (Int32.ofInt (v2 + 1))), (0, .ref (ad 0 1000)), (1, .int (Int32.ofInt v1))]) hx hb dX11_settle_116 hl (k := 2) rfl (Int32.ofInt_add _ _).symm (by decide) rfl (fun ls hl => ?_)
        refine lv_goto (tgt := 66) hx hb dX11_settle_119 (by decide) ?_
        exact hK66 v1 (v2 + 1) σ hw _ _ _ hP hD hS (lv_sub hl [1, 2, 0] rfl)
      intro v1 v2 σ hw H locs ls hP hD hS hl
      unfold wpbX11_settle_66 at hw
      refine lv_iload_n hx hb dX11_settle_66 rfl (lv_at hl 2 rfl) ?_
      refine lv_aload_n hx hb dX11_settle_67 rfl (lv_at hl 0 rfl) ?_
      refine zgR0_31 hx hb hg hown hK hP q1646 dX11_settle_68 ?_
      obtain ⟨o1, hw⟩ := hw
      obtain ⟨o2, hw⟩ := hw
      refine z_icmp_ge (tgt := 122) hx hb o1 o2 dX11_settle_71 (by decide) (fun k3 => ?_) (fun k3 => ?_)
      · replace hw := hw.1 k3
        refine lv_goto (tgt := 54) hx hb dX11_settle_122 (by decide) ?_
        exact hK54 v1 σ hw _ _ _ hP hD hS (lv_sub hl [0, 1] rfl)
      · replace hw := hw.2 k3
        refine lv_aload_n hx hb dX11_settle_74 rfl (lv_at hl 0 rfl) ?_
        refine zgR0_24 hx hb hg hown hK hP q1639 dX11_settle_75 ?_
        refine lv_iload_n hx hb dX11_settle_78 rfl (lv_at hl 2 rfl) ?_
        obtain ⟨o4, hw⟩ := hw
        refine zlR0_24 hx hb o4 hK hP dX11_settle_79 ?_
        refine lv_iconst (v := Int32.ofInt 4) hx hb dX11_settle_80 (by decide) ?_
        obtain ⟨o5, hw⟩ := hw
        refine z_icmp_ne (tgt := 116) hx hb o5 (by decide) dX11_settle_81 (by decide) (fun k6 => ?_) (fun k6 => ?_)
        · replace hw := hw.1 k6
          exact j116 v1 v2 σ _ _ _ hP hD hS (lv_sub hl [0, 1, 2] rfl) hw
        · replace hw := hw.2 k6
          refine lv_aload_n hx hb dX11_settle_84 rfl (lv_at hl 0 rfl) ?_
          refine zgR0_30 hx hb hg hown hK hP q1645 dX11_settle_85 ?_
          refine lv_iload_n hx hb dX11_settle_88 rfl (lv_at hl 2 rfl) ?_
          refine zlR0_30 hx hb o4 hK hP dX11_settle_89 ?_
          obtain ⟨o7, hw⟩ := hw
          refine z_if_ne (tgt := 116) hx hb o7 dX11_settle_90 (by decide) (fun k8 => ?_) (fun k8 => ?_)
          · replace hw := hw.1 k8
            exact j116 v1 v2 σ _ _ _ hP hD hS (lv_sub hl [0, 1, 2] rfl) hw
          · replace hw := hw.2 k8
            refine lv_aload_n hx hb dX11_settle_93 rfl (lv_at hl 0 rfl) ?_
            refine lv_iload_n hx hb dX11_settle_94 rfl (lv_at hl 2 rfl) ?_
            refine z_Vi (n := 1) (As := [.int (Int32.ofInt v2)]) (rest := []) hx hb hml hg hown hK hP hD hS hA (kX11_distance l D dA ad v2 σ _ _ hw) (zoR0) rfl q2046 q160 q2043 q2045 q114 (by decide +kernel) ⟨(Nat.le_of_ble_eq_true rfl), (Nat.le_of_ble_eq_true rfl)⟩ rfl hl.1 rfl (Nat.le_of_ble_eq_true rfl) dX11_settle_95 ⟨(Nat.le_of_ble_eq_true rfl), (Nat.le_of_ble_eq_true rfl)⟩ (fun x9 σ10 H locs hw hP hD hS => ?_)
            refine z_Si (n := 1) (As := [.int (Int32.ofInt x9)]) (rest := []) hx hb hml hg hown hK hP hD hS hA (kX11_isShort l D dA ad x9 σ10 _ _ hw) q2049 q160 q2047 q2048 (by decide +kernel) ⟨(Nat.le_of_ble_eq_true rfl), (Nat.le_of_ble_eq_true rfl)⟩ rfl hl.1 rfl (Nat.le_of_ble_eq_true rfl) dX11_settle_98 ⟨(Nat.le_of_ble_eq_true rfl), (Nat.le_of_ble_eq_true rfl)⟩ (fun x11 σ12 H locs hw hP hD hS => ?_)
            obtain ⟨o13, hw⟩ := hw
            refine z_if_eq (tgt := 107) hx hb o13 dX11_settle_101 (by decide) (fun k14 => ?_) (fun k14 => ?_)
            · replace hw := hw.1 k14
              refine lv_aload_n hx hb dX11_settle_107 rfl (lv_at hl 0 rfl) ?_
              refine zgR0_30 hx hb hg hown hK hP q1645 dX11_settle_108 ?_
              refine lv_iload_n hx hb dX11_settle_111 rfl (lv_at hl 2 rfl) ?_
              refine lv_iconst (v := Int32.ofInt 1) hx hb dX11_settle_112 (by decide) ?_
              refine zsR0_30 (v := 1) hx hb o4 (by decide) hK hP hD hS dX11_settle_113 (fun H locs hP hD hS => ?_)
              refine lv_iconst (v := Int32.ofInt 1) hx hb dX11_settle_114 (by decide) ?_
              refine lv_istore_n (lv' := [(1, .int (Int32.ofInt 1)), (0, .ref (ad 0 1000)), (2, .int (Int32.ofInt v2))]) hx hb dX11_settle_115 rfl hl (by decide) rfl (fun ls hl => ?_)
              exact j116 1 v2 (zsA σ12 0 30 v2 1) _ _ _ hP hD hS (lv_sub hl [1, 0, 2] rfl) hw
            · replace hw := hw.2 k14
              refine lv_goto (tgt := 116) hx hb dX11_settle_104 (by decide) ?_
              exact j116 v1 v2 σ12 _ _ _ hP hD hS (lv_sub hl [0, 1, 2] rfl) hw
    have j66 : ∀ (v1 v2 : Int) (σ : ZS), ∀ (H : Heap) (locs : List Loc) (ls : Array Slot), va_P D vwC (zR dA ad σ) H → va_D A (zR dA ad σ) → va_S A s.heap H locs → lv_has ls 3 [(0, .ref (ad 0 1000)), (1, .int (Int32.ofInt v1)), (2, .int (Int32.ofInt v2))] → wpX11_settle_66 K54 v1 v2 σ Q → W p l e (gR 3 0 0) s m #[.ref (ad 0 1000)] below meth c H locs 0 0 QQ (F0 m 66 ls []) := by
      intro v1 v2 σ H locs ls hP hD hS hl hw
      exact hw (fun v1 v2 σ => ∀ (H : Heap) (locs : List Loc) (ls : Array Slot), va_P D vwC (zR dA ad σ) H → va_D A (zR dA ad σ) → va_S A s.heap H locs → lv_has ls 3 [(0, .ref (ad 0 1000)), (1, .int (Int32.ofInt v1)), (2, .int (Int32.ofInt v2))] → W p l e (gR 3 0 0) s m #[.ref (ad 0 1000)] below meth c H locs 0 0 QQ (F0 m 66 ls [])) (b66 (fun v1 v2 σ => ∀ (H : Heap) (locs : List Loc) (ls : Array Slot), va_P D vwC (zR dA ad σ) H → va_D A (zR dA ad σ) → va_S A s.heap H locs → lv_has ls 3 [(0, .ref (ad 0 1000)), (1, .int (Int32.ofInt v1)), (2, .int (Int32.ofInt v2))] → W p l e (gR 3 0 0) s m #[.ref (ad 0 1000)] below meth c H locs 0 0 QQ (F0 m 66 ls [])) (fun v1 v2 σ h => h)) _ _ _ hP hD hS hl
    intro v1 σ hw H locs ls hP hD hS hl
    unfold wpbX11_settle_54 at hw
    refine lv_iload_n hx hb dX11_settle_54 rfl (lv_at hl 1 rfl) ?_
    obtain ⟨o15, hw⟩ := hw
    refine z_if_eq (tgt := 125) hx hb o15 dX11_settle_55 (by decide) (fun k16 => ?_) (fun k16 => ?_)
    · replace hw := hw.1 k16
      exact hret σ _ _ _ _ hw hP hD hS dX11_settle_125
    · replace hw := hw.2 k16
      refine lv_iconst (v := Int32.ofInt 0) hx hb dX11_settle_58 (by decide) ?_
      refine lv_istore_n (lv' := [(1, .int (Int32.ofInt 0)), (0, .ref (ad 0 1000))]) hx hb dX11_settle_59 rfl hl (by decide) rfl (fun ls hl => ?_)
      refine lv_aload_n hx hb dX11_settle_60 rfl (lv_at hl 1 rfl) ?_
      refine z_Vv (n := 0) (As := []) (rest := []) hx hb hml hg hown hK hP hD hS hA (kX11_lay l D dA ad σ _ _ hw) (zoR0) rfl q2038 q160 q2035 q2037 q112 (by decide +kernel) ⟨(Nat.le_of_ble_eq_true rfl), (Nat.le_of_ble_eq_true rfl)⟩ rfl hl.1 rfl (Nat.le_of_ble_eq_true rfl) dX11_settle_61 ⟨(Nat.le_of_ble_eq_true rfl), (Nat.le_of_ble_eq_true rfl)⟩ (fun σ18 H locs hw hP hD hS => ?_)
      refine lv_iconst (v := Int32.ofInt 0) hx hb dX11_settle_64 (by decide) ?_
      refine lv_istore_n (lv' := [(2, .int (Int32.ofInt 0)), (1, .int (Int32.ofInt 0)), (0, .ref (ad 0 1000))]) hx hb dX11_settle_65 rfl hl (by decide) rfl (fun ls hl => ?_)
      exact j66 0 0 σ18 _ _ _ hP hD hS (lv_sub hl [2, 1, 0] rfl) hw
  have j54 : ∀ (v1 : Int) (σ : ZS), ∀ (H : Heap) (locs : List Loc) (ls : Array Slot), va_P D vwC (zR dA ad σ) H → va_D A (zR dA ad σ) → va_S A s.heap H locs → lv_has ls 3 [(0, .ref (ad 0 1000)), (1, .int (Int32.ofInt v1))] → wpX11_settle_54 v1 σ Q → W p l e (gR 3 0 0) s m #[.ref (ad 0 1000)] below meth c H locs 0 0 QQ (F0 m 54 ls []) := by
    intro v1 σ H locs ls hP hD hS hl hw
    exact hw (fun v1 σ => ∀ (H : Heap) (locs : List Loc) (ls : Array Slot), va_P D vwC (zR dA ad σ) H → va_D A (zR dA ad σ) → va_S A s.heap H locs → lv_has ls 3 [(0, .ref (ad 0 1000)), (1, .int (Int32.ofInt v1))] → W p l e (gR 3 0 0) s m #[.ref (ad 0 1000)] below meth c H locs 0 0 QQ (F0 m 54 ls [])) (b54 (fun v1 σ => ∀ (H : Heap) (locs : List Loc) (ls : Array Slot), va_P D vwC (zR dA ad σ) H → va_D A (zR dA ad σ) → va_S A s.heap H locs → lv_has ls 3 [(0, .ref (ad 0 1000)), (1, .int (Int32.ofInt v1))] → W p l e (gR 3 0 0) s m #[.ref (ad 0 1000)] below meth c H locs 0 0 QQ (F0 m 54 ls [])) (fun v1 σ h => h)) _ _ _ hP hD hS hl
  have b2 : ∀ (K2 : Int → ZS → Prop), (∀ (v1 : Int) (σ : ZS), K2 v1 σ → ∀ (H : Heap) (locs : List Loc) (ls : Array Slot), va_P D vwC (zR dA ad σ) H → va_D A (zR dA ad σ) → va_S A s.heap H locs → lv_has ls 3 [(0, .ref (ad 0 1000)), (1, .int (Int32.ofInt v1))] → W p l e (gR 3 0 0) s m #[.ref (ad 0 1000)] below meth c H locs 0 0 QQ (F0 m 2 ls [])) → ∀ (v1 : Int) (σ : ZS), wpbX11_settle_2 K2 v1 σ Q → ∀ (H : Heap) (locs : List Loc) (ls : Array Slot), va_P D vwC (zR dA ad σ) H → va_D A (zR dA ad σ) → va_S A s.heap H locs → lv_has ls 3 [(0, .ref (ad 0 1000)), (1, .int (Int32.ofInt v1))] → W p l e (gR 3 0 0) s m #[.ref (ad 0 1000)] below meth c H locs 0 0 QQ (F0 m 2 ls []) := by
    intro K2 hK2
    have j45 : ∀ (v1 s2 s1 : Int) (σ : ZS), ∀ (H : Heap) (locs : List Loc) (ls : Array Slot), va_P D vwC (zR dA ad σ) H → va_D A (zR dA ad σ) → va_S A s.heap H locs → lv_has ls 3 [(0, .ref (ad 0 1000)), (1, .int (Int32.ofInt v1))] → wpX11_settle_45 K2 v1 s2 s1 σ Q → W p l e (gR 3 0 0) s m #[.ref (ad 0 1000)] below meth c H locs 0 0 QQ (F0 m 45 ls [.int (Int32.ofInt s2), .int (Int32.ofInt s1), .ref (ad 0 30)]) := by
      intro v1 s2 s1 σ H locs ls hP hD hS hl hw
      unfold wpX11_settle_45 at hw
      obtain ⟨o19, hw⟩ := hw
      obtain ⟨o20, hw⟩ := hw
      refine zsR0_30 (v := s2) hx hb o19 o20 hK hP hD hS dX11_settle_45 (fun H locs hP hD hS => ?_)
      refine lv_iinc (v := Int32.ofInt (v1 + 1)) (lv' := [(1, .int (Int32.ofInt (v1 + 1))), (0, .ref (ad 0 1000))]) hx hb dX11_settle_46 hl (k := 1) rfl (Int32.ofInt_add _ _).symm (by decide) rfl (fun ls hl => ?_)
      refine lv_goto (tgt := 2) hx hb dX11_settle_49 (by decide) ?_
      exact hK2 (v1 + 1) (zsA σ 0 30 s1 s2) hw _ _ _ hP hD hS (lv_sub hl [1, 0] rfl)
    have j44 : ∀ (v1 s1 : Int) (σ : ZS), ∀ (H : Heap) (locs : List Loc) (ls : Array Slot), va_P D vwC (zR dA ad σ) H → va_D A (zR dA ad σ) → va_S A s.heap H locs → lv_has ls 3 [(0, .ref (ad 0 1000)), (1, .int (Int32.ofInt v1))] → wpX11_settle_44 K2 v1 s1 σ Q → W p l e (gR 3 0 0) s m #[.ref (ad 0 1000)] below meth c H locs 0 0 QQ (F0 m 44 ls [.int (Int32.ofInt s1), .ref (ad 0 30)]) := by
      intro v1 s1 σ H locs ls hP hD hS hl hw
      unfold wpX11_settle_44 at hw
      refine lv_iconst (v := Int32.ofInt 0) hx hb dX11_settle_44 (by decide) ?_
      exact j45 v1 0 s1 σ _ _ _ hP hD hS (lv_sub hl [0, 1] rfl) hw
    intro v1 σ hw H locs ls hP hD hS hl
    unfold wpbX11_settle_2 at hw
    refine lv_iload_n hx hb dX11_settle_2 rfl (lv_at hl 1 rfl) ?_
    refine lv_aload_n hx hb dX11_settle_3 rfl (lv_at hl 0 rfl) ?_
    refine zgR0_31 hx hb hg hown hK hP q1646 dX11_settle_4 ?_
    obtain ⟨o21, hw⟩ := hw
    obtain ⟨o22, hw⟩ := hw
    refine z_icmp_ge (tgt := 52) hx hb o21 o22 dX11_settle_7 (by decide) (fun k23 => ?_) (fun k23 => ?_)
    · replace hw := hw.1 k23
      refine lv_iconst (v := Int32.ofInt 1) hx hb dX11_settle_52 (by decide) ?_
      refine lv_istore_n (lv' := [(1, .int (Int32.ofInt 1)), (0, .ref (ad 0 1000))]) hx hb dX11_settle_53 rfl hl (by decide) rfl (fun ls hl => ?_)
      exact j54 1 σ _ _ _ hP hD hS (lv_sub hl [1, 0] rfl) hw
    · replace hw := hw.2 k23
      refine lv_aload_n hx hb dX11_settle_10 rfl (lv_at hl 0 rfl) ?_
      refine zgR0_30 hx hb hg hown hK hP q1645 dX11_settle_11 ?_
      refine lv_iload_n hx hb dX11_settle_14 rfl (lv_at hl 1 rfl) ?_
      refine lv_aload_n hx hb dX11_settle_15 rfl (lv_at hl 0 rfl) ?_
      refine zgR0_24 hx hb hg hown hK hP q1639 dX11_settle_16 ?_
      refine lv_iload_n hx hb dX11_settle_19 rfl (lv_at hl 1 rfl) ?_
      obtain ⟨o24, hw⟩ := hw
      refine zlR0_24 hx hb o24 hK hP dX11_settle_20 ?_
      refine lv_iconst (v := Int32.ofInt 4) hx hb dX11_settle_21 (by decide) ?_
      obtain ⟨o25, hw⟩ := hw
      refine z_icmp_ne (tgt := 44) hx hb o25 (by decide) dX11_settle_22 (by decide) (fun k26 => ?_) (fun k26 => ?_)
      · replace hw := hw.1 k26
        exact j44 v1 v1 σ _ _ _ hP hD hS (lv_sub hl [0, 1] rfl) hw
      · replace hw := hw.2 k26
        refine lv_aload_n hx hb dX11_settle_25 rfl (lv_at hl 0 rfl) ?_
        refine zgR0_13 hx hb hg hown hK hP q1628 dX11_settle_26 ?_
        refine lv_aload_n hx hb dX11_settle_29 rfl (lv_at hl 0 rfl) ?_
        refine zgR0_25 hx hb hg hown hK hP q1640 dX11_settle_30 ?_
        refine lv_iload_n hx hb dX11_settle_33 rfl (lv_at hl 1 rfl) ?_
        refine zlR0_25 hx hb o24 hK hP dX11_settle_34 ?_
        obtain ⟨o27, hw⟩ := hw
        refine zlR0_13 hx hb o27 hK hP dX11_settle_35 ?_
        refine lv_iconst (v := Int32.ofInt 3) hx hb dX11_settle_36 (by decide) ?_
        obtain ⟨o28, hw⟩ := hw
        refine z_icmp_ne (tgt := 44) hx hb o28 (by decide) dX11_settle_37 (by decide) (fun k29 => ?_) (fun k29 => ?_)
        · replace hw := hw.1 k29
          exact j44 v1 v1 σ _ _ _ hP hD hS (lv_sub hl [0, 1] rfl) hw
        · replace hw := hw.2 k29
          refine lv_iconst (v := Int32.ofInt 1) hx hb dX11_settle_40 (by decide) ?_
          refine lv_goto (tgt := 45) hx hb dX11_settle_41 (by decide) ?_
          exact j45 v1 1 v1 σ _ _ _ hP hD hS (lv_sub hl [0, 1] rfl) hw
  have j2 : ∀ (v1 : Int) (σ : ZS), ∀ (H : Heap) (locs : List Loc) (ls : Array Slot), va_P D vwC (zR dA ad σ) H → va_D A (zR dA ad σ) → va_S A s.heap H locs → lv_has ls 3 [(0, .ref (ad 0 1000)), (1, .int (Int32.ofInt v1))] → wpX11_settle_2 v1 σ Q → W p l e (gR 3 0 0) s m #[.ref (ad 0 1000)] below meth c H locs 0 0 QQ (F0 m 2 ls []) := by
    intro v1 σ H locs ls hP hD hS hl hw
    exact hw (fun v1 σ => ∀ (H : Heap) (locs : List Loc) (ls : Array Slot), va_P D vwC (zR dA ad σ) H → va_D A (zR dA ad σ) → va_S A s.heap H locs → lv_has ls 3 [(0, .ref (ad 0 1000)), (1, .int (Int32.ofInt v1))] → W p l e (gR 3 0 0) s m #[.ref (ad 0 1000)] below meth c H locs 0 0 QQ (F0 m 2 ls [])) (b2 (fun v1 σ => ∀ (H : Heap) (locs : List Loc) (ls : Array Slot), va_P D vwC (zR dA ad σ) H → va_D A (zR dA ad σ) → va_S A s.heap H locs → lv_has ls 3 [(0, .ref (ad 0 1000)), (1, .int (Int32.ofInt v1))] → W p l e (gR 3 0 0) s m #[.ref (ad 0 1000)] below meth c H locs 0 0 QQ (F0 m 2 ls [])) (fun v1 σ h => h)) _ _ _ hP hD hS hl
  unfold wpX11_settle at hw
  refine lv_iconst (v := Int32.ofInt 0) hx hb dX11_settle_0 (by decide) ?_
  refine lv_istore_n (lv' := [(1, .int (Int32.ofInt 0)), (0, .ref (ad 0 1000))]) hx hb dX11_settle_1 rfl hl (by decide) rfl (fun ls hl => ?_)
  exact j2 0 σ _ _ _ hP hD hS (lv_sub hl [1, 0] rfl) hw
def wpX11_tell (a1 a2 a3 : Int) (σ : ZS) (Q : Int → ZS → Prop) : Prop := wpX11_raise a3 (zsI (zsI σ 0 3 a1) 0 4 a2) (fun (x1 : Int) (σ2 : ZS) => Q x1 σ2)
set_option maxHeartbeats 4000000 in
set_option maxRecDepth 100000 in
theorem kX11_tell (l : Launch) (D : va_G) (dA : Nat → ClassId) (ad : Int → Nat → Nat) (a1 a2 a3 : Int) (σ : ZS) (Q : Int → ZS → Prop) (sz : Nat) (hw : wpX11_tell a1 a2 a3 σ Q) : Met l yX11_tell (gws yX11_tell cX11_tell 4 (some .int)) (gR 2 0 0) (gPre D dA [.ref (ad 0 1000), .int (Int32.ofInt a1), .int (Int32.ofInt a2), .int (Int32.ofInt a3)] (zR dA ad σ) sz) (va_Qi (zQi Q) (gAt D dA (va_A (zR dA ad σ) sz) (zR dA ad)) (va_A (zR dA ad σ) sz)) 0 0 (va_A (zR dA ad σ) sz) := by
  refine Met.ofW (cc := cX11_tell) (maxL := 4) (ret := (some .int)) (by decide) rfl ?_
  intro p e s m args below meth c s₁ B hml hv
  obtain ⟨rfl, hsz, hP, hK, hD0⟩ := hv
  have hx := B.exec
  have hb := B.bytes
  have hr := B.returns
  have hts := atoms_spec (ws := gws yX11_tell cX11_tell 4 (some .int)) B.pre
  have hg : ∀ w ∈ gw, w.before _ s = true := fun w h => hts w (List.mem_cons_of_mem _ h)
  have hown : s.vm.findClass RX11 = some m.cls := findClass_of_methodNamed B.named
  have hlocks := B.notSynchronized
  subst hsz
  have hD := hD0.self (sz := s.heap.size)
  generalize hAe : va_A (zR dA ad σ) s.heap.size = A at hD ⊢
  have hA : ∀ q : Nat, s.heap.size ≤ q → A q := fun q h => by rw [← hAe]; exact Or.inr h
  have hS : va_S A s.heap s.heap [] := va_S.rf
  have hl := lv_entry ([.ref (ad 0 1000), .int (Int32.ofInt a1), .int (Int32.ofInt a2), .int (Int32.ofInt a3)]) (n := 4) (Nat.le_of_ble_eq_true rfl)
  rw [lg_entry_eq]
  generalize (lg_sl ([.ref (ad 0 1000), .int (Int32.ofInt a1), .int (Int32.ofInt a2), .int (Int32.ofInt a3)]) ++ List.replicate (4 - (lg_sl ([.ref (ad 0 1000), .int (Int32.ofInt a1), .int (Int32.ofInt a2), .int (Int32.ofInt a3)])).length) Slot.unset).toArray = ls at hl ⊢
  have hl : lv_has ls 4 [(0, .ref (ad 0 1000)), (1, .int (Int32.ofInt a1)), (2, .int (Int32.ofInt a2)), (3, .int (Int32.ofInt a3))] := hl
  have hret : ∀ (v : Int) (σ : ZS) (H : Heap) (locs : List Loc) (ls : Array Slot) (pc : Nat), Q v σ → va_P D vwC (zR dA ad σ) H → va_D A (zR dA ad σ) → va_S A s.heap H locs → decode cX11_tell pc = .ok (.ireturn, 1) → W p l e (gR 2 0 0) s m #[.ref (ad 0 1000), .int (Int32.ofInt a1), .int (Int32.ofInt a2), .int (Int32.ofInt a3)] below meth c H locs 0 0 (MQ below (va_Qi (zQi Q) (gAt D dA A (zR dA ad)) A) #[.ref (ad 0 1000), .int (Int32.ofInt a1), .int (Int32.ofInt a2), .int (Int32.ofInt a3)] s 0 0 A) (F0 m pc ls [.int (Int32.ofInt v)]) := fun v σ H locs ls pc hw hP hD hS hd => g_iret hx hb hr rfl hlocks hK σ hP hD hS ⟨v, rfl, hw⟩ (Nat.le_of_ble_eq_true rfl) (Nat.le_of_ble_eq_true rfl) hd
  generalize MQ below (va_Qi (zQi Q) (gAt D dA A (zR dA ad)) A) #[.ref (ad 0 1000), .int (Int32.ofInt a1), .int (Int32.ofInt a2), .int (Int32.ofInt a3)] s 0 0 A = QQ at hret ⊢
  unfold wpX11_tell at hw
  refine lv_aload_n hx hb dX11_tell_0 rfl (lv_at hl 0 rfl) ?_
  refine lv_iload_n hx hb dX11_tell_1 rfl (lv_at hl 1 rfl) ?_
  refine zpR0_3 (v := a1) hx hb hg hown hK hP hD hS q1618 dX11_tell_2 (fun H locs hP hD hS => ?_)
  refine lv_aload_n hx hb dX11_tell_5 rfl (lv_at hl 0 rfl) ?_
  refine lv_iload_n hx hb dX11_tell_6 rfl (lv_at hl 2 rfl) ?_
  refine zpR0_4 (v := a2) hx hb hg hown hK hP hD hS q1619 dX11_tell_7 (fun H locs hP hD hS => ?_)
  refine lv_aload_n hx hb dX11_tell_10 rfl (lv_at hl 0 rfl) ?_
  refine lv_iload_n hx hb dX11_tell_11 rfl (lv_at hl 3 rfl) ?_
  refine z_Vi (n := 1) (As := [.int (Int32.ofInt a3)]) (rest := []) hx hb hml hg hown hK hP hD hS hA (kX11_raise l D dA ad a3 (zsI (zsI σ 0 3 a1) 0 4 a2) _ _ hw) (zoR0) rfl q1883 q160 q1880 q1882 q77 (by decide +kernel) ⟨(Nat.le_of_ble_eq_true rfl), (Nat.le_of_ble_eq_true rfl)⟩ rfl hl.1 rfl (Nat.le_of_ble_eq_true rfl) dX11_tell_12 ⟨(Nat.le_of_ble_eq_true rfl), (Nat.le_of_ble_eq_true rfl)⟩ (fun x1 σ2 H locs hw hP hD hS => ?_)
  exact hret x1 σ2 _ _ _ _ hw hP hD hS dX11_tell_15
def wpbX11_append_94 (K94 : Int → ZS → Prop) (v1 v4 : Int) (σ : ZS) (Q : Int → ZS → Prop) : Prop := (-2147483648 ≤ v4 ∧ v4 ≤ 2147483647) ∧ (v4 < 0 → Q (zI σ 0 2) σ) ∧ (¬ v4 < 0 → (0 ≤ (zI σ 0 2) ∧ (zI σ 0 2) < 480) ∧ K94 (v4 + (-1)) (zsI (zsA σ 0 1 (zI σ 0 2) ((zlshr v1 (8 * v4)) % 256)) 0 2 ((zI σ 0 2) + 1)))
def wpX11_append_94 (v1 v4 : Int) (σ : ZS) (Q : Int → ZS → Prop) : Prop := lfp1 (fun K94 v4 σ => wpbX11_append_94 K94 v1 v4 σ Q) v4 σ
def wpX11_append_59 (σ : ZS) (Q : Int → ZS → Prop) : Prop := wpX11_raise 1 σ (fun (x4 : Int) (σ5 : ZS) => Q x4 σ5)
def wpbX11_append_25 (K25 : Int → ZS → Prop) (v1 v3 v4 : Int) (σ : ZS) (Q : Int → ZS → Prop) : Prop := (-2147483648 ≤ v4 ∧ v4 ≤ 2147483647) ∧ (-2147483648 ≤ v3 ∧ v3 ≤ 2147483647) ∧ (v3 ≤ v4 → (-2147483648 ≤ ((zI σ 0 2) + v3) ∧ ((zI σ 0 2) + v3) ≤ 2147483647) ∧ (((zI σ 0 2) + v3) ≤ 480 → wpX11_append_94 v1 (v3 - 1) σ Q) ∧ (¬ ((zI σ 0 2) + v3) ≤ 480 → wpX11_raise 2 σ (fun (x11 : Int) (σ12 : ZS) => Q x11 σ12))) ∧ (¬ v3 ≤ v4 → (((zlshr v1 (8 * v4)) % 256) < 32 → wpX11_append_59 σ Q) ∧ (¬ ((zlshr v1 (8 * v4)) % 256) < 32 → (((zlshr v1 (8 * v4)) % 256) ≤ 126 → K25 (v4 + 1) σ) ∧ (¬ ((zlshr v1 (8 * v4)) % 256) ≤ 126 → wpX11_append_59 σ Q)))
def wpX11_append_25 (v1 v3 v4 : Int) (σ : ZS) (Q : Int → ZS → Prop) : Prop := lfp1 (fun K25 v4 σ => wpbX11_append_25 K25 v1 v3 v4 σ Q) v4 σ
def wpX11_append_16 (σ : ZS) (Q : Int → ZS → Prop) : Prop := wpX11_raise 1 σ (fun (x15 : Int) (σ16 : ZS) => Q x15 σ16)
def wpX11_append (a1 a2 : Int) (σ : ZS) (Q : Int → ZS → Prop) : Prop := (-2147483648 ≤ a2 ∧ a2 ≤ 2147483647) ∧ (a2 < 1 → wpX11_append_16 (zsI σ 0 0 0) Q) ∧ (¬ a2 < 1 → (a2 ≤ 8 → wpX11_append_25 a1 a2 0 (zsI σ 0 0 0) Q) ∧ (¬ a2 ≤ 8 → wpX11_append_16 (zsI σ 0 0 0) Q))
set_option maxHeartbeats 4000000 in
set_option maxRecDepth 100000 in
theorem kX11_append (l : Launch) (D : va_G) (dA : Nat → ClassId) (ad : Int → Nat → Nat) (a1 a2 : Int) (σ : ZS) (Q : Int → ZS → Prop) (sz : Nat) (hw : wpX11_append a1 a2 σ Q) : Met l yX11_append (gws yX11_append cX11_append 6 (some .int)) (gR 2 0 0) (gPre D dA [.ref (ad 0 1000), .long (Int64.ofInt a1), .int (Int32.ofInt a2)] (zR dA ad σ) sz) (va_Qi (zQi Q) (gAt D dA (va_A (zR dA ad σ) sz) (zR dA ad)) (va_A (zR dA ad σ) sz)) 0 0 (va_A (zR dA ad σ) sz) := by
  refine Met.ofW (cc := cX11_append) (maxL := 6) (ret := (some .int)) (by decide) rfl ?_
  intro p e s m args below meth c s₁ B hml hv
  obtain ⟨rfl, hsz, hP, hK, hD0⟩ := hv
  have hx := B.exec
  have hb := B.bytes
  have hr := B.returns
  have hts := atoms_spec (ws := gws yX11_append cX11_append 6 (some .int)) B.pre
  have hg : ∀ w ∈ gw, w.before _ s = true := fun w h => hts w (List.mem_cons_of_mem _ h)
  have hown : s.vm.findClass RX11 = some m.cls := findClass_of_methodNamed B.named
  have hlocks := B.notSynchronized
  subst hsz
  have hD := hD0.self (sz := s.heap.size)
  generalize hAe : va_A (zR dA ad σ) s.heap.size = A at hD ⊢
  have hA : ∀ q : Nat, s.heap.size ≤ q → A q := fun q h => by rw [← hAe]; exact Or.inr h
  have hS : va_S A s.heap s.heap [] := va_S.rf
  have hl := lv_entry ([.ref (ad 0 1000), .long (Int64.ofInt a1), .int (Int32.ofInt a2)]) (n := 6) (Nat.le_of_ble_eq_true rfl)
  rw [lg_entry_eq]
  generalize (lg_sl ([.ref (ad 0 1000), .long (Int64.ofInt a1), .int (Int32.ofInt a2)]) ++ List.replicate (6 - (lg_sl ([.ref (ad 0 1000), .long (Int64.ofInt a1), .int (Int32.ofInt a2)])).length) Slot.unset).toArray = ls at hl ⊢
  have hl : lv_has ls 6 [(0, .ref (ad 0 1000)), (1, .long (Int64.ofInt a1)), (3, .int (Int32.ofInt a2))] := hl
  have hret : ∀ (v : Int) (σ : ZS) (H : Heap) (locs : List Loc) (ls : Array Slot) (pc : Nat), Q v σ → va_P D vwC (zR dA ad σ) H → va_D A (zR dA ad σ) → va_S A s.heap H locs → decode cX11_append pc = .ok (.ireturn, 1) → W p l e (gR 2 0 0) s m #[.ref (ad 0 1000), .long (Int64.ofInt a1), .int (Int32.ofInt a2)] below meth c H locs 0 0 (MQ below (va_Qi (zQi Q) (gAt D dA A (zR dA ad)) A) #[.ref (ad 0 1000), .long (Int64.ofInt a1), .int (Int32.ofInt a2)] s 0 0 A) (F0 m pc ls [.int (Int32.ofInt v)]) := fun v σ H locs ls pc hw hP hD hS hd => g_iret hx hb hr rfl hlocks hK σ hP hD hS ⟨v, rfl, hw⟩ (Nat.le_of_ble_eq_true rfl) (Nat.le_of_ble_eq_true rfl) hd
  generalize MQ below (va_Qi (zQi Q) (gAt D dA A (zR dA ad)) A) #[.ref (ad 0 1000), .long (Int64.ofInt a1), .int (Int32.ofInt a2)] s 0 0 A = QQ at hret ⊢
  have b94 : ∀ (v1 : Int) (K94 : Int → ZS → Prop), (∀ (v4 : Int) (σ : ZS), K94 v4 σ → ∀ (H : Heap) (locs : List Loc) (ls : Array Slot), va_P D vwC (zR dA ad σ) H → va_D A (zR dA ad σ) → va_S A s.heap H locs → lv_has ls 6 [(0, .ref (ad 0 1000)), (1, .long (Int64.ofInt v1)), (4, .int (Int32.ofInt v4))] → W p l e (gR 2 0 0) s m #[.ref (ad 0 1000), .long (Int64.ofInt a1), .int (Int32.ofInt a2)] below meth c H locs 0 0 QQ (F0 m 94 ls [])) → ∀ (v4 : Int) (σ : ZS), wpbX11_append_94 K94 v1 v4 σ Q → ∀ (H : Heap) (locs : List Loc) (ls : Array Slot), va_P D vwC (zR dA ad σ) H → va_D A (zR dA ad σ) → va_S A s.heap H locs → lv_has ls 6 [(0, .ref (ad 0 1000)), (1, .long (Int64.ofInt v1)), (4, .int (Int32.ofInt v4))] → W p l e (gR 2 0 0) s m #[.ref (ad 0 1000), .long (Int64.ofInt a1), .int (Int32.ofInt a2)] below meth c H locs 0 0 QQ (F0 m 94 ls []) := by
    intro v1 K94 hK94
    intro v4 σ hw H locs ls hP hD hS hl
    unfold wpbX11_append_94 at hw
    refine lv_iload hx hb dX11_append_94 (lv_at hl 2 rfl) ?_
    obtain ⟨o1, hw⟩ := hw
    refine z_if_lt (tgt := 136) hx hb o1 dX11_append_96 (by decide) (fun k2 => ?_) (fun k2 => ?_)
    · replace hw := hw.1 k2
      refine lv_aload_n hx hb dX11_append_136 rfl (lv_at hl 0 rfl) ?_
      refine zgR0_2 hx hb hg hown hK hP q1617 dX11_append_137 ?_
      exact hret (zI σ 0 2) σ _ _ _ _ hw hP hD hS dX11_append_140
    · replace hw := hw.2 k2
      refine lv_aload_n hx hb dX11_append_99 rfl (lv_at hl 0 rfl) ?_
      refine zgR0_1 hx hb hg hown hK hP q1616 dX11_append_100 ?_
      refine lv_aload_n hx hb dX11_append_103 rfl (lv_at hl 0 rfl) ?_
      refine zgR0_2 hx hb hg hown hK hP q1617 dX11_append_104 ?_
      refine lv_lload_n hx hb dX11_append_107 rfl (lv_at hl 1 rfl) ?_
      refine lv_bipush (v := Int32.ofInt 8) hx hb dX11_append_108 (by decide) ?_
      refine lv_iload hx hb dX11_append_110 (lv_at hl 2 rfl) ?_
      refine z_imul hx hb dX11_append_112 ?_
      refine z_lshr hx hb dX11_append_113 ?_
      refine z_l2i hx hb dX11_append_114 ?_
      refine lv_sipush (v := Int32.ofInt 255) hx hb dX11_append_115 (by decide) ?_
      refine z_iandK (M := 256) hx hb 8 (by decide) (by decide) (by decide) dX11_append_118 ?_
      obtain ⟨o3, hw⟩ := hw
      refine zsR0_1 (v := ((zlshr v1 (8 * v4)) % 256)) hx hb o3 hK hP hD hS dX11_append_119 (fun H locs hP hD hS => ?_)
      refine lv_aload_n hx hb dX11_append_120 rfl (lv_at hl 0 rfl) ?_
      refine lv_dup hx hb dX11_append_121 rfl ?_
      refine zgR0_2 hx hb hg hown hK hP q1617 dX11_append_122 ?_
      refine g_nrm (y := Int32.ofInt (zI σ 0 2)) rfl ?_
      refine lv_iconst (v := Int32.ofInt 1) hx hb dX11_append_125 (by decide) ?_
      refine z_iadd hx hb dX11_append_126 ?_
      refine zpR0_2 (v := ((zI σ 0 2) + 1)) hx hb hg hown hK hP hD hS q1617 dX11_append_127 (fun H locs hP hD hS => ?_)
      refine lv_iinc (v := Int32.ofInt (v4 + (-1))) (lv' := [(4, .int (Int32.ofInt (v4 + (-1)))), (0, .ref (ad 0 1000)), (1, .long (Int64.ofInt v1))]) hx hb dX11_append_130 hl (k := 2) rfl (Int32.ofInt_add _ _).symm (by decide) rfl (fun ls hl => ?_)
      refine lv_goto (tgt := 94) hx hb dX11_append_133 (by decide) ?_
      exact hK94 (v4 + (-1)) (zsI (zsA σ 0 1 (zI σ 0 2) ((zlshr v1 (8 * v4)) % 256)) 0 2 ((zI σ 0 2) + 1)) hw _ _ _ hP hD hS (lv_sub hl [1, 2, 0] rfl)
  have j94 : ∀ (v1 v4 : Int) (σ : ZS), ∀ (H : Heap) (locs : List Loc) (ls : Array Slot), va_P D vwC (zR dA ad σ) H → va_D A (zR dA ad σ) → va_S A s.heap H locs → lv_has ls 6 [(0, .ref (ad 0 1000)), (1, .long (Int64.ofInt v1)), (4, .int (Int32.ofInt v4))] → wpX11_append_94 v1 v4 σ Q → W p l e (gR 2 0 0) s m #[.ref (ad 0 1000), .long (Int64.ofInt a1), .int (Int32.ofInt a2)] below meth c H locs 0 0 QQ (F0 m 94 ls []) := by
    intro v1 v4 σ H locs ls hP hD hS hl hw
    exact hw (fun v4 σ => ∀ (H : Heap) (locs : List Loc) (ls : Array Slot), va_P D vwC (zR dA ad σ) H → va_D A (zR dA ad σ) → va_S A s.heap H locs → lv_has ls 6 [(0, .ref (ad 0 1000)), (1, .long (Int64.ofInt v1)), (4, .int (Int32.ofInt v4))] → W p l e (gR 2 0 0) s m #[.ref (ad 0 1000), .long (Int64.ofInt a1), .int (Int32.ofInt a2)] below meth c H locs 0 0 QQ (F0 m 94 ls [])) (b94 v1 (fun v4 σ => ∀ (H : Heap) (locs : List Loc) (ls : Array Slot), va_P D vwC (zR dA ad σ) H → va_D A (zR dA ad σ) → va_S A s.heap H locs → lv_has ls 6 [(0, .ref (ad 0 1000)), (1, .long (Int64.ofInt v1)), (4, .int (Int32.ofInt v4))] → W p l e (gR 2 0 0) s m #[.ref (ad 0 1000), .long (Int64.ofInt a1), .int (Int32.ofInt a2)] below meth c H locs 0 0 QQ (F0 m 94 ls [])) (fun v4 σ h => h)) _ _ _ hP hD hS hl
  have j59 : ∀ (σ : ZS), ∀ (H : Heap) (locs : List Loc) (ls : Array Slot), va_P D vwC (zR dA ad σ) H → va_D A (zR dA ad σ) → va_S A s.heap H locs → lv_has ls 6 [(0, .ref (ad 0 1000))] → wpX11_append_59 σ Q → W p l e (gR 2 0 0) s m #[.ref (ad 0 1000), .long (Int64.ofInt a1), .int (Int32.ofInt a2)] below meth c H locs 0 0 QQ (F0 m 59 ls []) := by
    intro σ H locs ls hP hD hS hl hw
    unfold wpX11_append_59 at hw
    refine lv_aload_n hx hb dX11_append_59 rfl (lv_at hl 0 rfl) ?_
    refine lv_iconst (v := Int32.ofInt 1) hx hb dX11_append_60 (by decide) ?_
    refine z_Vi (n := 1) (As := [.int (Int32.ofInt 1)]) (rest := []) hx hb hml hg hown hK hP hD hS hA (kX11_raise l D dA ad 1 σ _ _ hw) (zoR0) rfl q1883 q160 q1880 q1882 q77 (by decide +kernel) ⟨(Nat.le_of_ble_eq_true rfl), (Nat.le_of_ble_eq_true rfl)⟩ rfl hl.1 rfl (Nat.le_of_ble_eq_true rfl) dX11_append_61 ⟨(Nat.le_of_ble_eq_true rfl), (Nat.le_of_ble_eq_true rfl)⟩ (fun x4 σ5 H locs hw hP hD hS => ?_)
    exact hret x4 σ5 _ _ _ _ hw hP hD hS dX11_append_64
  have b25 : ∀ (v1 v3 : Int) (K25 : Int → ZS → Prop), (∀ (v4 : Int) (σ : ZS), K25 v4 σ → ∀ (H : Heap) (locs : List Loc) (ls : Array Slot), va_P D vwC (zR dA ad σ) H → va_D A (zR dA ad σ) → va_S A s.heap H locs → lv_has ls 6 [(0, .ref (ad 0 1000)), (1, .long (Int64.ofInt v1)), (3, .int (Int32.ofInt v3)), (4, .int (Int32.ofInt v4))] → W p l e (gR 2 0 0) s m #[.ref (ad 0 1000), .long (Int64.ofInt a1), .int (Int32.ofInt a2)] below meth c H locs 0 0 QQ (F0 m 25 ls [])) → ∀ (v4 : Int) (σ : ZS), wpbX11_append_25 K25 v1 v3 v4 σ Q → ∀ (H : Heap) (locs : List Loc) (ls : Array Slot), va_P D vwC (zR dA ad σ) H → va_D A (zR dA ad σ) → va_S A s.heap H locs → lv_has ls 6 [(0, .ref (ad 0 1000)), (1, .long (Int64.ofInt v1)), (3, .int (Int32.ofInt v3)), (4, .int (Int32.ofInt v4))] → W p l e (gR 2 0 0) s m #[.ref (ad 0 1000), .long (Int64.ofInt a1), .int (Int32.ofInt a2)] below meth c H locs 0 0 QQ (F0 m 25 ls []) := by
    intro v1 v3 K25 hK25
    intro v4 σ hw H locs ls hP hD hS hl
    unfold wpbX11_append_25 at hw
    refine lv_iload hx hb dX11_append_25 (lv_at hl 3 rfl) ?_
    refine lv_iload_n hx hb dX11_append_27 rfl (lv_at hl 2 rfl) ?_
    obtain ⟨o6, hw⟩ := hw
    obtain ⟨o7, hw⟩ := hw
    refine z_icmp_ge (tgt := 71) hx hb o6 o7 dX11_append_28 (by decide) (fun k8 => ?_) (fun k8 => ?_)
    · replace hw := hw.1 k8
      refine lv_aload_n hx hb dX11_append_71 rfl (lv_at hl 0 rfl) ?_
      refine zgR0_2 hx hb hg hown hK hP q1617 dX11_append_72 ?_
      refine lv_iload_n hx hb dX11_append_75 rfl (lv_at hl 2 rfl) ?_
      refine z_iadd hx hb dX11_append_76 ?_
      refine lv_sipush (v := Int32.ofInt 480) hx hb dX11_append_77 (by decide) ?_
      obtain ⟨o9, hw⟩ := hw
      refine z_icmp_le (tgt := 89) hx hb o9 (by decide) dX11_append_80 (by decide) (fun k10 => ?_) (fun k10 => ?_)
      · replace hw := hw.1 k10
        refine lv_iload_n hx hb dX11_append_89 rfl (lv_at hl 2 rfl) ?_
        refine lv_iconst (v := Int32.ofInt 1) hx hb dX11_append_90 (by decide) ?_
        refine z_isub hx hb dX11_append_91 ?_
        refine lv_istore (lv' := [(4, .int (Int32.ofInt (v3 - 1))), (0, .ref (ad 0 1000)), (1, .long (Int64.ofInt v1)), (3, .int (Int32.ofInt v3))]) hx hb dX11_append_92 hl (by decide) rfl (fun ls hl => ?_)
        exact j94 v1 (v3 - 1) σ _ _ _ hP hD hS (lv_sub hl [1, 2, 0] rfl) hw
      · replace hw := hw.2 k10
        refine lv_aload_n hx hb dX11_append_83 rfl (lv_at hl 0 rfl) ?_
        refine lv_iconst (v := Int32.ofInt 2) hx hb dX11_append_84 (by decide) ?_
        refine z_Vi (n := 1) (As := [.int (Int32.ofInt 2)]) (rest := []) hx hb hml hg hown hK hP hD hS hA (kX11_raise l D dA ad 2 σ _ _ hw) (zoR0) rfl q1883 q160 q1880 q1882 q77 (by decide +kernel) ⟨(Nat.le_of_ble_eq_true rfl), (Nat.le_of_ble_eq_true rfl)⟩ rfl hl.1 rfl (Nat.le_of_ble_eq_true rfl) dX11_append_85 ⟨(Nat.le_of_ble_eq_true rfl), (Nat.le_of_ble_eq_true rfl)⟩ (fun x11 σ12 H locs hw hP hD hS => ?_)
        exact hret x11 σ12 _ _ _ _ hw hP hD hS dX11_append_88
    · replace hw := hw.2 k8
      refine lv_lload_n hx hb dX11_append_31 rfl (lv_at hl 1 rfl) ?_
      refine lv_bipush (v := Int32.ofInt 8) hx hb dX11_append_32 (by decide) ?_
      refine lv_iload hx hb dX11_append_34 (lv_at hl 3 rfl) ?_
      refine z_imul hx hb dX11_append_36 ?_
      refine z_lshr hx hb dX11_append_37 ?_
      refine z_l2i hx hb dX11_append_38 ?_
      refine lv_sipush (v := Int32.ofInt 255) hx hb dX11_append_39 (by decide) ?_
      refine z_iandK (M := 256) hx hb 8 (by decide) (by decide) (by decide) dX11_append_42 ?_
      refine lv_istore (lv' := [(5, .int (Int32.ofInt ((zlshr v1 (8 * v4)) % 256))), (0, .ref (ad 0 1000)), (1, .long (Int64.ofInt v1)), (3, .int (Int32.ofInt v3)), (4, .int (Int32.ofInt v4))]) hx hb dX11_append_43 hl (by decide) rfl (fun ls hl => ?_)
      refine lv_iload hx hb dX11_append_45 (lv_at hl 0 rfl) ?_
      refine lv_bipush (v := Int32.ofInt 32) hx hb dX11_append_47 (by decide) ?_
      refine z_icmp_lt (tgt := 59) hx hb (by clear hw; omega) (by decide) dX11_append_49 (by decide) (fun k13 => ?_) (fun k13 => ?_)
      · replace hw := hw.1 k13
        exact j59 σ _ _ _ hP hD hS (lv_sub hl [1] rfl) hw
      · replace hw := hw.2 k13
        refine lv_iload hx hb dX11_append_52 (lv_at hl 0 rfl) ?_
        refine lv_bipush (v := Int32.ofInt 126) hx hb dX11_append_54 (by decide) ?_
        refine z_icmp_le (tgt := 65) hx hb (by clear hw; omega) (by decide) dX11_append_56 (by decide) (fun k14 => ?_) (fun k14 => ?_)
        · replace hw := hw.1 k14
          refine lv_iinc (v := Int32.ofInt (v4 + 1)) (lv' := [(4, .int (Int32.ofInt (v4 + 1))), (5, .int (Int32.ofInt ((zlshr v1 (8 * v4)) % 256))), (0, .ref (ad 0 1000)), (1, .long (Int64.ofInt v1)), (3, .int (Int32.ofInt v3))]) hx hb dX11_append_65 hl (k := 4) rfl (Int32.ofInt_add _ _).symm (by decide) rfl (fun ls hl => ?_)
          refine lv_goto (tgt := 25) hx hb dX11_append_68 (by decide) ?_
          exact hK25 (v4 + 1) σ hw _ _ _ hP hD hS (lv_sub hl [2, 3, 4, 0] rfl)
        · replace hw := hw.2 k14
          exact j59 σ _ _ _ hP hD hS (lv_sub hl [1] rfl) hw
  have j25 : ∀ (v1 v3 v4 : Int) (σ : ZS), ∀ (H : Heap) (locs : List Loc) (ls : Array Slot), va_P D vwC (zR dA ad σ) H → va_D A (zR dA ad σ) → va_S A s.heap H locs → lv_has ls 6 [(0, .ref (ad 0 1000)), (1, .long (Int64.ofInt v1)), (3, .int (Int32.ofInt v3)), (4, .int (Int32.ofInt v4))] → wpX11_append_25 v1 v3 v4 σ Q → W p l e (gR 2 0 0) s m #[.ref (ad 0 1000), .long (Int64.ofInt a1), .int (Int32.ofInt a2)] below meth c H locs 0 0 QQ (F0 m 25 ls []) := by
    intro v1 v3 v4 σ H locs ls hP hD hS hl hw
    exact hw (fun v4 σ => ∀ (H : Heap) (locs : List Loc) (ls : Array Slot), va_P D vwC (zR dA ad σ) H → va_D A (zR dA ad σ) → va_S A s.heap H locs → lv_has ls 6 [(0, .ref (ad 0 1000)), (1, .long (Int64.ofInt v1)), (3, .int (Int32.ofInt v3)), (4, .int (Int32.ofInt v4))] → W p l e (gR 2 0 0) s m #[.ref (ad 0 1000), .long (Int64.ofInt a1), .int (Int32.ofInt a2)] below meth c H locs 0 0 QQ (F0 m 25 ls [])) (b25 v1 v3 (fun v4 σ => ∀ (H : Heap) (locs : List Loc) (ls : Array Slot), va_P D vwC (zR dA ad σ) H → va_D A (zR dA ad σ) → va_S A s.heap H locs → lv_has ls 6 [(0, .ref (ad 0 1000)), (1, .long (Int64.ofInt v1)), (3, .int (Int32.ofInt v3)), (4, .int (Int32.ofInt v4))] → W p l e (gR 2 0 0) s m #[.ref (ad 0 1000), .long (Int64.ofInt a1), .int (Int32.ofInt a2)] below meth c H locs 0 0 QQ (F0 m 25 ls [])) (fun v4 σ h => h)) _ _ _ hP hD hS hl
  have j16 : ∀ (σ : ZS), ∀ (H : Heap) (locs : List Loc) (ls : Array Slot), va_P D vwC (zR dA ad σ) H → va_D A (zR dA ad σ) → va_S A s.heap H locs → lv_has ls 6 [(0, .ref (ad 0 1000))] → wpX11_append_16 σ Q → W p l e (gR 2 0 0) s m #[.ref (ad 0 1000), .long (Int64.ofInt a1), .int (Int32.ofInt a2)] below meth c H locs 0 0 QQ (F0 m 16 ls []) := by
    intro σ H locs ls hP hD hS hl hw
    unfold wpX11_append_16 at hw
    refine lv_aload_n hx hb dX11_append_16 rfl (lv_at hl 0 rfl) ?_
    refine lv_iconst (v := Int32.ofInt 1) hx hb dX11_append_17 (by decide) ?_
    refine z_Vi (n := 1) (As := [.int (Int32.ofInt 1)]) (rest := []) hx hb hml hg hown hK hP hD hS hA (kX11_raise l D dA ad 1 σ _ _ hw) (zoR0) rfl q1883 q160 q1880 q1882 q77 (by decide +kernel) ⟨(Nat.le_of_ble_eq_true rfl), (Nat.le_of_ble_eq_true rfl)⟩ rfl hl.1 rfl (Nat.le_of_ble_eq_true rfl) dX11_append_18 ⟨(Nat.le_of_ble_eq_true rfl), (Nat.le_of_ble_eq_true rfl)⟩ (fun x15 σ16 H locs hw hP hD hS => ?_)
    exact hret x15 σ16 _ _ _ _ hw hP hD hS dX11_append_21
  unfold wpX11_append at hw
  refine lv_aload_n hx hb dX11_append_0 rfl (lv_at hl 0 rfl) ?_
  refine lv_iconst (v := Int32.ofInt 0) hx hb dX11_append_1 (by decide) ?_
  refine zpR0_0 (v := 0) hx hb hg hown hK hP hD hS q1615 dX11_append_2 (fun H locs hP hD hS => ?_)
  refine lv_iload_n hx hb dX11_append_5 rfl (lv_at hl 2 rfl) ?_
  refine lv_iconst (v := Int32.ofInt 1) hx hb dX11_append_6 (by decide) ?_
  obtain ⟨o17, hw⟩ := hw
  refine z_icmp_lt (tgt := 16) hx hb o17 (by decide) dX11_append_7 (by decide) (fun k18 => ?_) (fun k18 => ?_)
  · replace hw := hw.1 k18
    exact j16 (zsI σ 0 0 0) _ _ _ hP hD hS (lv_sub hl [0] rfl) hw
  · replace hw := hw.2 k18
    refine lv_iload_n hx hb dX11_append_10 rfl (lv_at hl 2 rfl) ?_
    refine lv_bipush (v := Int32.ofInt 8) hx hb dX11_append_11 (by decide) ?_
    refine z_icmp_le (tgt := 22) hx hb o17 (by decide) dX11_append_13 (by decide) (fun k19 => ?_) (fun k19 => ?_)
    · replace hw := hw.1 k19
      refine lv_iconst (v := Int32.ofInt 0) hx hb dX11_append_22 (by decide) ?_
      refine lv_istore (lv' := [(4, .int (Int32.ofInt 0)), (0, .ref (ad 0 1000)), (1, .long (Int64.ofInt a1)), (3, .int (Int32.ofInt a2))]) hx hb dX11_append_23 hl (by decide) rfl (fun ls hl => ?_)
      exact j25 a1 a2 0 (zsI σ 0 0 0) _ _ _ hP hD hS (lv_sub hl [1, 2, 3, 0] rfl) hw
    · replace hw := hw.2 k19
      exact j16 (zsI σ 0 0 0) _ _ _ hP hD hS (lv_sub hl [0] rfl) hw
def wpX11_set (a1 a2 a3 a4 : Int) (σ : ZS) (Q : ZS → Prop) : Prop := (0 ≤ ((24 * a1) + a2) ∧ ((24 * a1) + a2) < 72) ∧ (0 ≤ (((400 * a1) + (zA σ 0 47 ((24 * a1) + a2))) + a3) ∧ (((400 * a1) + (zA σ 0 47 ((24 * a1) + a2))) + a3) < 1200) ∧ Q (zsA σ 0 49 (((400 * a1) + (zA σ 0 47 ((24 * a1) + a2))) + a3) (a4 % 256))
set_option maxHeartbeats 4000000 in
set_option maxRecDepth 100000 in
theorem kX11_set (l : Launch) (D : va_G) (dA : Nat → ClassId) (ad : Int → Nat → Nat) (a1 a2 a3 a4 : Int) (σ : ZS) (Q : ZS → Prop) (sz : Nat) (hw : wpX11_set a1 a2 a3 a4 σ Q) : Met l yX11_set (gws yX11_set cX11_set 5 none) (gR 1 0 0) (gPre D dA [.ref (ad 0 1000), .int (Int32.ofInt a1), .int (Int32.ofInt a2), .int (Int32.ofInt a3), .int (Int32.ofInt a4)] (zR dA ad σ) sz) (va_Qv Q (gAt D dA (va_A (zR dA ad σ) sz) (zR dA ad)) (va_A (zR dA ad σ) sz)) 0 0 (va_A (zR dA ad σ) sz) := by
  refine Met.ofW (cc := cX11_set) (maxL := 5) (ret := none) (by decide) rfl ?_
  intro p e s m args below meth c s₁ B hml hv
  obtain ⟨rfl, hsz, hP, hK, hD0⟩ := hv
  have hx := B.exec
  have hb := B.bytes
  have hr := B.returns
  have hts := atoms_spec (ws := gws yX11_set cX11_set 5 none) B.pre
  have hg : ∀ w ∈ gw, w.before _ s = true := fun w h => hts w (List.mem_cons_of_mem _ h)
  have hown : s.vm.findClass RX11 = some m.cls := findClass_of_methodNamed B.named
  have hlocks := B.notSynchronized
  subst hsz
  have hD := hD0.self (sz := s.heap.size)
  generalize hAe : va_A (zR dA ad σ) s.heap.size = A at hD ⊢
  have hA : ∀ q : Nat, s.heap.size ≤ q → A q := fun q h => by rw [← hAe]; exact Or.inr h
  have hS : va_S A s.heap s.heap [] := va_S.rf
  have hl := lv_entry ([.ref (ad 0 1000), .int (Int32.ofInt a1), .int (Int32.ofInt a2), .int (Int32.ofInt a3), .int (Int32.ofInt a4)]) (n := 5) (Nat.le_of_ble_eq_true rfl)
  rw [lg_entry_eq]
  generalize (lg_sl ([.ref (ad 0 1000), .int (Int32.ofInt a1), .int (Int32.ofInt a2), .int (Int32.ofInt a3), .int (Int32.ofInt a4)]) ++ List.replicate (5 - (lg_sl ([.ref (ad 0 1000), .int (Int32.ofInt a1), .int (Int32.ofInt a2), .int (Int32.ofInt a3), .int (Int32.ofInt a4)])).length) Slot.unset).toArray = ls at hl ⊢
  have hl : lv_has ls 5 [(0, .ref (ad 0 1000)), (1, .int (Int32.ofInt a1)), (2, .int (Int32.ofInt a2)), (3, .int (Int32.ofInt a3)), (4, .int (Int32.ofInt a4))] := hl
  have hret : ∀ (σ : ZS) (H : Heap) (locs : List Loc) (ls : Array Slot) (pc : Nat), Q σ → va_P D vwC (zR dA ad σ) H → va_D A (zR dA ad σ) → va_S A s.heap H locs → decode cX11_set pc = .ok (.return_, 1) → W p l e (gR 1 0 0) s m #[.ref (ad 0 1000), .int (Int32.ofInt a1), .int (Int32.ofInt a2), .int (Int32.ofInt a3), .int (Int32.ofInt a4)] below meth c H locs 0 0 (MQ below (va_Qv Q (gAt D dA A (zR dA ad)) A) #[.ref (ad 0 1000), .int (Int32.ofInt a1), .int (Int32.ofInt a2), .int (Int32.ofInt a3), .int (Int32.ofInt a4)] s 0 0 A) (F0 m pc ls []) := fun σ H locs ls pc hw hP hD hS hd => g_vret hx hb hr hlocks hK σ hP hD hS hw (Nat.le_of_ble_eq_true rfl) (Nat.le_of_ble_eq_true rfl) hd
  generalize MQ below (va_Qv Q (gAt D dA A (zR dA ad)) A) #[.ref (ad 0 1000), .int (Int32.ofInt a1), .int (Int32.ofInt a2), .int (Int32.ofInt a3), .int (Int32.ofInt a4)] s 0 0 A = QQ at hret ⊢
  unfold wpX11_set at hw
  refine lv_aload_n hx hb dX11_set_0 rfl (lv_at hl 0 rfl) ?_
  refine zgR0_49 hx hb hg hown hK hP q1664 dX11_set_1 ?_
  refine lv_sipush (v := Int32.ofInt 400) hx hb dX11_set_4 (by decide) ?_
  refine lv_iload_n hx hb dX11_set_7 rfl (lv_at hl 1 rfl) ?_
  refine z_imul hx hb dX11_set_8 ?_
  refine lv_aload_n hx hb dX11_set_9 rfl (lv_at hl 0 rfl) ?_
  refine zgR0_47 hx hb hg hown hK hP q1662 dX11_set_10 ?_
  refine lv_bipush (v := Int32.ofInt 24) hx hb dX11_set_13 (by decide) ?_
  refine lv_iload_n hx hb dX11_set_15 rfl (lv_at hl 1 rfl) ?_
  refine z_imul hx hb dX11_set_16 ?_
  refine lv_iload_n hx hb dX11_set_17 rfl (lv_at hl 2 rfl) ?_
  refine z_iadd hx hb dX11_set_18 ?_
  obtain ⟨o1, hw⟩ := hw
  refine zlR0_47 hx hb o1 hK hP dX11_set_19 ?_
  refine z_iadd hx hb dX11_set_20 ?_
  refine lv_iload_n hx hb dX11_set_21 rfl (lv_at hl 3 rfl) ?_
  refine z_iadd hx hb dX11_set_22 ?_
  refine lv_iload hx hb dX11_set_23 (lv_at hl 4 rfl) ?_
  refine lv_sipush (v := Int32.ofInt 255) hx hb dX11_set_25 (by decide) ?_
  refine z_iandK (M := 256) hx hb 8 (by decide) (by decide) (by decide) dX11_set_28 ?_
  obtain ⟨o2, hw⟩ := hw
  refine zsR0_49 (v := (a4 % 256)) hx hb o2 hK hP hD hS dX11_set_29 (fun H locs hP hD hS => ?_)
  exact hret (zsA σ 0 49 (((400 * a1) + (zA σ 0 47 ((24 * a1) + a2))) + a3) (a4 % 256)) _ _ _ _ hw hP hD hS dX11_set_30
def wpX11_fix_67 (v1 v5 v6 s2 s1 : Int) (σ : ZS) (Q : ZS → Prop) : Prop := (0 ≤ s1 ∧ s1 < 600) ∧ (0 ≤ v5 ∧ v5 < 240) ∧ (0 ≤ v6 ∧ v6 < 600) ∧ (0 ≤ v1 ∧ v1 < 3) ∧ Q (zsA (zsA (zsA σ 0 54 s1 s2) 0 55 v6 (zA σ 0 12 v5)) 0 50 v1 ((zA σ 0 50 v1) + 1))
def wpX11_fix (a1 a2 a3 a4 a5 : Int) (σ : ZS) (Q : ZS → Prop) : Prop := (0 ≤ a1 ∧ a1 < 3) ∧ (0 ≤ ((200 * a1) + (zA σ 0 50 a1)) ∧ ((200 * a1) + (zA σ 0 50 a1)) < 600) ∧ (0 ≤ a5 ∧ a5 < 240) ∧ (-2147483648 ≤ (zA σ 0 13 a5) ∧ (zA σ 0 13 a5) ≤ 2147483647) ∧ (¬ (zA σ 0 13 a5) = 3 → wpX11_fix_67 a1 a5 ((200 * a1) + (zA σ 0 50 a1)) (zA σ 0 14 a5) ((200 * a1) + (zA σ 0 50 a1)) (zsA (zsA (zsA σ 0 51 ((200 * a1) + (zA σ 0 50 a1)) a2) 0 52 ((200 * a1) + (zA σ 0 50 a1)) a3) 0 53 ((200 * a1) + (zA σ 0 50 a1)) a4) Q) ∧ ((zA σ 0 13 a5) = 3 → wpX11_fix_67 a1 a5 ((200 * a1) + (zA σ 0 50 a1)) (-1) ((200 * a1) + (zA σ 0 50 a1)) (zsA (zsA (zsA σ 0 51 ((200 * a1) + (zA σ 0 50 a1)) a2) 0 52 ((200 * a1) + (zA σ 0 50 a1)) a3) 0 53 ((200 * a1) + (zA σ 0 50 a1)) a4) Q)
set_option maxHeartbeats 4000000 in
set_option maxRecDepth 100000 in
theorem kX11_fix (l : Launch) (D : va_G) (dA : Nat → ClassId) (ad : Int → Nat → Nat) (a1 a2 a3 a4 a5 : Int) (σ : ZS) (Q : ZS → Prop) (sz : Nat) (hw : wpX11_fix a1 a2 a3 a4 a5 σ Q) : Met l yX11_fix (gws yX11_fix cX11_fix 7 none) (gR 1 0 0) (gPre D dA [.ref (ad 0 1000), .int (Int32.ofInt a1), .int (Int32.ofInt a2), .int (Int32.ofInt a3), .int (Int32.ofInt a4), .int (Int32.ofInt a5)] (zR dA ad σ) sz) (va_Qv Q (gAt D dA (va_A (zR dA ad σ) sz) (zR dA ad)) (va_A (zR dA ad σ) sz)) 0 0 (va_A (zR dA ad σ) sz) := by
  refine Met.ofW (cc := cX11_fix) (maxL := 7) (ret := none) (by decide) rfl ?_
  intro p e s m args below meth c s₁ B hml hv
  obtain ⟨rfl, hsz, hP, hK, hD0⟩ := hv
  have hx := B.exec
  have hb := B.bytes
  have hr := B.returns
  have hts := atoms_spec (ws := gws yX11_fix cX11_fix 7 none) B.pre
  have hg : ∀ w ∈ gw, w.before _ s = true := fun w h => hts w (List.mem_cons_of_mem _ h)
  have hown : s.vm.findClass RX11 = some m.cls := findClass_of_methodNamed B.named
  have hlocks := B.notSynchronized
  subst hsz
  have hD := hD0.self (sz := s.heap.size)
  generalize hAe : va_A (zR dA ad σ) s.heap.size = A at hD ⊢
  have hA : ∀ q : Nat, s.heap.size ≤ q → A q := fun q h => by rw [← hAe]; exact Or.inr h
  have hS : va_S A s.heap s.heap [] := va_S.rf
  have hl := lv_entry ([.ref (ad 0 1000), .int (Int32.ofInt a1), .int (Int32.ofInt a2), .int (Int32.ofInt a3), .int (Int32.ofInt a4), .int (Int32.ofInt a5)]) (n := 7) (Nat.le_of_ble_eq_true rfl)
  rw [lg_entry_eq]
  generalize (lg_sl ([.ref (ad 0 1000), .int (Int32.ofInt a1), .int (Int32.ofInt a2), .int (Int32.ofInt a3), .int (Int32.ofInt a4), .int (Int32.ofInt a5)]) ++ List.replicate (7 - (lg_sl ([.ref (ad 0 1000), .int (Int32.ofInt a1), .int (Int32.ofInt a2), .int (Int32.ofInt a3), .int (Int32.ofInt a4), .int (Int32.ofInt a5)])).length) Slot.unset).toArray = ls at hl ⊢
  have hl : lv_has ls 7 [(0, .ref (ad 0 1000)), (1, .int (Int32.ofInt a1)), (2, .int (Int32.ofInt a2)), (3, .int (Int32.ofInt a3)), (4, .int (Int32.ofInt a4)), (5, .int (Int32.ofInt a5))] := hl
  have hret : ∀ (σ : ZS) (H : Heap) (locs : List Loc) (ls : Array Slot) (pc : Nat), Q σ → va_P D vwC (zR dA ad σ) H → va_D A (zR dA ad σ) → va_S A s.heap H locs → decode cX11_fix pc = .ok (.return_, 1) → W p l e (gR 1 0 0) s m #[.ref (ad 0 1000), .int (Int32.ofInt a1), .int (Int32.ofInt a2), .int (Int32.ofInt a3), .int (Int32.ofInt a4), .int (Int32.ofInt a5)] below meth c H locs 0 0 (MQ below (va_Qv Q (gAt D dA A (zR dA ad)) A) #[.ref (ad 0 1000), .int (Int32.ofInt a1), .int (Int32.ofInt a2), .int (Int32.ofInt a3), .int (Int32.ofInt a4), .int (Int32.ofInt a5)] s 0 0 A) (F0 m pc ls []) := fun σ H locs ls pc hw hP hD hS hd => g_vret hx hb hr hlocks hK σ hP hD hS hw (Nat.le_of_ble_eq_true rfl) (Nat.le_of_ble_eq_true rfl) hd
  generalize MQ below (va_Qv Q (gAt D dA A (zR dA ad)) A) #[.ref (ad 0 1000), .int (Int32.ofInt a1), .int (Int32.ofInt a2), .int (Int32.ofInt a3), .int (Int32.ofInt a4), .int (Int32.ofInt a5)] s 0 0 A = QQ at hret ⊢
  have j67 : ∀ (v1 v5 v6 s2 s1 : Int) (σ : ZS), ∀ (H : Heap) (locs : List Loc) (ls : Array Slot), va_P D vwC (zR dA ad σ) H → va_D A (zR dA ad σ) → va_S A s.heap H locs → lv_has ls 7 [(0, .ref (ad 0 1000)), (1, .int (Int32.ofInt v1)), (5, .int (Int32.ofInt v5)), (6, .int (Int32.ofInt v6))] → wpX11_fix_67 v1 v5 v6 s2 s1 σ Q → W p l e (gR 1 0 0) s m #[.ref (ad 0 1000), .int (Int32.ofInt a1), .int (Int32.ofInt a2), .int (Int32.ofInt a3), .int (Int32.ofInt a4), .int (Int32.ofInt a5)] below meth c H locs 0 0 QQ (F0 m 67 ls [.int (Int32.ofInt s2), .int (Int32.ofInt s1), .ref (ad 0 54)]) := by
    intro v1 v5 v6 s2 s1 σ H locs ls hP hD hS hl hw
    unfold wpX11_fix_67 at hw
    obtain ⟨o1, hw⟩ := hw
    refine zsR0_54 (v := s2) hx hb o1 hK hP hD hS dX11_fix_67 (fun H locs hP hD hS => ?_)
    refine lv_aload_n hx hb dX11_fix_68 rfl (lv_at hl 0 rfl) ?_
    refine zgR0_55 hx hb hg hown hK hP q1670 dX11_fix_69 ?_
    refine lv_iload hx hb dX11_fix_72 (lv_at hl 3 rfl) ?_
    refine lv_aload_n hx hb dX11_fix_74 rfl (lv_at hl 0 rfl) ?_
    refine zgR0_12 hx hb hg hown hK hP q1627 dX11_fix_75 ?_
    refine lv_iload hx hb dX11_fix_78 (lv_at hl 2 rfl) ?_
    obtain ⟨o2, hw⟩ := hw
    refine zlR0_12 hx hb o2 hK hP dX11_fix_80 ?_
    refine g_nrmL (y := Int64.ofInt (zA σ 0 12 v5)) rfl ?_
    obtain ⟨o3, hw⟩ := hw
    refine zsR0_55 (v := (zA σ 0 12 v5)) hx hb o3 hK hP hD hS dX11_fix_81 (fun H locs hP hD hS => ?_)
    refine lv_aload_n hx hb dX11_fix_82 rfl (lv_at hl 0 rfl) ?_
    refine zgR0_50 hx hb hg hown hK hP q1665 dX11_fix_83 ?_
    refine lv_iload_n hx hb dX11_fix_86 rfl (lv_at hl 1 rfl) ?_
    refine lv_dup2_11 hx hb dX11_fix_87 rfl rfl ?_
    obtain ⟨o4, hw⟩ := hw
    refine zlR0_50 hx hb o4 hK hP dX11_fix_88 ?_
    refine g_nrm (y := Int32.ofInt (zA σ 0 50 v1)) rfl ?_
    refine lv_iconst (v := Int32.ofInt 1) hx hb dX11_fix_89 (by decide) ?_
    refine z_iadd hx hb dX11_fix_90 ?_
    refine zsR0_50 (v := ((zA σ 0 50 v1) + 1)) hx hb o4 hK hP hD hS dX11_fix_91 (fun H locs hP hD hS => ?_)
    exact hret (zsA (zsA (zsA σ 0 54 s1 s2) 0 55 v6 (zA σ 0 12 v5)) 0 50 v1 ((zA σ 0 50 v1) + 1)) _ _ _ _ hw hP hD hS dX11_fix_92
  unfold wpX11_fix at hw
  refine lv_sipush (v := Int32.ofInt 200) hx hb dX11_fix_0 (by decide) ?_
  refine lv_iload_n hx hb dX11_fix_3 rfl (lv_at hl 1 rfl) ?_
  refine z_imul hx hb dX11_fix_4 ?_
  refine lv_aload_n hx hb dX11_fix_5 rfl (lv_at hl 0 rfl) ?_
  refine zgR0_50 hx hb hg hown hK hP q1665 dX11_fix_6 ?_
  refine lv_iload_n hx hb dX11_fix_9 rfl (lv_at hl 1 rfl) ?_
  obtain ⟨o5, hw⟩ := hw
  refine zlR0_50 hx hb o5 hK hP dX11_fix_10 ?_
  refine z_iadd hx hb dX11_fix_11 ?_
  refine lv_istore (lv' := [(6, .int (Int32.ofInt ((200 * a1) + (zA σ 0 50 a1)))), (0, .ref (ad 0 1000)), (1, .int (Int32.ofInt a1)), (2, .int (Int32.ofInt a2)), (3, .int (Int32.ofInt a3)), (4, .int (Int32.ofInt a4)), (5, .int (Int32.ofInt a5))]) hx hb dX11_fix_12 hl (by decide) rfl (fun ls hl => ?_)
  refine lv_aload_n hx hb dX11_fix_14 rfl (lv_at hl 1 rfl) ?_
  refine zgR0_51 hx hb hg hown hK hP q1666 dX11_fix_15 ?_
  refine lv_iload hx hb dX11_fix_18 (lv_at hl 0 rfl) ?_
  refine lv_iload_n hx hb dX11_fix_20 rfl (lv_at hl 3 rfl) ?_
  obtain ⟨o6, hw⟩ := hw
  refine zsR0_51 (v := a2) hx hb o6 hK hP hD hS dX11_fix_21 (fun H locs hP hD hS => ?_)
  refine lv_aload_n hx hb dX11_fix_22 rfl (lv_at hl 1 rfl) ?_
  refine zgR0_52 hx hb hg hown hK hP q1667 dX11_fix_23 ?_
  refine lv_iload hx hb dX11_fix_26 (lv_at hl 0 rfl) ?_
  refine lv_iload_n hx hb dX11_fix_28 rfl (lv_at hl 4 rfl) ?_
  refine zsR0_52 (v := a3) hx hb o6 hK hP hD hS dX11_fix_29 (fun H locs hP hD hS => ?_)
  refine lv_aload_n hx hb dX11_fix_30 rfl (lv_at hl 1 rfl) ?_
  refine zgR0_53 hx hb hg hown hK hP q1668 dX11_fix_31 ?_
  refine lv_iload hx hb dX11_fix_34 (lv_at hl 0 rfl) ?_
  refine lv_iload hx hb dX11_fix_36 (lv_at hl 5 rfl) ?_
  refine zsR0_53 (v := a4) hx hb o6 hK hP hD hS dX11_fix_38 (fun H locs hP hD hS => ?_)
  refine lv_aload_n hx hb dX11_fix_39 rfl (lv_at hl 1 rfl) ?_
  refine zgR0_54 hx hb hg hown hK hP q1669 dX11_fix_40 ?_
  refine lv_iload hx hb dX11_fix_43 (lv_at hl 0 rfl) ?_
  refine lv_aload_n hx hb dX11_fix_45 rfl (lv_at hl 1 rfl) ?_
  refine zgR0_13 hx hb hg hown hK hP q1628 dX11_fix_46 ?_
  refine lv_iload hx hb dX11_fix_49 (lv_at hl 6 rfl) ?_
  obtain ⟨o7, hw⟩ := hw
  refine zlR0_13 hx hb o7 hK hP dX11_fix_51 ?_
  refine g_nrm (y := Int32.ofInt (zA σ 0 13 a5)) rfl ?_
  refine lv_iconst (v := Int32.ofInt 3) hx hb dX11_fix_52 (by decide) ?_
  obtain ⟨o8, hw⟩ := hw
  refine z_icmp_ne (tgt := 60) hx hb o8 (by decide) dX11_fix_53 (by decide) (fun k9 => ?_) (fun k9 => ?_)
  · replace hw := hw.1 k9
    refine lv_aload_n hx hb dX11_fix_60 rfl (lv_at hl 1 rfl) ?_
    refine zgR0_14 hx hb hg hown hK hP q1629 dX11_fix_61 ?_
    refine lv_iload hx hb dX11_fix_64 (lv_at hl 6 rfl) ?_
    refine zlR0_14 hx hb o7 hK hP dX11_fix_66 ?_
    refine g_nrm (y := Int32.ofInt (zA σ 0 14 a5)) rfl ?_
    exact j67 a1 a5 ((200 * a1) + (zA σ 0 50 a1)) (zA σ 0 14 a5) ((200 * a1) + (zA σ 0 50 a1)) (zsA (zsA (zsA σ 0 51 ((200 * a1) + (zA σ 0 50 a1)) a2) 0 52 ((200 * a1) + (zA σ 0 50 a1)) a3) 0 53 ((200 * a1) + (zA σ 0 50 a1)) a4) _ _ _ hP hD hS (lv_sub hl [1, 2, 6, 0] rfl) hw
  · replace hw := hw.2 k9
    refine lv_iconst (v := Int32.ofInt (-1)) hx hb dX11_fix_56 (by decide) ?_
    refine lv_goto (tgt := 67) hx hb dX11_fix_57 (by decide) ?_
    exact j67 a1 a5 ((200 * a1) + (zA σ 0 50 a1)) (-1) ((200 * a1) + (zA σ 0 50 a1)) (zsA (zsA (zsA σ 0 51 ((200 * a1) + (zA σ 0 50 a1)) a2) 0 52 ((200 * a1) + (zA σ 0 50 a1)) a3) 0 53 ((200 * a1) + (zA σ 0 50 a1)) a4) _ _ _ hP hD hS (lv_sub hl [1, 2, 6, 0] rfl) hw
def wpX11_put_320 (v1 v3 v4 v6 v7 : Int) (σ : ZS) (Q : ZS → Prop) : Prop := wpX11_set v1 v3 (v4 + v7) v6 σ (fun (σ2 : ZS) => (-2147483648 ≤ v6 ∧ v6 ≤ 2147483647) ∧ wpX11_set v1 v3 ((v4 + v7) + 1) (v6 / 256) σ2 (fun (σ5 : ZS) => Q σ5))
def wpX11_put_295 (v1 v3 v4 v6 v8 : Int) (σ : ZS) (Q : ZS → Prop) : Prop := (-2147483648 ≤ v8 ∧ v8 ≤ 2147483647) ∧ (¬ v8 = 0 → wpX11_put_320 v1 v3 v4 v6 1 σ Q) ∧ (v8 = 0 → wpX11_set v1 v3 (v4 + 1) v6 σ (fun (σ9 : ZS) => Q σ9))
def wpX11_put_269 (v1 v3 v4 v5 v8 s0 : Int) (σ : ZS) (Q : ZS → Prop) : Prop := (0 ≤ v5 ∧ v5 < 240) ∧ (-2147483648 ≤ (zA σ 0 13 v5) ∧ (zA σ 0 13 v5) ≤ 2147483647) ∧ (¬ (zA σ 0 13 v5) = 3 → wpX11_put_295 v1 v3 v4 s0 v8 σ Q) ∧ ((zA σ 0 13 v5) = 3 → wpX11_fix v1 2 v3 (v4 + 1) v5 σ (fun (σ14 : ZS) => wpX11_put_295 v1 v3 v4 s0 v8 σ14 Q))
def wpX11_put_246 (v1 v2 v3 v4 v5 v8 s4 s3 s2 s1 : Int) (σ : ZS) (Q : ZS → Prop) : Prop := wpX11_set s1 s2 s3 s4 σ (fun (σ16 : ZS) => (0 ≤ v5 ∧ v5 < 240) ∧ (-2147483648 ≤ (zA σ16 0 13 v5) ∧ (zA σ16 0 13 v5) ≤ 2147483647) ∧ (¬ (zA σ16 0 13 v5) = 3 → wpX11_distance v2 σ16 (fun (x20 : Int) (σ21 : ZS) => wpX11_put_269 v1 v3 v4 v5 v8 x20 σ21 Q)) ∧ ((zA σ16 0 13 v5) = 3 → wpX11_put_269 v1 v3 v4 v5 v8 0 σ16 Q))
def wpX11_put_208 (v1 v2 v3 v4 v5 s0 : Int) (σ : ZS) (Q : ZS → Prop) : Prop := (0 ≤ v2 ∧ v2 < 1200) ∧ (-2147483648 ≤ (zA σ 0 24 v2) ∧ (zA σ 0 24 v2) ≤ 2147483647) ∧ (¬ (zA σ 0 24 v2) = 6 → (-2147483648 ≤ s0 ∧ s0 ≤ 2147483647) ∧ (s0 = 0 → wpX11_put_246 v1 v2 v3 v4 v5 s0 235 v4 v3 v1 σ Q) ∧ (¬ s0 = 0 → wpX11_put_246 v1 v2 v3 v4 v5 s0 233 v4 v3 v1 σ Q)) ∧ ((zA σ 0 24 v2) = 6 → wpX11_put_246 v1 v2 v3 v4 v5 s0 232 v4 v3 v1 σ Q)
def wpX11_put_203 (v1 v2 v3 v4 v5 : Int) (σ : ZS) (Q : ZS → Prop) : Prop := wpX11_put_208 v1 v2 v3 v4 v5 1 σ Q
def wpX11_put_183 (v1 v2 v3 v4 v5 : Int) (σ : ZS) (Q : ZS → Prop) : Prop := (0 ≤ v2 ∧ v2 < 1200) ∧ (-2147483648 ≤ (zA σ 0 24 v2) ∧ (zA σ 0 24 v2) ≤ 2147483647) ∧ ((zA σ 0 24 v2) = 6 → wpX11_put_203 v1 v2 v3 v4 v5 σ Q) ∧ (¬ (zA σ 0 24 v2) = 6 → (-2147483648 ≤ (zA σ 0 30 v2) ∧ (zA σ 0 30 v2) ≤ 2147483647) ∧ ((zA σ 0 30 v2) = 0 → wpX11_put_208 v1 v2 v3 v4 v5 0 σ Q) ∧ (¬ (zA σ 0 30 v2) = 0 → wpX11_put_203 v1 v2 v3 v4 v5 σ Q))
def wpX11_put_122 (v1 v3 v4 v5 v7 s1 s0 : Int) (σ : ZS) (Q : ZS → Prop) : Prop := wpX11_fix v1 0 v3 v4 v5 σ (fun (σ33 : ZS) => wpX11_put_320 v1 v3 v4 (s0 + s1) v7 σ33 Q)
def wpX11_put (a1 a2 : Int) (σ : ZS) (Q : ZS → Prop) : Prop := (0 ≤ a2 ∧ a2 < 1200) ∧ (-2147483648 ≤ (zA σ 0 24 a2) ∧ (zA σ 0 24 a2) ≤ 2147483647) ∧ ((zA σ 0 24 a2) = 0 → wpX11_set a1 (zA σ 0 28 a2) (zA σ 0 29 a2) (zA σ 0 25 a2) σ (fun (σ39 : ZS) => Q σ39)) ∧ (¬ (zA σ 0 24 a2) = 0 → ((zA σ 0 24 a2) = 1 → wpX11_put_320 a1 (zA σ 0 28 a2) (zA σ 0 29 a2) (zA σ 0 25 a2) 0 σ Q) ∧ (¬ (zA σ 0 24 a2) = 1 → ((zA σ 0 24 a2) = 2 → (0 ≤ (zA σ 0 25 a2) ∧ (zA σ 0 25 a2) < 240) ∧ (-2147483648 ≤ (zA σ 0 13 (zA σ 0 25 a2)) ∧ (zA σ 0 13 (zA σ 0 25 a2)) ≤ 2147483647) ∧ (¬ (zA σ 0 13 (zA σ 0 25 a2)) = 2 → wpX11_put_122 a1 (zA σ 0 28 a2) (zA σ 0 29 a2) (zA σ 0 25 a2) 0 0 (zA σ 0 26 a2) σ Q) ∧ ((zA σ 0 13 (zA σ 0 25 a2)) = 2 → wpX11_put_122 a1 (zA σ 0 28 a2) (zA σ 0 29 a2) (zA σ 0 25 a2) 0 (zA σ 0 16 (zA σ 0 25 a2)) (zA σ 0 26 a2) σ Q)) ∧ (¬ (zA σ 0 24 a2) = 2 → ((zA σ 0 24 a2) = 3 → wpX11_fix a1 1 (zA σ 0 28 a2) (zA σ 0 29 a2) (zA σ 0 25 a2) σ (fun (σ47 : ZS) => wpX11_put_320 a1 (zA σ 0 28 a2) (zA σ 0 29 a2) 0 0 σ47 Q)) ∧ (¬ (zA σ 0 24 a2) = 3 → ((zA σ 0 24 a2) = 4 → wpX11_put_183 a1 a2 (zA σ 0 28 a2) (zA σ 0 29 a2) (zA σ 0 25 a2) σ Q) ∧ (¬ (zA σ 0 24 a2) = 4 → ((zA σ 0 24 a2) = 5 → wpX11_set a1 (zA σ 0 28 a2) (zA σ 0 29 a2) (zA σ 0 26 a2) σ (fun (σ51 : ZS) => wpX11_distance a2 σ51 (fun (x52 : Int) (σ53 : ZS) => wpX11_set a1 (zA σ 0 28 a2) ((zA σ 0 29 a2) + 1) x52 σ53 (fun (σ55 : ZS) => Q σ55)))) ∧ (¬ (zA σ 0 24 a2) = 5 → ((zA σ 0 24 a2) = 6 → wpX11_put_183 a1 a2 (zA σ 0 28 a2) (zA σ 0 29 a2) (zA σ 0 25 a2) σ Q) ∧ (¬ (zA σ 0 24 a2) = 6 → Q σ)))))))
set_option maxHeartbeats 4000000 in
set_option maxRecDepth 100000 in
theorem kX11_put (l : Launch) (D : va_G) (dA : Nat → ClassId) (ad : Int → Nat → Nat) (a1 a2 : Int) (σ : ZS) (Q : ZS → Prop) (sz : Nat) (hw : wpX11_put a1 a2 σ Q) : Met l yX11_put (gws yX11_put cX11_put 9 none) (gR 3 0 0) (gPre D dA [.ref (ad 0 1000), .int (Int32.ofInt a1), .int (Int32.ofInt a2)] (zR dA ad σ) sz) (va_Qv Q (gAt D dA (va_A (zR dA ad σ) sz) (zR dA ad)) (va_A (zR dA ad σ) sz)) 0 0 (va_A (zR dA ad σ) sz) := by
  refine Met.ofW (cc := cX11_put) (maxL := 9) (ret := none) (by decide) rfl ?_
  intro p e s m args below meth c s₁ B hml hv
  obtain ⟨rfl, hsz, hP, hK, hD0⟩ := hv
  have hx := B.exec
  have hb := B.bytes
  have hr := B.returns
  have hts := atoms_spec (ws := gws yX11_put cX11_put 9 none) B.pre
  have hg : ∀ w ∈ gw, w.before _ s = true := fun w h => hts w (List.mem_cons_of_mem _ h)
  have hown : s.vm.findClass RX11 = some m.cls := findClass_of_methodNamed B.named
  have hlocks := B.notSynchronized
  subst hsz
  have hD := hD0.self (sz := s.heap.size)
  generalize hAe : va_A (zR dA ad σ) s.heap.size = A at hD ⊢
  have hA : ∀ q : Nat, s.heap.size ≤ q → A q := fun q h => by rw [← hAe]; exact Or.inr h
  have hS : va_S A s.heap s.heap [] := va_S.rf
  have hl := lv_entry ([.ref (ad 0 1000), .int (Int32.ofInt a1), .int (Int32.ofInt a2)]) (n := 9) (Nat.le_of_ble_eq_true rfl)
  rw [lg_entry_eq]
  generalize (lg_sl ([.ref (ad 0 1000), .int (Int32.ofInt a1), .int (Int32.ofInt a2)]) ++ List.replicate (9 - (lg_sl ([.ref (ad 0 1000), .int (Int32.ofInt a1), .int (Int32.ofInt a2)])).length) Slot.unset).toArray = ls at hl ⊢
  have hl : lv_has ls 9 [(0, .ref (ad 0 1000)), (1, .int (Int32.ofInt a1)), (2, .int (Int32.ofInt a2))] := hl
  have hret : ∀ (σ : ZS) (H : Heap) (locs : List Loc) (ls : Array Slot) (pc : Nat), Q σ → va_P D vwC (zR dA ad σ) H → va_D A (zR dA ad σ) → va_S A s.heap H locs → decode cX11_put pc = .ok (.return_, 1) → W p l e (gR 3 0 0) s m #[.ref (ad 0 1000), .int (Int32.ofInt a1), .int (Int32.ofInt a2)] below meth c H locs 0 0 (MQ below (va_Qv Q (gAt D dA A (zR dA ad)) A) #[.ref (ad 0 1000), .int (Int32.ofInt a1), .int (Int32.ofInt a2)] s 0 0 A) (F0 m pc ls []) := fun σ H locs ls pc hw hP hD hS hd => g_vret hx hb hr hlocks hK σ hP hD hS hw (Nat.le_of_ble_eq_true rfl) (Nat.le_of_ble_eq_true rfl) hd
  generalize MQ below (va_Qv Q (gAt D dA A (zR dA ad)) A) #[.ref (ad 0 1000), .int (Int32.ofInt a1), .int (Int32.ofInt a2)] s 0 0 A = QQ at hret ⊢
  have j320 : ∀ (v1 v3 v4 v6 v7 : Int) (σ : ZS), ∀ (H : Heap) (locs : List Loc) (ls : Array Slot), va_P D vwC (zR dA ad σ) H → va_D A (zR dA ad σ) → va_S A s.heap H locs → lv_has ls 9 [(0, .ref (ad 0 1000)), (1, .int (Int32.ofInt v1)), (3, .int (Int32.ofInt v3)), (4, .int (Int32.ofInt v4)), (6, .int (Int32.ofInt v6)), (7, .int (Int32.ofInt v7))] → wpX11_put_320 v1 v3 v4 v6 v7 σ Q → W p l e (gR 3 0 0) s m #[.ref (ad 0 1000), .int (Int32.ofInt a1), .int (Int32.ofInt a2)] below meth c H locs 0 0 QQ (F0 m 320 ls []) := by
    intro v1 v3 v4 v6 v7 σ H locs ls hP hD hS hl hw
    unfold wpX11_put_320 at hw
    refine lv_aload_n hx hb dX11_put_320 rfl (lv_at hl 0 rfl) ?_
    refine lv_iload_n hx hb dX11_put_321 rfl (lv_at hl 1 rfl) ?_
    refine lv_iload_n hx hb dX11_put_322 rfl (lv_at hl 2 rfl) ?_
    refine lv_iload hx hb dX11_put_323 (lv_at hl 3 rfl) ?_
    refine lv_iload hx hb dX11_put_325 (lv_at hl 5 rfl) ?_
    refine z_iadd hx hb dX11_put_327 ?_
    refine lv_iload hx hb dX11_put_328 (lv_at hl 4 rfl) ?_
    refine z_Vv (n := 4) (As := [.int (Int32.ofInt v1), .int (Int32.ofInt v3), .int (Int32.ofInt (v4 + v7)), .int (Int32.ofInt v6)]) (rest := []) hx hb hml hg hown hK hP hD hS hA (kX11_set l D dA ad v1 v3 (v4 + v7) v6 σ _ _ hw) (zoR0) rfl q2061 q160 q2058 q2060 q117 (by decide +kernel) ⟨(Nat.le_of_ble_eq_true rfl), (Nat.le_of_ble_eq_true rfl)⟩ rfl hl.1 rfl (Nat.le_of_ble_eq_true rfl) dX11_put_330 ⟨(Nat.le_of_ble_eq_true rfl), (Nat.le_of_ble_eq_true rfl)⟩ (fun σ2 H locs hw hP hD hS => ?_)
    refine lv_aload_n hx hb dX11_put_333 rfl (lv_at hl 0 rfl) ?_
    refine lv_iload_n hx hb dX11_put_334 rfl (lv_at hl 1 rfl) ?_
    refine lv_iload_n hx hb dX11_put_335 rfl (lv_at hl 2 rfl) ?_
    refine lv_iload hx hb dX11_put_336 (lv_at hl 3 rfl) ?_
    refine lv_iload hx hb dX11_put_338 (lv_at hl 5 rfl) ?_
    refine z_iadd hx hb dX11_put_340 ?_
    refine lv_iconst (v := Int32.ofInt 1) hx hb dX11_put_341 (by decide) ?_
    refine z_iadd hx hb dX11_put_342 ?_
    refine lv_iload hx hb dX11_put_343 (lv_at hl 4 rfl) ?_
    refine lv_bipush (v := Int32.ofInt 8) hx hb dX11_put_345 (by decide) ?_
    obtain ⟨o3, hw⟩ := hw
    refine z_ishrK (M := 256) hx hb 8 (by decide) (by decide) (by decide) o3 dX11_put_347 ?_
    refine z_Vv (n := 4) (As := [.int (Int32.ofInt v1), .int (Int32.ofInt v3), .int (Int32.ofInt ((v4 + v7) + 1)), .int (Int32.ofInt (v6 / 256))]) (rest := []) hx hb hml hg hown hK hP hD hS hA (kX11_set l D dA ad v1 v3 ((v4 + v7) + 1) (v6 / 256) σ2 _ _ hw) (zoR0) rfl q2061 q160 q2058 q2060 q117 (by decide +kernel) ⟨(Nat.le_of_ble_eq_true rfl), (Nat.le_of_ble_eq_true rfl)⟩ rfl hl.1 rfl (Nat.le_of_ble_eq_true rfl) dX11_put_348 ⟨(Nat.le_of_ble_eq_true rfl), (Nat.le_of_ble_eq_true rfl)⟩ (fun σ5 H locs hw hP hD hS => ?_)
    exact hret σ5 _ _ _ _ hw hP hD hS dX11_put_351
  have j295 : ∀ (v1 v3 v4 v6 v8 : Int) (σ : ZS), ∀ (H : Heap) (locs : List Loc) (ls : Array Slot), va_P D vwC (zR dA ad σ) H → va_D A (zR dA ad σ) → va_S A s.heap H locs → lv_has ls 9 [(0, .ref (ad 0 1000)), (1, .int (Int32.ofInt v1)), (3, .int (Int32.ofInt v3)), (4, .int (Int32.ofInt v4)), (6, .int (Int32.ofInt v6)), (8, .int (Int32.ofInt v8))] → wpX11_put_295 v1 v3 v4 v6 v8 σ Q → W p l e (gR 3 0 0) s m #[.ref (ad 0 1000), .int (Int32.ofInt a1), .int (Int32.ofInt a2)] below meth c H locs 0 0 QQ (F0 m 295 ls []) := by
    intro v1 v3 v4 v6 v8 σ H locs ls hP hD hS hl hw
    unfold wpX11_put_295 at hw
    refine lv_iload hx hb dX11_put_295 (lv_at hl 5 rfl) ?_
    obtain ⟨o6, hw⟩ := hw
    refine z_if_ne (tgt := 313) hx hb o6 dX11_put_297 (by decide) (fun k7 => ?_) (fun k7 => ?_)
    · replace hw := hw.1 k7
      refine lv_iconst (v := Int32.ofInt 1) hx hb dX11_put_313 (by decide) ?_
      refine lv_istore (lv' := [(7, .int (Int32.ofInt 1)), (0, .ref (ad 0 1000)), (1, .int (Int32.ofInt v1)), (3, .int (Int32.ofInt v3)), (4, .int (Int32.ofInt v4)), (6, .int (Int32.ofInt v6)), (8, .int (Int32.ofInt v8))]) hx hb dX11_put_314 hl (by decide) rfl (fun ls hl => ?_)
      refine lv_goto (tgt := 320) hx hb dX11_put_316 (by decide) ?_
      exact j320 v1 v3 v4 v6 1 σ _ _ _ hP hD hS (lv_sub hl [1, 2, 3, 4, 5, 0] rfl) hw
    · replace hw := hw.2 k7
      refine lv_aload_n hx hb dX11_put_300 rfl (lv_at hl 0 rfl) ?_
      refine lv_iload_n hx hb dX11_put_301 rfl (lv_at hl 1 rfl) ?_
      refine lv_iload_n hx hb dX11_put_302 rfl (lv_at hl 2 rfl) ?_
      refine lv_iload hx hb dX11_put_303 (lv_at hl 3 rfl) ?_
      refine lv_iconst (v := Int32.ofInt 1) hx hb dX11_put_305 (by decide) ?_
      refine z_iadd hx hb dX11_put_306 ?_
      refine lv_iload hx hb dX11_put_307 (lv_at hl 4 rfl) ?_
      refine z_Vv (n := 4) (As := [.int (Int32.ofInt v1), .int (Int32.ofInt v3), .int (Int32.ofInt (v4 + 1)), .int (Int32.ofInt v6)]) (rest := []) hx hb hml hg hown hK hP hD hS hA (kX11_set l D dA ad v1 v3 (v4 + 1) v6 σ _ _ hw) (zoR0) rfl q2061 q160 q2058 q2060 q117 (by decide +kernel) ⟨(Nat.le_of_ble_eq_true rfl), (Nat.le_of_ble_eq_true rfl)⟩ rfl hl.1 rfl (Nat.le_of_ble_eq_true rfl) dX11_put_309 ⟨(Nat.le_of_ble_eq_true rfl), (Nat.le_of_ble_eq_true rfl)⟩ (fun σ9 H locs hw hP hD hS => ?_)
      exact hret σ9 _ _ _ _ hw hP hD hS dX11_put_312
  have j269 : ∀ (v1 v3 v4 v5 v8 s0 : Int) (σ : ZS), ∀ (H : Heap) (locs : List Loc) (ls : Array Slot), va_P D vwC (zR dA ad σ) H → va_D A (zR dA ad σ) → va_S A s.heap H locs → lv_has ls 9 [(0, .ref (ad 0 1000)), (1, .int (Int32.ofInt v1)), (3, .int (Int32.ofInt v3)), (4, .int (Int32.ofInt v4)), (5, .int (Int32.ofInt v5)), (8, .int (Int32.ofInt v8))] → wpX11_put_269 v1 v3 v4 v5 v8 s0 σ Q → W p l e (gR 3 0 0) s m #[.ref (ad 0 1000), .int (Int32.ofInt a1), .int (Int32.ofInt a2)] below meth c H locs 0 0 QQ (F0 m 269 ls [.int (Int32.ofInt s0)]) := by
    intro v1 v3 v4 v5 v8 s0 σ H locs ls hP hD hS hl hw
    unfold wpX11_put_269 at hw
    refine lv_istore (lv' := [(6, .int (Int32.ofInt s0)), (0, .ref (ad 0 1000)), (1, .int (Int32.ofInt v1)), (3, .int (Int32.ofInt v3)), (4, .int (Int32.ofInt v4)), (5, .int (Int32.ofInt v5)), (8, .int (Int32.ofInt v8))]) hx hb dX11_put_269 hl (by decide) rfl (fun ls hl => ?_)
    refine lv_aload_n hx hb dX11_put_271 rfl (lv_at hl 1 rfl) ?_
    refine zgR0_13 hx hb hg hown hK hP q1628 dX11_put_272 ?_
    refine lv_iload hx hb dX11_put_275 (lv_at hl 5 rfl) ?_
    obtain ⟨o10, hw⟩ := hw
    refine zlR0_13 hx hb o10 hK hP dX11_put_277 ?_
    refine lv_iconst (v := Int32.ofInt 3) hx hb dX11_put_278 (by decide) ?_
    obtain ⟨o11, hw⟩ := hw
    refine z_icmp_ne (tgt := 295) hx hb o11 (by decide) dX11_put_279 (by decide) (fun k12 => ?_) (fun k12 => ?_)
    · replace hw := hw.1 k12
      exact j295 v1 v3 v4 s0 v8 σ _ _ _ hP hD hS (lv_sub hl [1, 2, 3, 4, 0, 6] rfl) hw
    · replace hw := hw.2 k12
      refine lv_aload_n hx hb dX11_put_282 rfl (lv_at hl 1 rfl) ?_
      refine lv_iload_n hx hb dX11_put_283 rfl (lv_at hl 2 rfl) ?_
      refine lv_iconst (v := Int32.ofInt 2) hx hb dX11_put_284 (by decide) ?_
      refine lv_iload_n hx hb dX11_put_285 rfl (lv_at hl 3 rfl) ?_
      refine lv_iload hx hb dX11_put_286 (lv_at hl 4 rfl) ?_
      refine lv_iconst (v := Int32.ofInt 1) hx hb dX11_put_288 (by decide) ?_
      refine z_iadd hx hb dX11_put_289 ?_
      refine lv_iload hx hb dX11_put_290 (lv_at hl 5 rfl) ?_
      refine z_Vv (n := 5) (As := [.int (Int32.ofInt v1), .int (Int32.ofInt 2), .int (Int32.ofInt v3), .int (Int32.ofInt (v4 + 1)), .int (Int32.ofInt v5)]) (rest := []) hx hb hml hg hown hK hP hD hS hA (kX11_fix l D dA ad v1 2 v3 (v4 + 1) v5 σ _ _ hw) (zoR0) rfl q2065 q160 q2062 q2064 q118 (by decide +kernel) ⟨(Nat.le_of_ble_eq_true rfl), (Nat.le_of_ble_eq_true rfl)⟩ rfl hl.1 rfl (Nat.le_of_ble_eq_true rfl) dX11_put_292 ⟨(Nat.le_of_ble_eq_true rfl), (Nat.le_of_ble_eq_true rfl)⟩ (fun σ14 H locs hw hP hD hS => ?_)
      exact j295 v1 v3 v4 s0 v8 σ14 _ _ _ hP hD hS (lv_sub hl [1, 2, 3, 4, 0, 6] rfl) hw
  have j246 : ∀ (v1 v2 v3 v4 v5 v8 s4 s3 s2 s1 : Int) (σ : ZS), ∀ (H : Heap) (locs : List Loc) (ls : Array Slot), va_P D vwC (zR dA ad σ) H → va_D A (zR dA ad σ) → va_S A s.heap H locs → lv_has ls 9 [(0, .ref (ad 0 1000)), (1, .int (Int32.ofInt v1)), (2, .int (Int32.ofInt v2)), (3, .int (Int32.ofInt v3)), (4, .int (Int32.ofInt v4)), (5, .int (Int32.ofInt v5)), (8, .int (Int32.ofInt v8))] → wpX11_put_246 v1 v2 v3 v4 v5 v8 s4 s3 s2 s1 σ Q → W p l e (gR 3 0 0) s m #[.ref (ad 0 1000), .int (Int32.ofInt a1), .int (Int32.ofInt a2)] below meth c H locs 0 0 QQ (F0 m 246 ls [.int (Int32.ofInt s4), .int (Int32.ofInt s3), .int (Int32.ofInt s2), .int (Int32.ofInt s1), .ref (ad 0 1000)]) := by
    intro v1 v2 v3 v4 v5 v8 s4 s3 s2 s1 σ H locs ls hP hD hS hl hw
    unfold wpX11_put_246 at hw
    refine z_Vv (n := 4) (As := [.int (Int32.ofInt s1), .int (Int32.ofInt s2), .int (Int32.ofInt s3), .int (Int32.ofInt s4)]) (rest := []) hx hb hml hg hown hK hP hD hS hA (kX11_set l D dA ad s1 s2 s3 s4 σ _ _ hw) (zoR0) rfl q2061 q160 q2058 q2060 q117 (by decide +kernel) ⟨(Nat.le_of_ble_eq_true rfl), (Nat.le_of_ble_eq_true rfl)⟩ rfl hl.1 rfl (Nat.le_of_ble_eq_true rfl) dX11_put_246 ⟨(Nat.le_of_ble_eq_true rfl), (Nat.le_of_ble_eq_true rfl)⟩ (fun σ16 H locs hw hP hD hS => ?_)
    refine lv_aload_n hx hb dX11_put_249 rfl (lv_at hl 0 rfl) ?_
    refine zgR0_13 hx hb hg hown hK hP q1628 dX11_put_250 ?_
    refine lv_iload hx hb dX11_put_253 (lv_at hl 5 rfl) ?_
    obtain ⟨o17, hw⟩ := hw
    refine zlR0_13 hx hb o17 hK hP dX11_put_255 ?_
    refine lv_iconst (v := Int32.ofInt 3) hx hb dX11_put_256 (by decide) ?_
    obtain ⟨o18, hw⟩ := hw
    refine z_icmp_ne (tgt := 264) hx hb o18 (by decide) dX11_put_257 (by decide) (fun k19 => ?_) (fun k19 => ?_)
    · replace hw := hw.1 k19
      refine lv_aload_n hx hb dX11_put_264 rfl (lv_at hl 0 rfl) ?_
      refine lv_iload_n hx hb dX11_put_265 rfl (lv_at hl 2 rfl) ?_
      refine z_Vi (n := 1) (As := [.int (Int32.ofInt v2)]) (rest := []) hx hb hml hg hown hK hP hD hS hA (kX11_distance l D dA ad v2 σ16 _ _ hw) (zoR0) rfl q2046 q160 q2043 q2045 q114 (by decide +kernel) ⟨(Nat.le_of_ble_eq_true rfl), (Nat.le_of_ble_eq_true rfl)⟩ rfl hl.1 rfl (Nat.le_of_ble_eq_true rfl) dX11_put_266 ⟨(Nat.le_of_ble_eq_true rfl), (Nat.le_of_ble_eq_true rfl)⟩ (fun x20 σ21 H locs hw hP hD hS => ?_)
      exact j269 v1 v3 v4 v5 v8 x20 σ21 _ _ _ hP hD hS (lv_sub hl [0, 1, 3, 4, 5, 6] rfl) hw
    · replace hw := hw.2 k19
      refine lv_iconst (v := Int32.ofInt 0) hx hb dX11_put_260 (by decide) ?_
      refine lv_goto (tgt := 269) hx hb dX11_put_261 (by decide) ?_
      exact j269 v1 v3 v4 v5 v8 0 σ16 _ _ _ hP hD hS (lv_sub hl [0, 1, 3, 4, 5, 6] rfl) hw
  have j208 : ∀ (v1 v2 v3 v4 v5 s0 : Int) (σ : ZS), ∀ (H : Heap) (locs : List Loc) (ls : Array Slot), va_P D vwC (zR dA ad σ) H → va_D A (zR dA ad σ) → va_S A s.heap H locs → lv_has ls 9 [(0, .ref (ad 0 1000)), (1, .int (Int32.ofInt v1)), (2, .int (Int32.ofInt v2)), (3, .int (Int32.ofInt v3)), (4, .int (Int32.ofInt v4)), (5, .int (Int32.ofInt v5))] → wpX11_put_208 v1 v2 v3 v4 v5 s0 σ Q → W p l e (gR 3 0 0) s m #[.ref (ad 0 1000), .int (Int32.ofInt a1), .int (Int32.ofInt a2)] below meth c H locs 0 0 QQ (F0 m 208 ls [.int (Int32.ofInt s0)]) := by
    intro v1 v2 v3 v4 v5 s0 σ H locs ls hP hD hS hl hw
    unfold wpX11_put_208 at hw
    refine lv_istore (lv' := [(8, .int (Int32.ofInt s0)), (0, .ref (ad 0 1000)), (1, .int (Int32.ofInt v1)), (2, .int (Int32.ofInt v2)), (3, .int (Int32.ofInt v3)), (4, .int (Int32.ofInt v4)), (5, .int (Int32.ofInt v5))]) hx hb dX11_put_208 hl (by decide) rfl (fun ls hl => ?_)
    refine lv_aload_n hx hb dX11_put_210 rfl (lv_at hl 1 rfl) ?_
    refine lv_iload_n hx hb dX11_put_211 rfl (lv_at hl 2 rfl) ?_
    refine lv_iload_n hx hb dX11_put_212 rfl (lv_at hl 4 rfl) ?_
    refine lv_iload hx hb dX11_put_213 (lv_at hl 5 rfl) ?_
    refine lv_aload_n hx hb dX11_put_215 rfl (lv_at hl 1 rfl) ?_
    refine zgR0_24 hx hb hg hown hK hP q1639 dX11_put_216 ?_
    refine lv_iload_n hx hb dX11_put_219 rfl (lv_at hl 3 rfl) ?_
    obtain ⟨o22, hw⟩ := hw
    refine zlR0_24 hx hb o22 hK hP dX11_put_220 ?_
    refine lv_bipush (v := Int32.ofInt 6) hx hb dX11_put_221 (by decide) ?_
    obtain ⟨o23, hw⟩ := hw
    refine z_icmp_ne (tgt := 232) hx hb o23 (by decide) dX11_put_223 (by decide) (fun k24 => ?_) (fun k24 => ?_)
    · replace hw := hw.1 k24
      refine lv_iload hx hb dX11_put_232 (lv_at hl 0 rfl) ?_
      obtain ⟨o25, hw⟩ := hw
      refine z_if_eq (tgt := 243) hx hb o25 dX11_put_234 (by decide) (fun k26 => ?_) (fun k26 => ?_)
      · replace hw := hw.1 k26
        refine lv_sipush (v := Int32.ofInt 235) hx hb dX11_put_243 (by decide) ?_
        exact j246 v1 v2 v3 v4 v5 s0 235 v4 v3 v1 σ _ _ _ hP hD hS (lv_sub hl [1, 2, 3, 4, 5, 6, 0] rfl) hw
      · replace hw := hw.2 k26
        refine lv_sipush (v := Int32.ofInt 233) hx hb dX11_put_237 (by decide) ?_
        refine lv_goto (tgt := 246) hx hb dX11_put_240 (by decide) ?_
        exact j246 v1 v2 v3 v4 v5 s0 233 v4 v3 v1 σ _ _ _ hP hD hS (lv_sub hl [1, 2, 3, 4, 5, 6, 0] rfl) hw
    · replace hw := hw.2 k24
      refine lv_sipush (v := Int32.ofInt 232) hx hb dX11_put_226 (by decide) ?_
      refine lv_goto (tgt := 246) hx hb dX11_put_229 (by decide) ?_
      exact j246 v1 v2 v3 v4 v5 s0 232 v4 v3 v1 σ _ _ _ hP hD hS (lv_sub hl [1, 2, 3, 4, 5, 6, 0] rfl) hw
  have j203 : ∀ (v1 v2 v3 v4 v5 : Int) (σ : ZS), ∀ (H : Heap) (locs : List Loc) (ls : Array Slot), va_P D vwC (zR dA ad σ) H → va_D A (zR dA ad σ) → va_S A s.heap H locs → lv_has ls 9 [(0, .ref (ad 0 1000)), (1, .int (Int32.ofInt v1)), (2, .int (Int32.ofInt v2)), (3, .int (Int32.ofInt v3)), (4, .int (Int32.ofInt v4)), (5, .int (Int32.ofInt v5))] → wpX11_put_203 v1 v2 v3 v4 v5 σ Q → W p l e (gR 3 0 0) s m #[.ref (ad 0 1000), .int (Int32.ofInt a1), .int (Int32.ofInt a2)] below meth c H locs 0 0 QQ (F0 m 203 ls []) := by
    intro v1 v2 v3 v4 v5 σ H locs ls hP hD hS hl hw
    unfold wpX11_put_203 at hw
    refine lv_iconst (v := Int32.ofInt 1) hx hb dX11_put_203 (by decide) ?_
    refine lv_goto (tgt := 208) hx hb dX11_put_204 (by decide) ?_
    exact j208 v1 v2 v3 v4 v5 1 σ _ _ _ hP hD hS (lv_sub hl [0, 1, 2, 3, 4, 5] rfl) hw
  have j183 : ∀ (v1 v2 v3 v4 v5 : Int) (σ : ZS), ∀ (H : Heap) (locs : List Loc) (ls : Array Slot), va_P D vwC (zR dA ad σ) H → va_D A (zR dA ad σ) → va_S A s.heap H locs → lv_has ls 9 [(0, .ref (ad 0 1000)), (1, .int (Int32.ofInt v1)), (2, .int (Int32.ofInt v2)), (3, .int (Int32.ofInt v3)), (4, .int (Int32.ofInt v4)), (5, .int (Int32.ofInt v5))] → wpX11_put_183 v1 v2 v3 v4 v5 σ Q → W p l e (gR 3 0 0) s m #[.ref (ad 0 1000), .int (Int32.ofInt a1), .int (Int32.ofInt a2)] below meth c H locs 0 0 QQ (F0 m 183 ls []) := by
    intro v1 v2 v3 v4 v5 σ H locs ls hP hD hS hl hw
    unfold wpX11_put_183 at hw
    refine lv_aload_n hx hb dX11_put_183 rfl (lv_at hl 0 rfl) ?_
    refine zgR0_24 hx hb hg hown hK hP q1639 dX11_put_184 ?_
    refine lv_iload_n hx hb dX11_put_187 rfl (lv_at hl 2 rfl) ?_
    obtain ⟨o27, hw⟩ := hw
    refine zlR0_24 hx hb o27 hK hP dX11_put_188 ?_
    refine lv_bipush (v := Int32.ofInt 6) hx hb dX11_put_189 (by decide) ?_
    obtain ⟨o28, hw⟩ := hw
    refine z_icmp_eq (tgt := 203) hx hb o28 (by decide) dX11_put_191 (by decide) (fun k29 => ?_) (fun k29 => ?_)
    · replace hw := hw.1 k29
      exact j203 v1 v2 v3 v4 v5 σ _ _ _ hP hD hS (lv_sub hl [0, 1, 2, 3, 4, 5] rfl) hw
    · replace hw := hw.2 k29
      refine lv_aload_n hx hb dX11_put_194 rfl (lv_at hl 0 rfl) ?_
      refine zgR0_30 hx hb hg hown hK hP q1645 dX11_put_195 ?_
      refine lv_iload_n hx hb dX11_put_198 rfl (lv_at hl 2 rfl) ?_
      refine zlR0_30 hx hb o27 hK hP dX11_put_199 ?_
      obtain ⟨o30, hw⟩ := hw
      refine z_if_eq (tgt := 207) hx hb o30 dX11_put_200 (by decide) (fun k31 => ?_) (fun k31 => ?_)
      · replace hw := hw.1 k31
        refine lv_iconst (v := Int32.ofInt 0) hx hb dX11_put_207 (by decide) ?_
        exact j208 v1 v2 v3 v4 v5 0 σ _ _ _ hP hD hS (lv_sub hl [0, 1, 2, 3, 4, 5] rfl) hw
      · replace hw := hw.2 k31
        exact j203 v1 v2 v3 v4 v5 σ _ _ _ hP hD hS (lv_sub hl [0, 1, 2, 3, 4, 5] rfl) hw
  have j122 : ∀ (v1 v3 v4 v5 v7 s1 s0 : Int) (σ : ZS), ∀ (H : Heap) (locs : List Loc) (ls : Array Slot), va_P D vwC (zR dA ad σ) H → va_D A (zR dA ad σ) → va_S A s.heap H locs → lv_has ls 9 [(0, .ref (ad 0 1000)), (1, .int (Int32.ofInt v1)), (3, .int (Int32.ofInt v3)), (4, .int (Int32.ofInt v4)), (5, .int (Int32.ofInt v5)), (7, .int (Int32.ofInt v7))] → wpX11_put_122 v1 v3 v4 v5 v7 s1 s0 σ Q → W p l e (gR 3 0 0) s m #[.ref (ad 0 1000), .int (Int32.ofInt a1), .int (Int32.ofInt a2)] below meth c H locs 0 0 QQ (F0 m 122 ls [.int (Int32.ofInt s1), .int (Int32.ofInt s0)]) := by
    intro v1 v3 v4 v5 v7 s1 s0 σ H locs ls hP hD hS hl hw
    unfold wpX11_put_122 at hw
    refine z_iadd hx hb dX11_put_122 ?_
    refine lv_istore (lv' := [(6, .int (Int32.ofInt (s0 + s1))), (0, .ref (ad 0 1000)), (1, .int (Int32.ofInt v1)), (3, .int (Int32.ofInt v3)), (4, .int (Int32.ofInt v4)), (5, .int (Int32.ofInt v5)), (7, .int (Int32.ofInt v7))]) hx hb dX11_put_123 hl (by decide) rfl (fun ls hl => ?_)
    refine lv_aload_n hx hb dX11_put_125 rfl (lv_at hl 1 rfl) ?_
    refine lv_iload_n hx hb dX11_put_126 rfl (lv_at hl 2 rfl) ?_
    refine lv_iconst (v := Int32.ofInt 0) hx hb dX11_put_127 (by decide) ?_
    refine lv_iload_n hx hb dX11_put_128 rfl (lv_at hl 3 rfl) ?_
    refine lv_iload hx hb dX11_put_129 (lv_at hl 4 rfl) ?_
    refine lv_iload hx hb dX11_put_131 (lv_at hl 5 rfl) ?_
    refine z_Vv (n := 5) (As := [.int (Int32.ofInt v1), .int (Int32.ofInt 0), .int (Int32.ofInt v3), .int (Int32.ofInt v4), .int (Int32.ofInt v5)]) (rest := []) hx hb hml hg hown hK hP hD hS hA (kX11_fix l D dA ad v1 0 v3 v4 v5 σ _ _ hw) (zoR0) rfl q2065 q160 q2062 q2064 q118 (by decide +kernel) ⟨(Nat.le_of_ble_eq_true rfl), (Nat.le_of_ble_eq_true rfl)⟩ rfl hl.1 rfl (Nat.le_of_ble_eq_true rfl) dX11_put_133 ⟨(Nat.le_of_ble_eq_true rfl), (Nat.le_of_ble_eq_true rfl)⟩ (fun σ33 H locs hw hP hD hS => ?_)
    refine lv_goto (tgt := 320) hx hb dX11_put_136 (by decide) ?_
    exact j320 v1 v3 v4 (s0 + s1) v7 σ33 _ _ _ hP hD hS (lv_sub hl [1, 2, 3, 4, 0, 6] rfl) hw
  unfold wpX11_put at hw
  refine lv_aload_n hx hb dX11_put_0 rfl (lv_at hl 0 rfl) ?_
  refine zgR0_28 hx hb hg hown hK hP q1643 dX11_put_1 ?_
  refine lv_iload_n hx hb dX11_put_4 rfl (lv_at hl 2 rfl) ?_
  obtain ⟨o34, hw⟩ := hw
  refine zlR0_28 hx hb o34 hK hP dX11_put_5 ?_
  refine lv_istore_n (lv' := [(3, .int (Int32.ofInt (zA σ 0 28 a2))), (0, .ref (ad 0 1000)), (1, .int (Int32.ofInt a1)), (2, .int (Int32.ofInt a2))]) hx hb dX11_put_6 rfl hl (by decide) rfl (fun ls hl => ?_)
  refine lv_aload_n hx hb dX11_put_7 rfl (lv_at hl 1 rfl) ?_
  refine zgR0_29 hx hb hg hown hK hP q1644 dX11_put_8 ?_
  refine lv_iload_n hx hb dX11_put_11 rfl (lv_at hl 3 rfl) ?_
  refine zlR0_29 hx hb o34 hK hP dX11_put_12 ?_
  refine lv_istore (lv' := [(4, .int (Int32.ofInt (zA σ 0 29 a2))), (3, .int (Int32.ofInt (zA σ 0 28 a2))), (0, .ref (ad 0 1000)), (1, .int (Int32.ofInt a1)), (2, .int (Int32.ofInt a2))]) hx hb dX11_put_13 hl (by decide) rfl (fun ls hl => ?_)
  refine lv_aload_n hx hb dX11_put_15 rfl (lv_at hl 2 rfl) ?_
  refine zgR0_25 hx hb hg hown hK hP q1640 dX11_put_16 ?_
  refine lv_iload_n hx hb dX11_put_19 rfl (lv_at hl 4 rfl) ?_
  refine zlR0_25 hx hb o34 hK hP dX11_put_20 ?_
  refine lv_istore (lv' := [(5, .int (Int32.ofInt (zA σ 0 25 a2))), (4, .int (Int32.ofInt (zA σ 0 29 a2))), (3, .int (Int32.ofInt (zA σ 0 28 a2))), (0, .ref (ad 0 1000)), (1, .int (Int32.ofInt a1)), (2, .int (Int32.ofInt a2))]) hx hb dX11_put_21 hl (by decide) rfl (fun ls hl => ?_)
  refine lv_iconst (v := Int32.ofInt 0) hx hb dX11_put_23 (by decide) ?_
  refine lv_istore (lv' := [(6, .int (Int32.ofInt 0)), (5, .int (Int32.ofInt (zA σ 0 25 a2))), (4, .int (Int32.ofInt (zA σ 0 29 a2))), (3, .int (Int32.ofInt (zA σ 0 28 a2))), (0, .ref (ad 0 1000)), (1, .int (Int32.ofInt a1)), (2, .int (Int32.ofInt a2))]) hx hb dX11_put_24 hl (by decide) rfl (fun ls hl => ?_)
  refine lv_iconst (v := Int32.ofInt 0) hx hb dX11_put_26 (by decide) ?_
  refine lv_istore (lv' := [(7, .int (Int32.ofInt 0)), (6, .int (Int32.ofInt 0)), (5, .int (Int32.ofInt (zA σ 0 25 a2))), (4, .int (Int32.ofInt (zA σ 0 29 a2))), (3, .int (Int32.ofInt (zA σ 0 28 a2))), (0, .ref (ad 0 1000)), (1, .int (Int32.ofInt a1)), (2, .int (Int32.ofInt a2))]) hx hb dX11_put_27 hl (by decide) rfl (fun ls hl => ?_)
  refine lv_aload_n hx hb dX11_put_29 rfl (lv_at hl 5 rfl) ?_
  refine zgR0_24 hx hb hg hown hK hP q1639 dX11_put_30 ?_
  refine lv_iload_n hx hb dX11_put_33 rfl (lv_at hl 7 rfl) ?_
  refine zlR0_24 hx hb o34 hK hP dX11_put_34 ?_
  obtain ⟨o35, hw⟩ := hw
  have t36 := z_ti o35
  by_cases s37 : (zA σ 0 24 a2) = 0
  · replace hw := hw.1 s37
    refine lv_tableIn (tgt := 76) hx hb dX11_put_35 (by rw [t36, s37]; decide) (by rw [t36, s37]; decide) (by rw [t36, s37]; rfl) (by decide) ?_
    refine lv_aload_n hx hb dX11_put_76 rfl (lv_at hl 5 rfl) ?_
    refine lv_iload_n hx hb dX11_put_77 rfl (lv_at hl 6 rfl) ?_
    refine lv_iload_n hx hb dX11_put_78 rfl (lv_at hl 4 rfl) ?_
    refine lv_iload hx hb dX11_put_79 (lv_at hl 3 rfl) ?_
    refine lv_iload hx hb dX11_put_81 (lv_at hl 2 rfl) ?_
    refine z_Vv (n := 4) (As := [.int (Int32.ofInt a1), .int (Int32.ofInt (zA σ 0 28 a2)), .int (Int32.ofInt (zA σ 0 29 a2)), .int (Int32.ofInt (zA σ 0 25 a2))]) (rest := []) hx hb hml hg hown hK hP hD hS hA (kX11_set l D dA ad a1 (zA σ 0 28 a2) (zA σ 0 29 a2) (zA σ 0 25 a2) σ _ _ hw) (zoR0) rfl q2061 q160 q2058 q2060 q117 (by decide +kernel) ⟨(Nat.le_of_ble_eq_true rfl), (Nat.le_of_ble_eq_true rfl)⟩ rfl hl.1 rfl (Nat.le_of_ble_eq_true rfl) dX11_put_83 ⟨(Nat.le_of_ble_eq_true rfl), (Nat.le_of_ble_eq_true rfl)⟩ (fun σ39 H locs hw hP hD hS => ?_)
    exact hret σ39 _ _ _ _ hw hP hD hS dX11_put_86
  replace hw := hw.2 s37
  by_cases s40 : (zA σ 0 24 a2) = 1
  · replace hw := hw.1 s40
    refine lv_tableIn (tgt := 87) hx hb dX11_put_35 (by rw [t36, s40]; decide) (by rw [t36, s40]; decide) (by rw [t36, s40]; rfl) (by decide) ?_
    refine lv_iload hx hb dX11_put_87 (lv_at hl 2 rfl) ?_
    refine lv_istore (lv' := [(6, .int (Int32.ofInt (zA σ 0 25 a2))), (7, .int (Int32.ofInt 0)), (5, .int (Int32.ofInt (zA σ 0 25 a2))), (4, .int (Int32.ofInt (zA σ 0 29 a2))), (3, .int (Int32.ofInt (zA σ 0 28 a2))), (0, .ref (ad 0 1000)), (1, .int (Int32.ofInt a1)), (2, .int (Int32.ofInt a2))]) hx hb dX11_put_89 hl (by decide) rfl (fun ls hl => ?_)
    refine lv_goto (tgt := 320) hx hb dX11_put_91 (by decide) ?_
    exact j320 a1 (zA σ 0 28 a2) (zA σ 0 29 a2) (zA σ 0 25 a2) 0 σ _ _ _ hP hD hS (lv_sub hl [5, 6, 4, 3, 0, 1] rfl) hw
  replace hw := hw.2 s40
  by_cases s41 : (zA σ 0 24 a2) = 2
  · replace hw := hw.1 s41
    refine lv_tableIn (tgt := 94) hx hb dX11_put_35 (by rw [t36, s41]; decide) (by rw [t36, s41]; decide) (by rw [t36, s41]; rfl) (by decide) ?_
    refine lv_aload_n hx hb dX11_put_94 rfl (lv_at hl 5 rfl) ?_
    refine zgR0_26 hx hb hg hown hK hP q1641 dX11_put_95 ?_
    refine lv_iload_n hx hb dX11_put_98 rfl (lv_at hl 7 rfl) ?_
    refine zlR0_26 hx hb o34 hK hP dX11_put_99 ?_
    refine lv_aload_n hx hb dX11_put_100 rfl (lv_at hl 5 rfl) ?_
    refine zgR0_13 hx hb hg hown hK hP q1628 dX11_put_101 ?_
    refine lv_iload hx hb dX11_put_104 (lv_at hl 2 rfl) ?_
    obtain ⟨o42, hw⟩ := hw
    refine zlR0_13 hx hb o42 hK hP dX11_put_106 ?_
    refine lv_iconst (v := Int32.ofInt 2) hx hb dX11_put_107 (by decide) ?_
    obtain ⟨o43, hw⟩ := hw
    refine z_icmp_ne (tgt := 121) hx hb o43 (by decide) dX11_put_108 (by decide) (fun k44 => ?_) (fun k44 => ?_)
    · replace hw := hw.1 k44
      refine lv_iconst (v := Int32.ofInt 0) hx hb dX11_put_121 (by decide) ?_
      exact j122 a1 (zA σ 0 28 a2) (zA σ 0 29 a2) (zA σ 0 25 a2) 0 0 (zA σ 0 26 a2) σ _ _ _ hP hD hS (lv_sub hl [5, 6, 4, 3, 2, 0] rfl) hw
    · replace hw := hw.2 k44
      refine lv_aload_n hx hb dX11_put_111 rfl (lv_at hl 5 rfl) ?_
      refine zgR0_16 hx hb hg hown hK hP q1631 dX11_put_112 ?_
      refine lv_iload hx hb dX11_put_115 (lv_at hl 2 rfl) ?_
      refine zlR0_16 hx hb o42 hK hP dX11_put_117 ?_
      refine lv_goto (tgt := 122) hx hb dX11_put_118 (by decide) ?_
      exact j122 a1 (zA σ 0 28 a2) (zA σ 0 29 a2) (zA σ 0 25 a2) 0 (zA σ 0 16 (zA σ 0 25 a2)) (zA σ 0 26 a2) σ _ _ _ hP hD hS (lv_sub hl [5, 6, 4, 3, 2, 0] rfl) hw
  replace hw := hw.2 s41
  by_cases s45 : (zA σ 0 24 a2) = 3
  · replace hw := hw.1 s45
    refine lv_tableIn (tgt := 139) hx hb dX11_put_35 (by rw [t36, s45]; decide) (by rw [t36, s45]; decide) (by rw [t36, s45]; rfl) (by decide) ?_
    refine lv_aload_n hx hb dX11_put_139 rfl (lv_at hl 5 rfl) ?_
    refine lv_iload_n hx hb dX11_put_140 rfl (lv_at hl 6 rfl) ?_
    refine lv_iconst (v := Int32.ofInt 1) hx hb dX11_put_141 (by decide) ?_
    refine lv_iload_n hx hb dX11_put_142 rfl (lv_at hl 4 rfl) ?_
    refine lv_iload hx hb dX11_put_143 (lv_at hl 3 rfl) ?_
    refine lv_iload hx hb dX11_put_145 (lv_at hl 2 rfl) ?_
    refine z_Vv (n := 5) (As := [.int (Int32.ofInt a1), .int (Int32.ofInt 1), .int (Int32.ofInt (zA σ 0 28 a2)), .int (Int32.ofInt (zA σ 0 29 a2)), .int (Int32.ofInt (zA σ 0 25 a2))]) (rest := []) hx hb hml hg hown hK hP hD hS hA (kX11_fix l D dA ad a1 1 (zA σ 0 28 a2) (zA σ 0 29 a2) (zA σ 0 25 a2) σ _ _ hw) (zoR0) rfl q2065 q160 q2062 q2064 q118 (by decide +kernel) ⟨(Nat.le_of_ble_eq_true rfl), (Nat.le_of_ble_eq_true rfl)⟩ rfl hl.1 rfl (Nat.le_of_ble_eq_true rfl) dX11_put_147 ⟨(Nat.le_of_ble_eq_true rfl), (Nat.le_of_ble_eq_true rfl)⟩ (fun σ47 H locs hw hP hD hS => ?_)
    refine lv_goto (tgt := 320) hx hb dX11_put_150 (by decide) ?_
    exact j320 a1 (zA σ 0 28 a2) (zA σ 0 29 a2) 0 0 σ47 _ _ _ hP hD hS (lv_sub hl [5, 6, 4, 3, 1, 0] rfl) hw
  replace hw := hw.2 s45
  by_cases s48 : (zA σ 0 24 a2) = 4
  · replace hw := hw.1 s48
    refine lv_tableIn (tgt := 183) hx hb dX11_put_35 (by rw [t36, s48]; decide) (by rw [t36, s48]; decide) (by rw [t36, s48]; rfl) (by decide) ?_
    exact j183 a1 a2 (zA σ 0 28 a2) (zA σ 0 29 a2) (zA σ 0 25 a2) σ _ _ _ hP hD hS (lv_sub hl [5, 6, 7, 4, 3, 2] rfl) hw
  replace hw := hw.2 s48
  by_cases s49 : (zA σ 0 24 a2) = 5
  · replace hw := hw.1 s49
    refine lv_tableIn (tgt := 153) hx hb dX11_put_35 (by rw [t36, s49]; decide) (by rw [t36, s49]; decide) (by rw [t36, s49]; rfl) (by decide) ?_
    refine lv_aload_n hx hb dX11_put_153 rfl (lv_at hl 5 rfl) ?_
    refine lv_iload_n hx hb dX11_put_154 rfl (lv_at hl 6 rfl) ?_
    refine lv_iload_n hx hb dX11_put_155 rfl (lv_at hl 4 rfl) ?_
    refine lv_iload hx hb dX11_put_156 (lv_at hl 3 rfl) ?_
    refine lv_aload_n hx hb dX11_put_158 rfl (lv_at hl 5 rfl) ?_
    refine zgR0_26 hx hb hg hown hK hP q1641 dX11_put_159 ?_
    refine lv_iload_n hx hb dX11_put_162 rfl (lv_at hl 7 rfl) ?_
    refine zlR0_26 hx hb o34 hK hP dX11_put_163 ?_
    refine z_Vv (n := 4) (As := [.int (Int32.ofInt a1), .int (Int32.ofInt (zA σ 0 28 a2)), .int (Int32.ofInt (zA σ 0 29 a2)), .int (Int32.ofInt (zA σ 0 26 a2))]) (rest := []) hx hb hml hg hown hK hP hD hS hA (kX11_set l D dA ad a1 (zA σ 0 28 a2) (zA σ 0 29 a2) (zA σ 0 26 a2) σ _ _ hw) (zoR0) rfl q2061 q160 q2058 q2060 q117 (by decide +kernel) ⟨(Nat.le_of_ble_eq_true rfl), (Nat.le_of_ble_eq_true rfl)⟩ rfl hl.1 rfl (Nat.le_of_ble_eq_true rfl) dX11_put_164 ⟨(Nat.le_of_ble_eq_true rfl), (Nat.le_of_ble_eq_true rfl)⟩ (fun σ51 H locs hw hP hD hS => ?_)
    refine lv_aload_n hx hb dX11_put_167 rfl (lv_at hl 5 rfl) ?_
    refine lv_iload_n hx hb dX11_put_168 rfl (lv_at hl 6 rfl) ?_
    refine lv_iload_n hx hb dX11_put_169 rfl (lv_at hl 4 rfl) ?_
    refine lv_iload hx hb dX11_put_170 (lv_at hl 3 rfl) ?_
    refine lv_iconst (v := Int32.ofInt 1) hx hb dX11_put_172 (by decide) ?_
    refine z_iadd hx hb dX11_put_173 ?_
    refine lv_aload_n hx hb dX11_put_174 rfl (lv_at hl 5 rfl) ?_
    refine lv_iload_n hx hb dX11_put_175 rfl (lv_at hl 7 rfl) ?_
    refine z_Vi (n := 1) (As := [.int (Int32.ofInt a2)]) (rest := [.int (Int32.ofInt ((zA σ 0 29 a2) + 1)), .int (Int32.ofInt (zA σ 0 28 a2)), .int (Int32.ofInt a1), .ref (ad 0 1000)]) hx hb hml hg hown hK hP hD hS hA (kX11_distance l D dA ad a2 σ51 _ _ hw) (zoR0) rfl q2046 q160 q2043 q2045 q114 (by decide +kernel) ⟨(Nat.le_of_ble_eq_true rfl), (Nat.le_of_ble_eq_true rfl)⟩ rfl hl.1 rfl (Nat.le_of_ble_eq_true rfl) dX11_put_176 ⟨(Nat.le_of_ble_eq_true rfl), (Nat.le_of_ble_eq_true rfl)⟩ (fun x52 σ53 H locs hw hP hD hS => ?_)
    refine z_Vv (n := 4) (As := [.int (Int32.ofInt a1), .int (Int32.ofInt (zA σ 0 28 a2)), .int (Int32.ofInt ((zA σ 0 29 a2) + 1)), .int (Int32.ofInt x52)]) (rest := []) hx hb hml hg hown hK hP hD hS hA (kX11_set l D dA ad a1 (zA σ 0 28 a2) ((zA σ 0 29 a2) + 1) x52 σ53 _ _ hw) (zoR0) rfl q2061 q160 q2058 q2060 q117 (by decide +kernel) ⟨(Nat.le_of_ble_eq_true rfl), (Nat.le_of_ble_eq_true rfl)⟩ rfl hl.1 rfl (Nat.le_of_ble_eq_true rfl) dX11_put_179 ⟨(Nat.le_of_ble_eq_true rfl), (Nat.le_of_ble_eq_true rfl)⟩ (fun σ55 H locs hw hP hD hS => ?_)
    exact hret σ55 _ _ _ _ hw hP hD hS dX11_put_182
  replace hw := hw.2 s49
  by_cases s56 : (zA σ 0 24 a2) = 6
  · replace hw := hw.1 s56
    refine lv_tableIn (tgt := 183) hx hb dX11_put_35 (by rw [t36, s56]; decide) (by rw [t36, s56]; decide) (by rw [t36, s56]; rfl) (by decide) ?_
    exact j183 a1 a2 (zA σ 0 28 a2) (zA σ 0 29 a2) (zA σ 0 25 a2) σ _ _ _ hP hD hS (lv_sub hl [5, 6, 7, 4, 3, 2] rfl) hw
  replace hw := hw.2 s56
  refine lv_tableOut (tgt := 319) hx hb dX11_put_35 (by rw [t36]; clear hw; omega) (by decide) ?_
  exact hret σ _ _ _ _ hw hP hD hS dX11_put_319
def wpX11_write_280 (K183 : Int → ZS → Prop) (v1 v3 : Int) (σ : ZS) (Q : ZS → Prop) : Prop := K183 (v3 + 1) σ
def wpbX11_write_183 (K183 : Int → ZS → Prop) (v1 v3 : Int) (σ : ZS) (Q : ZS → Prop) : Prop := (-2147483648 ≤ v3 ∧ v3 ≤ 2147483647) ∧ (-2147483648 ≤ (zI σ 0 23) ∧ (zI σ 0 23) ≤ 2147483647) ∧ ((zI σ 0 23) ≤ v3 → Q σ) ∧ (¬ (zI σ 0 23) ≤ v3 → (0 ≤ v3 ∧ v3 < 480) ∧ (-2147483648 ≤ (zA σ 0 19 v3) ∧ (zA σ 0 19 v3) ≤ 2147483647) ∧ ((zA σ 0 19 v3) = 0 → (0 ≤ v1 ∧ v1 < 3) ∧ (0 ≤ (zA σ 0 20 v3) ∧ (zA σ 0 20 v3) < 240) ∧ (0 ≤ ((80 * v1) + (zA σ 0 56 v1)) ∧ ((80 * v1) + (zA σ 0 56 v1)) < 240) ∧ wpX11_write_280 K183 v1 v3 (zsA (zsA (zsA (zsA σ 0 57 ((80 * v1) + (zA σ 0 56 v1)) (zA σ 0 12 (zA σ 0 20 v3))) 0 58 ((80 * v1) + (zA σ 0 56 v1)) (zA σ 0 14 (zA σ 0 20 v3))) 0 59 ((80 * v1) + (zA σ 0 56 v1)) (zA σ 0 16 (zA σ 0 20 v3))) 0 56 v1 ((zA σ 0 56 v1) + 1)) Q) ∧ (¬ (zA σ 0 19 v3) = 0 → wpX11_write_280 K183 v1 v3 σ Q))
def wpX11_write_183 (v1 v3 : Int) (σ : ZS) (Q : ZS → Prop) : Prop := lfp1 (fun K183 v3 σ => wpbX11_write_183 K183 v1 v3 σ Q) v3 σ
def wpbX11_write_161 (K161 : Int → ZS → Prop) (v1 v3 : Int) (σ : ZS) (Q : ZS → Prop) : Prop := (-2147483648 ≤ v3 ∧ v3 ≤ 2147483647) ∧ (-2147483648 ≤ (zI σ 0 31) ∧ (zI σ 0 31) ≤ 2147483647) ∧ ((zI σ 0 31) ≤ v3 → wpX11_write_183 v1 0 σ Q) ∧ (¬ (zI σ 0 31) ≤ v3 → wpX11_put v1 v3 σ (fun (σ14 : ZS) => K161 (v3 + 1) σ14))
def wpX11_write_161 (v1 v3 : Int) (σ : ZS) (Q : ZS → Prop) : Prop := lfp1 (fun K161 v3 σ => wpbX11_write_161 K161 v1 v3 σ Q) v3 σ
def wpbX11_write_133 (K133 : Int → ZS → Prop) (v1 v3 : Int) (σ : ZS) (Q : ZS → Prop) : Prop := (-2147483648 ≤ v3 ∧ v3 ≤ 2147483647) ∧ (400 ≤ v3 → wpX11_write_161 v1 0 σ Q) ∧ (¬ 400 ≤ v3 → (0 ≤ ((400 * v1) + v3) ∧ ((400 * v1) + v3) < 1200) ∧ K133 (v3 + 1) (zsA σ 0 49 ((400 * v1) + v3) 0))
def wpX11_write_133 (v1 v3 : Int) (σ : ZS) (Q : ZS → Prop) : Prop := lfp1 (fun K133 v3 σ => wpbX11_write_133 K133 v1 v3 σ Q) v3 σ
def wpbX11_write_35 (K35 : Int → Int → ZS → Prop) (v1 v2 v3 : Int) (σ : ZS) (Q : ZS → Prop) : Prop := (-2147483648 ≤ v3 ∧ v3 ≤ 2147483647) ∧ (-2147483648 ≤ (zI σ 0 34) ∧ (zI σ 0 34) ≤ 2147483647) ∧ ((zI σ 0 34) ≤ v3 → wpX11_write_133 v1 0 σ Q) ∧ (¬ (zI σ 0 34) ≤ v3 → (0 ≤ v3 ∧ v3 < 80) ∧ (0 ≤ (zA σ 0 35 v3) ∧ (zA σ 0 35 v3) < 240) ∧ (0 ≤ ((24 * v1) + v3) ∧ ((24 * v1) + v3) < 72) ∧ K35 (v2 + (zA σ 0 36 v3)) (v3 + 1) (zsA (zsA (zsA (zsA σ 0 45 ((24 * v1) + v3) (zA σ 0 12 (zA σ 0 35 v3))) 0 46 ((24 * v1) + v3) (zA σ 0 15 (zA σ 0 35 v3))) 0 47 ((24 * v1) + v3) v2) 0 48 ((24 * v1) + v3) (zA σ 0 36 v3)))
def wpX11_write_35 (v1 v2 v3 : Int) (σ : ZS) (Q : ZS → Prop) : Prop := lfp2 (fun K35 v2 v3 σ => wpbX11_write_35 K35 v1 v2 v3 σ Q) v2 v3 σ
def wpX11_write (a1 : Int) (σ : ZS) (Q : ZS → Prop) : Prop := (0 ≤ a1 ∧ a1 < 3) ∧ wpX11_write_35 a1 0 0 (zsA (zsA (zsA (zsA σ 0 43 a1 1) 0 44 a1 (zI σ 0 34)) 0 50 a1 0) 0 56 a1 0) Q
set_option maxHeartbeats 4000000 in
set_option maxRecDepth 100000 in
theorem kX11_write (l : Launch) (D : va_G) (dA : Nat → ClassId) (ad : Int → Nat → Nat) (a1 : Int) (σ : ZS) (Q : ZS → Prop) (sz : Nat) (hw : wpX11_write a1 σ Q) : Met l yX11_write (gws yX11_write cX11_write 5 none) (gR 4 0 0) (gPre D dA [.ref (ad 0 1000), .int (Int32.ofInt a1)] (zR dA ad σ) sz) (va_Qv Q (gAt D dA (va_A (zR dA ad σ) sz) (zR dA ad)) (va_A (zR dA ad σ) sz)) 0 0 (va_A (zR dA ad σ) sz) := by
  refine Met.ofW (cc := cX11_write) (maxL := 5) (ret := none) (by decide) rfl ?_
  intro p e s m args below meth c s₁ B hml hv
  obtain ⟨rfl, hsz, hP, hK, hD0⟩ := hv
  have hx := B.exec
  have hb := B.bytes
  have hr := B.returns
  have hts := atoms_spec (ws := gws yX11_write cX11_write 5 none) B.pre
  have hg : ∀ w ∈ gw, w.before _ s = true := fun w h => hts w (List.mem_cons_of_mem _ h)
  have hown : s.vm.findClass RX11 = some m.cls := findClass_of_methodNamed B.named
  have hlocks := B.notSynchronized
  subst hsz
  have hD := hD0.self (sz := s.heap.size)
  generalize hAe : va_A (zR dA ad σ) s.heap.size = A at hD ⊢
  have hA : ∀ q : Nat, s.heap.size ≤ q → A q := fun q h => by rw [← hAe]; exact Or.inr h
  have hS : va_S A s.heap s.heap [] := va_S.rf
  have hl := lv_entry ([.ref (ad 0 1000), .int (Int32.ofInt a1)]) (n := 5) (Nat.le_of_ble_eq_true rfl)
  rw [lg_entry_eq]
  generalize (lg_sl ([.ref (ad 0 1000), .int (Int32.ofInt a1)]) ++ List.replicate (5 - (lg_sl ([.ref (ad 0 1000), .int (Int32.ofInt a1)])).length) Slot.unset).toArray = ls at hl ⊢
  have hl : lv_has ls 5 [(0, .ref (ad 0 1000)), (1, .int (Int32.ofInt a1))] := hl
  have hret : ∀ (σ : ZS) (H : Heap) (locs : List Loc) (ls : Array Slot) (pc : Nat), Q σ → va_P D vwC (zR dA ad σ) H → va_D A (zR dA ad σ) → va_S A s.heap H locs → decode cX11_write pc = .ok (.return_, 1) → W p l e (gR 4 0 0) s m #[.ref (ad 0 1000), .int (Int32.ofInt a1)] below meth c H locs 0 0 (MQ below (va_Qv Q (gAt D dA A (zR dA ad)) A) #[.ref (ad 0 1000), .int (Int32.ofInt a1)] s 0 0 A) (F0 m pc ls []) := fun σ H locs ls pc hw hP hD hS hd => g_vret hx hb hr hlocks hK σ hP hD hS hw (Nat.le_of_ble_eq_true rfl) (Nat.le_of_ble_eq_true rfl) hd
  generalize MQ below (va_Qv Q (gAt D dA A (zR dA ad)) A) #[.ref (ad 0 1000), .int (Int32.ofInt a1)] s 0 0 A = QQ at hret ⊢
  have b183 : ∀ (v1 : Int) (K183 : Int → ZS → Prop), (∀ (v3 : Int) (σ : ZS), K183 v3 σ → ∀ (H : Heap) (locs : List Loc) (ls : Array Slot), va_P D vwC (zR dA ad σ) H → va_D A (zR dA ad σ) → va_S A s.heap H locs → lv_has ls 5 [(0, .ref (ad 0 1000)), (1, .int (Int32.ofInt v1)), (3, .int (Int32.ofInt v3))] → W p l e (gR 4 0 0) s m #[.ref (ad 0 1000), .int (Int32.ofInt a1)] below meth c H locs 0 0 QQ (F0 m 183 ls [])) → ∀ (v3 : Int) (σ : ZS), wpbX11_write_183 K183 v1 v3 σ Q → ∀ (H : Heap) (locs : List Loc) (ls : Array Slot), va_P D vwC (zR dA ad σ) H → va_D A (zR dA ad σ) → va_S A s.heap H locs → lv_has ls 5 [(0, .ref (ad 0 1000)), (1, .int (Int32.ofInt v1)), (3, .int (Int32.ofInt v3))] → W p l e (gR 4 0 0) s m #[.ref (ad 0 1000), .int (Int32.ofInt a1)] below meth c H locs 0 0 QQ (F0 m 183 ls []) := by
    intro v1 K183 hK183
    have j280 : ∀ (v3 : Int) (σ : ZS), ∀ (H : Heap) (locs : List Loc) (ls : Array Slot), va_P D vwC (zR dA ad σ) H → va_D A (zR dA ad σ) → va_S A s.heap H locs → lv_has ls 5 [(0, .ref (ad 0 1000)), (1, .int (Int32.ofInt v1)), (3, .int (Int32.ofInt v3))] → wpX11_write_280 K183 v1 v3 σ Q → W p l e (gR 4 0 0) s m #[.ref (ad 0 1000), .int (Int32.ofInt a1)] below meth c H locs 0 0 QQ (F0 m 280 ls []) := by
      intro v3 σ H locs ls hP hD hS hl hw
      unfold wpX11_write_280 at hw
      refine lv_iinc (v := Int32.ofInt (v3 + 1)) (lv' := [(3, .int (Int32.ofInt (v3 + 1))), (0, .ref (ad 0 1000)), (1, .int (Int32.ofInt v1))]) hx hb dX11_write_280 hl (k := 2) rfl (Int32.ofInt_add _ _).symm (by decide) rfl (fun ls hl => ?_)
      refine lv_goto (tgt := 183) hx hb dX11_write_283 (by decide) ?_
      exact hK183 (v3 + 1) σ hw _ _ _ hP hD hS (lv_sub hl [1, 2, 0] rfl)
    intro v3 σ hw H locs ls hP hD hS hl
    unfold wpbX11_write_183 at hw
    refine lv_iload_n hx hb dX11_write_183 rfl (lv_at hl 2 rfl) ?_
    refine lv_aload_n hx hb dX11_write_184 rfl (lv_at hl 0 rfl) ?_
    refine zgR0_23 hx hb hg hown hK hP q1638 dX11_write_185 ?_
    obtain ⟨o1, hw⟩ := hw
    obtain ⟨o2, hw⟩ := hw
    refine z_icmp_ge (tgt := 286) hx hb o1 o2 dX11_write_188 (by decide) (fun k3 => ?_) (fun k3 => ?_)
    · replace hw := hw.1 k3
      exact hret σ _ _ _ _ hw hP hD hS dX11_write_286
    · replace hw := hw.2 k3
      refine lv_aload_n hx hb dX11_write_191 rfl (lv_at hl 0 rfl) ?_
      refine zgR0_19 hx hb hg hown hK hP q1634 dX11_write_192 ?_
      refine lv_iload_n hx hb dX11_write_195 rfl (lv_at hl 2 rfl) ?_
      obtain ⟨o4, hw⟩ := hw
      refine zlR0_19 hx hb o4 hK hP dX11_write_196 ?_
      obtain ⟨o5, hw⟩ := hw
      refine z_if_eq (tgt := 203) hx hb o5 dX11_write_197 (by decide) (fun k6 => ?_) (fun k6 => ?_)
      · replace hw := hw.1 k6
        refine lv_bipush (v := Int32.ofInt 80) hx hb dX11_write_203 (by decide) ?_
        refine lv_iload_n hx hb dX11_write_205 rfl (lv_at hl 1 rfl) ?_
        refine z_imul hx hb dX11_write_206 ?_
        refine lv_aload_n hx hb dX11_write_207 rfl (lv_at hl 0 rfl) ?_
        refine zgR0_56 hx hb hg hown hK hP q1671 dX11_write_208 ?_
        refine lv_iload_n hx hb dX11_write_211 rfl (lv_at hl 1 rfl) ?_
        obtain ⟨o7, hw⟩ := hw
        refine zlR0_56 hx hb o7 hK hP dX11_write_212 ?_
        refine z_iadd hx hb dX11_write_213 ?_
        refine lv_istore (lv' := [(4, .int (Int32.ofInt ((80 * v1) + (zA σ 0 56 v1)))), (0, .ref (ad 0 1000)), (1, .int (Int32.ofInt v1)), (3, .int (Int32.ofInt v3))]) hx hb dX11_write_214 hl (by decide) rfl (fun ls hl => ?_)
        refine lv_aload_n hx hb dX11_write_216 rfl (lv_at hl 1 rfl) ?_
        refine zgR0_57 hx hb hg hown hK hP q1672 dX11_write_217 ?_
        refine lv_iload hx hb dX11_write_220 (lv_at hl 0 rfl) ?_
        refine lv_aload_n hx hb dX11_write_222 rfl (lv_at hl 1 rfl) ?_
        refine zgR0_12 hx hb hg hown hK hP q1627 dX11_write_223 ?_
        refine lv_aload_n hx hb dX11_write_226 rfl (lv_at hl 1 rfl) ?_
        refine zgR0_20 hx hb hg hown hK hP q1635 dX11_write_227 ?_
        refine lv_iload_n hx hb dX11_write_230 rfl (lv_at hl 3 rfl) ?_
        refine zlR0_20 hx hb o4 hK hP dX11_write_231 ?_
        obtain ⟨o8, hw⟩ := hw
        refine zlR0_12 hx hb o8 hK hP dX11_write_232 ?_
        obtain ⟨o9, hw⟩ := hw
        refine zsR0_57 (v := (zA σ 0 12 (zA σ 0 20 v3))) hx hb o9 hK hP hD hS dX11_write_233 (fun H locs hP hD hS => ?_)
        refine lv_aload_n hx hb dX11_write_234 rfl (lv_at hl 1 rfl) ?_
        refine zgR0_58 hx hb hg hown hK hP q1673 dX11_write_235 ?_
        refine lv_iload hx hb dX11_write_238 (lv_at hl 0 rfl) ?_
        refine lv_aload_n hx hb dX11_write_240 rfl (lv_at hl 1 rfl) ?_
        refine zgR0_14 hx hb hg hown hK hP q1629 dX11_write_241 ?_
        refine lv_aload_n hx hb dX11_write_244 rfl (lv_at hl 1 rfl) ?_
        refine zgR0_20 hx hb hg hown hK hP q1635 dX11_write_245 ?_
        refine lv_iload_n hx hb dX11_write_248 rfl (lv_at hl 3 rfl) ?_
        refine zlR0_20 hx hb o4 hK hP dX11_write_249 ?_
        refine g_nrm (y := Int32.ofInt (zA σ 0 20 v3)) rfl ?_
        refine zlR0_14 hx hb o8 hK hP dX11_write_250 ?_
        refine g_nrm (y := Int32.ofInt (zA σ 0 14 (zA σ 0 20 v3))) rfl ?_
        refine zsR0_58 (v := (zA σ 0 14 (zA σ 0 20 v3))) hx hb o9 hK hP hD hS dX11_write_251 (fun H locs hP hD hS => ?_)
        refine lv_aload_n hx hb dX11_write_252 rfl (lv_at hl 1 rfl) ?_
        refine zgR0_59 hx hb hg hown hK hP q1674 dX11_write_253 ?_
        refine lv_iload hx hb dX11_write_256 (lv_at hl 0 rfl) ?_
        refine lv_aload_n hx hb dX11_write_258 rfl (lv_at hl 1 rfl) ?_
        refine zgR0_16 hx hb hg hown hK hP q1631 dX11_write_259 ?_
        refine lv_aload_n hx hb dX11_write_262 rfl (lv_at hl 1 rfl) ?_
        refine zgR0_20 hx hb hg hown hK hP q1635 dX11_write_263 ?_
        refine lv_iload_n hx hb dX11_write_266 rfl (lv_at hl 3 rfl) ?_
        refine zlR0_20 hx hb o4 hK hP dX11_write_267 ?_
        refine g_nrm (y := Int32.ofInt (zA σ 0 20 v3)) rfl ?_
        refine zlR0_16 hx hb o8 hK hP dX11_write_268 ?_
        refine g_nrm (y := Int32.ofInt (zA σ 0 16 (zA σ 0 20 v3))) rfl ?_
        refine zsR0_59 (v := (zA σ 0 16 (zA σ 0 20 v3))) hx hb o9 hK hP hD hS dX11_write_269 (fun H locs hP hD hS => ?_)
        refine lv_aload_n hx hb dX11_write_270 rfl (lv_at hl 1 rfl) ?_
        refine zgR0_56 hx hb hg hown hK hP q1671 dX11_write_271 ?_
        refine lv_iload_n hx hb dX11_write_274 rfl (lv_at hl 2 rfl) ?_
        refine lv_dup2_11 hx hb dX11_write_275 rfl rfl ?_
        refine zlR0_56 hx hb o7 hK hP dX11_write_276 ?_
        refine g_nrm (y := Int32.ofInt (zA σ 0 56 v1)) rfl ?_
        refine lv_iconst (v := Int32.ofInt 1) hx hb dX11_write_277 (by decide) ?_
        refine z_iadd hx hb dX11_write_278 ?_
        refine zsR0_56 (v := ((zA σ 0 56 v1) + 1)) hx hb o7 hK hP hD hS dX11_write_279 (fun H locs hP hD hS => ?_)
        exact j280 v3 (zsA (zsA (zsA (zsA σ 0 57 ((80 * v1) + (zA σ 0 56 v1)) (zA σ 0 12 (zA σ 0 20 v3))) 0 58 ((80 * v1) + (zA σ 0 56 v1)) (zA σ 0 14 (zA σ 0 20 v3))) 0 59 ((80 * v1) + (zA σ 0 56 v1)) (zA σ 0 16 (zA σ 0 20 v3))) 0 56 v1 ((zA σ 0 56 v1) + 1)) _ _ _ hP hD hS (lv_sub hl [1, 2, 3] rfl) hw
      · replace hw := hw.2 k6
        refine lv_goto (tgt := 280) hx hb dX11_write_200 (by decide) ?_
        exact j280 v3 σ _ _ _ hP hD hS (lv_sub hl [0, 1, 2] rfl) hw
  have j183 : ∀ (v1 v3 : Int) (σ : ZS), ∀ (H : Heap) (locs : List Loc) (ls : Array Slot), va_P D vwC (zR dA ad σ) H → va_D A (zR dA ad σ) → va_S A s.heap H locs → lv_has ls 5 [(0, .ref (ad 0 1000)), (1, .int (Int32.ofInt v1)), (3, .int (Int32.ofInt v3))] → wpX11_write_183 v1 v3 σ Q → W p l e (gR 4 0 0) s m #[.ref (ad 0 1000), .int (Int32.ofInt a1)] below meth c H locs 0 0 QQ (F0 m 183 ls []) := by
    intro v1 v3 σ H locs ls hP hD hS hl hw
    exact hw (fun v3 σ => ∀ (H : Heap) (locs : List Loc) (ls : Array Slot), va_P D vwC (zR dA ad σ) H → va_D A (zR dA ad σ) → va_S A s.heap H locs → lv_has ls 5 [(0, .ref (ad 0 1000)), (1, .int (Int32.ofInt v1)), (3, .int (Int32.ofInt v3))] → W p l e (gR 4 0 0) s m #[.ref (ad 0 1000), .int (Int32.ofInt a1)] below meth c H locs 0 0 QQ (F0 m 183 ls [])) (b183 v1 (fun v3 σ => ∀ (H : Heap) (locs : List Loc) (ls : Array Slot), va_P D vwC (zR dA ad σ) H → va_D A (zR dA ad σ) → va_S A s.heap H locs → lv_has ls 5 [(0, .ref (ad 0 1000)), (1, .int (Int32.ofInt v1)), (3, .int (Int32.ofInt v3))] → W p l e (gR 4 0 0) s m #[.ref (ad 0 1000), .int (Int32.ofInt a1)] below meth c H locs 0 0 QQ (F0 m 183 ls [])) (fun v3 σ h => h)) _ _ _ hP hD hS hl
  have b161 : ∀ (v1 : Int) (K161 : Int → ZS → Prop), (∀ (v3 : Int) (σ : ZS), K161 v3 σ → ∀ (H : Heap) (locs : List Loc) (ls : Array Slot), va_P D vwC (zR dA ad σ) H → va_D A (zR dA ad σ) → va_S A s.heap H locs → lv_has ls 5 [(0, .ref (ad 0 1000)), (1, .int (Int32.ofInt v1)), (3, .int (Int32.ofInt v3))] → W p l e (gR 4 0 0) s m #[.ref (ad 0 1000), .int (Int32.ofInt a1)] below meth c H locs 0 0 QQ (F0 m 161 ls [])) → ∀ (v3 : Int) (σ : ZS), wpbX11_write_161 K161 v1 v3 σ Q → ∀ (H : Heap) (locs : List Loc) (ls : Array Slot), va_P D vwC (zR dA ad σ) H → va_D A (zR dA ad σ) → va_S A s.heap H locs → lv_has ls 5 [(0, .ref (ad 0 1000)), (1, .int (Int32.ofInt v1)), (3, .int (Int32.ofInt v3))] → W p l e (gR 4 0 0) s m #[.ref (ad 0 1000), .int (Int32.ofInt a1)] below meth c H locs 0 0 QQ (F0 m 161 ls []) := by
    intro v1 K161 hK161
    intro v3 σ hw H locs ls hP hD hS hl
    unfold wpbX11_write_161 at hw
    refine lv_iload_n hx hb dX11_write_161 rfl (lv_at hl 2 rfl) ?_
    refine lv_aload_n hx hb dX11_write_162 rfl (lv_at hl 0 rfl) ?_
    refine zgR0_31 hx hb hg hown hK hP q1646 dX11_write_163 ?_
    obtain ⟨o10, hw⟩ := hw
    obtain ⟨o11, hw⟩ := hw
    refine z_icmp_ge (tgt := 181) hx hb o10 o11 dX11_write_166 (by decide) (fun k12 => ?_) (fun k12 => ?_)
    · replace hw := hw.1 k12
      refine lv_iconst (v := Int32.ofInt 0) hx hb dX11_write_181 (by decide) ?_
      refine lv_istore_n (lv' := [(3, .int (Int32.ofInt 0)), (0, .ref (ad 0 1000)), (1, .int (Int32.ofInt v1))]) hx hb dX11_write_182 rfl hl (by decide) rfl (fun ls hl => ?_)
      exact j183 v1 0 σ _ _ _ hP hD hS (lv_sub hl [1, 2, 0] rfl) hw
    · replace hw := hw.2 k12
      refine lv_aload_n hx hb dX11_write_169 rfl (lv_at hl 0 rfl) ?_
      refine lv_iload_n hx hb dX11_write_170 rfl (lv_at hl 1 rfl) ?_
      refine lv_iload_n hx hb dX11_write_171 rfl (lv_at hl 2 rfl) ?_
      refine z_Vv (n := 2) (As := [.int (Int32.ofInt v1), .int (Int32.ofInt v3)]) (rest := []) hx hb hml hg hown hK hP hD hS hA (kX11_put l D dA ad v1 v3 σ _ _ hw) (zoR0) rfl q2057 q160 q2054 q2056 q116 (by decide +kernel) ⟨(Nat.le_of_ble_eq_true rfl), (Nat.le_of_ble_eq_true rfl)⟩ rfl hl.1 rfl (Nat.le_of_ble_eq_true rfl) dX11_write_172 ⟨(Nat.le_of_ble_eq_true rfl), (Nat.le_of_ble_eq_true rfl)⟩ (fun σ14 H locs hw hP hD hS => ?_)
      refine lv_iinc (v := Int32.ofInt (v3 + 1)) (lv' := [(3, .int (Int32.ofInt (v3 + 1))), (0, .ref (ad 0 1000)), (1, .int (Int32.ofInt v1))]) hx hb dX11_write_175 hl (k := 2) rfl (Int32.ofInt_add _ _).symm (by decide) rfl (fun ls hl => ?_)
      refine lv_goto (tgt := 161) hx hb dX11_write_178 (by decide) ?_
      exact hK161 (v3 + 1) σ14 hw _ _ _ hP hD hS (lv_sub hl [1, 2, 0] rfl)
  have j161 : ∀ (v1 v3 : Int) (σ : ZS), ∀ (H : Heap) (locs : List Loc) (ls : Array Slot), va_P D vwC (zR dA ad σ) H → va_D A (zR dA ad σ) → va_S A s.heap H locs → lv_has ls 5 [(0, .ref (ad 0 1000)), (1, .int (Int32.ofInt v1)), (3, .int (Int32.ofInt v3))] → wpX11_write_161 v1 v3 σ Q → W p l e (gR 4 0 0) s m #[.ref (ad 0 1000), .int (Int32.ofInt a1)] below meth c H locs 0 0 QQ (F0 m 161 ls []) := by
    intro v1 v3 σ H locs ls hP hD hS hl hw
    exact hw (fun v3 σ => ∀ (H : Heap) (locs : List Loc) (ls : Array Slot), va_P D vwC (zR dA ad σ) H → va_D A (zR dA ad σ) → va_S A s.heap H locs → lv_has ls 5 [(0, .ref (ad 0 1000)), (1, .int (Int32.ofInt v1)), (3, .int (Int32.ofInt v3))] → W p l e (gR 4 0 0) s m #[.ref (ad 0 1000), .int (Int32.ofInt a1)] below meth c H locs 0 0 QQ (F0 m 161 ls [])) (b161 v1 (fun v3 σ => ∀ (H : Heap) (locs : List Loc) (ls : Array Slot), va_P D vwC (zR dA ad σ) H → va_D A (zR dA ad σ) → va_S A s.heap H locs → lv_has ls 5 [(0, .ref (ad 0 1000)), (1, .int (Int32.ofInt v1)), (3, .int (Int32.ofInt v3))] → W p l e (gR 4 0 0) s m #[.ref (ad 0 1000), .int (Int32.ofInt a1)] below meth c H locs 0 0 QQ (F0 m 161 ls [])) (fun v3 σ h => h)) _ _ _ hP hD hS hl
  have b133 : ∀ (v1 : Int) (K133 : Int → ZS → Prop), (∀ (v3 : Int) (σ : ZS), K133 v3 σ → ∀ (H : Heap) (locs : List Loc) (ls : Array Slot), va_P D vwC (zR dA ad σ) H → va_D A (zR dA ad σ) → va_S A s.heap H locs → lv_has ls 5 [(0, .ref (ad 0 1000)), (1, .int (Int32.ofInt v1)), (3, .int (Int32.ofInt v3))] → W p l e (gR 4 0 0) s m #[.ref (ad 0 1000), .int (Int32.ofInt a1)] below meth c H locs 0 0 QQ (F0 m 133 ls [])) → ∀ (v3 : Int) (σ : ZS), wpbX11_write_133 K133 v1 v3 σ Q → ∀ (H : Heap) (locs : List Loc) (ls : Array Slot), va_P D vwC (zR dA ad σ) H → va_D A (zR dA ad σ) → va_S A s.heap H locs → lv_has ls 5 [(0, .ref (ad 0 1000)), (1, .int (Int32.ofInt v1)), (3, .int (Int32.ofInt v3))] → W p l e (gR 4 0 0) s m #[.ref (ad 0 1000), .int (Int32.ofInt a1)] below meth c H locs 0 0 QQ (F0 m 133 ls []) := by
    intro v1 K133 hK133
    intro v3 σ hw H locs ls hP hD hS hl
    unfold wpbX11_write_133 at hw
    refine lv_iload_n hx hb dX11_write_133 rfl (lv_at hl 2 rfl) ?_
    refine lv_sipush (v := Int32.ofInt 400) hx hb dX11_write_134 (by decide) ?_
    obtain ⟨o15, hw⟩ := hw
    refine z_icmp_ge (tgt := 159) hx hb o15 (by decide) dX11_write_137 (by decide) (fun k16 => ?_) (fun k16 => ?_)
    · replace hw := hw.1 k16
      refine lv_iconst (v := Int32.ofInt 0) hx hb dX11_write_159 (by decide) ?_
      refine lv_istore_n (lv' := [(3, .int (Int32.ofInt 0)), (0, .ref (ad 0 1000)), (1, .int (Int32.ofInt v1))]) hx hb dX11_write_160 rfl hl (by decide) rfl (fun ls hl => ?_)
      exact j161 v1 0 σ _ _ _ hP hD hS (lv_sub hl [1, 2, 0] rfl) hw
    · replace hw := hw.2 k16
      refine lv_aload_n hx hb dX11_write_140 rfl (lv_at hl 0 rfl) ?_
      refine zgR0_49 hx hb hg hown hK hP q1664 dX11_write_141 ?_
      refine lv_sipush (v := Int32.ofInt 400) hx hb dX11_write_144 (by decide) ?_
      refine lv_iload_n hx hb dX11_write_147 rfl (lv_at hl 1 rfl) ?_
      refine z_imul hx hb dX11_write_148 ?_
      refine lv_iload_n hx hb dX11_write_149 rfl (lv_at hl 2 rfl) ?_
      refine z_iadd hx hb dX11_write_150 ?_
      refine lv_iconst (v := Int32.ofInt 0) hx hb dX11_write_151 (by decide) ?_
      obtain ⟨o17, hw⟩ := hw
      refine zsR0_49 (v := 0) hx hb o17 hK hP hD hS dX11_write_152 (fun H locs hP hD hS => ?_)
      refine lv_iinc (v := Int32.ofInt (v3 + 1)) (lv' := [(3, .int (Int32.ofInt (v3 + 1))), (0, .ref (ad 0 1000)), (1, .int (Int32.ofInt v1))]) hx hb dX11_write_153 hl (k := 2) rfl (Int32.ofInt_add _ _).symm (by decide) rfl (fun ls hl => ?_)
      refine lv_goto (tgt := 133) hx hb dX11_write_156 (by decide) ?_
      exact hK133 (v3 + 1) (zsA σ 0 49 ((400 * v1) + v3) 0) hw _ _ _ hP hD hS (lv_sub hl [1, 2, 0] rfl)
  have j133 : ∀ (v1 v3 : Int) (σ : ZS), ∀ (H : Heap) (locs : List Loc) (ls : Array Slot), va_P D vwC (zR dA ad σ) H → va_D A (zR dA ad σ) → va_S A s.heap H locs → lv_has ls 5 [(0, .ref (ad 0 1000)), (1, .int (Int32.ofInt v1)), (3, .int (Int32.ofInt v3))] → wpX11_write_133 v1 v3 σ Q → W p l e (gR 4 0 0) s m #[.ref (ad 0 1000), .int (Int32.ofInt a1)] below meth c H locs 0 0 QQ (F0 m 133 ls []) := by
    intro v1 v3 σ H locs ls hP hD hS hl hw
    exact hw (fun v3 σ => ∀ (H : Heap) (locs : List Loc) (ls : Array Slot), va_P D vwC (zR dA ad σ) H → va_D A (zR dA ad σ) → va_S A s.heap H locs → lv_has ls 5 [(0, .ref (ad 0 1000)), (1, .int (Int32.ofInt v1)), (3, .int (Int32.ofInt v3))] → W p l e (gR 4 0 0) s m #[.ref (ad 0 1000), .int (Int32.ofInt a1)] below meth c H locs 0 0 QQ (F0 m 133 ls [])) (b133 v1 (fun v3 σ => ∀ (H : Heap) (locs : List Loc) (ls : Array Slot), va_P D vwC (zR dA ad σ) H → va_D A (zR dA ad σ) → va_S A s.heap H locs → lv_has ls 5 [(0, .ref (ad 0 1000)), (1, .int (Int32.ofInt v1)), (3, .int (Int32.ofInt v3))] → W p l e (gR 4 0 0) s m #[.ref (ad 0 1000), .int (Int32.ofInt a1)] below meth c H locs 0 0 QQ (F0 m 133 ls [])) (fun v3 σ h => h)) _ _ _ hP hD hS hl
  have b35 : ∀ (v1 : Int) (K35 : Int → Int → ZS → Prop), (∀ (v2 v3 : Int) (σ : ZS), K35 v2 v3 σ → ∀ (H : Heap) (locs : List Loc) (ls : Array Slot), va_P D vwC (zR dA ad σ) H → va_D A (zR dA ad σ) → va_S A s.heap H locs → lv_has ls 5 [(0, .ref (ad 0 1000)), (1, .int (Int32.ofInt v1)), (2, .int (Int32.ofInt v2)), (3, .int (Int32.ofInt v3))] → W p l e (gR 4 0 0) s m #[.ref (ad 0 1000), .int (Int32.ofInt a1)] below meth c H locs 0 0 QQ (F0 m 35 ls [])) → ∀ (v2 v3 : Int) (σ : ZS), wpbX11_write_35 K35 v1 v2 v3 σ Q → ∀ (H : Heap) (locs : List Loc) (ls : Array Slot), va_P D vwC (zR dA ad σ) H → va_D A (zR dA ad σ) → va_S A s.heap H locs → lv_has ls 5 [(0, .ref (ad 0 1000)), (1, .int (Int32.ofInt v1)), (2, .int (Int32.ofInt v2)), (3, .int (Int32.ofInt v3))] → W p l e (gR 4 0 0) s m #[.ref (ad 0 1000), .int (Int32.ofInt a1)] below meth c H locs 0 0 QQ (F0 m 35 ls []) := by
    intro v1 K35 hK35
    intro v2 v3 σ hw H locs ls hP hD hS hl
    unfold wpbX11_write_35 at hw
    refine lv_iload_n hx hb dX11_write_35 rfl (lv_at hl 3 rfl) ?_
    refine lv_aload_n hx hb dX11_write_36 rfl (lv_at hl 0 rfl) ?_
    refine zgR0_34 hx hb hg hown hK hP q1649 dX11_write_37 ?_
    obtain ⟨o18, hw⟩ := hw
    obtain ⟨o19, hw⟩ := hw
    refine z_icmp_ge (tgt := 131) hx hb o18 o19 dX11_write_40 (by decide) (fun k20 => ?_) (fun k20 => ?_)
    · replace hw := hw.1 k20
      refine lv_iconst (v := Int32.ofInt 0) hx hb dX11_write_131 (by decide) ?_
      refine lv_istore_n (lv' := [(3, .int (Int32.ofInt 0)), (0, .ref (ad 0 1000)), (1, .int (Int32.ofInt v1)), (2, .int (Int32.ofInt v2))]) hx hb dX11_write_132 rfl hl (by decide) rfl (fun ls hl => ?_)
      exact j133 v1 0 σ _ _ _ hP hD hS (lv_sub hl [1, 2, 0] rfl) hw
    · replace hw := hw.2 k20
      refine lv_aload_n hx hb dX11_write_43 rfl (lv_at hl 0 rfl) ?_
      refine zgR0_45 hx hb hg hown hK hP q1660 dX11_write_44 ?_
      refine lv_bipush (v := Int32.ofInt 24) hx hb dX11_write_47 (by decide) ?_
      refine lv_iload_n hx hb dX11_write_49 rfl (lv_at hl 1 rfl) ?_
      refine z_imul hx hb dX11_write_50 ?_
      refine lv_iload_n hx hb dX11_write_51 rfl (lv_at hl 3 rfl) ?_
      refine z_iadd hx hb dX11_write_52 ?_
      refine lv_aload_n hx hb dX11_write_53 rfl (lv_at hl 0 rfl) ?_
      refine zgR0_12 hx hb hg hown hK hP q1627 dX11_write_54 ?_
      refine lv_aload_n hx hb dX11_write_57 rfl (lv_at hl 0 rfl) ?_
      refine zgR0_35 hx hb hg hown hK hP q1650 dX11_write_58 ?_
      refine lv_iload_n hx hb dX11_write_61 rfl (lv_at hl 3 rfl) ?_
      obtain ⟨o21, hw⟩ := hw
      refine zlR0_35 hx hb o21 hK hP dX11_write_62 ?_
      obtain ⟨o22, hw⟩ := hw
      refine zlR0_12 hx hb o22 hK hP dX11_write_63 ?_
      obtain ⟨o23, hw⟩ := hw
      refine zsR0_45 (v := (zA σ 0 12 (zA σ 0 35 v3))) hx hb o23 hK hP hD hS dX11_write_64 (fun H locs hP hD hS => ?_)
      refine lv_aload_n hx hb dX11_write_65 rfl (lv_at hl 0 rfl) ?_
      refine zgR0_46 hx hb hg hown hK hP q1661 dX11_write_66 ?_
      refine lv_bipush (v := Int32.ofInt 24) hx hb dX11_write_69 (by decide) ?_
      refine lv_iload_n hx hb dX11_write_71 rfl (lv_at hl 1 rfl) ?_
      refine z_imul hx hb dX11_write_72 ?_
      refine lv_iload_n hx hb dX11_write_73 rfl (lv_at hl 3 rfl) ?_
      refine z_iadd hx hb dX11_write_74 ?_
      refine lv_aload_n hx hb dX11_write_75 rfl (lv_at hl 0 rfl) ?_
      refine zgR0_15 hx hb hg hown hK hP q1630 dX11_write_76 ?_
      refine lv_aload_n hx hb dX11_write_79 rfl (lv_at hl 0 rfl) ?_
      refine zgR0_35 hx hb hg hown hK hP q1650 dX11_write_80 ?_
      refine lv_iload_n hx hb dX11_write_83 rfl (lv_at hl 3 rfl) ?_
      refine zlR0_35 hx hb o21 hK hP dX11_write_84 ?_
      refine g_nrm (y := Int32.ofInt (zA σ 0 35 v3)) rfl ?_
      refine zlR0_15 hx hb o22 hK hP dX11_write_85 ?_
      refine g_nrm (y := Int32.ofInt (zA σ 0 15 (zA σ 0 35 v3))) rfl ?_
      refine zsR0_46 (v := (zA σ 0 15 (zA σ 0 35 v3))) hx hb o23 hK hP hD hS dX11_write_86 (fun H locs hP hD hS => ?_)
      refine lv_aload_n hx hb dX11_write_87 rfl (lv_at hl 0 rfl) ?_
      refine zgR0_47 hx hb hg hown hK hP q1662 dX11_write_88 ?_
      refine lv_bipush (v := Int32.ofInt 24) hx hb dX11_write_91 (by decide) ?_
      refine lv_iload_n hx hb dX11_write_93 rfl (lv_at hl 1 rfl) ?_
      refine z_imul hx hb dX11_write_94 ?_
      refine lv_iload_n hx hb dX11_write_95 rfl (lv_at hl 3 rfl) ?_
      refine z_iadd hx hb dX11_write_96 ?_
      refine lv_iload_n hx hb dX11_write_97 rfl (lv_at hl 2 rfl) ?_
      refine zsR0_47 (v := v2) hx hb o23 hK hP hD hS dX11_write_98 (fun H locs hP hD hS => ?_)
      refine lv_aload_n hx hb dX11_write_99 rfl (lv_at hl 0 rfl) ?_
      refine zgR0_48 hx hb hg hown hK hP q1663 dX11_write_100 ?_
      refine lv_bipush (v := Int32.ofInt 24) hx hb dX11_write_103 (by decide) ?_
      refine lv_iload_n hx hb dX11_write_105 rfl (lv_at hl 1 rfl) ?_
      refine z_imul hx hb dX11_write_106 ?_
      refine lv_iload_n hx hb dX11_write_107 rfl (lv_at hl 3 rfl) ?_
      refine z_iadd hx hb dX11_write_108 ?_
      refine lv_aload_n hx hb dX11_write_109 rfl (lv_at hl 0 rfl) ?_
      refine zgR0_36 hx hb hg hown hK hP q1651 dX11_write_110 ?_
      refine lv_iload_n hx hb dX11_write_113 rfl (lv_at hl 3 rfl) ?_
      refine zlR0_36 hx hb o21 hK hP dX11_write_114 ?_
      refine g_nrm (y := Int32.ofInt (zA σ 0 36 v3)) rfl ?_
      refine zsR0_48 (v := (zA σ 0 36 v3)) hx hb o23 hK hP hD hS dX11_write_115 (fun H locs hP hD hS => ?_)
      refine lv_iload_n hx hb dX11_write_116 rfl (lv_at hl 2 rfl) ?_
      refine lv_aload_n hx hb dX11_write_117 rfl (lv_at hl 0 rfl) ?_
      refine zgR0_36 hx hb hg hown hK hP q1651 dX11_write_118 ?_
      refine lv_iload_n hx hb dX11_write_121 rfl (lv_at hl 3 rfl) ?_
      refine zlR0_36 hx hb o21 hK hP dX11_write_122 ?_
      refine g_nrm (y := Int32.ofInt (zA σ 0 36 v3)) rfl ?_
      refine z_iadd hx hb dX11_write_123 ?_
      refine lv_istore_n (lv' := [(2, .int (Int32.ofInt (v2 + (zA σ 0 36 v3)))), (0, .ref (ad 0 1000)), (1, .int (Int32.ofInt v1)), (3, .int (Int32.ofInt v3))]) hx hb dX11_write_124 rfl hl (by decide) rfl (fun ls hl => ?_)
      refine lv_iinc (v := Int32.ofInt (v3 + 1)) (lv' := [(3, .int (Int32.ofInt (v3 + 1))), (2, .int (Int32.ofInt (v2 + (zA σ 0 36 v3)))), (0, .ref (ad 0 1000)), (1, .int (Int32.ofInt v1))]) hx hb dX11_write_125 hl (k := 3) rfl (Int32.ofInt_add _ _).symm (by decide) rfl (fun ls hl => ?_)
      refine lv_goto (tgt := 35) hx hb dX11_write_128 (by decide) ?_
      exact hK35 (v2 + (zA σ 0 36 v3)) (v3 + 1) (zsA (zsA (zsA (zsA σ 0 45 ((24 * v1) + v3) (zA σ 0 12 (zA σ 0 35 v3))) 0 46 ((24 * v1) + v3) (zA σ 0 15 (zA σ 0 35 v3))) 0 47 ((24 * v1) + v3) v2) 0 48 ((24 * v1) + v3) (zA σ 0 36 v3)) hw _ _ _ hP hD hS (lv_sub hl [2, 3, 1, 0] rfl)
  have j35 : ∀ (v1 v2 v3 : Int) (σ : ZS), ∀ (H : Heap) (locs : List Loc) (ls : Array Slot), va_P D vwC (zR dA ad σ) H → va_D A (zR dA ad σ) → va_S A s.heap H locs → lv_has ls 5 [(0, .ref (ad 0 1000)), (1, .int (Int32.ofInt v1)), (2, .int (Int32.ofInt v2)), (3, .int (Int32.ofInt v3))] → wpX11_write_35 v1 v2 v3 σ Q → W p l e (gR 4 0 0) s m #[.ref (ad 0 1000), .int (Int32.ofInt a1)] below meth c H locs 0 0 QQ (F0 m 35 ls []) := by
    intro v1 v2 v3 σ H locs ls hP hD hS hl hw
    exact hw (fun v2 v3 σ => ∀ (H : Heap) (locs : List Loc) (ls : Array Slot), va_P D vwC (zR dA ad σ) H → va_D A (zR dA ad σ) → va_S A s.heap H locs → lv_has ls 5 [(0, .ref (ad 0 1000)), (1, .int (Int32.ofInt v1)), (2, .int (Int32.ofInt v2)), (3, .int (Int32.ofInt v3))] → W p l e (gR 4 0 0) s m #[.ref (ad 0 1000), .int (Int32.ofInt a1)] below meth c H locs 0 0 QQ (F0 m 35 ls [])) (b35 v1 (fun v2 v3 σ => ∀ (H : Heap) (locs : List Loc) (ls : Array Slot), va_P D vwC (zR dA ad σ) H → va_D A (zR dA ad σ) → va_S A s.heap H locs → lv_has ls 5 [(0, .ref (ad 0 1000)), (1, .int (Int32.ofInt v1)), (2, .int (Int32.ofInt v2)), (3, .int (Int32.ofInt v3))] → W p l e (gR 4 0 0) s m #[.ref (ad 0 1000), .int (Int32.ofInt a1)] below meth c H locs 0 0 QQ (F0 m 35 ls [])) (fun v2 v3 σ h => h)) _ _ _ hP hD hS hl
  unfold wpX11_write at hw
  refine lv_aload_n hx hb dX11_write_0 rfl (lv_at hl 0 rfl) ?_
  refine zgR0_43 hx hb hg hown hK hP q1658 dX11_write_1 ?_
  refine lv_iload_n hx hb dX11_write_4 rfl (lv_at hl 1 rfl) ?_
  refine lv_iconst (v := Int32.ofInt 1) hx hb dX11_write_5 (by decide) ?_
  obtain ⟨o24, hw⟩ := hw
  refine zsR0_43 (v := 1) hx hb o24 (by decide) hK hP hD hS dX11_write_6 (fun H locs hP hD hS => ?_)
  refine lv_aload_n hx hb dX11_write_7 rfl (lv_at hl 0 rfl) ?_
  refine zgR0_44 hx hb hg hown hK hP q1659 dX11_write_8 ?_
  refine lv_iload_n hx hb dX11_write_11 rfl (lv_at hl 1 rfl) ?_
  refine lv_aload_n hx hb dX11_write_12 rfl (lv_at hl 0 rfl) ?_
  refine zgR0_34 hx hb hg hown hK hP q1649 dX11_write_13 ?_
  refine g_nrm (y := Int32.ofInt (zI σ 0 34)) rfl ?_
  refine zsR0_44 (v := (zI σ 0 34)) hx hb o24 hK hP hD hS dX11_write_16 (fun H locs hP hD hS => ?_)
  refine lv_aload_n hx hb dX11_write_17 rfl (lv_at hl 0 rfl) ?_
  refine zgR0_50 hx hb hg hown hK hP q1665 dX11_write_18 ?_
  refine lv_iload_n hx hb dX11_write_21 rfl (lv_at hl 1 rfl) ?_
  refine lv_iconst (v := Int32.ofInt 0) hx hb dX11_write_22 (by decide) ?_
  refine zsR0_50 (v := 0) hx hb o24 hK hP hD hS dX11_write_23 (fun H locs hP hD hS => ?_)
  refine lv_aload_n hx hb dX11_write_24 rfl (lv_at hl 0 rfl) ?_
  refine zgR0_56 hx hb hg hown hK hP q1671 dX11_write_25 ?_
  refine lv_iload_n hx hb dX11_write_28 rfl (lv_at hl 1 rfl) ?_
  refine lv_iconst (v := Int32.ofInt 0) hx hb dX11_write_29 (by decide) ?_
  refine zsR0_56 (v := 0) hx hb o24 hK hP hD hS dX11_write_30 (fun H locs hP hD hS => ?_)
  refine lv_iconst (v := Int32.ofInt 0) hx hb dX11_write_31 (by decide) ?_
  refine lv_istore_n (lv' := [(2, .int (Int32.ofInt 0)), (0, .ref (ad 0 1000)), (1, .int (Int32.ofInt a1))]) hx hb dX11_write_32 rfl hl (by decide) rfl (fun ls hl => ?_)
  refine lv_iconst (v := Int32.ofInt 0) hx hb dX11_write_33 (by decide) ?_
  refine lv_istore_n (lv' := [(3, .int (Int32.ofInt 0)), (2, .int (Int32.ofInt 0)), (0, .ref (ad 0 1000)), (1, .int (Int32.ofInt a1))]) hx hb dX11_write_34 rfl hl (by decide) rfl (fun ls hl => ?_)
  exact j35 a1 0 0 (zsA (zsA (zsA (zsA σ 0 43 a1 1) 0 44 a1 (zI σ 0 34)) 0 50 a1 0) 0 56 a1 0) _ _ _ hP hD hS (lv_sub hl [2, 3, 1, 0] rfl) hw
