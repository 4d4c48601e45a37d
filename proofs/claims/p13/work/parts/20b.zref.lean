theorem q82 : Cond.selects RX11 yX11_isName yX11_isName ∈ gw := gw_in (i := 82) (by decide +kernel) rfl
theorem q84 : Cond.selects RX11 yX11_name yX11_name ∈ gw := gw_in (i := 84) (by decide +kernel) rfl
theorem q86 : Cond.selects RX11 yX11_take yX11_take ∈ gw := gw_in (i := 86) (by decide +kernel) rfl
theorem q90 : Cond.selects RX11 yX11_data yX11_data ∈ gw := gw_in (i := 90) (by decide +kernel) rfl
theorem q91 : Cond.selects RX11 yX11_octet yX11_octet ∈ gw := gw_in (i := 91) (by decide +kernel) rfl
theorem q92 : Cond.selects RX11 yX11_value yX11_value ∈ gw := gw_in (i := 92) (by decide +kernel) rfl
theorem q93 : Cond.selects RX11 yX11_use yX11_use ∈ gw := gw_in (i := 93) (by decide +kernel) rfl
theorem q94 : Cond.selects RX11 yX11_emitValue yX11_emitValue ∈ gw := gw_in (i := 94) (by decide +kernel) rfl
theorem q95 : Cond.selects RX11 yX11_open yX11_open ∈ gw := gw_in (i := 95) (by decide +kernel) rfl
theorem q99 : Cond.selects RX11 yX11_isWord yX11_isWord ∈ gw := gw_in (i := 99) (by decide +kernel) rfl
theorem q100 : Cond.selects RX11 yX11_memoryOperand yX11_memoryOperand ∈ gw := gw_in (i := 100) (by decide +kernel) rfl
theorem q101 : Cond.selects RX11 yX11_part yX11_part ∈ gw := gw_in (i := 101) (by decide +kernel) rfl
theorem q1629 : Cond.fieldLink RX11 126 "SegmentBenchModel" "segmentOf" "[I" ∈ gw := gw_in (i := 1629) (by decide +kernel) rfl
theorem q1630 : Cond.fieldLink RX11 129 "SegmentBenchModel" "alignOf" "[I" ∈ gw := gw_in (i := 1630) (by decide +kernel) rfl
theorem q1648 : Cond.fieldLink RX11 348 "SegmentBenchModel" "segSeen" "Z" ∈ gw := gw_in (i := 1648) (by decide +kernel) rfl
theorem q1649 : Cond.fieldLink RX11 331 "SegmentBenchModel" "segments" "I" ∈ gw := gw_in (i := 1649) (by decide +kernel) rfl
theorem q1650 : Cond.fieldLink RX11 169 "SegmentBenchModel" "segName" "[I" ∈ gw := gw_in (i := 1650) (by decide +kernel) rfl
theorem q1652 : Cond.fieldLink RX11 363 "SegmentBenchModel" "operand" "I" ∈ gw := gw_in (i := 1652) (by decide +kernel) rfl
theorem q1653 : Cond.fieldLink RX11 366 "SegmentBenchModel" "opCode" "I" ∈ gw := gw_in (i := 1653) (by decide +kernel) rfl
theorem q1654 : Cond.fieldLink RX11 369 "SegmentBenchModel" "opName" "I" ∈ gw := gw_in (i := 1654) (by decide +kernel) rfl
theorem q1655 : Cond.fieldLink RX11 372 "SegmentBenchModel" "opPlace" "I" ∈ gw := gw_in (i := 1655) (by decide +kernel) rfl
theorem q1656 : Cond.fieldLink RX11 375 "SegmentBenchModel" "opBase" "I" ∈ gw := gw_in (i := 1656) (by decide +kernel) rfl
theorem q1657 : Cond.fieldLink RX11 378 "SegmentBenchModel" "opIndex" "I" ∈ gw := gw_in (i := 1657) (by decide +kernel) rfl
theorem q1912 : Cond.methodLink RX11 337 yX11_isName ∈ gw := gw_in (i := 1912) (by decide +kernel) rfl
theorem q1914 : Cond.instanceMethod yX11_isName ∈ gw := gw_in (i := 1914) (by decide +kernel) rfl
theorem q1915 : Cond.code yX11_isName cX11_isName 1 (some .boolean) ∈ gw := gw_in (i := 1915) (by decide +kernel) rfl
theorem q1920 : Cond.methodLink RX11 340 yX11_name ∈ gw := gw_in (i := 1920) (by decide +kernel) rfl
theorem q1922 : Cond.instanceMethod yX11_name ∈ gw := gw_in (i := 1922) (by decide +kernel) rfl
theorem q1923 : Cond.code yX11_name cX11_name 2 (some .int) ∈ gw := gw_in (i := 1923) (by decide +kernel) rfl
theorem q1928 : Cond.methodLink RX11 384 yX11_take ∈ gw := gw_in (i := 1928) (by decide +kernel) rfl
theorem q1930 : Cond.instanceMethod yX11_take ∈ gw := gw_in (i := 1930) (by decide +kernel) rfl
theorem q1931 : Cond.code yX11_take cX11_take 2 (some .boolean) ∈ gw := gw_in (i := 1931) (by decide +kernel) rfl
theorem q1944 : Cond.methodLink RX11 334 yX11_data ∈ gw := gw_in (i := 1944) (by decide +kernel) rfl
theorem q1946 : Cond.instanceMethod yX11_data ∈ gw := gw_in (i := 1946) (by decide +kernel) rfl
theorem q1947 : Cond.code yX11_data cX11_data 3 (some .boolean) ∈ gw := gw_in (i := 1947) (by decide +kernel) rfl
theorem q1948 : Cond.methodLink RX11 354 yX11_octet ∈ gw := gw_in (i := 1948) (by decide +kernel) rfl
theorem q1950 : Cond.instanceMethod yX11_octet ∈ gw := gw_in (i := 1950) (by decide +kernel) rfl
theorem q1951 : Cond.code yX11_octet cX11_octet 2 none ∈ gw := gw_in (i := 1951) (by decide +kernel) rfl
theorem q1952 : Cond.methodLink RX11 357 yX11_value ∈ gw := gw_in (i := 1952) (by decide +kernel) rfl
theorem q1954 : Cond.instanceMethod yX11_value ∈ gw := gw_in (i := 1954) (by decide +kernel) rfl
theorem q1955 : Cond.code yX11_value cX11_value 1 (some .boolean) ∈ gw := gw_in (i := 1955) (by decide +kernel) rfl
theorem q1956 : Cond.methodLink RX11 344 yX11_use ∈ gw := gw_in (i := 1956) (by decide +kernel) rfl
theorem q1958 : Cond.instanceMethod yX11_use ∈ gw := gw_in (i := 1958) (by decide +kernel) rfl
theorem q1959 : Cond.code yX11_use cX11_use 4 none ∈ gw := gw_in (i := 1959) (by decide +kernel) rfl
theorem q1960 : Cond.methodLink RX11 360 yX11_emitValue ∈ gw := gw_in (i := 1960) (by decide +kernel) rfl
theorem q1962 : Cond.instanceMethod yX11_emitValue ∈ gw := gw_in (i := 1962) (by decide +kernel) rfl
theorem q1963 : Cond.code yX11_emitValue cX11_emitValue 1 none ∈ gw := gw_in (i := 1963) (by decide +kernel) rfl
theorem q1964 : Cond.methodLink RX11 351 yX11_open ∈ gw := gw_in (i := 1964) (by decide +kernel) rfl
theorem q1966 : Cond.instanceMethod yX11_open ∈ gw := gw_in (i := 1966) (by decide +kernel) rfl
theorem q1967 : Cond.code yX11_open cX11_open 4 none ∈ gw := gw_in (i := 1967) (by decide +kernel) rfl
theorem q1980 : Cond.methodLink RX11 387 yX11_isWord ∈ gw := gw_in (i := 1980) (by decide +kernel) rfl
theorem q1982 : Cond.instanceMethod yX11_isWord ∈ gw := gw_in (i := 1982) (by decide +kernel) rfl
theorem q1983 : Cond.code yX11_isWord cX11_isWord 3 (some .boolean) ∈ gw := gw_in (i := 1983) (by decide +kernel) rfl
theorem q1984 : Cond.methodLink RX11 391 yX11_memoryOperand ∈ gw := gw_in (i := 1984) (by decide +kernel) rfl
theorem q1986 : Cond.instanceMethod yX11_memoryOperand ∈ gw := gw_in (i := 1986) (by decide +kernel) rfl
theorem q1987 : Cond.code yX11_memoryOperand cX11_memoryOperand 3 (some .boolean) ∈ gw := gw_in (i := 1987) (by decide +kernel) rfl
theorem q1988 : Cond.methodLink RX11 381 yX11_part ∈ gw := gw_in (i := 1988) (by decide +kernel) rfl
theorem q1990 : Cond.instanceMethod yX11_part ∈ gw := gw_in (i := 1990) (by decide +kernel) rfl
theorem q1991 : Cond.code yX11_part cX11_part 1 (some .boolean) ∈ gw := gw_in (i := 1991) (by decide +kernel) rfl
theorem dX11_label_0 : decode cX11_label 0 = .ok (.aload_n 0, 1) := by decide +kernel
theorem dX11_label_1 : decode cX11_label 1 = .ok (.getfield 123, 3) := by decide +kernel
theorem dX11_label_4 : decode cX11_label 4 = .ok (.iload_n 1, 1) := by decide +kernel
theorem dX11_label_5 : decode cX11_label 5 = .ok (.iaload, 1) := by decide +kernel
theorem dX11_label_6 : decode cX11_label 6 = .ok (.ifCond .eq 9, 3) := by decide +kernel
theorem dX11_label_15 : decode cX11_label 15 = .ok (.aload_n 0, 1) := by decide +kernel
theorem dX11_label_16 : decode cX11_label 16 = .ok (.getfield 123, 3) := by decide +kernel
theorem dX11_label_19 : decode cX11_label 19 = .ok (.iload_n 1, 1) := by decide +kernel
theorem dX11_label_20 : decode cX11_label 20 = .ok (.iconst 2, 1) := by decide +kernel
theorem dX11_label_21 : decode cX11_label 21 = .ok (.iastore, 1) := by decide +kernel
theorem dX11_label_22 : decode cX11_label 22 = .ok (.aload_n 0, 1) := by decide +kernel
theorem dX11_label_23 : decode cX11_label 23 = .ok (.getfield 126, 3) := by decide +kernel
theorem dX11_label_26 : decode cX11_label 26 = .ok (.iload_n 1, 1) := by decide +kernel
theorem dX11_label_27 : decode cX11_label 27 = .ok (.aload_n 0, 1) := by decide +kernel
theorem dX11_label_28 : decode cX11_label 28 = .ok (.getfield 321, 3) := by decide +kernel
theorem dX11_label_31 : decode cX11_label 31 = .ok (.iastore, 1) := by decide +kernel
theorem dX11_label_32 : decode cX11_label 32 = .ok (.aload_n 0, 1) := by decide +kernel
theorem dX11_label_33 : decode cX11_label 33 = .ok (.bipush 7, 2) := by decide +kernel
theorem dX11_label_35 : decode cX11_label 35 = .ok (.iload_n 1, 1) := by decide +kernel
theorem dX11_label_36 : decode cX11_label 36 = .ok (.iconst 0, 1) := by decide +kernel
theorem dX11_label_37 : decode cX11_label 37 = .ok (.iload_n 2, 1) := by decide +kernel
theorem dX11_label_38 : decode cX11_label 38 = .ok (.invokevirtual 327, 3) := by decide +kernel
theorem dX11_label_41 : decode cX11_label 41 = .ok (.return_, 1) := by decide +kernel
theorem dX11_label_9 : decode cX11_label 9 = .ok (.aload_n 0, 1) := by decide +kernel
theorem dX11_label_10 : decode cX11_label 10 = .ok (.iload_n 2, 1) := by decide +kernel
theorem dX11_label_11 : decode cX11_label 11 = .ok (.invokevirtual 314, 3) := by decide +kernel
theorem dX11_label_14 : decode cX11_label 14 = .ok (.return_, 1) := by decide +kernel
theorem dX11_open_0 : decode cX11_open 0 = .ok (.aload_n 0, 1) := by decide +kernel
theorem dX11_open_1 : decode cX11_open 1 = .ok (.getfield 123, 3) := by decide +kernel
theorem dX11_open_4 : decode cX11_open 4 = .ok (.iload_n 1, 1) := by decide +kernel
theorem dX11_open_5 : decode cX11_open 5 = .ok (.iaload, 1) := by decide +kernel
theorem dX11_open_6 : decode cX11_open 6 = .ok (.iconst 1, 1) := by decide +kernel
theorem dX11_open_7 : decode cX11_open 7 = .ok (.if_icmp .gt 23, 3) := by decide +kernel
theorem dX11_open_10 : decode cX11_open 10 = .ok (.aload_n 0, 1) := by decide +kernel
theorem dX11_open_11 : decode cX11_open 11 = .ok (.getfield 123, 3) := by decide +kernel
theorem dX11_open_14 : decode cX11_open 14 = .ok (.iload_n 1, 1) := by decide +kernel
theorem dX11_open_15 : decode cX11_open 15 = .ok (.iaload, 1) := by decide +kernel
theorem dX11_open_16 : decode cX11_open 16 = .ok (.iconst 1, 1) := by decide +kernel
theorem dX11_open_17 : decode cX11_open 17 = .ok (.if_icmp .ne 19, 3) := by decide +kernel
theorem dX11_open_20 : decode cX11_open 20 = .ok (.aload_n 0, 1) := by decide +kernel
theorem dX11_open_21 : decode cX11_open 21 = .ok (.getfield 129, 3) := by decide +kernel
theorem dX11_open_24 : decode cX11_open 24 = .ok (.iload_n 1, 1) := by decide +kernel
theorem dX11_open_25 : decode cX11_open 25 = .ok (.iaload, 1) := by decide +kernel
theorem dX11_open_26 : decode cX11_open 26 = .ok (.iload_n 2, 1) := by decide +kernel
theorem dX11_open_27 : decode cX11_open 27 = .ok (.if_icmp .eq 9, 3) := by decide +kernel
theorem dX11_open_30 : decode cX11_open 30 = .ok (.aload_n 0, 1) := by decide +kernel
theorem dX11_open_31 : decode cX11_open 31 = .ok (.iload_n 3, 1) := by decide +kernel
theorem dX11_open_32 : decode cX11_open 32 = .ok (.invokevirtual 314, 3) := by decide +kernel
theorem dX11_open_35 : decode cX11_open 35 = .ok (.return_, 1) := by decide +kernel
theorem dX11_open_36 : decode cX11_open 36 = .ok (.aload_n 0, 1) := by decide +kernel
theorem dX11_open_37 : decode cX11_open 37 = .ok (.getfield 123, 3) := by decide +kernel
theorem dX11_open_40 : decode cX11_open 40 = .ok (.iload_n 1, 1) := by decide +kernel
theorem dX11_open_41 : decode cX11_open 41 = .ok (.iaload, 1) := by decide +kernel
theorem dX11_open_42 : decode cX11_open 42 = .ok (.ifCond .ne 47, 3) := by decide +kernel
theorem dX11_open_45 : decode cX11_open 45 = .ok (.aload_n 0, 1) := by decide +kernel
theorem dX11_open_46 : decode cX11_open 46 = .ok (.getfield 123, 3) := by decide +kernel
theorem dX11_open_49 : decode cX11_open 49 = .ok (.iload_n 1, 1) := by decide +kernel
theorem dX11_open_50 : decode cX11_open 50 = .ok (.iconst 1, 1) := by decide +kernel
theorem dX11_open_51 : decode cX11_open 51 = .ok (.iastore, 1) := by decide +kernel
theorem dX11_open_52 : decode cX11_open 52 = .ok (.aload_n 0, 1) := by decide +kernel
theorem dX11_open_53 : decode cX11_open 53 = .ok (.getfield 129, 3) := by decide +kernel
theorem dX11_open_56 : decode cX11_open 56 = .ok (.iload_n 1, 1) := by decide +kernel
theorem dX11_open_57 : decode cX11_open 57 = .ok (.iload_n 2, 1) := by decide +kernel
theorem dX11_open_58 : decode cX11_open 58 = .ok (.iastore, 1) := by decide +kernel
theorem dX11_open_59 : decode cX11_open 59 = .ok (.aload_n 0, 1) := by decide +kernel
theorem dX11_open_60 : decode cX11_open 60 = .ok (.getfield 126, 3) := by decide +kernel
theorem dX11_open_63 : decode cX11_open 63 = .ok (.iload_n 1, 1) := by decide +kernel
theorem dX11_open_64 : decode cX11_open 64 = .ok (.aload_n 0, 1) := by decide +kernel
theorem dX11_open_65 : decode cX11_open 65 = .ok (.getfield 331, 3) := by decide +kernel
theorem dX11_open_68 : decode cX11_open 68 = .ok (.iastore, 1) := by decide +kernel
theorem dX11_open_69 : decode cX11_open 69 = .ok (.aload_n 0, 1) := by decide +kernel
theorem dX11_open_70 : decode cX11_open 70 = .ok (.getfield 169, 3) := by decide +kernel
theorem dX11_open_73 : decode cX11_open 73 = .ok (.aload_n 0, 1) := by decide +kernel
theorem dX11_open_74 : decode cX11_open 74 = .ok (.getfield 331, 3) := by decide +kernel
theorem dX11_open_77 : decode cX11_open 77 = .ok (.iload_n 1, 1) := by decide +kernel
theorem dX11_open_78 : decode cX11_open 78 = .ok (.iastore, 1) := by decide +kernel
theorem dX11_open_79 : decode cX11_open 79 = .ok (.aload_n 0, 1) := by decide +kernel
theorem dX11_open_80 : decode cX11_open 80 = .ok (.dup, 1) := by decide +kernel
theorem dX11_open_81 : decode cX11_open 81 = .ok (.getfield 331, 3) := by decide +kernel
theorem dX11_open_84 : decode cX11_open 84 = .ok (.iconst 1, 1) := by decide +kernel
theorem dX11_open_85 : decode cX11_open 85 = .ok (.iadd, 1) := by decide +kernel
theorem dX11_open_86 : decode cX11_open 86 = .ok (.putfield 331, 3) := by decide +kernel
theorem dX11_open_89 : decode cX11_open 89 = .ok (.aload_n 0, 1) := by decide +kernel
theorem dX11_open_90 : decode cX11_open 90 = .ok (.aload_n 0, 1) := by decide +kernel
theorem dX11_open_91 : decode cX11_open 91 = .ok (.getfield 126, 3) := by decide +kernel
theorem dX11_open_94 : decode cX11_open 94 = .ok (.iload_n 1, 1) := by decide +kernel
theorem dX11_open_95 : decode cX11_open 95 = .ok (.iaload, 1) := by decide +kernel
theorem dX11_open_96 : decode cX11_open 96 = .ok (.putfield 321, 3) := by decide +kernel
theorem dX11_open_99 : decode cX11_open 99 = .ok (.return_, 1) := by decide +kernel
theorem dX11_value_0 : decode cX11_value 0 = .ok (.aload_n 0, 1) := by decide +kernel
theorem dX11_value_1 : decode cX11_value 1 = .ok (.iconst 3, 1) := by decide +kernel
theorem dX11_value_2 : decode cX11_value 2 = .ok (.putfield 363, 3) := by decide +kernel
theorem dX11_value_5 : decode cX11_value 5 = .ok (.aload_n 0, 1) := by decide +kernel
theorem dX11_value_6 : decode cX11_value 6 = .ok (.aload_n 0, 1) := by decide +kernel
theorem dX11_value_7 : decode cX11_value 7 = .ok (.getfield 296, 3) := by decide +kernel
theorem dX11_value_10 : decode cX11_value 10 = .ok (.putfield 366, 3) := by decide +kernel
theorem dX11_value_13 : decode cX11_value 13 = .ok (.aload_n 0, 1) := by decide +kernel
theorem dX11_value_14 : decode cX11_value 14 = .ok (.getfield 279, 3) := by decide +kernel
theorem dX11_value_17 : decode cX11_value 17 = .ok (.iconst 2, 1) := by decide +kernel
theorem dX11_value_18 : decode cX11_value 18 = .ok (.if_icmp .ne 9, 3) := by decide +kernel
theorem dX11_value_27 : decode cX11_value 27 = .ok (.aload_n 0, 1) := by decide +kernel
theorem dX11_value_28 : decode cX11_value 28 = .ok (.iconst 4, 1) := by decide +kernel
theorem dX11_value_29 : decode cX11_value 29 = .ok (.putfield 363, 3) := by decide +kernel
theorem dX11_value_32 : decode cX11_value 32 = .ok (.aload_n 0, 1) := by decide +kernel
theorem dX11_value_33 : decode cX11_value 33 = .ok (.getfield 279, 3) := by decide +kernel
theorem dX11_value_36 : decode cX11_value 36 = .ok (.bipush 64, 2) := by decide +kernel
theorem dX11_value_38 : decode cX11_value 38 = .ok (.if_icmp .ne 12, 3) := by decide +kernel
theorem dX11_value_41 : decode cX11_value 41 = .ok (.aload_n 0, 1) := by decide +kernel
theorem dX11_value_42 : decode cX11_value 42 = .ok (.iconst 5, 1) := by decide +kernel
theorem dX11_value_43 : decode cX11_value 43 = .ok (.putfield 363, 3) := by decide +kernel
theorem dX11_value_46 : decode cX11_value 46 = .ok (.aload_n 0, 1) := by decide +kernel
theorem dX11_value_47 : decode cX11_value 47 = .ok (.invokevirtual 305, 3) := by decide +kernel
theorem dX11_value_21 : decode cX11_value 21 = .ok (.aload_n 0, 1) := by decide +kernel
theorem dX11_value_22 : decode cX11_value 22 = .ok (.invokevirtual 305, 3) := by decide +kernel
theorem dX11_value_25 : decode cX11_value 25 = .ok (.iconst 1, 1) := by decide +kernel
theorem dX11_value_26 : decode cX11_value 26 = .ok (.ireturn, 1) := by decide +kernel
theorem dX11_value_50 : decode cX11_value 50 = .ok (.aload_n 0, 1) := by decide +kernel
theorem dX11_value_51 : decode cX11_value 51 = .ok (.invokevirtual 337, 3) := by decide +kernel
theorem dX11_value_54 : decode cX11_value 54 = .ok (.ifCond .ne 8, 3) := by decide +kernel
theorem dX11_value_62 : decode cX11_value 62 = .ok (.aload_n 0, 1) := by decide +kernel
theorem dX11_value_63 : decode cX11_value 63 = .ok (.aload_n 0, 1) := by decide +kernel
theorem dX11_value_64 : decode cX11_value 64 = .ok (.invokevirtual 340, 3) := by decide +kernel
theorem dX11_value_67 : decode cX11_value 67 = .ok (.putfield 369, 3) := by decide +kernel
theorem dX11_value_70 : decode cX11_value 70 = .ok (.aload_n 0, 1) := by decide +kernel
theorem dX11_value_71 : decode cX11_value 71 = .ok (.aload_n 0, 1) := by decide +kernel
theorem dX11_value_72 : decode cX11_value 72 = .ok (.getfield 276, 3) := by decide +kernel
theorem dX11_value_75 : decode cX11_value 75 = .ok (.putfield 372, 3) := by decide +kernel
theorem dX11_value_78 : decode cX11_value 78 = .ok (.aload_n 0, 1) := by decide +kernel
theorem dX11_value_79 : decode cX11_value 79 = .ok (.iconst 1, 1) := by decide +kernel
theorem dX11_value_80 : decode cX11_value 80 = .ok (.aload_n 0, 1) := by decide +kernel
theorem dX11_value_81 : decode cX11_value 81 = .ok (.getfield 369, 3) := by decide +kernel
theorem dX11_value_84 : decode cX11_value 84 = .ok (.aload_n 0, 1) := by decide +kernel
theorem dX11_value_85 : decode cX11_value 85 = .ok (.getfield 372, 3) := by decide +kernel
theorem dX11_value_88 : decode cX11_value 88 = .ok (.invokevirtual 344, 3) := by decide +kernel
theorem dX11_value_91 : decode cX11_value 91 = .ok (.aload_n 0, 1) := by decide +kernel
theorem dX11_value_92 : decode cX11_value 92 = .ok (.invokevirtual 305, 3) := by decide +kernel
theorem dX11_value_95 : decode cX11_value 95 = .ok (.iconst 1, 1) := by decide +kernel
theorem dX11_value_96 : decode cX11_value 96 = .ok (.ireturn, 1) := by decide +kernel
theorem dX11_value_57 : decode cX11_value 57 = .ok (.aload_n 0, 1) := by decide +kernel
theorem dX11_value_58 : decode cX11_value 58 = .ok (.invokevirtual 301, 3) := by decide +kernel
theorem dX11_value_61 : decode cX11_value 61 = .ok (.ireturn, 1) := by decide +kernel
theorem dX11_emitValue_0 : decode cX11_emitValue 0 = .ok (.aload_n 0, 1) := by decide +kernel
theorem dX11_emitValue_1 : decode cX11_emitValue 1 = .ok (.getfield 363, 3) := by decide +kernel
theorem dX11_emitValue_4 : decode cX11_emitValue 4 = .ok (.iconst 3, 1) := by decide +kernel
theorem dX11_emitValue_5 : decode cX11_emitValue 5 = .ok (.if_icmp .ne 17, 3) := by decide +kernel
theorem dX11_emitValue_22 : decode cX11_emitValue 22 = .ok (.aload_n 0, 1) := by decide +kernel
theorem dX11_emitValue_23 : decode cX11_emitValue 23 = .ok (.aload_n 0, 1) := by decide +kernel
theorem dX11_emitValue_24 : decode cX11_emitValue 24 = .ok (.getfield 363, 3) := by decide +kernel
theorem dX11_emitValue_27 : decode cX11_emitValue 27 = .ok (.iconst 4, 1) := by decide +kernel
theorem dX11_emitValue_28 : decode cX11_emitValue 28 = .ok (.if_icmp .ne 7, 3) := by decide +kernel
theorem dX11_emitValue_35 : decode cX11_emitValue 35 = .ok (.iconst 3, 1) := by decide +kernel
theorem dX11_emitValue_31 : decode cX11_emitValue 31 = .ok (.iconst 2, 1) := by decide +kernel
theorem dX11_emitValue_32 : decode cX11_emitValue 32 = .ok (.goto 4, 3) := by decide +kernel
theorem dX11_emitValue_8 : decode cX11_emitValue 8 = .ok (.aload_n 0, 1) := by decide +kernel
theorem dX11_emitValue_9 : decode cX11_emitValue 9 = .ok (.iconst 1, 1) := by decide +kernel
theorem dX11_emitValue_10 : decode cX11_emitValue 10 = .ok (.aload_n 0, 1) := by decide +kernel
theorem dX11_emitValue_11 : decode cX11_emitValue 11 = .ok (.getfield 366, 3) := by decide +kernel
theorem dX11_emitValue_14 : decode cX11_emitValue 14 = .ok (.iconst 0, 1) := by decide +kernel
theorem dX11_emitValue_15 : decode cX11_emitValue 15 = .ok (.iconst 0, 1) := by decide +kernel
theorem dX11_emitValue_16 : decode cX11_emitValue 16 = .ok (.invokevirtual 327, 3) := by decide +kernel
theorem dX11_emitValue_19 : decode cX11_emitValue 19 = .ok (.goto 26, 3) := by decide +kernel
theorem dX11_emitValue_36 : decode cX11_emitValue 36 = .ok (.aload_n 0, 1) := by decide +kernel
theorem dX11_emitValue_37 : decode cX11_emitValue 37 = .ok (.getfield 369, 3) := by decide +kernel
theorem dX11_emitValue_40 : decode cX11_emitValue 40 = .ok (.iconst 0, 1) := by decide +kernel
theorem dX11_emitValue_41 : decode cX11_emitValue 41 = .ok (.iconst 0, 1) := by decide +kernel
theorem dX11_emitValue_42 : decode cX11_emitValue 42 = .ok (.invokevirtual 327, 3) := by decide +kernel
theorem dX11_emitValue_45 : decode cX11_emitValue 45 = .ok (.return_, 1) := by decide +kernel
theorem dX11_data_0 : decode cX11_data 0 = .ok (.iload_n 1, 1) := by decide +kernel
theorem dX11_data_1 : decode cX11_data 1 = .ok (.bipush 17, 2) := by decide +kernel
theorem dX11_data_3 : decode cX11_data 3 = .ok (.if_icmp .ne 43, 3) := by decide +kernel
theorem dX11_data_46 : decode cX11_data 46 = .ok (.iconst 1, 1) := by decide +kernel
theorem dX11_data_47 : decode cX11_data 47 = .ok (.istore_n 2, 1) := by decide +kernel
theorem dX11_data_6 : decode cX11_data 6 = .ok (.aload_n 0, 1) := by decide +kernel
theorem dX11_data_7 : decode cX11_data 7 = .ok (.getfield 279, 3) := by decide +kernel
theorem dX11_data_10 : decode cX11_data 10 = .ok (.iconst 2, 1) := by decide +kernel
theorem dX11_data_11 : decode cX11_data 11 = .ok (.if_icmp .ne 12, 3) := by decide +kernel
theorem dX11_data_14 : decode cX11_data 14 = .ok (.aload_n 0, 1) := by decide +kernel
theorem dX11_data_15 : decode cX11_data 15 = .ok (.getfield 296, 3) := by decide +kernel
theorem dX11_data_18 : decode cX11_data 18 = .ok (.bipush 64, 2) := by decide +kernel
theorem dX11_data_20 : decode cX11_data 20 = .ok (.if_icmp .le 8, 3) := by decide +kernel
theorem dX11_data_28 : decode cX11_data 28 = .ok (.aload_n 0, 1) := by decide +kernel
theorem dX11_data_29 : decode cX11_data 29 = .ok (.bipush 8, 2) := by decide +kernel
theorem dX11_data_31 : decode cX11_data 31 = .ok (.aload_n 0, 1) := by decide +kernel
theorem dX11_data_32 : decode cX11_data 32 = .ok (.getfield 296, 3) := by decide +kernel
theorem dX11_data_35 : decode cX11_data 35 = .ok (.iconst 0, 1) := by decide +kernel
theorem dX11_data_36 : decode cX11_data 36 = .ok (.iconst 0, 1) := by decide +kernel
theorem dX11_data_37 : decode cX11_data 37 = .ok (.invokevirtual 327, 3) := by decide +kernel
theorem dX11_data_40 : decode cX11_data 40 = .ok (.aload_n 0, 1) := by decide +kernel
theorem dX11_data_41 : decode cX11_data 41 = .ok (.invokevirtual 305, 3) := by decide +kernel
theorem dX11_data_44 : decode cX11_data 44 = .ok (.iconst 1, 1) := by decide +kernel
theorem dX11_data_45 : decode cX11_data 45 = .ok (.ireturn, 1) := by decide +kernel
theorem dX11_data_48 : decode cX11_data 48 = .ok (.iload_n 2, 1) := by decide +kernel
theorem dX11_data_49 : decode cX11_data 49 = .ok (.ifCond .eq 86, 3) := by decide +kernel
theorem dX11_data_135 : decode cX11_data 135 = .ok (.iconst 1, 1) := by decide +kernel
theorem dX11_data_136 : decode cX11_data 136 = .ok (.ireturn, 1) := by decide +kernel
theorem dX11_data_52 : decode cX11_data 52 = .ok (.iload_n 1, 1) := by decide +kernel
theorem dX11_data_53 : decode cX11_data 53 = .ok (.bipush 16, 2) := by decide +kernel
theorem dX11_data_55 : decode cX11_data 55 = .ok (.if_icmp .ne 41, 3) := by decide +kernel
theorem dX11_data_96 : decode cX11_data 96 = .ok (.aload_n 0, 1) := by decide +kernel
theorem dX11_data_97 : decode cX11_data 97 = .ok (.invokevirtual 357, 3) := by decide +kernel
theorem dX11_data_100 : decode cX11_data 100 = .ok (.ifCond .ne 5, 3) := by decide +kernel
theorem dX11_data_105 : decode cX11_data 105 = .ok (.aload_n 0, 1) := by decide +kernel
theorem dX11_data_106 : decode cX11_data 106 = .ok (.invokevirtual 360, 3) := by decide +kernel
theorem dX11_data_103 : decode cX11_data 103 = .ok (.iconst 0, 1) := by decide +kernel
theorem dX11_data_104 : decode cX11_data 104 = .ok (.ireturn, 1) := by decide +kernel
theorem dX11_data_58 : decode cX11_data 58 = .ok (.aload_n 0, 1) := by decide +kernel
theorem dX11_data_59 : decode cX11_data 59 = .ok (.getfield 279, 3) := by decide +kernel
theorem dX11_data_62 : decode cX11_data 62 = .ok (.iconst 2, 1) := by decide +kernel
theorem dX11_data_63 : decode cX11_data 63 = .ok (.if_icmp .ne 13, 3) := by decide +kernel
theorem dX11_data_66 : decode cX11_data 66 = .ok (.aload_n 0, 1) := by decide +kernel
theorem dX11_data_67 : decode cX11_data 67 = .ok (.getfield 296, 3) := by decide +kernel
theorem dX11_data_70 : decode cX11_data 70 = .ok (.sipush 255, 3) := by decide +kernel
theorem dX11_data_73 : decode cX11_data 73 = .ok (.if_icmp .le 8, 3) := by decide +kernel
theorem dX11_data_81 : decode cX11_data 81 = .ok (.aload_n 0, 1) := by decide +kernel
theorem dX11_data_82 : decode cX11_data 82 = .ok (.aload_n 0, 1) := by decide +kernel
theorem dX11_data_83 : decode cX11_data 83 = .ok (.getfield 296, 3) := by decide +kernel
theorem dX11_data_86 : decode cX11_data 86 = .ok (.invokevirtual 354, 3) := by decide +kernel
theorem dX11_data_89 : decode cX11_data 89 = .ok (.aload_n 0, 1) := by decide +kernel
theorem dX11_data_90 : decode cX11_data 90 = .ok (.invokevirtual 305, 3) := by decide +kernel
theorem dX11_data_93 : decode cX11_data 93 = .ok (.goto 16, 3) := by decide +kernel
theorem dX11_data_23 : decode cX11_data 23 = .ok (.aload_n 0, 1) := by decide +kernel
theorem dX11_data_24 : decode cX11_data 24 = .ok (.invokevirtual 301, 3) := by decide +kernel
theorem dX11_data_27 : decode cX11_data 27 = .ok (.ireturn, 1) := by decide +kernel
theorem dX11_data_109 : decode cX11_data 109 = .ok (.aload_n 0, 1) := by decide +kernel
theorem dX11_data_110 : decode cX11_data 110 = .ok (.getfield 279, 3) := by decide +kernel
theorem dX11_data_113 : decode cX11_data 113 = .ok (.bipush 44, 2) := by decide +kernel
theorem dX11_data_115 : decode cX11_data 115 = .ok (.if_icmp .ne 7, 3) := by decide +kernel
theorem dX11_data_122 : decode cX11_data 122 = .ok (.iconst 0, 1) := by decide +kernel
theorem dX11_data_118 : decode cX11_data 118 = .ok (.iconst 1, 1) := by decide +kernel
theorem dX11_data_119 : decode cX11_data 119 = .ok (.goto 4, 3) := by decide +kernel
theorem dX11_data_76 : decode cX11_data 76 = .ok (.aload_n 0, 1) := by decide +kernel
theorem dX11_data_77 : decode cX11_data 77 = .ok (.invokevirtual 301, 3) := by decide +kernel
theorem dX11_data_80 : decode cX11_data 80 = .ok (.ireturn, 1) := by decide +kernel
theorem dX11_data_123 : decode cX11_data 123 = .ok (.istore_n 2, 1) := by decide +kernel
theorem dX11_data_124 : decode cX11_data 124 = .ok (.iload_n 2, 1) := by decide +kernel
theorem dX11_data_125 : decode cX11_data 125 = .ok (.ifCond .eq (-77), 3) := by decide +kernel
theorem dX11_data_128 : decode cX11_data 128 = .ok (.aload_n 0, 1) := by decide +kernel
theorem dX11_data_129 : decode cX11_data 129 = .ok (.invokevirtual 305, 3) := by decide +kernel
theorem dX11_data_132 : decode cX11_data 132 = .ok (.goto (-84), 3) := by decide +kernel
theorem dX11_directive_0 : decode cX11_directive 0 = .ok (.aload_n 0, 1) := by decide +kernel
theorem dX11_directive_1 : decode cX11_directive 1 = .ok (.getfield 293, 3) := by decide +kernel
theorem dX11_directive_4 : decode cX11_directive 4 = .ok (.istore_n 1, 1) := by decide +kernel
theorem dX11_directive_5 : decode cX11_directive 5 = .ok (.aload_n 0, 1) := by decide +kernel
theorem dX11_directive_6 : decode cX11_directive 6 = .ok (.invokevirtual 305, 3) := by decide +kernel
theorem dX11_directive_9 : decode cX11_directive 9 = .ok (.iload_n 1, 1) := by decide +kernel
theorem dX11_directive_10 : decode cX11_directive 10 = .ok (.bipush 15, 2) := by decide +kernel
theorem dX11_directive_12 : decode cX11_directive 12 = .ok (.if_icmp .lt 9, 3) := by decide +kernel
theorem dX11_directive_21 : decode cX11_directive 21 = .ok (.aload_n 0, 1) := by decide +kernel
theorem dX11_directive_22 : decode cX11_directive 22 = .ok (.invokevirtual 337, 3) := by decide +kernel
theorem dX11_directive_25 : decode cX11_directive 25 = .ok (.ifCond .ne 8, 3) := by decide +kernel
theorem dX11_directive_33 : decode cX11_directive 33 = .ok (.aload_n 0, 1) := by decide +kernel
theorem dX11_directive_34 : decode cX11_directive 34 = .ok (.invokevirtual 340, 3) := by decide +kernel
theorem dX11_directive_37 : decode cX11_directive 37 = .ok (.istore_n 2, 1) := by decide +kernel
theorem dX11_directive_38 : decode cX11_directive 38 = .ok (.aload_n 0, 1) := by decide +kernel
theorem dX11_directive_39 : decode cX11_directive 39 = .ok (.getfield 276, 3) := by decide +kernel
theorem dX11_directive_42 : decode cX11_directive 42 = .ok (.istore_n 3, 1) := by decide +kernel
theorem dX11_directive_43 : decode cX11_directive 43 = .ok (.aload_n 0, 1) := by decide +kernel
theorem dX11_directive_44 : decode cX11_directive 44 = .ok (.invokevirtual 305, 3) := by decide +kernel
theorem dX11_directive_47 : decode cX11_directive 47 = .ok (.iload_n 1, 1) := by decide +kernel
theorem dX11_directive_48 : decode cX11_directive 48 = .ok (.bipush 13, 2) := by decide +kernel
theorem dX11_directive_50 : decode cX11_directive 50 = .ok (.if_icmp .ne 10, 3) := by decide +kernel
theorem dX11_directive_53 : decode cX11_directive 53 = .ok (.aload_n 0, 1) := by decide +kernel
theorem dX11_directive_54 : decode cX11_directive 54 = .ok (.iconst 0, 1) := by decide +kernel
theorem dX11_directive_55 : decode cX11_directive 55 = .ok (.iload_n 2, 1) := by decide +kernel
theorem dX11_directive_56 : decode cX11_directive 56 = .ok (.iload_n 3, 1) := by decide +kernel
theorem dX11_directive_57 : decode cX11_directive 57 = .ok (.invokevirtual 344, 3) := by decide +kernel
theorem dX11_directive_28 : decode cX11_directive 28 = .ok (.aload_n 0, 1) := by decide +kernel
theorem dX11_directive_29 : decode cX11_directive 29 = .ok (.invokevirtual 301, 3) := by decide +kernel
theorem dX11_directive_32 : decode cX11_directive 32 = .ok (.ireturn, 1) := by decide +kernel
theorem dX11_directive_15 : decode cX11_directive 15 = .ok (.aload_n 0, 1) := by decide +kernel
theorem dX11_directive_16 : decode cX11_directive 16 = .ok (.iload_n 1, 1) := by decide +kernel
theorem dX11_directive_17 : decode cX11_directive 17 = .ok (.invokevirtual 334, 3) := by decide +kernel
theorem dX11_directive_20 : decode cX11_directive 20 = .ok (.ireturn, 1) := by decide +kernel
theorem dX11_directive_60 : decode cX11_directive 60 = .ok (.iload_n 1, 1) := by decide +kernel
theorem dX11_directive_61 : decode cX11_directive 61 = .ok (.bipush 14, 2) := by decide +kernel
theorem dX11_directive_63 : decode cX11_directive 63 = .ok (.if_icmp .ne 27, 3) := by decide +kernel
theorem dX11_directive_66 : decode cX11_directive 66 = .ok (.aload_n 0, 1) := by decide +kernel
theorem dX11_directive_67 : decode cX11_directive 67 = .ok (.getfield 123, 3) := by decide +kernel
theorem dX11_directive_70 : decode cX11_directive 70 = .ok (.iload_n 2, 1) := by decide +kernel
theorem dX11_directive_71 : decode cX11_directive 71 = .ok (.iaload, 1) := by decide +kernel
theorem dX11_directive_72 : decode cX11_directive 72 = .ok (.ifCond .eq 11, 3) := by decide +kernel
theorem dX11_directive_83 : decode cX11_directive 83 = .ok (.aload_n 0, 1) := by decide +kernel
theorem dX11_directive_84 : decode cX11_directive 84 = .ok (.getfield 123, 3) := by decide +kernel
theorem dX11_directive_87 : decode cX11_directive 87 = .ok (.iload_n 2, 1) := by decide +kernel
theorem dX11_directive_88 : decode cX11_directive 88 = .ok (.iconst 3, 1) := by decide +kernel
theorem dX11_directive_89 : decode cX11_directive 89 = .ok (.iastore, 1) := by decide +kernel
theorem dX11_directive_75 : decode cX11_directive 75 = .ok (.aload_n 0, 1) := by decide +kernel
theorem dX11_directive_76 : decode cX11_directive 76 = .ok (.iload_n 3, 1) := by decide +kernel
theorem dX11_directive_77 : decode cX11_directive 77 = .ok (.invokevirtual 314, 3) := by decide +kernel
theorem dX11_directive_80 : decode cX11_directive 80 = .ok (.goto 10, 3) := by decide +kernel
theorem dX11_directive_90 : decode cX11_directive 90 = .ok (.iload_n 1, 1) := by decide +kernel
theorem dX11_directive_91 : decode cX11_directive 91 = .ok (.bipush 12, 2) := by decide +kernel
theorem dX11_directive_93 : decode cX11_directive 93 = .ok (.if_icmp .eq 5, 3) := by decide +kernel
theorem dX11_directive_98 : decode cX11_directive 98 = .ok (.aload_n 0, 1) := by decide +kernel
theorem dX11_directive_99 : decode cX11_directive 99 = .ok (.getfield 279, 3) := by decide +kernel
theorem dX11_directive_102 : decode cX11_directive 102 = .ok (.iconst 2, 1) := by decide +kernel
theorem dX11_directive_103 : decode cX11_directive 103 = .ok (.if_icmp .ne 45, 3) := by decide +kernel
theorem dX11_directive_106 : decode cX11_directive 106 = .ok (.aload_n 0, 1) := by decide +kernel
theorem dX11_directive_107 : decode cX11_directive 107 = .ok (.getfield 296, 3) := by decide +kernel
theorem dX11_directive_110 : decode cX11_directive 110 = .ok (.iconst 1, 1) := by decide +kernel
theorem dX11_directive_111 : decode cX11_directive 111 = .ok (.if_icmp .eq 42, 3) := by decide +kernel
theorem dX11_directive_114 : decode cX11_directive 114 = .ok (.aload_n 0, 1) := by decide +kernel
theorem dX11_directive_115 : decode cX11_directive 115 = .ok (.getfield 296, 3) := by decide +kernel
theorem dX11_directive_118 : decode cX11_directive 118 = .ok (.iconst 2, 1) := by decide +kernel
theorem dX11_directive_119 : decode cX11_directive 119 = .ok (.if_icmp .eq 34, 3) := by decide +kernel
theorem dX11_directive_122 : decode cX11_directive 122 = .ok (.aload_n 0, 1) := by decide +kernel
theorem dX11_directive_123 : decode cX11_directive 123 = .ok (.getfield 296, 3) := by decide +kernel
theorem dX11_directive_126 : decode cX11_directive 126 = .ok (.iconst 4, 1) := by decide +kernel
theorem dX11_directive_127 : decode cX11_directive 127 = .ok (.if_icmp .eq 26, 3) := by decide +kernel
theorem dX11_directive_130 : decode cX11_directive 130 = .ok (.aload_n 0, 1) := by decide +kernel
theorem dX11_directive_131 : decode cX11_directive 131 = .ok (.getfield 296, 3) := by decide +kernel
theorem dX11_directive_134 : decode cX11_directive 134 = .ok (.bipush 8, 2) := by decide +kernel
theorem dX11_directive_136 : decode cX11_directive 136 = .ok (.if_icmp .eq 17, 3) := by decide +kernel
theorem dX11_directive_139 : decode cX11_directive 139 = .ok (.aload_n 0, 1) := by decide +kernel
theorem dX11_directive_140 : decode cX11_directive 140 = .ok (.getfield 296, 3) := by decide +kernel
theorem dX11_directive_143 : decode cX11_directive 143 = .ok (.bipush 16, 2) := by decide +kernel
theorem dX11_directive_145 : decode cX11_directive 145 = .ok (.if_icmp .eq 8, 3) := by decide +kernel
theorem dX11_directive_96 : decode cX11_directive 96 = .ok (.iconst 1, 1) := by decide +kernel
theorem dX11_directive_97 : decode cX11_directive 97 = .ok (.ireturn, 1) := by decide +kernel
theorem dX11_directive_148 : decode cX11_directive 148 = .ok (.aload_n 0, 1) := by decide +kernel
theorem dX11_directive_149 : decode cX11_directive 149 = .ok (.invokevirtual 301, 3) := by decide +kernel
theorem dX11_directive_152 : decode cX11_directive 152 = .ok (.ireturn, 1) := by decide +kernel
theorem dX11_directive_153 : decode cX11_directive 153 = .ok (.aload_n 0, 1) := by decide +kernel
theorem dX11_directive_154 : decode cX11_directive 154 = .ok (.iconst 1, 1) := by decide +kernel
theorem dX11_directive_155 : decode cX11_directive 155 = .ok (.putfield 348, 3) := by decide +kernel
theorem dX11_directive_158 : decode cX11_directive 158 = .ok (.aload_n 0, 1) := by decide +kernel
theorem dX11_directive_159 : decode cX11_directive 159 = .ok (.iload_n 2, 1) := by decide +kernel
theorem dX11_directive_160 : decode cX11_directive 160 = .ok (.aload_n 0, 1) := by decide +kernel
theorem dX11_directive_161 : decode cX11_directive 161 = .ok (.getfield 296, 3) := by decide +kernel
theorem dX11_directive_164 : decode cX11_directive 164 = .ok (.iload_n 3, 1) := by decide +kernel
theorem dX11_directive_165 : decode cX11_directive 165 = .ok (.invokevirtual 351, 3) := by decide +kernel
theorem dX11_directive_168 : decode cX11_directive 168 = .ok (.aload_n 0, 1) := by decide +kernel
theorem dX11_directive_169 : decode cX11_directive 169 = .ok (.invokevirtual 305, 3) := by decide +kernel
theorem dX11_directive_172 : decode cX11_directive 172 = .ok (.iconst 1, 1) := by decide +kernel
theorem dX11_directive_173 : decode cX11_directive 173 = .ok (.ireturn, 1) := by decide +kernel
theorem dX11_part_0 : decode cX11_part 0 = .ok (.aload_n 0, 1) := by decide +kernel
theorem dX11_part_1 : decode cX11_part 1 = .ok (.getfield 279, 3) := by decide +kernel
theorem dX11_part_4 : decode cX11_part 4 = .ok (.iconst 2, 1) := by decide +kernel
theorem dX11_part_5 : decode cX11_part 5 = .ok (.if_icmp .ne 5, 3) := by decide +kernel
theorem dX11_part_10 : decode cX11_part 10 = .ok (.aload_n 0, 1) := by decide +kernel
theorem dX11_part_11 : decode cX11_part 11 = .ok (.iconst 3, 1) := by decide +kernel
theorem dX11_part_12 : decode cX11_part 12 = .ok (.iconst 3, 1) := by decide +kernel
theorem dX11_part_13 : decode cX11_part 13 = .ok (.invokevirtual 387, 3) := by decide +kernel
theorem dX11_part_16 : decode cX11_part 16 = .ok (.ifCond .ne 12, 3) := by decide +kernel
theorem dX11_part_19 : decode cX11_part 19 = .ok (.aload_n 0, 1) := by decide +kernel
theorem dX11_part_20 : decode cX11_part 20 = .ok (.iconst 5, 1) := by decide +kernel
theorem dX11_part_21 : decode cX11_part 21 = .ok (.iconst 5, 1) := by decide +kernel
theorem dX11_part_22 : decode cX11_part 22 = .ok (.invokevirtual 387, 3) := by decide +kernel
theorem dX11_part_25 : decode cX11_part 25 = .ok (.ifCond .eq 22, 3) := by decide +kernel
theorem dX11_part_47 : decode cX11_part 47 = .ok (.aload_n 0, 1) := by decide +kernel
theorem dX11_part_48 : decode cX11_part 48 = .ok (.bipush 6, 2) := by decide +kernel
theorem dX11_part_50 : decode cX11_part 50 = .ok (.bipush 7, 2) := by decide +kernel
theorem dX11_part_52 : decode cX11_part 52 = .ok (.invokevirtual 387, 3) := by decide +kernel
theorem dX11_part_55 : decode cX11_part 55 = .ok (.ifCond .eq 22, 3) := by decide +kernel
theorem dX11_part_77 : decode cX11_part 77 = .ok (.aload_n 0, 1) := by decide +kernel
theorem dX11_part_78 : decode cX11_part 78 = .ok (.invokevirtual 337, 3) := by decide +kernel
theorem dX11_part_81 : decode cX11_part 81 = .ok (.ifCond .eq 10, 3) := by decide +kernel
theorem dX11_part_84 : decode cX11_part 84 = .ok (.aload_n 0, 1) := by decide +kernel
theorem dX11_part_85 : decode cX11_part 85 = .ok (.getfield 369, 3) := by decide +kernel
theorem dX11_part_88 : decode cX11_part 88 = .ok (.ifCond .lt 5, 3) := by decide +kernel
theorem dX11_part_93 : decode cX11_part 93 = .ok (.aload_n 0, 1) := by decide +kernel
theorem dX11_part_94 : decode cX11_part 94 = .ok (.aload_n 0, 1) := by decide +kernel
theorem dX11_part_95 : decode cX11_part 95 = .ok (.invokevirtual 340, 3) := by decide +kernel
theorem dX11_part_98 : decode cX11_part 98 = .ok (.putfield 369, 3) := by decide +kernel
theorem dX11_part_101 : decode cX11_part 101 = .ok (.aload_n 0, 1) := by decide +kernel
theorem dX11_part_102 : decode cX11_part 102 = .ok (.iconst 1, 1) := by decide +kernel
theorem dX11_part_103 : decode cX11_part 103 = .ok (.aload_n 0, 1) := by decide +kernel
theorem dX11_part_104 : decode cX11_part 104 = .ok (.getfield 369, 3) := by decide +kernel
theorem dX11_part_107 : decode cX11_part 107 = .ok (.aload_n 0, 1) := by decide +kernel
theorem dX11_part_108 : decode cX11_part 108 = .ok (.getfield 276, 3) := by decide +kernel
theorem dX11_part_111 : decode cX11_part 111 = .ok (.invokevirtual 344, 3) := by decide +kernel
theorem dX11_part_114 : decode cX11_part 114 = .ok (.iconst 1, 1) := by decide +kernel
theorem dX11_part_115 : decode cX11_part 115 = .ok (.ireturn, 1) := by decide +kernel
theorem dX11_part_58 : decode cX11_part 58 = .ok (.aload_n 0, 1) := by decide +kernel
theorem dX11_part_59 : decode cX11_part 59 = .ok (.getfield 378, 3) := by decide +kernel
theorem dX11_part_62 : decode cX11_part 62 = .ok (.ifCond .lt 5, 3) := by decide +kernel
theorem dX11_part_67 : decode cX11_part 67 = .ok (.aload_n 0, 1) := by decide +kernel
theorem dX11_part_68 : decode cX11_part 68 = .ok (.aload_n 0, 1) := by decide +kernel
theorem dX11_part_69 : decode cX11_part 69 = .ok (.getfield 293, 3) := by decide +kernel
theorem dX11_part_72 : decode cX11_part 72 = .ok (.putfield 378, 3) := by decide +kernel
theorem dX11_part_75 : decode cX11_part 75 = .ok (.iconst 1, 1) := by decide +kernel
theorem dX11_part_76 : decode cX11_part 76 = .ok (.ireturn, 1) := by decide +kernel
theorem dX11_part_65 : decode cX11_part 65 = .ok (.iconst 0, 1) := by decide +kernel
theorem dX11_part_66 : decode cX11_part 66 = .ok (.ireturn, 1) := by decide +kernel
theorem dX11_part_8 : decode cX11_part 8 = .ok (.iconst 1, 1) := by decide +kernel
theorem dX11_part_9 : decode cX11_part 9 = .ok (.ireturn, 1) := by decide +kernel
theorem dX11_part_28 : decode cX11_part 28 = .ok (.aload_n 0, 1) := by decide +kernel
theorem dX11_part_29 : decode cX11_part 29 = .ok (.getfield 375, 3) := by decide +kernel
theorem dX11_part_32 : decode cX11_part 32 = .ok (.ifCond .lt 5, 3) := by decide +kernel
theorem dX11_part_37 : decode cX11_part 37 = .ok (.aload_n 0, 1) := by decide +kernel
theorem dX11_part_38 : decode cX11_part 38 = .ok (.aload_n 0, 1) := by decide +kernel
theorem dX11_part_39 : decode cX11_part 39 = .ok (.getfield 293, 3) := by decide +kernel
theorem dX11_part_42 : decode cX11_part 42 = .ok (.putfield 375, 3) := by decide +kernel
theorem dX11_part_45 : decode cX11_part 45 = .ok (.iconst 1, 1) := by decide +kernel
theorem dX11_part_46 : decode cX11_part 46 = .ok (.ireturn, 1) := by decide +kernel
theorem dX11_part_35 : decode cX11_part 35 = .ok (.iconst 0, 1) := by decide +kernel
theorem dX11_part_36 : decode cX11_part 36 = .ok (.ireturn, 1) := by decide +kernel
theorem dX11_part_91 : decode cX11_part 91 = .ok (.iconst 0, 1) := by decide +kernel
theorem dX11_part_92 : decode cX11_part 92 = .ok (.ireturn, 1) := by decide +kernel
theorem dX11_memoryOperand_0 : decode cX11_memoryOperand 0 = .ok (.aload_n 0, 1) := by decide +kernel
theorem dX11_memoryOperand_1 : decode cX11_memoryOperand 1 = .ok (.iconst 2, 1) := by decide +kernel
theorem dX11_memoryOperand_2 : decode cX11_memoryOperand 2 = .ok (.putfield 363, 3) := by decide +kernel
theorem dX11_memoryOperand_5 : decode cX11_memoryOperand 5 = .ok (.aload_n 0, 1) := by decide +kernel
theorem dX11_memoryOperand_6 : decode cX11_memoryOperand 6 = .ok (.iconst 0, 1) := by decide +kernel
theorem dX11_memoryOperand_7 : decode cX11_memoryOperand 7 = .ok (.putfield 366, 3) := by decide +kernel
theorem dX11_memoryOperand_10 : decode cX11_memoryOperand 10 = .ok (.aload_n 0, 1) := by decide +kernel
theorem dX11_memoryOperand_11 : decode cX11_memoryOperand 11 = .ok (.iconst (-1), 1) := by decide +kernel
theorem dX11_memoryOperand_12 : decode cX11_memoryOperand 12 = .ok (.putfield 369, 3) := by decide +kernel
theorem dX11_memoryOperand_15 : decode cX11_memoryOperand 15 = .ok (.aload_n 0, 1) := by decide +kernel
theorem dX11_memoryOperand_16 : decode cX11_memoryOperand 16 = .ok (.iconst (-1), 1) := by decide +kernel
theorem dX11_memoryOperand_17 : decode cX11_memoryOperand 17 = .ok (.putfield 375, 3) := by decide +kernel
theorem dX11_memoryOperand_20 : decode cX11_memoryOperand 20 = .ok (.aload_n 0, 1) := by decide +kernel
theorem dX11_memoryOperand_21 : decode cX11_memoryOperand 21 = .ok (.iconst (-1), 1) := by decide +kernel
theorem dX11_memoryOperand_22 : decode cX11_memoryOperand 22 = .ok (.putfield 378, 3) := by decide +kernel
theorem dX11_memoryOperand_25 : decode cX11_memoryOperand 25 = .ok (.iconst 0, 1) := by decide +kernel
theorem dX11_memoryOperand_26 : decode cX11_memoryOperand 26 = .ok (.istore_n 1, 1) := by decide +kernel
theorem dX11_memoryOperand_27 : decode cX11_memoryOperand 27 = .ok (.iconst 1, 1) := by decide +kernel
theorem dX11_memoryOperand_28 : decode cX11_memoryOperand 28 = .ok (.istore_n 2, 1) := by decide +kernel
theorem dX11_memoryOperand_29 : decode cX11_memoryOperand 29 = .ok (.iload_n 2, 1) := by decide +kernel
theorem dX11_memoryOperand_30 : decode cX11_memoryOperand 30 = .ok (.ifCond .eq 121, 3) := by decide +kernel
theorem dX11_memoryOperand_151 : decode cX11_memoryOperand 151 = .ok (.aload_n 0, 1) := by decide +kernel
theorem dX11_memoryOperand_152 : decode cX11_memoryOperand 152 = .ok (.bipush 93, 2) := by decide +kernel
theorem dX11_memoryOperand_154 : decode cX11_memoryOperand 154 = .ok (.invokevirtual 384, 3) := by decide +kernel
theorem dX11_memoryOperand_157 : decode cX11_memoryOperand 157 = .ok (.ireturn, 1) := by decide +kernel
theorem dX11_memoryOperand_33 : decode cX11_memoryOperand 33 = .ok (.iload_n 1, 1) := by decide +kernel
theorem dX11_memoryOperand_34 : decode cX11_memoryOperand 34 = .ok (.ifCond .eq 14, 3) := by decide +kernel
theorem dX11_memoryOperand_48 : decode cX11_memoryOperand 48 = .ok (.aload_n 0, 1) := by decide +kernel
theorem dX11_memoryOperand_49 : decode cX11_memoryOperand 49 = .ok (.invokevirtual 381, 3) := by decide +kernel
theorem dX11_memoryOperand_52 : decode cX11_memoryOperand 52 = .ok (.ifCond .ne 8, 3) := by decide +kernel
theorem dX11_memoryOperand_37 : decode cX11_memoryOperand 37 = .ok (.aload_n 0, 1) := by decide +kernel
theorem dX11_memoryOperand_38 : decode cX11_memoryOperand 38 = .ok (.getfield 279, 3) := by decide +kernel
theorem dX11_memoryOperand_41 : decode cX11_memoryOperand 41 = .ok (.iconst 2, 1) := by decide +kernel
theorem dX11_memoryOperand_42 : decode cX11_memoryOperand 42 = .ok (.if_icmp .eq 18, 3) := by decide +kernel
theorem dX11_memoryOperand_45 : decode cX11_memoryOperand 45 = .ok (.goto 10, 3) := by decide +kernel
theorem dX11_memoryOperand_60 : decode cX11_memoryOperand 60 = .ok (.aload_n 0, 1) := by decide +kernel
theorem dX11_memoryOperand_61 : decode cX11_memoryOperand 61 = .ok (.getfield 279, 3) := by decide +kernel
theorem dX11_memoryOperand_64 : decode cX11_memoryOperand 64 = .ok (.iconst 2, 1) := by decide +kernel
theorem dX11_memoryOperand_65 : decode cX11_memoryOperand 65 = .ok (.if_icmp .ne 32, 3) := by decide +kernel
theorem dX11_memoryOperand_68 : decode cX11_memoryOperand 68 = .ok (.aload_n 0, 1) := by decide +kernel
theorem dX11_memoryOperand_69 : decode cX11_memoryOperand 69 = .ok (.aload_n 0, 1) := by decide +kernel
theorem dX11_memoryOperand_70 : decode cX11_memoryOperand 70 = .ok (.getfield 366, 3) := by decide +kernel
theorem dX11_memoryOperand_73 : decode cX11_memoryOperand 73 = .ok (.iload_n 1, 1) := by decide +kernel
theorem dX11_memoryOperand_74 : decode cX11_memoryOperand 74 = .ok (.ifCond .eq 11, 3) := by decide +kernel
theorem dX11_memoryOperand_85 : decode cX11_memoryOperand 85 = .ok (.aload_n 0, 1) := by decide +kernel
theorem dX11_memoryOperand_86 : decode cX11_memoryOperand 86 = .ok (.getfield 296, 3) := by decide +kernel
theorem dX11_memoryOperand_77 : decode cX11_memoryOperand 77 = .ok (.aload_n 0, 1) := by decide +kernel
theorem dX11_memoryOperand_78 : decode cX11_memoryOperand 78 = .ok (.getfield 296, 3) := by decide +kernel
theorem dX11_memoryOperand_81 : decode cX11_memoryOperand 81 = .ok (.ineg, 1) := by decide +kernel
theorem dX11_memoryOperand_82 : decode cX11_memoryOperand 82 = .ok (.goto 7, 3) := by decide +kernel
theorem dX11_memoryOperand_55 : decode cX11_memoryOperand 55 = .ok (.aload_n 0, 1) := by decide +kernel
theorem dX11_memoryOperand_56 : decode cX11_memoryOperand 56 = .ok (.invokevirtual 301, 3) := by decide +kernel
theorem dX11_memoryOperand_59 : decode cX11_memoryOperand 59 = .ok (.ireturn, 1) := by decide +kernel
theorem dX11_memoryOperand_97 : decode cX11_memoryOperand 97 = .ok (.aload_n 0, 1) := by decide +kernel
theorem dX11_memoryOperand_98 : decode cX11_memoryOperand 98 = .ok (.invokevirtual 305, 3) := by decide +kernel
theorem dX11_memoryOperand_101 : decode cX11_memoryOperand 101 = .ok (.aload_n 0, 1) := by decide +kernel
theorem dX11_memoryOperand_102 : decode cX11_memoryOperand 102 = .ok (.getfield 279, 3) := by decide +kernel
theorem dX11_memoryOperand_105 : decode cX11_memoryOperand 105 = .ok (.bipush 43, 2) := by decide +kernel
theorem dX11_memoryOperand_107 : decode cX11_memoryOperand 107 = .ok (.if_icmp .eq 12, 3) := by decide +kernel
theorem dX11_memoryOperand_110 : decode cX11_memoryOperand 110 = .ok (.aload_n 0, 1) := by decide +kernel
theorem dX11_memoryOperand_111 : decode cX11_memoryOperand 111 = .ok (.getfield 279, 3) := by decide +kernel
theorem dX11_memoryOperand_114 : decode cX11_memoryOperand 114 = .ok (.bipush 45, 2) := by decide +kernel
theorem dX11_memoryOperand_116 : decode cX11_memoryOperand 116 = .ok (.if_icmp .ne 7, 3) := by decide +kernel
theorem dX11_memoryOperand_123 : decode cX11_memoryOperand 123 = .ok (.iconst 0, 1) := by decide +kernel
theorem dX11_memoryOperand_89 : decode cX11_memoryOperand 89 = .ok (.iadd, 1) := by decide +kernel
theorem dX11_memoryOperand_90 : decode cX11_memoryOperand 90 = .ok (.ldc_w 300, 3) := by decide +kernel
theorem dX11_memoryOperand_93 : decode cX11_memoryOperand 93 = .ok (.iand, 1) := by decide +kernel
theorem dX11_memoryOperand_94 : decode cX11_memoryOperand 94 = .ok (.putfield 366, 3) := by decide +kernel
theorem dX11_memoryOperand_119 : decode cX11_memoryOperand 119 = .ok (.iconst 1, 1) := by decide +kernel
theorem dX11_memoryOperand_120 : decode cX11_memoryOperand 120 = .ok (.goto 4, 3) := by decide +kernel
theorem dX11_memoryOperand_124 : decode cX11_memoryOperand 124 = .ok (.istore_n 2, 1) := by decide +kernel
theorem dX11_memoryOperand_125 : decode cX11_memoryOperand 125 = .ok (.aload_n 0, 1) := by decide +kernel
theorem dX11_memoryOperand_126 : decode cX11_memoryOperand 126 = .ok (.getfield 279, 3) := by decide +kernel
theorem dX11_memoryOperand_129 : decode cX11_memoryOperand 129 = .ok (.bipush 45, 2) := by decide +kernel
theorem dX11_memoryOperand_131 : decode cX11_memoryOperand 131 = .ok (.if_icmp .ne 7, 3) := by decide +kernel
theorem dX11_memoryOperand_138 : decode cX11_memoryOperand 138 = .ok (.iconst 0, 1) := by decide +kernel
theorem dX11_memoryOperand_134 : decode cX11_memoryOperand 134 = .ok (.iconst 1, 1) := by decide +kernel
theorem dX11_memoryOperand_135 : decode cX11_memoryOperand 135 = .ok (.goto 4, 3) := by decide +kernel
theorem dX11_memoryOperand_139 : decode cX11_memoryOperand 139 = .ok (.istore_n 1, 1) := by decide +kernel
theorem dX11_memoryOperand_140 : decode cX11_memoryOperand 140 = .ok (.iload_n 2, 1) := by decide +kernel
theorem dX11_memoryOperand_141 : decode cX11_memoryOperand 141 = .ok (.ifCond .eq (-112), 3) := by decide +kernel
theorem dX11_memoryOperand_144 : decode cX11_memoryOperand 144 = .ok (.aload_n 0, 1) := by decide +kernel
theorem dX11_memoryOperand_145 : decode cX11_memoryOperand 145 = .ok (.invokevirtual 305, 3) := by decide +kernel
theorem dX11_memoryOperand_148 : decode cX11_memoryOperand 148 = .ok (.goto (-119), 3) := by decide +kernel
theorem dX11_operand_0 : decode cX11_operand 0 = .ok (.aload_n 0, 1) := by decide +kernel
theorem dX11_operand_1 : decode cX11_operand 1 = .ok (.iconst 0, 1) := by decide +kernel
theorem dX11_operand_2 : decode cX11_operand 2 = .ok (.bipush 7, 2) := by decide +kernel
theorem dX11_operand_4 : decode cX11_operand 4 = .ok (.invokevirtual 387, 3) := by decide +kernel
theorem dX11_operand_7 : decode cX11_operand 7 = .ok (.ifCond .eq 28, 3) := by decide +kernel
theorem dX11_operand_10 : decode cX11_operand 10 = .ok (.iload_n 1, 1) := by decide +kernel
theorem dX11_operand_11 : decode cX11_operand 11 = .ok (.iconst 1, 1) := by decide +kernel
theorem dX11_operand_12 : decode cX11_operand 12 = .ok (.iand, 1) := by decide +kernel
theorem dX11_operand_13 : decode cX11_operand 13 = .ok (.ifCond .eq 22, 3) := by decide +kernel
theorem dX11_operand_16 : decode cX11_operand 16 = .ok (.aload_n 0, 1) := by decide +kernel
theorem dX11_operand_17 : decode cX11_operand 17 = .ok (.iconst 0, 1) := by decide +kernel
theorem dX11_operand_18 : decode cX11_operand 18 = .ok (.putfield 363, 3) := by decide +kernel
theorem dX11_operand_21 : decode cX11_operand 21 = .ok (.aload_n 0, 1) := by decide +kernel
theorem dX11_operand_22 : decode cX11_operand 22 = .ok (.aload_n 0, 1) := by decide +kernel
theorem dX11_operand_23 : decode cX11_operand 23 = .ok (.getfield 293, 3) := by decide +kernel
theorem dX11_operand_26 : decode cX11_operand 26 = .ok (.putfield 366, 3) := by decide +kernel
theorem dX11_operand_29 : decode cX11_operand 29 = .ok (.aload_n 0, 1) := by decide +kernel
theorem dX11_operand_30 : decode cX11_operand 30 = .ok (.invokevirtual 305, 3) := by decide +kernel
theorem dX11_operand_33 : decode cX11_operand 33 = .ok (.iconst 1, 1) := by decide +kernel
theorem dX11_operand_34 : decode cX11_operand 34 = .ok (.ireturn, 1) := by decide +kernel
theorem dX11_operand_35 : decode cX11_operand 35 = .ok (.aload_n 0, 1) := by decide +kernel
theorem dX11_operand_36 : decode cX11_operand 36 = .ok (.bipush 8, 2) := by decide +kernel
theorem dX11_operand_38 : decode cX11_operand 38 = .ok (.bipush 11, 2) := by decide +kernel
theorem dX11_operand_40 : decode cX11_operand 40 = .ok (.invokevirtual 387, 3) := by decide +kernel
theorem dX11_operand_43 : decode cX11_operand 43 = .ok (.ifCond .eq 46, 3) := by decide +kernel
theorem dX11_operand_46 : decode cX11_operand 46 = .ok (.iload_n 1, 1) := by decide +kernel
theorem dX11_operand_47 : decode cX11_operand 47 = .ok (.iconst 2, 1) := by decide +kernel
theorem dX11_operand_48 : decode cX11_operand 48 = .ok (.iand, 1) := by decide +kernel
theorem dX11_operand_49 : decode cX11_operand 49 = .ok (.ifCond .ne 18, 3) := by decide +kernel
theorem dX11_operand_52 : decode cX11_operand 52 = .ok (.iload_n 1, 1) := by decide +kernel
theorem dX11_operand_53 : decode cX11_operand 53 = .ok (.iconst 4, 1) := by decide +kernel
theorem dX11_operand_54 : decode cX11_operand 54 = .ok (.iand, 1) := by decide +kernel
theorem dX11_operand_55 : decode cX11_operand 55 = .ok (.ifCond .eq 34, 3) := by decide +kernel
theorem dX11_operand_58 : decode cX11_operand 58 = .ok (.aload_n 0, 1) := by decide +kernel
theorem dX11_operand_59 : decode cX11_operand 59 = .ok (.getfield 293, 3) := by decide +kernel
theorem dX11_operand_62 : decode cX11_operand 62 = .ok (.bipush 9, 2) := by decide +kernel
theorem dX11_operand_64 : decode cX11_operand 64 = .ok (.if_icmp .eq 25, 3) := by decide +kernel
theorem dX11_operand_89 : decode cX11_operand 89 = .ok (.aload_n 0, 1) := by decide +kernel
theorem dX11_operand_90 : decode cX11_operand 90 = .ok (.getfield 279, 3) := by decide +kernel
theorem dX11_operand_93 : decode cX11_operand 93 = .ok (.bipush 91, 2) := by decide +kernel
theorem dX11_operand_95 : decode cX11_operand 95 = .ok (.if_icmp .ne 19, 3) := by decide +kernel
theorem dX11_operand_98 : decode cX11_operand 98 = .ok (.iload_n 1, 1) := by decide +kernel
theorem dX11_operand_99 : decode cX11_operand 99 = .ok (.bipush 8, 2) := by decide +kernel
theorem dX11_operand_101 : decode cX11_operand 101 = .ok (.iand, 1) := by decide +kernel
theorem dX11_operand_102 : decode cX11_operand 102 = .ok (.ifCond .eq 12, 3) := by decide +kernel
theorem dX11_operand_105 : decode cX11_operand 105 = .ok (.aload_n 0, 1) := by decide +kernel
theorem dX11_operand_106 : decode cX11_operand 106 = .ok (.invokevirtual 305, 3) := by decide +kernel
theorem dX11_operand_109 : decode cX11_operand 109 = .ok (.aload_n 0, 1) := by decide +kernel
theorem dX11_operand_110 : decode cX11_operand 110 = .ok (.invokevirtual 391, 3) := by decide +kernel
theorem dX11_operand_113 : decode cX11_operand 113 = .ok (.ireturn, 1) := by decide +kernel
theorem dX11_operand_67 : decode cX11_operand 67 = .ok (.aload_n 0, 1) := by decide +kernel
theorem dX11_operand_68 : decode cX11_operand 68 = .ok (.iconst 1, 1) := by decide +kernel
theorem dX11_operand_69 : decode cX11_operand 69 = .ok (.putfield 363, 3) := by decide +kernel
theorem dX11_operand_72 : decode cX11_operand 72 = .ok (.aload_n 0, 1) := by decide +kernel
theorem dX11_operand_73 : decode cX11_operand 73 = .ok (.aload_n 0, 1) := by decide +kernel
theorem dX11_operand_74 : decode cX11_operand 74 = .ok (.getfield 293, 3) := by decide +kernel
theorem dX11_operand_77 : decode cX11_operand 77 = .ok (.bipush 8, 2) := by decide +kernel
theorem dX11_operand_79 : decode cX11_operand 79 = .ok (.isub, 1) := by decide +kernel
theorem dX11_operand_80 : decode cX11_operand 80 = .ok (.putfield 366, 3) := by decide +kernel
theorem dX11_operand_83 : decode cX11_operand 83 = .ok (.aload_n 0, 1) := by decide +kernel
theorem dX11_operand_84 : decode cX11_operand 84 = .ok (.invokevirtual 305, 3) := by decide +kernel
theorem dX11_operand_87 : decode cX11_operand 87 = .ok (.iconst 1, 1) := by decide +kernel
theorem dX11_operand_88 : decode cX11_operand 88 = .ok (.ireturn, 1) := by decide +kernel
theorem dX11_operand_114 : decode cX11_operand 114 = .ok (.iload_n 1, 1) := by decide +kernel
theorem dX11_operand_115 : decode cX11_operand 115 = .ok (.bipush 16, 2) := by decide +kernel
theorem dX11_operand_117 : decode cX11_operand 117 = .ok (.iand, 1) := by decide +kernel
theorem dX11_operand_118 : decode cX11_operand 118 = .ok (.ifCond .ne 8, 3) := by decide +kernel
theorem dX11_operand_126 : decode cX11_operand 126 = .ok (.aload_n 0, 1) := by decide +kernel
theorem dX11_operand_127 : decode cX11_operand 127 = .ok (.invokevirtual 357, 3) := by decide +kernel
theorem dX11_operand_130 : decode cX11_operand 130 = .ok (.ireturn, 1) := by decide +kernel
theorem dX11_operand_121 : decode cX11_operand 121 = .ok (.aload_n 0, 1) := by decide +kernel
theorem dX11_operand_122 : decode cX11_operand 122 = .ok (.invokevirtual 301, 3) := by decide +kernel
theorem dX11_operand_125 : decode cX11_operand 125 = .ok (.ireturn, 1) := by decide +kernel
def wpX11_label (a1 a2 : Int) (σ : ZS) (Q : ZS → Prop) : Prop := (0 ≤ a1 ∧ a1 < 240) ∧ (-2147483648 ≤ (zA σ 0 13 a1) ∧ (zA σ 0 13 a1) ≤ 2147483647) ∧ ((zA σ 0 13 a1) = 0 → wpX11_piece 7 a1 0 a2 (zsA (zsA σ 0 13 a1 2) 0 14 a1 (zI σ 0 32)) (fun (σ5 : ZS) => Q σ5)) ∧ (¬ (zA σ 0 13 a1) = 0 → wpX11_wrongAt a2 σ (fun (σ7 : ZS) => Q σ7))
set_option maxHeartbeats 4000000 in
set_option maxRecDepth 100000 in
theorem kX11_label (l : Launch) (D : va_G) (dA : Nat → ClassId) (ad : Int → Nat → Nat) (a1 a2 : Int) (σ : ZS) (Q : ZS → Prop) (sz : Nat) (hw : wpX11_label a1 a2 σ Q) : Met l yX11_label (gws yX11_label cX11_label 3 none) (gR 2 0 0) (gPre D dA [.ref (ad 0 1000), .int (Int32.ofInt a1), .int (Int32.ofInt a2)] (zR dA ad σ) sz) (va_Qv Q (gAt D dA (va_A (zR dA ad σ) sz) (zR dA ad)) (va_A (zR dA ad σ) sz)) 0 0 (va_A (zR dA ad σ) sz) := by
  refine Met.ofW (cc := cX11_label) (maxL := 3) (ret := none) (by decide) rfl ?_
  intro p e s m args below meth c s₁ B hml hv
  obtain ⟨rfl, hsz, hP, hK, hD0⟩ := hv
  have hx := B.exec
  have hb := B.bytes
  have hr := B.returns
  have hts := atoms_spec (ws := gws yX11_label cX11_label 3 none) B.pre
  have hg : ∀ w ∈ gw, w.before _ s = true := fun w h => hts w (List.mem_cons_of_mem _ h)
  have hown : s.vm.findClass RX11 = some m.cls := findClass_of_methodNamed B.named
  have hlocks := B.notSynchronized
  subst hsz
  have hD := hD0.self (sz := s.heap.size)
  generalize hAe : va_A (zR dA ad σ) s.heap.size = A at hD ⊢
  have hA : ∀ q : Nat, s.heap.size ≤ q → A q := fun q h => by rw [← hAe]; exact Or.inr h
  have hS : va_S A s.heap s.heap [] := va_S.rf
  have hl := lv_entry ([.ref (ad 0 1000), .int (Int32.ofInt a1), .int (Int32.ofInt a2)]) (n := 3) (Nat.le_of_ble_eq_true rfl)
  rw [lg_entry_eq]
  generalize (lg_sl ([.ref (ad 0 1000), .int (Int32.ofInt a1), .int (Int32.ofInt a2)]) ++ List.replicate (3 - (lg_sl ([.ref (ad 0 1000), .int (Int32.ofInt a1), .int (Int32.ofInt a2)])).length) Slot.unset).toArray = ls at hl ⊢
  have hl : lv_has ls 3 [(0, .ref (ad 0 1000)), (1, .int (Int32.ofInt a1)), (2, .int (Int32.ofInt a2))] := hl
  have hret : ∀ (σ : ZS) (H : Heap) (locs : List Loc) (ls : Array Slot) (pc : Nat), Q σ → va_P D vwC (zR dA ad σ) H → va_D A (zR dA ad σ) → va_S A s.heap H locs → decode cX11_label pc = .ok (.return_, 1) → W p l e (gR 2 0 0) s m #[.ref (ad 0 1000), .int (Int32.ofInt a1), .int (Int32.ofInt a2)] below meth c H locs 0 0 (MQ below (va_Qv Q (gAt D dA A (zR dA ad)) A) #[.ref (ad 0 1000), .int (Int32.ofInt a1), .int (Int32.ofInt a2)] s 0 0 A) (F0 m pc ls []) := fun σ H locs ls pc hw hP hD hS hd => g_vret hx hb hr hlocks hK σ hP hD hS hw (Nat.le_of_ble_eq_true rfl) (Nat.le_of_ble_eq_true rfl) hd
  generalize MQ below (va_Qv Q (gAt D dA A (zR dA ad)) A) #[.ref (ad 0 1000), .int (Int32.ofInt a1), .int (Int32.ofInt a2)] s 0 0 A = QQ at hret ⊢
  unfold wpX11_label at hw
  refine lv_aload_n hx hb dX11_label_0 rfl (lv_at hl 0 rfl) ?_
  refine zgR0_13 hx hb hg hown hK hP q1628 dX11_label_1 ?_
  refine lv_iload_n hx hb dX11_label_4 rfl (lv_at hl 1 rfl) ?_
  obtain ⟨o1, hw⟩ := hw
  refine zlR0_13 hx hb o1 hK hP dX11_label_5 ?_
  obtain ⟨o2, hw⟩ := hw
  refine z_if_eq (tgt := 15) hx hb o2 dX11_label_6 (by decide) (fun k3 => ?_) (fun k3 => ?_)
  · replace hw := hw.1 k3
    refine lv_aload_n hx hb dX11_label_15 rfl (lv_at hl 0 rfl) ?_
    refine zgR0_13 hx hb hg hown hK hP q1628 dX11_label_16 ?_
    refine lv_iload_n hx hb dX11_label_19 rfl (lv_at hl 1 rfl) ?_
    refine lv_iconst (v := Int32.ofInt 2) hx hb dX11_label_20 (by decide) ?_
    refine zsR0_13 (v := 2) hx hb o1 hK hP hD hS dX11_label_21 (fun H locs hP hD hS => ?_)
    refine lv_aload_n hx hb dX11_label_22 rfl (lv_at hl 0 rfl) ?_
    refine zgR0_14 hx hb hg hown hK hP q1629 dX11_label_23 ?_
    refine lv_iload_n hx hb dX11_label_26 rfl (lv_at hl 1 rfl) ?_
    refine lv_aload_n hx hb dX11_label_27 rfl (lv_at hl 0 rfl) ?_
    refine zgR0_32 hx hb hg hown hK hP q1647 dX11_label_28 ?_
    refine g_nrm (y := Int32.ofInt (zI σ 0 32)) rfl ?_
    refine zsR0_14 (v := (zI σ 0 32)) hx hb o1 hK hP hD hS dX11_label_31 (fun H locs hP hD hS => ?_)
    refine lv_aload_n hx hb dX11_label_32 rfl (lv_at hl 0 rfl) ?_
    refine lv_bipush (v := Int32.ofInt 7) hx hb dX11_label_33 (by decide) ?_
    refine lv_iload_n hx hb dX11_label_35 rfl (lv_at hl 1 rfl) ?_
    refine lv_iconst (v := Int32.ofInt 0) hx hb dX11_label_36 (by decide) ?_
    refine lv_iload_n hx hb dX11_label_37 rfl (lv_at hl 2 rfl) ?_
    refine z_Vv (n := 4) (As := [.int (Int32.ofInt 7), .int (Int32.ofInt a1), .int (Int32.ofInt 0), .int (Int32.ofInt a2)]) (rest := []) hx hb hml hg hown hK hP hD hS hA (kX11_piece l D dA ad 7 a1 0 a2 (zsA (zsA σ 0 13 a1 2) 0 14 a1 (zI σ 0 32)) _ _ hw) (zoR0) rfl q1939 q160 q1936 q1938 q88 (by decide +kernel) ⟨(Nat.le_of_ble_eq_true rfl), (Nat.le_of_ble_eq_true rfl)⟩ rfl hl.1 rfl (Nat.le_of_ble_eq_true rfl) dX11_label_38 ⟨(Nat.le_of_ble_eq_true rfl), (Nat.le_of_ble_eq_true rfl)⟩ (fun σ5 H locs hw hP hD hS => ?_)
    exact hret σ5 _ _ _ _ hw hP hD hS dX11_label_41
  · replace hw := hw.2 k3
    refine lv_aload_n hx hb dX11_label_9 rfl (lv_at hl 0 rfl) ?_
    refine lv_iload_n hx hb dX11_label_10 rfl (lv_at hl 2 rfl) ?_
    refine z_Vv (n := 1) (As := [.int (Int32.ofInt a2)]) (rest := []) hx hb hml hg hown hK hP hD hS hA (kX11_wrongAt l D dA ad a2 σ _ _ hw) (zoR0) rfl q1927 q160 q1924 q1926 q85 (by decide +kernel) ⟨(Nat.le_of_ble_eq_true rfl), (Nat.le_of_ble_eq_true rfl)⟩ rfl hl.1 rfl (Nat.le_of_ble_eq_true rfl) dX11_label_11 ⟨(Nat.le_of_ble_eq_true rfl), (Nat.le_of_ble_eq_true rfl)⟩ (fun σ7 H locs hw hP hD hS => ?_)
    exact hret σ7 _ _ _ _ hw hP hD hS dX11_label_14
def wpX11_open_89 (v1 : Int) (σ : ZS) (Q : ZS → Prop) : Prop := (0 ≤ v1 ∧ v1 < 240) ∧ Q (zsI σ 0 32 (zA σ 0 14 v1))
def wpX11_open_36 (v1 v2 : Int) (σ : ZS) (Q : ZS → Prop) : Prop := (0 ≤ v1 ∧ v1 < 240) ∧ (-2147483648 ≤ (zA σ 0 13 v1) ∧ (zA σ 0 13 v1) ≤ 2147483647) ∧ (¬ (zA σ 0 13 v1) = 0 → wpX11_open_89 v1 σ Q) ∧ ((zA σ 0 13 v1) = 0 → (0 ≤ (zI σ 0 34) ∧ (zI σ 0 34) < 80) ∧ wpX11_open_89 v1 (zsI (zsA (zsA (zsA (zsA σ 0 13 v1 1) 0 15 v1 v2) 0 14 v1 (zI σ 0 34)) 0 35 (zI σ 0 34) v1) 0 34 ((zI σ 0 34) + 1)) Q)
def wpX11_open_30 (v3 : Int) (σ : ZS) (Q : ZS → Prop) : Prop := wpX11_wrongAt v3 σ (fun (σ7 : ZS) => Q σ7)
def wpX11_open (a1 a2 a3 : Int) (σ : ZS) (Q : ZS → Prop) : Prop := (0 ≤ a1 ∧ a1 < 240) ∧ (-2147483648 ≤ (zA σ 0 13 a1) ∧ (zA σ 0 13 a1) ≤ 2147483647) ∧ (1 < (zA σ 0 13 a1) → wpX11_open_30 a3 σ Q) ∧ (¬ 1 < (zA σ 0 13 a1) → (¬ (zA σ 0 13 a1) = 1 → wpX11_open_36 a1 a2 σ Q) ∧ ((zA σ 0 13 a1) = 1 → (-2147483648 ≤ (zA σ 0 15 a1) ∧ (zA σ 0 15 a1) ≤ 2147483647) ∧ (-2147483648 ≤ a2 ∧ a2 ≤ 2147483647) ∧ ((zA σ 0 15 a1) = a2 → wpX11_open_36 a1 a2 σ Q) ∧ (¬ (zA σ 0 15 a1) = a2 → wpX11_open_30 a3 σ Q)))
set_option maxHeartbeats 4000000 in
set_option maxRecDepth 100000 in
theorem kX11_open (l : Launch) (D : va_G) (dA : Nat → ClassId) (ad : Int → Nat → Nat) (a1 a2 a3 : Int) (σ : ZS) (Q : ZS → Prop) (sz : Nat) (hw : wpX11_open a1 a2 a3 σ Q) : Met l yX11_open (gws yX11_open cX11_open 4 none) (gR 2 0 0) (gPre D dA [.ref (ad 0 1000), .int (Int32.ofInt a1), .int (Int32.ofInt a2), .int (Int32.ofInt a3)] (zR dA ad σ) sz) (va_Qv Q (gAt D dA (va_A (zR dA ad σ) sz) (zR dA ad)) (va_A (zR dA ad σ) sz)) 0 0 (va_A (zR dA ad σ) sz) := by
  refine Met.ofW (cc := cX11_open) (maxL := 4) (ret := none) (by decide) rfl ?_
  intro p e s m args below meth c s₁ B hml hv
  obtain ⟨rfl, hsz, hP, hK, hD0⟩ := hv
  have hx := B.exec
  have hb := B.bytes
  have hr := B.returns
  have hts := atoms_spec (ws := gws yX11_open cX11_open 4 none) B.pre
  have hg : ∀ w ∈ gw, w.before _ s = true := fun w h => hts w (List.mem_cons_of_mem _ h)
  have hown : s.vm.findClass RX11 = some m.cls := findClass_of_methodNamed B.named
  have hlocks := B.notSynchronized
  subst hsz
  have hD := hD0.self (sz := s.heap.size)
  generalize hAe : va_A (zR dA ad σ) s.heap.size = A at hD ⊢
  have hA : ∀ q : Nat, s.heap.size ≤ q → A q := fun q h => by rw [← hAe]; exact Or.inr h
  have hS : va_S A s.heap s.heap [] := va_S.rf
  have hl := lv_entry ([.ref (ad 0 1000), .int (Int32.ofInt a1), .int (Int32.ofInt a2), .int (Int32.ofInt a3)]) (n := 4) (Nat.le_of_ble_eq_true rfl)
  rw [lg_entry_eq]
  generalize (lg_sl ([.ref (ad 0 1000), .int (Int32.ofInt a1), .int (Int32.ofInt a2), .int (Int32.ofInt a3)]) ++ List.replicate (4 - (lg_sl ([.ref (ad 0 1000), .int (Int32.ofInt a1), .int (Int32.ofInt a2), .int (Int32.ofInt a3)])).length) Slot.unset).toArray = ls at hl ⊢
  have hl : lv_has ls 4 [(0, .ref (ad 0 1000)), (1, .int (Int32.ofInt a1)), (2, .int (Int32.ofInt a2)), (3, .int (Int32.ofInt a3))] := hl
  have hret : ∀ (σ : ZS) (H : Heap) (locs : List Loc) (ls : Array Slot) (pc : Nat), Q σ → va_P D vwC (zR dA ad σ) H → va_D A (zR dA ad σ) → va_S A s.heap H locs → decode cX11_open pc = .ok (.return_, 1) → W p l e (gR 2 0 0) s m #[.ref (ad 0 1000), .int (Int32.ofInt a1), .int (Int32.ofInt a2), .int (Int32.ofInt a3)] below meth c H locs 0 0 (MQ below (va_Qv Q (gAt D dA A (zR dA ad)) A) #[.ref (ad 0 1000), .int (Int32.ofInt a1), .int (Int32.ofInt a2), .int (Int32.ofInt a3)] s 0 0 A) (F0 m pc ls []) := fun σ H locs ls pc hw hP hD hS hd => g_vret hx hb hr hlocks hK σ hP hD hS hw (Nat.le_of_ble_eq_true rfl) (Nat.le_of_ble_eq_true rfl) hd
  generalize MQ below (va_Qv Q (gAt D dA A (zR dA ad)) A) #[.ref (ad 0 1000), .int (Int32.ofInt a1), .int (Int32.ofInt a2), .int (Int32.ofInt a3)] s 0 0 A = QQ at hret ⊢
  have j89 : ∀ (v1 : Int) (σ : ZS), ∀ (H : Heap) (locs : List Loc) (ls : Array Slot), va_P D vwC (zR dA ad σ) H → va_D A (zR dA ad σ) → va_S A s.heap H locs → lv_has ls 4 [(0, .ref (ad 0 1000)), (1, .int (Int32.ofInt v1))] → wpX11_open_89 v1 σ Q → W p l e (gR 2 0 0) s m #[.ref (ad 0 1000), .int (Int32.ofInt a1), .int (Int32.ofInt a2), .int (Int32.ofInt a3)] below meth c H locs 0 0 QQ (F0 m 89 ls []) := by
    intro v1 σ H locs ls hP hD hS hl hw
    unfold wpX11_open_89 at hw
    refine lv_aload_n hx hb dX11_open_89 rfl (lv_at hl 0 rfl) ?_
    refine lv_aload_n hx hb dX11_open_90 rfl (lv_at hl 0 rfl) ?_
    refine zgR0_14 hx hb hg hown hK hP q1629 dX11_open_91 ?_
    refine lv_iload_n hx hb dX11_open_94 rfl (lv_at hl 1 rfl) ?_
    obtain ⟨o1, hw⟩ := hw
    refine zlR0_14 hx hb o1 hK hP dX11_open_95 ?_
    refine zpR0_32 (v := (zA σ 0 14 v1)) hx hb hg hown hK hP hD hS q1647 dX11_open_96 (fun H locs hP hD hS => ?_)
    exact hret (zsI σ 0 32 (zA σ 0 14 v1)) _ _ _ _ hw hP hD hS dX11_open_99
  have j36 : ∀ (v1 v2 : Int) (σ : ZS), ∀ (H : Heap) (locs : List Loc) (ls : Array Slot), va_P D vwC (zR dA ad σ) H → va_D A (zR dA ad σ) → va_S A s.heap H locs → lv_has ls 4 [(0, .ref (ad 0 1000)), (1, .int (Int32.ofInt v1)), (2, .int (Int32.ofInt v2))] → wpX11_open_36 v1 v2 σ Q → W p l e (gR 2 0 0) s m #[.ref (ad 0 1000), .int (Int32.ofInt a1), .int (Int32.ofInt a2), .int (Int32.ofInt a3)] below meth c H locs 0 0 QQ (F0 m 36 ls []) := by
    intro v1 v2 σ H locs ls hP hD hS hl hw
    unfold wpX11_open_36 at hw
    refine lv_aload_n hx hb dX11_open_36 rfl (lv_at hl 0 rfl) ?_
    refine zgR0_13 hx hb hg hown hK hP q1628 dX11_open_37 ?_
    refine lv_iload_n hx hb dX11_open_40 rfl (lv_at hl 1 rfl) ?_
    obtain ⟨o2, hw⟩ := hw
    refine zlR0_13 hx hb o2 hK hP dX11_open_41 ?_
    obtain ⟨o3, hw⟩ := hw
    refine z_if_ne (tgt := 89) hx hb o3 dX11_open_42 (by decide) (fun k4 => ?_) (fun k4 => ?_)
    · replace hw := hw.1 k4
      exact j89 v1 σ _ _ _ hP hD hS (lv_sub hl [0, 1] rfl) hw
    · replace hw := hw.2 k4
      refine lv_aload_n hx hb dX11_open_45 rfl (lv_at hl 0 rfl) ?_
      refine zgR0_13 hx hb hg hown hK hP q1628 dX11_open_46 ?_
      refine lv_iload_n hx hb dX11_open_49 rfl (lv_at hl 1 rfl) ?_
      refine lv_iconst (v := Int32.ofInt 1) hx hb dX11_open_50 (by decide) ?_
      refine zsR0_13 (v := 1) hx hb o2 hK hP hD hS dX11_open_51 (fun H locs hP hD hS => ?_)
      refine lv_aload_n hx hb dX11_open_52 rfl (lv_at hl 0 rfl) ?_
      refine zgR0_15 hx hb hg hown hK hP q1630 dX11_open_53 ?_
      refine lv_iload_n hx hb dX11_open_56 rfl (lv_at hl 1 rfl) ?_
      refine lv_iload_n hx hb dX11_open_57 rfl (lv_at hl 2 rfl) ?_
      refine zsR0_15 (v := v2) hx hb o2 hK hP hD hS dX11_open_58 (fun H locs hP hD hS => ?_)
      refine lv_aload_n hx hb dX11_open_59 rfl (lv_at hl 0 rfl) ?_
      refine zgR0_14 hx hb hg hown hK hP q1629 dX11_open_60 ?_
      refine lv_iload_n hx hb dX11_open_63 rfl (lv_at hl 1 rfl) ?_
      refine lv_aload_n hx hb dX11_open_64 rfl (lv_at hl 0 rfl) ?_
      refine zgR0_34 hx hb hg hown hK hP q1649 dX11_open_65 ?_
      refine g_nrm (y := Int32.ofInt (zI σ 0 34)) rfl ?_
      refine zsR0_14 (v := (zI σ 0 34)) hx hb o2 hK hP hD hS dX11_open_68 (fun H locs hP hD hS => ?_)
      refine lv_aload_n hx hb dX11_open_69 rfl (lv_at hl 0 rfl) ?_
      refine zgR0_35 hx hb hg hown hK hP q1650 dX11_open_70 ?_
      refine lv_aload_n hx hb dX11_open_73 rfl (lv_at hl 0 rfl) ?_
      refine zgR0_34 hx hb hg hown hK hP q1649 dX11_open_74 ?_
      refine g_nrm (y := Int32.ofInt (zI σ 0 34)) rfl ?_
      refine lv_iload_n hx hb dX11_open_77 rfl (lv_at hl 1 rfl) ?_
      obtain ⟨o5, hw⟩ := hw
      refine zsR0_35 (v := v1) hx hb o5 hK hP hD hS dX11_open_78 (fun H locs hP hD hS => ?_)
      refine lv_aload_n hx hb dX11_open_79 rfl (lv_at hl 0 rfl) ?_
      refine lv_dup hx hb dX11_open_80 rfl ?_
      refine zgR0_34 hx hb hg hown hK hP q1649 dX11_open_81 ?_
      refine g_nrm (y := Int32.ofInt (zI σ 0 34)) rfl ?_
      refine lv_iconst (v := Int32.ofInt 1) hx hb dX11_open_84 (by decide) ?_
      refine z_iadd hx hb dX11_open_85 ?_
      refine zpR0_34 (v := ((zI σ 0 34) + 1)) hx hb hg hown hK hP hD hS q1649 dX11_open_86 (fun H locs hP hD hS => ?_)
      exact j89 v1 (zsI (zsA (zsA (zsA (zsA σ 0 13 v1 1) 0 15 v1 v2) 0 14 v1 (zI σ 0 34)) 0 35 (zI σ 0 34) v1) 0 34 ((zI σ 0 34) + 1)) _ _ _ hP hD hS (lv_sub hl [0, 1] rfl) hw
  have j30 : ∀ (v3 : Int) (σ : ZS), ∀ (H : Heap) (locs : List Loc) (ls : Array Slot), va_P D vwC (zR dA ad σ) H → va_D A (zR dA ad σ) → va_S A s.heap H locs → lv_has ls 4 [(0, .ref (ad 0 1000)), (3, .int (Int32.ofInt v3))] → wpX11_open_30 v3 σ Q → W p l e (gR 2 0 0) s m #[.ref (ad 0 1000), .int (Int32.ofInt a1), .int (Int32.ofInt a2), .int (Int32.ofInt a3)] below meth c H locs 0 0 QQ (F0 m 30 ls []) := by
    intro v3 σ H locs ls hP hD hS hl hw
    unfold wpX11_open_30 at hw
    refine lv_aload_n hx hb dX11_open_30 rfl (lv_at hl 0 rfl) ?_
    refine lv_iload_n hx hb dX11_open_31 rfl (lv_at hl 1 rfl) ?_
    refine z_Vv (n := 1) (As := [.int (Int32.ofInt v3)]) (rest := []) hx hb hml hg hown hK hP hD hS hA (kX11_wrongAt l D dA ad v3 σ _ _ hw) (zoR0) rfl q1927 q160 q1924 q1926 q85 (by decide +kernel) ⟨(Nat.le_of_ble_eq_true rfl), (Nat.le_of_ble_eq_true rfl)⟩ rfl hl.1 rfl (Nat.le_of_ble_eq_true rfl) dX11_open_32 ⟨(Nat.le_of_ble_eq_true rfl), (Nat.le_of_ble_eq_true rfl)⟩ (fun σ7 H locs hw hP hD hS => ?_)
    exact hret σ7 _ _ _ _ hw hP hD hS dX11_open_35
  unfold wpX11_open at hw
  refine lv_aload_n hx hb dX11_open_0 rfl (lv_at hl 0 rfl) ?_
  refine zgR0_13 hx hb hg hown hK hP q1628 dX11_open_1 ?_
  refine lv_iload_n hx hb dX11_open_4 rfl (lv_at hl 1 rfl) ?_
  obtain ⟨o8, hw⟩ := hw
  refine zlR0_13 hx hb o8 hK hP dX11_open_5 ?_
  refine lv_iconst (v := Int32.ofInt 1) hx hb dX11_open_6 (by decide) ?_
  obtain ⟨o9, hw⟩ := hw
  refine z_icmp_gt (tgt := 30) hx hb o9 (by decide) dX11_open_7 (by decide) (fun k10 => ?_) (fun k10 => ?_)
  · replace hw := hw.1 k10
    exact j30 a3 σ _ _ _ hP hD hS (lv_sub hl [0, 3] rfl) hw
  · replace hw := hw.2 k10
    refine lv_aload_n hx hb dX11_open_10 rfl (lv_at hl 0 rfl) ?_
    refine zgR0_13 hx hb hg hown hK hP q1628 dX11_open_11 ?_
    refine lv_iload_n hx hb dX11_open_14 rfl (lv_at hl 1 rfl) ?_
    refine zlR0_13 hx hb o8 hK hP dX11_open_15 ?_
    refine lv_iconst (v := Int32.ofInt 1) hx hb dX11_open_16 (by decide) ?_
    refine z_icmp_ne (tgt := 36) hx hb o9 (by decide) dX11_open_17 (by decide) (fun k11 => ?_) (fun k11 => ?_)
    · replace hw := hw.1 k11
      exact j36 a1 a2 σ _ _ _ hP hD hS (lv_sub hl [0, 1, 2] rfl) hw
    · replace hw := hw.2 k11
      refine lv_aload_n hx hb dX11_open_20 rfl (lv_at hl 0 rfl) ?_
      refine zgR0_15 hx hb hg hown hK hP q1630 dX11_open_21 ?_
      refine lv_iload_n hx hb dX11_open_24 rfl (lv_at hl 1 rfl) ?_
      refine zlR0_15 hx hb o8 hK hP dX11_open_25 ?_
      refine lv_iload_n hx hb dX11_open_26 rfl (lv_at hl 2 rfl) ?_
      obtain ⟨o12, hw⟩ := hw
      obtain ⟨o13, hw⟩ := hw
      refine z_icmp_eq (tgt := 36) hx hb o12 o13 dX11_open_27 (by decide) (fun k14 => ?_) (fun k14 => ?_)
      · replace hw := hw.1 k14
        exact j36 a1 a2 σ _ _ _ hP hD hS (lv_sub hl [0, 1, 2] rfl) hw
      · replace hw := hw.2 k14
        exact j30 a3 σ _ _ _ hP hD hS (lv_sub hl [0, 3] rfl) hw
def wpX11_value_50 (σ : ZS) (Q : Int → ZS → Prop) : Prop := wpX11_isName σ (fun (x1 : Int) (σ2 : ZS) => (-2147483648 ≤ x1 ∧ x1 ≤ 2147483647) ∧ (¬ x1 = 0 → wpX11_name σ2 (fun (x5 : Int) (σ6 : ZS) => wpX11_use 1 x5 (zI σ6 0 6) (zsI (zsI σ6 0 39 x5) 0 40 (zI σ6 0 6)) (fun (σ8 : ZS) => wpX11_next σ8 (fun (σ10 : ZS) => Q 1 σ10)))) ∧ (x1 = 0 → wpX11_fault σ2 (fun (x11 : Int) (σ12 : ZS) => (0 ≤ x11 ∧ x11 ≤ 1) ∧ Q x11 σ12)))
def wpX11_value (σ : ZS) (Q : Int → ZS → Prop) : Prop := (-2147483648 ≤ (zI σ 0 7) ∧ (zI σ 0 7) ≤ 2147483647) ∧ (¬ (zI σ 0 7) = 2 → (¬ (zI σ 0 7) = 64 → wpX11_value_50 (zsI (zsI (zsI σ 0 37 3) 0 38 (zI σ 0 10)) 0 37 4) Q) ∧ ((zI σ 0 7) = 64 → wpX11_next (zsI (zsI (zsI (zsI σ 0 37 3) 0 38 (zI σ 0 10)) 0 37 4) 0 37 5) (fun (σ18 : ZS) => wpX11_value_50 σ18 Q))) ∧ ((zI σ 0 7) = 2 → wpX11_next (zsI (zsI σ 0 37 3) 0 38 (zI σ 0 10)) (fun (σ20 : ZS) => Q 1 σ20))
set_option maxHeartbeats 4000000 in
set_option maxRecDepth 100000 in
theorem kX11_value (l : Launch) (D : va_G) (dA : Nat → ClassId) (ad : Int → Nat → Nat) (σ : ZS) (Q : Int → ZS → Prop) (sz : Nat) (hw : wpX11_value σ Q) : Met l yX11_value (gws yX11_value cX11_value 1 (some .boolean)) (gR 3 0 0) (gPre D dA [.ref (ad 0 1000)] (zR dA ad σ) sz) (va_Qi (zQi Q) (gAt D dA (va_A (zR dA ad σ) sz) (zR dA ad)) (va_A (zR dA ad σ) sz)) 0 0 (va_A (zR dA ad σ) sz) := by
  refine Met.ofW (cc := cX11_value) (maxL := 1) (ret := (some .boolean)) (by decide) rfl ?_
  intro p e s m args below meth c s₁ B hml hv
  obtain ⟨rfl, hsz, hP, hK, hD0⟩ := hv
  have hx := B.exec
  have hb := B.bytes
  have hr := B.returns
  have hts := atoms_spec (ws := gws yX11_value cX11_value 1 (some .boolean)) B.pre
  have hg : ∀ w ∈ gw, w.before _ s = true := fun w h => hts w (List.mem_cons_of_mem _ h)
  have hown : s.vm.findClass RX11 = some m.cls := findClass_of_methodNamed B.named
  have hlocks := B.notSynchronized
  subst hsz
  have hD := hD0.self (sz := s.heap.size)
  generalize hAe : va_A (zR dA ad σ) s.heap.size = A at hD ⊢
  have hA : ∀ q : Nat, s.heap.size ≤ q → A q := fun q h => by rw [← hAe]; exact Or.inr h
  have hS : va_S A s.heap s.heap [] := va_S.rf
  have hl := lv_entry ([.ref (ad 0 1000)]) (n := 1) (Nat.le_of_ble_eq_true rfl)
  rw [lg_entry_eq]
  generalize (lg_sl ([.ref (ad 0 1000)]) ++ List.replicate (1 - (lg_sl ([.ref (ad 0 1000)])).length) Slot.unset).toArray = ls at hl ⊢
  have hl : lv_has ls 1 [(0, .ref (ad 0 1000))] := hl
  have hret : ∀ (v : Int) (σ : ZS) (H : Heap) (locs : List Loc) (ls : Array Slot) (pc : Nat), (0 ≤ v ∧ v ≤ 1) → Q v σ → va_P D vwC (zR dA ad σ) H → va_D A (zR dA ad σ) → va_S A s.heap H locs → decode cX11_value pc = .ok (.ireturn, 1) → W p l e (gR 3 0 0) s m #[.ref (ad 0 1000)] below meth c H locs 0 0 (MQ below (va_Qi (zQi Q) (gAt D dA A (zR dA ad)) A) #[.ref (ad 0 1000)] s 0 0 A) (F0 m pc ls [.int (Int32.ofInt v)]) := fun v σ H locs ls pc hv hw hP hD hS hd => g_iret hx hb hr (z_nb hv) hlocks hK σ hP hD hS ⟨v, rfl, hw⟩ (Nat.le_of_ble_eq_true rfl) (Nat.le_of_ble_eq_true rfl) hd
  generalize MQ below (va_Qi (zQi Q) (gAt D dA A (zR dA ad)) A) #[.ref (ad 0 1000)] s 0 0 A = QQ at hret ⊢
  have j50 : ∀ (σ : ZS), ∀ (H : Heap) (locs : List Loc) (ls : Array Slot), va_P D vwC (zR dA ad σ) H → va_D A (zR dA ad σ) → va_S A s.heap H locs → lv_has ls 1 [(0, .ref (ad 0 1000))] → wpX11_value_50 σ Q → W p l e (gR 3 0 0) s m #[.ref (ad 0 1000)] below meth c H locs 0 0 QQ (F0 m 50 ls []) := by
    intro σ H locs ls hP hD hS hl hw
    unfold wpX11_value_50 at hw
    refine lv_aload_n hx hb dX11_value_50 rfl (lv_at hl 0 rfl) ?_
    refine z_Vi (n := 0) (As := []) (rest := []) hx hb hml hg hown hK hP hD hS hA (kX11_isName l D dA ad σ _ _ hw) (zoR0) rfl q1915 q160 q1912 q1914 q82 (by decide +kernel) ⟨(Nat.le_of_ble_eq_true rfl), (Nat.le_of_ble_eq_true rfl)⟩ rfl hl.1 rfl (Nat.le_of_ble_eq_true rfl) dX11_value_51 ⟨(Nat.le_of_ble_eq_true rfl), (Nat.le_of_ble_eq_true rfl)⟩ (fun x1 σ2 H locs hw hP hD hS => ?_)
    obtain ⟨o3, hw⟩ := hw
    refine z_if_ne (tgt := 62) hx hb o3 dX11_value_54 (by decide) (fun k4 => ?_) (fun k4 => ?_)
    · replace hw := hw.1 k4
      refine lv_aload_n hx hb dX11_value_62 rfl (lv_at hl 0 rfl) ?_
      refine lv_aload_n hx hb dX11_value_63 rfl (lv_at hl 0 rfl) ?_
      refine z_Vi (n := 0) (As := []) (rest := [.ref (ad 0 1000)]) hx hb hml hg hown hK hP hD hS hA (kX11_name l D dA ad σ2 _ _ hw) (zoR0) rfl q1923 q160 q1920 q1922 q84 (by decide +kernel) ⟨(Nat.le_of_ble_eq_true rfl), (Nat.le_of_ble_eq_true rfl)⟩ rfl hl.1 rfl (Nat.le_of_ble_eq_true rfl) dX11_value_64 ⟨(Nat.le_of_ble_eq_true rfl), (Nat.le_of_ble_eq_true rfl)⟩ (fun x5 σ6 H locs hw hP hD hS => ?_)
      refine zpR0_39 (v := x5) hx hb hg hown hK hP hD hS q1654 dX11_value_67 (fun H locs hP hD hS => ?_)
      refine lv_aload_n hx hb dX11_value_70 rfl (lv_at hl 0 rfl) ?_
      refine lv_aload_n hx hb dX11_value_71 rfl (lv_at hl 0 rfl) ?_
      refine zgR0_6 hx hb hg hown hK hP q1621 dX11_value_72 ?_
      refine g_nrm (y := Int32.ofInt (zI σ6 0 6)) rfl ?_
      refine zpR0_40 (v := (zI σ6 0 6)) hx hb hg hown hK hP hD hS q1655 dX11_value_75 (fun H locs hP hD hS => ?_)
      refine lv_aload_n hx hb dX11_value_78 rfl (lv_at hl 0 rfl) ?_
      refine lv_iconst (v := Int32.ofInt 1) hx hb dX11_value_79 (by decide) ?_
      refine lv_aload_n hx hb dX11_value_80 rfl (lv_at hl 0 rfl) ?_
      refine zgR0_39 hx hb hg hown hK hP q1654 dX11_value_81 ?_
      refine g_nrm (y := Int32.ofInt x5) rfl ?_
      refine lv_aload_n hx hb dX11_value_84 rfl (lv_at hl 0 rfl) ?_
      refine zgR0_40 hx hb hg hown hK hP q1655 dX11_value_85 ?_
      refine g_nrm (y := Int32.ofInt (zI σ6 0 6)) rfl ?_
      refine z_Vv (n := 3) (As := [.int (Int32.ofInt 1), .int (Int32.ofInt x5), .int (Int32.ofInt (zI σ6 0 6))]) (rest := []) hx hb hml hg hown hK hP hD hS hA (kX11_use l D dA ad 1 x5 (zI σ6 0 6) (zsI (zsI σ6 0 39 x5) 0 40 (zI σ6 0 6)) _ _ hw) (zoR0) rfl q1959 q160 q1956 q1958 q93 (by decide +kernel) ⟨(Nat.le_of_ble_eq_true rfl), (Nat.le_of_ble_eq_true rfl)⟩ rfl hl.1 rfl (Nat.le_of_ble_eq_true rfl) dX11_value_88 ⟨(Nat.le_of_ble_eq_true rfl), (Nat.le_of_ble_eq_true rfl)⟩ (fun σ8 H locs hw hP hD hS => ?_)
      refine lv_aload_n hx hb dX11_value_91 rfl (lv_at hl 0 rfl) ?_
      refine z_Vv (n := 0) (As := []) (rest := []) hx hb hml hg hown hK hP hD hS hA (kX11_next l D dA ad σ8 _ _ hw) (zoR0) rfl q1895 q160 q1892 q1894 q79 (by decide +kernel) ⟨(Nat.le_of_ble_eq_true rfl), (Nat.le_of_ble_eq_true rfl)⟩ rfl hl.1 rfl (Nat.le_of_ble_eq_true rfl) dX11_value_92 ⟨(Nat.le_of_ble_eq_true rfl), (Nat.le_of_ble_eq_true rfl)⟩ (fun σ10 H locs hw hP hD hS => ?_)
      refine lv_iconst (v := Int32.ofInt 1) hx hb dX11_value_95 (by decide) ?_
      exact hret 1 σ10 _ _ _ _ (by decide) hw hP hD hS dX11_value_96
    · replace hw := hw.2 k4
      refine lv_aload_n hx hb dX11_value_57 rfl (lv_at hl 0 rfl) ?_
      refine z_Vi (n := 0) (As := []) (rest := []) hx hb hml hg hown hK hP hD hS hA (kX11_fault l D dA ad σ2 _ _ hw) (zoR0) rfl q1919 q160 q1916 q1918 q83 (by decide +kernel) ⟨(Nat.le_of_ble_eq_true rfl), (Nat.le_of_ble_eq_true rfl)⟩ rfl hl.1 rfl (Nat.le_of_ble_eq_true rfl) dX11_value_58 ⟨(Nat.le_of_ble_eq_true rfl), (Nat.le_of_ble_eq_true rfl)⟩ (fun x11 σ12 H locs hw hP hD hS => ?_)
      obtain ⟨o13, hw⟩ := hw
      exact hret x11 σ12 _ _ _ _ o13 hw hP hD hS dX11_value_61
  unfold wpX11_value at hw
  refine lv_aload_n hx hb dX11_value_0 rfl (lv_at hl 0 rfl) ?_
  refine lv_iconst (v := Int32.ofInt 3) hx hb dX11_value_1 (by decide) ?_
  refine zpR0_37 (v := 3) hx hb hg hown hK hP hD hS q1652 dX11_value_2 (fun H locs hP hD hS => ?_)
  refine lv_aload_n hx hb dX11_value_5 rfl (lv_at hl 0 rfl) ?_
  refine lv_aload_n hx hb dX11_value_6 rfl (lv_at hl 0 rfl) ?_
  refine zgR0_10 hx hb hg hown hK hP q1625 dX11_value_7 ?_
  refine g_nrm (y := Int32.ofInt (zI σ 0 10)) rfl ?_
  refine zpR0_38 (v := (zI σ 0 10)) hx hb hg hown hK hP hD hS q1653 dX11_value_10 (fun H locs hP hD hS => ?_)
  refine lv_aload_n hx hb dX11_value_13 rfl (lv_at hl 0 rfl) ?_
  refine zgR0_7 hx hb hg hown hK hP q1622 dX11_value_14 ?_
  refine g_nrm (y := Int32.ofInt (zI σ 0 7)) rfl ?_
  refine lv_iconst (v := Int32.ofInt 2) hx hb dX11_value_17 (by decide) ?_
  obtain ⟨o14, hw⟩ := hw
  refine z_icmp_ne (tgt := 27) hx hb o14 (by decide) dX11_value_18 (by decide) (fun k15 => ?_) (fun k15 => ?_)
  · replace hw := hw.1 k15
    refine lv_aload_n hx hb dX11_value_27 rfl (lv_at hl 0 rfl) ?_
    refine lv_iconst (v := Int32.ofInt 4) hx hb dX11_value_28 (by decide) ?_
    refine zpR0_37 (v := 4) hx hb hg hown hK hP hD hS q1652 dX11_value_29 (fun H locs hP hD hS => ?_)
    refine lv_aload_n hx hb dX11_value_32 rfl (lv_at hl 0 rfl) ?_
    refine zgR0_7 hx hb hg hown hK hP q1622 dX11_value_33 ?_
    refine g_nrm (y := Int32.ofInt (zI σ 0 7)) rfl ?_
    refine lv_bipush (v := Int32.ofInt 64) hx hb dX11_value_36 (by decide) ?_
    refine z_icmp_ne (tgt := 50) hx hb o14 (by decide) dX11_value_38 (by decide) (fun k16 => ?_) (fun k16 => ?_)
    · replace hw := hw.1 k16
      exact j50 (zsI (zsI (zsI σ 0 37 3) 0 38 (zI σ 0 10)) 0 37 4) _ _ _ hP hD hS (lv_sub hl [0] rfl) hw
    · replace hw := hw.2 k16
      refine lv_aload_n hx hb dX11_value_41 rfl (lv_at hl 0 rfl) ?_
      refine lv_iconst (v := Int32.ofInt 5) hx hb dX11_value_42 (by decide) ?_
      refine zpR0_37 (v := 5) hx hb hg hown hK hP hD hS q1652 dX11_value_43 (fun H locs hP hD hS => ?_)
      refine lv_aload_n hx hb dX11_value_46 rfl (lv_at hl 0 rfl) ?_
      refine z_Vv (n := 0) (As := []) (rest := []) hx hb hml hg hown hK hP hD hS hA (kX11_next l D dA ad (zsI (zsI (zsI (zsI σ 0 37 3) 0 38 (zI σ 0 10)) 0 37 4) 0 37 5) _ _ hw) (zoR0) rfl q1895 q160 q1892 q1894 q79 (by decide +kernel) ⟨(Nat.le_of_ble_eq_true rfl), (Nat.le_of_ble_eq_true rfl)⟩ rfl hl.1 rfl (Nat.le_of_ble_eq_true rfl) dX11_value_47 ⟨(Nat.le_of_ble_eq_true rfl), (Nat.le_of_ble_eq_true rfl)⟩ (fun σ18 H locs hw hP hD hS => ?_)
      exact j50 σ18 _ _ _ hP hD hS (lv_sub hl [0] rfl) hw
  · replace hw := hw.2 k15
    refine lv_aload_n hx hb dX11_value_21 rfl (lv_at hl 0 rfl) ?_
    refine z_Vv (n := 0) (As := []) (rest := []) hx hb hml hg hown hK hP hD hS hA (kX11_next l D dA ad (zsI (zsI σ 0 37 3) 0 38 (zI σ 0 10)) _ _ hw) (zoR0) rfl q1895 q160 q1892 q1894 q79 (by decide +kernel) ⟨(Nat.le_of_ble_eq_true rfl), (Nat.le_of_ble_eq_true rfl)⟩ rfl hl.1 rfl (Nat.le_of_ble_eq_true rfl) dX11_value_22 ⟨(Nat.le_of_ble_eq_true rfl), (Nat.le_of_ble_eq_true rfl)⟩ (fun σ20 H locs hw hP hD hS => ?_)
    refine lv_iconst (v := Int32.ofInt 1) hx hb dX11_value_25 (by decide) ?_
    exact hret 1 σ20 _ _ _ _ (by decide) hw hP hD hS dX11_value_26
def wpX11_emitValue_45 (σ : ZS) (Q : ZS → Prop) : Prop := Q σ
def wpX11_emitValue_36 (s1 : Int) (σ : ZS) (Q : ZS → Prop) : Prop := wpX11_piece s1 (zI σ 0 39) 0 0 σ (fun (σ2 : ZS) => wpX11_emitValue_45 σ2 Q)
def wpX11_emitValue (σ : ZS) (Q : ZS → Prop) : Prop := (-2147483648 ≤ (zI σ 0 37) ∧ (zI σ 0 37) ≤ 2147483647) ∧ (¬ (zI σ 0 37) = 3 → (¬ (zI σ 0 37) = 4 → wpX11_emitValue_36 3 σ Q) ∧ ((zI σ 0 37) = 4 → wpX11_emitValue_36 2 σ Q)) ∧ ((zI σ 0 37) = 3 → wpX11_piece 1 (zI σ 0 38) 0 0 σ (fun (σ7 : ZS) => wpX11_emitValue_45 σ7 Q))
set_option maxHeartbeats 4000000 in
set_option maxRecDepth 100000 in
theorem kX11_emitValue (l : Launch) (D : va_G) (dA : Nat → ClassId) (ad : Int → Nat → Nat) (σ : ZS) (Q : ZS → Prop) (sz : Nat) (hw : wpX11_emitValue σ Q) : Met l yX11_emitValue (gws yX11_emitValue cX11_emitValue 1 none) (gR 2 0 0) (gPre D dA [.ref (ad 0 1000)] (zR dA ad σ) sz) (va_Qv Q (gAt D dA (va_A (zR dA ad σ) sz) (zR dA ad)) (va_A (zR dA ad σ) sz)) 0 0 (va_A (zR dA ad σ) sz) := by
  refine Met.ofW (cc := cX11_emitValue) (maxL := 1) (ret := none) (by decide) rfl ?_
  intro p e s m args below meth c s₁ B hml hv
  obtain ⟨rfl, hsz, hP, hK, hD0⟩ := hv
  have hx := B.exec
  have hb := B.bytes
  have hr := B.returns
  have hts := atoms_spec (ws := gws yX11_emitValue cX11_emitValue 1 none) B.pre
  have hg : ∀ w ∈ gw, w.before _ s = true := fun w h => hts w (List.mem_cons_of_mem _ h)
  have hown : s.vm.findClass RX11 = some m.cls := findClass_of_methodNamed B.named
  have hlocks := B.notSynchronized
  subst hsz
  have hD := hD0.self (sz := s.heap.size)
  generalize hAe : va_A (zR dA ad σ) s.heap.size = A at hD ⊢
  have hA : ∀ q : Nat, s.heap.size ≤ q → A q := fun q h => by rw [← hAe]; exact Or.inr h
  have hS : va_S A s.heap s.heap [] := va_S.rf
  have hl := lv_entry ([.ref (ad 0 1000)]) (n := 1) (Nat.le_of_ble_eq_true rfl)
  rw [lg_entry_eq]
  generalize (lg_sl ([.ref (ad 0 1000)]) ++ List.replicate (1 - (lg_sl ([.ref (ad 0 1000)])).length) Slot.unset).toArray = ls at hl ⊢
  have hl : lv_has ls 1 [(0, .ref (ad 0 1000))] := hl
  have hret : ∀ (σ : ZS) (H : Heap) (locs : List Loc) (ls : Array Slot) (pc : Nat), Q σ → va_P D vwC (zR dA ad σ) H → va_D A (zR dA ad σ) → va_S A s.heap H locs → decode cX11_emitValue pc = .ok (.return_, 1) → W p l e (gR 2 0 0) s m #[.ref (ad 0 1000)] below meth c H locs 0 0 (MQ below (va_Qv Q (gAt D dA A (zR dA ad)) A) #[.ref (ad 0 1000)] s 0 0 A) (F0 m pc ls []) := fun σ H locs ls pc hw hP hD hS hd => g_vret hx hb hr hlocks hK σ hP hD hS hw (Nat.le_of_ble_eq_true rfl) (Nat.le_of_ble_eq_true rfl) hd
  generalize MQ below (va_Qv Q (gAt D dA A (zR dA ad)) A) #[.ref (ad 0 1000)] s 0 0 A = QQ at hret ⊢
  have j45 : ∀ (σ : ZS), ∀ (H : Heap) (locs : List Loc) (ls : Array Slot), va_P D vwC (zR dA ad σ) H → va_D A (zR dA ad σ) → va_S A s.heap H locs → lv_has ls 1 [] → wpX11_emitValue_45 σ Q → W p l e (gR 2 0 0) s m #[.ref (ad 0 1000)] below meth c H locs 0 0 QQ (F0 m 45 ls []) := by
    intro σ H locs ls hP hD hS hl hw
    unfold wpX11_emitValue_45 at hw
    exact hret σ _ _ _ _ hw hP hD hS dX11_emitValue_45
  have j36 : ∀ (s1 : Int) (σ : ZS), ∀ (H : Heap) (locs : List Loc) (ls : Array Slot), va_P D vwC (zR dA ad σ) H → va_D A (zR dA ad σ) → va_S A s.heap H locs → lv_has ls 1 [(0, .ref (ad 0 1000))] → wpX11_emitValue_36 s1 σ Q → W p l e (gR 2 0 0) s m #[.ref (ad 0 1000)] below meth c H locs 0 0 QQ (F0 m 36 ls [.int (Int32.ofInt s1), .ref (ad 0 1000)]) := by
    intro s1 σ H locs ls hP hD hS hl hw
    unfold wpX11_emitValue_36 at hw
    refine lv_aload_n hx hb dX11_emitValue_36 rfl (lv_at hl 0 rfl) ?_
    refine zgR0_39 hx hb hg hown hK hP q1654 dX11_emitValue_37 ?_
    refine lv_iconst (v := Int32.ofInt 0) hx hb dX11_emitValue_40 (by decide) ?_
    refine lv_iconst (v := Int32.ofInt 0) hx hb dX11_emitValue_41 (by decide) ?_
    refine z_Vv (n := 4) (As := [.int (Int32.ofInt s1), .int (Int32.ofInt (zI σ 0 39)), .int (Int32.ofInt 0), .int (Int32.ofInt 0)]) (rest := []) hx hb hml hg hown hK hP hD hS hA (kX11_piece l D dA ad s1 (zI σ 0 39) 0 0 σ _ _ hw) (zoR0) rfl q1939 q160 q1936 q1938 q88 (by decide +kernel) ⟨(Nat.le_of_ble_eq_true rfl), (Nat.le_of_ble_eq_true rfl)⟩ rfl hl.1 rfl (Nat.le_of_ble_eq_true rfl) dX11_emitValue_42 ⟨(Nat.le_of_ble_eq_true rfl), (Nat.le_of_ble_eq_true rfl)⟩ (fun σ2 H locs hw hP hD hS => ?_)
    exact j45 σ2 _ _ _ hP hD hS (lv_sub hl [] rfl) hw
  unfold wpX11_emitValue at hw
  refine lv_aload_n hx hb dX11_emitValue_0 rfl (lv_at hl 0 rfl) ?_
  refine zgR0_37 hx hb hg hown hK hP q1652 dX11_emitValue_1 ?_
  refine lv_iconst (v := Int32.ofInt 3) hx hb dX11_emitValue_4 (by decide) ?_
  obtain ⟨o3, hw⟩ := hw
  refine z_icmp_ne (tgt := 22) hx hb o3 (by decide) dX11_emitValue_5 (by decide) (fun k4 => ?_) (fun k4 => ?_)
  · replace hw := hw.1 k4
    refine lv_aload_n hx hb dX11_emitValue_22 rfl (lv_at hl 0 rfl) ?_
    refine lv_aload_n hx hb dX11_emitValue_23 rfl (lv_at hl 0 rfl) ?_
    refine zgR0_37 hx hb hg hown hK hP q1652 dX11_emitValue_24 ?_
    refine lv_iconst (v := Int32.ofInt 4) hx hb dX11_emitValue_27 (by decide) ?_
    refine z_icmp_ne (tgt := 35) hx hb o3 (by decide) dX11_emitValue_28 (by decide) (fun k5 => ?_) (fun k5 => ?_)
    · replace hw := hw.1 k5
      refine lv_iconst (v := Int32.ofInt 3) hx hb dX11_emitValue_35 (by decide) ?_
      exact j36 3 σ _ _ _ hP hD hS (lv_sub hl [0] rfl) hw
    · replace hw := hw.2 k5
      refine lv_iconst (v := Int32.ofInt 2) hx hb dX11_emitValue_31 (by decide) ?_
      refine lv_goto (tgt := 36) hx hb dX11_emitValue_32 (by decide) ?_
      exact j36 2 σ _ _ _ hP hD hS (lv_sub hl [0] rfl) hw
  · replace hw := hw.2 k4
    refine lv_aload_n hx hb dX11_emitValue_8 rfl (lv_at hl 0 rfl) ?_
    refine lv_iconst (v := Int32.ofInt 1) hx hb dX11_emitValue_9 (by decide) ?_
    refine lv_aload_n hx hb dX11_emitValue_10 rfl (lv_at hl 0 rfl) ?_
    refine zgR0_38 hx hb hg hown hK hP q1653 dX11_emitValue_11 ?_
    refine lv_iconst (v := Int32.ofInt 0) hx hb dX11_emitValue_14 (by decide) ?_
    refine lv_iconst (v := Int32.ofInt 0) hx hb dX11_emitValue_15 (by decide) ?_
    refine z_Vv (n := 4) (As := [.int (Int32.ofInt 1), .int (Int32.ofInt (zI σ 0 38)), .int (Int32.ofInt 0), .int (Int32.ofInt 0)]) (rest := []) hx hb hml hg hown hK hP hD hS hA (kX11_piece l D dA ad 1 (zI σ 0 38) 0 0 σ _ _ hw) (zoR0) rfl q1939 q160 q1936 q1938 q88 (by decide +kernel) ⟨(Nat.le_of_ble_eq_true rfl), (Nat.le_of_ble_eq_true rfl)⟩ rfl hl.1 rfl (Nat.le_of_ble_eq_true rfl) dX11_emitValue_16 ⟨(Nat.le_of_ble_eq_true rfl), (Nat.le_of_ble_eq_true rfl)⟩ (fun σ7 H locs hw hP hD hS => ?_)
    refine lv_goto (tgt := 45) hx hb dX11_emitValue_19 (by decide) ?_
    exact j45 σ7 _ _ _ hP hD hS (lv_sub hl [] rfl) hw
def wpX11_data_76 (σ : ZS) (Q : Int → ZS → Prop) : Prop := wpX11_fault σ (fun (x1 : Int) (σ2 : ZS) => (0 ≤ x1 ∧ x1 ≤ 1) ∧ Q x1 σ2)
def wpX11_data_123 (K48 : Int → ZS → Prop) (v1 s0 : Int) (σ : ZS) (Q : Int → ZS → Prop) : Prop := (-2147483648 ≤ s0 ∧ s0 ≤ 2147483647) ∧ (s0 = 0 → K48 s0 σ) ∧ (¬ s0 = 0 → wpX11_next σ (fun (σ7 : ZS) => K48 s0 σ7))
def wpX11_data_109 (K48 : Int → ZS → Prop) (v1 : Int) (σ : ZS) (Q : Int → ZS → Prop) : Prop := (-2147483648 ≤ (zI σ 0 7) ∧ (zI σ 0 7) ≤ 2147483647) ∧ (¬ (zI σ 0 7) = 44 → wpX11_data_123 K48 v1 0 σ Q) ∧ ((zI σ 0 7) = 44 → wpX11_data_123 K48 v1 1 σ Q)
def wpbX11_data_48 (K48 : Int → ZS → Prop) (v1 v2 : Int) (σ : ZS) (Q : Int → ZS → Prop) : Prop := (-2147483648 ≤ v2 ∧ v2 ≤ 2147483647) ∧ (v2 = 0 → Q 1 σ) ∧ (¬ v2 = 0 → (-2147483648 ≤ v1 ∧ v1 ≤ 2147483647) ∧ (¬ v1 = 16 → wpX11_value σ (fun (x14 : Int) (σ15 : ZS) => (-2147483648 ≤ x14 ∧ x14 ≤ 2147483647) ∧ (¬ x14 = 0 → wpX11_emitValue σ15 (fun (σ19 : ZS) => wpX11_data_109 K48 v1 σ19 Q)) ∧ (x14 = 0 → Q 0 σ15))) ∧ (v1 = 16 → (-2147483648 ≤ (zI σ 0 7) ∧ (zI σ 0 7) ≤ 2147483647) ∧ (¬ (zI σ 0 7) = 2 → wpX11_data_76 σ Q) ∧ ((zI σ 0 7) = 2 → (-2147483648 ≤ (zI σ 0 10) ∧ (zI σ 0 10) ≤ 2147483647) ∧ ((zI σ 0 10) ≤ 255 → wpX11_octet (zI σ 0 10) σ (fun (σ25 : ZS) => wpX11_next σ25 (fun (σ27 : ZS) => wpX11_data_109 K48 v1 σ27 Q))) ∧ (¬ (zI σ 0 10) ≤ 255 → wpX11_data_76 σ Q))))
def wpX11_data_48 (v1 v2 : Int) (σ : ZS) (Q : Int → ZS → Prop) : Prop := lfp1 (fun K48 v2 σ => wpbX11_data_48 K48 v1 v2 σ Q) v2 σ
def wpX11_data_23 (σ : ZS) (Q : Int → ZS → Prop) : Prop := wpX11_fault σ (fun (x28 : Int) (σ29 : ZS) => (0 ≤ x28 ∧ x28 ≤ 1) ∧ Q x28 σ29)
def wpX11_data (a1 : Int) (σ : ZS) (Q : Int → ZS → Prop) : Prop := (-2147483648 ≤ a1 ∧ a1 ≤ 2147483647) ∧ (¬ a1 = 17 → wpX11_data_48 a1 1 σ Q) ∧ (a1 = 17 → (-2147483648 ≤ (zI σ 0 7) ∧ (zI σ 0 7) ≤ 2147483647) ∧ (¬ (zI σ 0 7) = 2 → wpX11_data_23 σ Q) ∧ ((zI σ 0 7) = 2 → (-2147483648 ≤ (zI σ 0 10) ∧ (zI σ 0 10) ≤ 2147483647) ∧ ((zI σ 0 10) ≤ 64 → wpX11_piece 8 (zI σ 0 10) 0 0 σ (fun (σ38 : ZS) => wpX11_next σ38 (fun (σ40 : ZS) => Q 1 σ40))) ∧ (¬ (zI σ 0 10) ≤ 64 → wpX11_data_23 σ Q)))
set_option maxHeartbeats 4000000 in
set_option maxRecDepth 100000 in
theorem kX11_data (l : Launch) (D : va_G) (dA : Nat → ClassId) (ad : Int → Nat → Nat) (a1 : Int) (σ : ZS) (Q : Int → ZS → Prop) (sz : Nat) (hw : wpX11_data a1 σ Q) : Met l yX11_data (gws yX11_data cX11_data 3 (some .boolean)) (gR 4 0 0) (gPre D dA [.ref (ad 0 1000), .int (Int32.ofInt a1)] (zR dA ad σ) sz) (va_Qi (zQi Q) (gAt D dA (va_A (zR dA ad σ) sz) (zR dA ad)) (va_A (zR dA ad σ) sz)) 0 0 (va_A (zR dA ad σ) sz) := by
  refine Met.ofW (cc := cX11_data) (maxL := 3) (ret := (some .boolean)) (by decide) rfl ?_
  intro p e s m args below meth c s₁ B hml hv
  obtain ⟨rfl, hsz, hP, hK, hD0⟩ := hv
  have hx := B.exec
  have hb := B.bytes
  have hr := B.returns
  have hts := atoms_spec (ws := gws yX11_data cX11_data 3 (some .boolean)) B.pre
  have hg : ∀ w ∈ gw, w.before _ s = true := fun w h => hts w (List.mem_cons_of_mem _ h)
  have hown : s.vm.findClass RX11 = some m.cls := findClass_of_methodNamed B.named
  have hlocks := B.notSynchronized
  subst hsz
  have hD := hD0.self (sz := s.heap.size)
  generalize hAe : va_A (zR dA ad σ) s.heap.size = A at hD ⊢
  have hA : ∀ q : Nat, s.heap.size ≤ q → A q := fun q h => by rw [← hAe]; exact Or.inr h
  have hS : va_S A s.heap s.heap [] := va_S.rf
  have hl := lv_entry ([.ref (ad 0 1000), .int (Int32.ofInt a1)]) (n := 3) (Nat.le_of_ble_eq_true rfl)
  rw [lg_entry_eq]
  generalize (lg_sl ([.ref (ad 0 1000), .int (Int32.ofInt a1)]) ++ List.replicate (3 - (lg_sl ([.ref (ad 0 1000), .int (Int32.ofInt a1)])).length) Slot.unset).toArray = ls at hl ⊢
  have hl : lv_has ls 3 [(0, .ref (ad 0 1000)), (1, .int (Int32.ofInt a1))] := hl
  have hret : ∀ (v : Int) (σ : ZS) (H : Heap) (locs : List Loc) (ls : Array Slot) (pc : Nat), (0 ≤ v ∧ v ≤ 1) → Q v σ → va_P D vwC (zR dA ad σ) H → va_D A (zR dA ad σ) → va_S A s.heap H locs → decode cX11_data pc = .ok (.ireturn, 1) → W p l e (gR 4 0 0) s m #[.ref (ad 0 1000), .int (Int32.ofInt a1)] below meth c H locs 0 0 (MQ below (va_Qi (zQi Q) (gAt D dA A (zR dA ad)) A) #[.ref (ad 0 1000), .int (Int32.ofInt a1)] s 0 0 A) (F0 m pc ls [.int (Int32.ofInt v)]) := fun v σ H locs ls pc hv hw hP hD hS hd => g_iret hx hb hr (z_nb hv) hlocks hK σ hP hD hS ⟨v, rfl, hw⟩ (Nat.le_of_ble_eq_true rfl) (Nat.le_of_ble_eq_true rfl) hd
  generalize MQ below (va_Qi (zQi Q) (gAt D dA A (zR dA ad)) A) #[.ref (ad 0 1000), .int (Int32.ofInt a1)] s 0 0 A = QQ at hret ⊢
  have j76 : ∀ (σ : ZS), ∀ (H : Heap) (locs : List Loc) (ls : Array Slot), va_P D vwC (zR dA ad σ) H → va_D A (zR dA ad σ) → va_S A s.heap H locs → lv_has ls 3 [(0, .ref (ad 0 1000))] → wpX11_data_76 σ Q → W p l e (gR 4 0 0) s m #[.ref (ad 0 1000), .int (Int32.ofInt a1)] below meth c H locs 0 0 QQ (F0 m 76 ls []) := by
    intro σ H locs ls hP hD hS hl hw
    unfold wpX11_data_76 at hw
    refine lv_aload_n hx hb dX11_data_76 rfl (lv_at hl 0 rfl) ?_
    refine z_Vi (n := 0) (As := []) (rest := []) hx hb hml hg hown hK hP hD hS hA (kX11_fault l D dA ad σ _ _ hw) (zoR0) rfl q1919 q160 q1916 q1918 q83 (by decide +kernel) ⟨(Nat.le_of_ble_eq_true rfl), (Nat.le_of_ble_eq_true rfl)⟩ rfl hl.1 rfl (Nat.le_of_ble_eq_true rfl) dX11_data_77 ⟨(Nat.le_of_ble_eq_true rfl), (Nat.le_of_ble_eq_true rfl)⟩ (fun x1 σ2 H locs hw hP hD hS => ?_)
    obtain ⟨o3, hw⟩ := hw
    exact hret x1 σ2 _ _ _ _ o3 hw hP hD hS dX11_data_80
  have b48 : ∀ (v1 : Int) (K48 : Int → ZS → Prop), (∀ (v2 : Int) (σ : ZS), K48 v2 σ → ∀ (H : Heap) (locs : List Loc) (ls : Array Slot), va_P D vwC (zR dA ad σ) H → va_D A (zR dA ad σ) → va_S A s.heap H locs → lv_has ls 3 [(0, .ref (ad 0 1000)), (1, .int (Int32.ofInt v1)), (2, .int (Int32.ofInt v2))] → W p l e (gR 4 0 0) s m #[.ref (ad 0 1000), .int (Int32.ofInt a1)] below meth c H locs 0 0 QQ (F0 m 48 ls [])) → ∀ (v2 : Int) (σ : ZS), wpbX11_data_48 K48 v1 v2 σ Q → ∀ (H : Heap) (locs : List Loc) (ls : Array Slot), va_P D vwC (zR dA ad σ) H → va_D A (zR dA ad σ) → va_S A s.heap H locs → lv_has ls 3 [(0, .ref (ad 0 1000)), (1, .int (Int32.ofInt v1)), (2, .int (Int32.ofInt v2))] → W p l e (gR 4 0 0) s m #[.ref (ad 0 1000), .int (Int32.ofInt a1)] below meth c H locs 0 0 QQ (F0 m 48 ls []) := by
    intro v1 K48 hK48
    have j123 : ∀ (s0 : Int) (σ : ZS), ∀ (H : Heap) (locs : List Loc) (ls : Array Slot), va_P D vwC (zR dA ad σ) H → va_D A (zR dA ad σ) → va_S A s.heap H locs → lv_has ls 3 [(0, .ref (ad 0 1000)), (1, .int (Int32.ofInt v1))] → wpX11_data_123 K48 v1 s0 σ Q → W p l e (gR 4 0 0) s m #[.ref (ad 0 1000), .int (Int32.ofInt a1)] below meth c H locs 0 0 QQ (F0 m 123 ls [.int (Int32.ofInt s0)]) := by
      intro s0 σ H locs ls hP hD hS hl hw
      unfold wpX11_data_123 at hw
      refine lv_istore_n (lv' := [(2, .int (Int32.ofInt s0)), (0, .ref (ad 0 1000)), (1, .int (Int32.ofInt v1))]) hx hb dX11_data_123 rfl hl (by decide) rfl (fun ls hl => ?_)
      refine lv_iload_n hx hb dX11_data_124 rfl (lv_at hl 0 rfl) ?_
      obtain ⟨o4, hw⟩ := hw
      refine z_if_eq (tgt := 48) hx hb o4 dX11_data_125 (by decide) (fun k5 => ?_) (fun k5 => ?_)
      · replace hw := hw.1 k5
        exact hK48 s0 σ hw _ _ _ hP hD hS (lv_sub hl [1, 2, 0] rfl)
      · replace hw := hw.2 k5
        refine lv_aload_n hx hb dX11_data_128 rfl (lv_at hl 1 rfl) ?_
        refine z_Vv (n := 0) (As := []) (rest := []) hx hb hml hg hown hK hP hD hS hA (kX11_next l D dA ad σ _ _ hw) (zoR0) rfl q1895 q160 q1892 q1894 q79 (by decide +kernel) ⟨(Nat.le_of_ble_eq_true rfl), (Nat.le_of_ble_eq_true rfl)⟩ rfl hl.1 rfl (Nat.le_of_ble_eq_true rfl) dX11_data_129 ⟨(Nat.le_of_ble_eq_true rfl), (Nat.le_of_ble_eq_true rfl)⟩ (fun σ7 H locs hw hP hD hS => ?_)
        refine lv_goto (tgt := 48) hx hb dX11_data_132 (by decide) ?_
        exact hK48 s0 σ7 hw _ _ _ hP hD hS (lv_sub hl [1, 2, 0] rfl)
    have j109 : ∀ (σ : ZS), ∀ (H : Heap) (locs : List Loc) (ls : Array Slot), va_P D vwC (zR dA ad σ) H → va_D A (zR dA ad σ) → va_S A s.heap H locs → lv_has ls 3 [(0, .ref (ad 0 1000)), (1, .int (Int32.ofInt v1))] → wpX11_data_109 K48 v1 σ Q → W p l e (gR 4 0 0) s m #[.ref (ad 0 1000), .int (Int32.ofInt a1)] below meth c H locs 0 0 QQ (F0 m 109 ls []) := by
      intro σ H locs ls hP hD hS hl hw
      unfold wpX11_data_109 at hw
      refine lv_aload_n hx hb dX11_data_109 rfl (lv_at hl 0 rfl) ?_
      refine zgR0_7 hx hb hg hown hK hP q1622 dX11_data_110 ?_
      refine lv_bipush (v := Int32.ofInt 44) hx hb dX11_data_113 (by decide) ?_
      obtain ⟨o8, hw⟩ := hw
      refine z_icmp_ne (tgt := 122) hx hb o8 (by decide) dX11_data_115 (by decide) (fun k9 => ?_) (fun k9 => ?_)
      · replace hw := hw.1 k9
        refine lv_iconst (v := Int32.ofInt 0) hx hb dX11_data_122 (by decide) ?_
        exact j123 0 σ _ _ _ hP hD hS (lv_sub hl [0, 1] rfl) hw
      · replace hw := hw.2 k9
        refine lv_iconst (v := Int32.ofInt 1) hx hb dX11_data_118 (by decide) ?_
        refine lv_goto (tgt := 123) hx hb dX11_data_119 (by decide) ?_
        exact j123 1 σ _ _ _ hP hD hS (lv_sub hl [0, 1] rfl) hw
    intro v2 σ hw H locs ls hP hD hS hl
    unfold wpbX11_data_48 at hw
    refine lv_iload_n hx hb dX11_data_48 rfl (lv_at hl 2 rfl) ?_
    obtain ⟨o10, hw⟩ := hw
    refine z_if_eq (tgt := 135) hx hb o10 dX11_data_49 (by decide) (fun k11 => ?_) (fun k11 => ?_)
    · replace hw := hw.1 k11
      refine lv_iconst (v := Int32.ofInt 1) hx hb dX11_data_135 (by decide) ?_
      exact hret 1 σ _ _ _ _ (by decide) hw hP hD hS dX11_data_136
    · replace hw := hw.2 k11
      refine lv_iload_n hx hb dX11_data_52 rfl (lv_at hl 1 rfl) ?_
      refine lv_bipush (v := Int32.ofInt 16) hx hb dX11_data_53 (by decide) ?_
      obtain ⟨o12, hw⟩ := hw
      refine z_icmp_ne (tgt := 96) hx hb o12 (by decide) dX11_data_55 (by decide) (fun k13 => ?_) (fun k13 => ?_)
      · replace hw := hw.1 k13
        refine lv_aload_n hx hb dX11_data_96 rfl (lv_at hl 0 rfl) ?_
        refine z_Vi (n := 0) (As := []) (rest := []) hx hb hml hg hown hK hP hD hS hA (kX11_value l D dA ad σ _ _ hw) (zoR0) rfl q1955 q160 q1952 q1954 q92 (by decide +kernel) ⟨(Nat.le_of_ble_eq_true rfl), (Nat.le_of_ble_eq_true rfl)⟩ rfl hl.1 rfl (Nat.le_of_ble_eq_true rfl) dX11_data_97 ⟨(Nat.le_of_ble_eq_true rfl), (Nat.le_of_ble_eq_true rfl)⟩ (fun x14 σ15 H locs hw hP hD hS => ?_)
        obtain ⟨o16, hw⟩ := hw
        refine z_if_ne (tgt := 105) hx hb o16 dX11_data_100 (by decide) (fun k17 => ?_) (fun k17 => ?_)
        · replace hw := hw.1 k17
          refine lv_aload_n hx hb dX11_data_105 rfl (lv_at hl 0 rfl) ?_
          refine z_Vv (n := 0) (As := []) (rest := []) hx hb hml hg hown hK hP hD hS hA (kX11_emitValue l D dA ad σ15 _ _ hw) (zoR0) rfl q1963 q160 q1960 q1962 q94 (by decide +kernel) ⟨(Nat.le_of_ble_eq_true rfl), (Nat.le_of_ble_eq_true rfl)⟩ rfl hl.1 rfl (Nat.le_of_ble_eq_true rfl) dX11_data_106 ⟨(Nat.le_of_ble_eq_true rfl), (Nat.le_of_ble_eq_true rfl)⟩ (fun σ19 H locs hw hP hD hS => ?_)
          exact j109 σ19 _ _ _ hP hD hS (lv_sub hl [0, 1] rfl) hw
        · replace hw := hw.2 k17
          refine lv_iconst (v := Int32.ofInt 0) hx hb dX11_data_103 (by decide) ?_
          exact hret 0 σ15 _ _ _ _ (by decide) hw hP hD hS dX11_data_104
      · replace hw := hw.2 k13
        refine lv_aload_n hx hb dX11_data_58 rfl (lv_at hl 0 rfl) ?_
        refine zgR0_7 hx hb hg hown hK hP q1622 dX11_data_59 ?_
        refine lv_iconst (v := Int32.ofInt 2) hx hb dX11_data_62 (by decide) ?_
        obtain ⟨o20, hw⟩ := hw
        refine z_icmp_ne (tgt := 76) hx hb o20 (by decide) dX11_data_63 (by decide) (fun k21 => ?_) (fun k21 => ?_)
        · replace hw := hw.1 k21
          exact j76 σ _ _ _ hP hD hS (lv_sub hl [0] rfl) hw
        · replace hw := hw.2 k21
          refine lv_aload_n hx hb dX11_data_66 rfl (lv_at hl 0 rfl) ?_
          refine zgR0_10 hx hb hg hown hK hP q1625 dX11_data_67 ?_
          refine lv_sipush (v := Int32.ofInt 255) hx hb dX11_data_70 (by decide) ?_
          obtain ⟨o22, hw⟩ := hw
          refine z_icmp_le (tgt := 81) hx hb o22 (by decide) dX11_data_73 (by decide) (fun k23 => ?_) (fun k23 => ?_)
          · replace hw := hw.1 k23
            refine lv_aload_n hx hb dX11_data_81 rfl (lv_at hl 0 rfl) ?_
            refine lv_aload_n hx hb dX11_data_82 rfl (lv_at hl 0 rfl) ?_
            refine zgR0_10 hx hb hg hown hK hP q1625 dX11_data_83 ?_
            refine z_Vv (n := 1) (As := [.int (Int32.ofInt (zI σ 0 10))]) (rest := []) hx hb hml hg hown hK hP hD hS hA (kX11_octet l D dA ad (zI σ 0 10) σ _ _ hw) (zoR0) rfl q1951 q160 q1948 q1950 q91 (by decide +kernel) ⟨(Nat.le_of_ble_eq_true rfl), (Nat.le_of_ble_eq_true rfl)⟩ rfl hl.1 rfl (Nat.le_of_ble_eq_true rfl) dX11_data_86 ⟨(Nat.le_of_ble_eq_true rfl), (Nat.le_of_ble_eq_true rfl)⟩ (fun σ25 H locs hw hP hD hS => ?_)
            refine lv_aload_n hx hb dX11_data_89 rfl (lv_at hl 0 rfl) ?_
            refine z_Vv (n := 0) (As := []) (rest := []) hx hb hml hg hown hK hP hD hS hA (kX11_next l D dA ad σ25 _ _ hw) (zoR0) rfl q1895 q160 q1892 q1894 q79 (by decide +kernel) ⟨(Nat.le_of_ble_eq_true rfl), (Nat.le_of_ble_eq_true rfl)⟩ rfl hl.1 rfl (Nat.le_of_ble_eq_true rfl) dX11_data_90 ⟨(Nat.le_of_ble_eq_true rfl), (Nat.le_of_ble_eq_true rfl)⟩ (fun σ27 H locs hw hP hD hS => ?_)
            refine lv_goto (tgt := 109) hx hb dX11_data_93 (by decide) ?_
            exact j109 σ27 _ _ _ hP hD hS (lv_sub hl [0, 1] rfl) hw
          · replace hw := hw.2 k23
            exact j76 σ _ _ _ hP hD hS (lv_sub hl [0] rfl) hw
  have j48 : ∀ (v1 v2 : Int) (σ : ZS), ∀ (H : Heap) (locs : List Loc) (ls : Array Slot), va_P D vwC (zR dA ad σ) H → va_D A (zR dA ad σ) → va_S A s.heap H locs → lv_has ls 3 [(0, .ref (ad 0 1000)), (1, .int (Int32.ofInt v1)), (2, .int (Int32.ofInt v2))] → wpX11_data_48 v1 v2 σ Q → W p l e (gR 4 0 0) s m #[.ref (ad 0 1000), .int (Int32.ofInt a1)] below meth c H locs 0 0 QQ (F0 m 48 ls []) := by
    intro v1 v2 σ H locs ls hP hD hS hl hw
    exact hw (fun v2 σ => ∀ (H : Heap) (locs : List Loc) (ls : Array Slot), va_P D vwC (zR dA ad σ) H → va_D A (zR dA ad σ) → va_S A s.heap H locs → lv_has ls 3 [(0, .ref (ad 0 1000)), (1, .int (Int32.ofInt v1)), (2, .int (Int32.ofInt v2))] → W p l e (gR 4 0 0) s m #[.ref (ad 0 1000), .int (Int32.ofInt a1)] below meth c H locs 0 0 QQ (F0 m 48 ls [])) (b48 v1 (fun v2 σ => ∀ (H : Heap) (locs : List Loc) (ls : Array Slot), va_P D vwC (zR dA ad σ) H → va_D A (zR dA ad σ) → va_S A s.heap H locs → lv_has ls 3 [(0, .ref (ad 0 1000)), (1, .int (Int32.ofInt v1)), (2, .int (Int32.ofInt v2))] → W p l e (gR 4 0 0) s m #[.ref (ad 0 1000), .int (Int32.ofInt a1)] below meth c H locs 0 0 QQ (F0 m 48 ls [])) (fun v2 σ h => h)) _ _ _ hP hD hS hl
  have j23 : ∀ (σ : ZS), ∀ (H : Heap) (locs : List Loc) (ls : Array Slot), va_P D vwC (zR dA ad σ) H → va_D A (zR dA ad σ) → va_S A s.heap H locs → lv_has ls 3 [(0, .ref (ad 0 1000))] → wpX11_data_23 σ Q → W p l e (gR 4 0 0) s m #[.ref (ad 0 1000), .int (Int32.ofInt a1)] below meth c H locs 0 0 QQ (F0 m 23 ls []) := by
    intro σ H locs ls hP hD hS hl hw
    unfold wpX11_data_23 at hw
    refine lv_aload_n hx hb dX11_data_23 rfl (lv_at hl 0 rfl) ?_
    refine z_Vi (n := 0) (As := []) (rest := []) hx hb hml hg hown hK hP hD hS hA (kX11_fault l D dA ad σ _ _ hw) (zoR0) rfl q1919 q160 q1916 q1918 q83 (by decide +kernel) ⟨(Nat.le_of_ble_eq_true rfl), (Nat.le_of_ble_eq_true rfl)⟩ rfl hl.1 rfl (Nat.le_of_ble_eq_true rfl) dX11_data_24 ⟨(Nat.le_of_ble_eq_true rfl), (Nat.le_of_ble_eq_true rfl)⟩ (fun x28 σ29 H locs hw hP hD hS => ?_)
    obtain ⟨o30, hw⟩ := hw
    exact hret x28 σ29 _ _ _ _ o30 hw hP hD hS dX11_data_27
  unfold wpX11_data at hw
  refine lv_iload_n hx hb dX11_data_0 rfl (lv_at hl 1 rfl) ?_
  refine lv_bipush (v := Int32.ofInt 17) hx hb dX11_data_1 (by decide) ?_
  obtain ⟨o31, hw⟩ := hw
  refine z_icmp_ne (tgt := 46) hx hb o31 (by decide) dX11_data_3 (by decide) (fun k32 => ?_) (fun k32 => ?_)
  · replace hw := hw.1 k32
    refine lv_iconst (v := Int32.ofInt 1) hx hb dX11_data_46 (by decide) ?_
    refine lv_istore_n (lv' := [(2, .int (Int32.ofInt 1)), (0, .ref (ad 0 1000)), (1, .int (Int32.ofInt a1))]) hx hb dX11_data_47 rfl hl (by decide) rfl (fun ls hl => ?_)
    exact j48 a1 1 σ _ _ _ hP hD hS (lv_sub hl [1, 2, 0] rfl) hw
  · replace hw := hw.2 k32
    refine lv_aload_n hx hb dX11_data_6 rfl (lv_at hl 0 rfl) ?_
    refine zgR0_7 hx hb hg hown hK hP q1622 dX11_data_7 ?_
    refine lv_iconst (v := Int32.ofInt 2) hx hb dX11_data_10 (by decide) ?_
    obtain ⟨o33, hw⟩ := hw
    refine z_icmp_ne (tgt := 23) hx hb o33 (by decide) dX11_data_11 (by decide) (fun k34 => ?_) (fun k34 => ?_)
    · replace hw := hw.1 k34
      exact j23 σ _ _ _ hP hD hS (lv_sub hl [0] rfl) hw
    · replace hw := hw.2 k34
      refine lv_aload_n hx hb dX11_data_14 rfl (lv_at hl 0 rfl) ?_
      refine zgR0_10 hx hb hg hown hK hP q1625 dX11_data_15 ?_
      refine lv_bipush (v := Int32.ofInt 64) hx hb dX11_data_18 (by decide) ?_
      obtain ⟨o35, hw⟩ := hw
      refine z_icmp_le (tgt := 28) hx hb o35 (by decide) dX11_data_20 (by decide) (fun k36 => ?_) (fun k36 => ?_)
      · replace hw := hw.1 k36
        refine lv_aload_n hx hb dX11_data_28 rfl (lv_at hl 0 rfl) ?_
        refine lv_bipush (v := Int32.ofInt 8) hx hb dX11_data_29 (by decide) ?_
        refine lv_aload_n hx hb dX11_data_31 rfl (lv_at hl 0 rfl) ?_
        refine zgR0_10 hx hb hg hown hK hP q1625 dX11_data_32 ?_
        refine lv_iconst (v := Int32.ofInt 0) hx hb dX11_data_35 (by decide) ?_
        refine lv_iconst (v := Int32.ofInt 0) hx hb dX11_data_36 (by decide) ?_
        refine z_Vv (n := 4) (As := [.int (Int32.ofInt 8), .int (Int32.ofInt (zI σ 0 10)), .int (Int32.ofInt 0), .int (Int32.ofInt 0)]) (rest := []) hx hb hml hg hown hK hP hD hS hA (kX11_piece l D dA ad 8 (zI σ 0 10) 0 0 σ _ _ hw) (zoR0) rfl q1939 q160 q1936 q1938 q88 (by decide +kernel) ⟨(Nat.le_of_ble_eq_true rfl), (Nat.le_of_ble_eq_true rfl)⟩ rfl hl.1 rfl (Nat.le_of_ble_eq_true rfl) dX11_data_37 ⟨(Nat.le_of_ble_eq_true rfl), (Nat.le_of_ble_eq_true rfl)⟩ (fun σ38 H locs hw hP hD hS => ?_)
        refine lv_aload_n hx hb dX11_data_40 rfl (lv_at hl 0 rfl) ?_
        refine z_Vv (n := 0) (As := []) (rest := []) hx hb hml hg hown hK hP hD hS hA (kX11_next l D dA ad σ38 _ _ hw) (zoR0) rfl q1895 q160 q1892 q1894 q79 (by decide +kernel) ⟨(Nat.le_of_ble_eq_true rfl), (Nat.le_of_ble_eq_true rfl)⟩ rfl hl.1 rfl (Nat.le_of_ble_eq_true rfl) dX11_data_41 ⟨(Nat.le_of_ble_eq_true rfl), (Nat.le_of_ble_eq_true rfl)⟩ (fun σ40 H locs hw hP hD hS => ?_)
        refine lv_iconst (v := Int32.ofInt 1) hx hb dX11_data_44 (by decide) ?_
        exact hret 1 σ40 _ _ _ _ (by decide) hw hP hD hS dX11_data_45
      · replace hw := hw.2 k36
        exact j23 σ _ _ _ hP hD hS (lv_sub hl [0] rfl) hw
def wpX11_directive_153 (v2 v3 : Int) (σ : ZS) (Q : Int → ZS → Prop) : Prop := wpX11_open v2 (zI σ 0 10) v3 (zsI σ 0 33 1) (fun (σ2 : ZS) => wpX11_next σ2 (fun (σ4 : ZS) => Q 1 σ4))
def wpX11_directive_148 (σ : ZS) (Q : Int → ZS → Prop) : Prop := wpX11_fault σ (fun (x5 : Int) (σ6 : ZS) => (0 ≤ x5 ∧ x5 ≤ 1) ∧ Q x5 σ6)
def wpX11_directive_90 (v1 v2 v3 : Int) (σ : ZS) (Q : Int → ZS → Prop) : Prop := (-2147483648 ≤ v1 ∧ v1 ≤ 2147483647) ∧ (v1 = 12 → (-2147483648 ≤ (zI σ 0 7) ∧ (zI σ 0 7) ≤ 2147483647) ∧ (¬ (zI σ 0 7) = 2 → wpX11_directive_148 σ Q) ∧ ((zI σ 0 7) = 2 → (-2147483648 ≤ (zI σ 0 10) ∧ (zI σ 0 10) ≤ 2147483647) ∧ ((zI σ 0 10) = 1 → wpX11_directive_153 v2 v3 σ Q) ∧ (¬ (zI σ 0 10) = 1 → ((zI σ 0 10) = 2 → wpX11_directive_153 v2 v3 σ Q) ∧ (¬ (zI σ 0 10) = 2 → ((zI σ 0 10) = 4 → wpX11_directive_153 v2 v3 σ Q) ∧ (¬ (zI σ 0 10) = 4 → ((zI σ 0 10) = 8 → wpX11_directive_153 v2 v3 σ Q) ∧ (¬ (zI σ 0 10) = 8 → ((zI σ 0 10) = 16 → wpX11_directive_153 v2 v3 σ Q) ∧ (¬ (zI σ 0 10) = 16 → wpX11_directive_148 σ Q))))))) ∧ (¬ v1 = 12 → Q 1 σ)
def wpX11_directive_60 (v1 v2 v3 : Int) (σ : ZS) (Q : Int → ZS → Prop) : Prop := (-2147483648 ≤ v1 ∧ v1 ≤ 2147483647) ∧ (¬ v1 = 14 → wpX11_directive_90 v1 v2 v3 σ Q) ∧ (v1 = 14 → (0 ≤ v2 ∧ v2 < 240) ∧ (-2147483648 ≤ (zA σ 0 13 v2) ∧ (zA σ 0 13 v2) ≤ 2147483647) ∧ ((zA σ 0 13 v2) = 0 → wpX11_directive_90 v1 v2 v3 (zsA σ 0 13 v2 3) Q) ∧ (¬ (zA σ 0 13 v2) = 0 → wpX11_wrongAt v3 σ (fun (σ24 : ZS) => wpX11_directive_90 v1 v2 v3 σ24 Q)))
def wpX11_directive (σ : ZS) (Q : Int → ZS → Prop) : Prop := wpX11_next σ (fun (σ26 : ZS) => (-2147483648 ≤ (zI σ 0 9) ∧ (zI σ 0 9) ≤ 2147483647) ∧ ((zI σ 0 9) < 15 → wpX11_isName σ26 (fun (x29 : Int) (σ30 : ZS) => (-2147483648 ≤ x29 ∧ x29 ≤ 2147483647) ∧ (¬ x29 = 0 → wpX11_name σ30 (fun (x33 : Int) (σ34 : ZS) => wpX11_next σ34 (fun (σ36 : ZS) => (¬ (zI σ 0 9) = 13 → wpX11_directive_60 (zI σ 0 9) x33 (zI σ34 0 6) σ36 Q) ∧ ((zI σ 0 9) = 13 → wpX11_use 0 x33 (zI σ34 0 6) σ36 (fun (σ39 : ZS) => wpX11_directive_60 (zI σ 0 9) x33 (zI σ34 0 6) σ39 Q))))) ∧ (x29 = 0 → wpX11_fault σ30 (fun (x40 : Int) (σ41 : ZS) => (0 ≤ x40 ∧ x40 ≤ 1) ∧ Q x40 σ41)))) ∧ (¬ (zI σ 0 9) < 15 → wpX11_data (zI σ 0 9) σ26 (fun (x43 : Int) (σ44 : ZS) => (0 ≤ x43 ∧ x43 ≤ 1) ∧ Q x43 σ44)))
set_option maxHeartbeats 4000000 in
set_option maxRecDepth 100000 in
theorem kX11_directive (l : Launch) (D : va_G) (dA : Nat → ClassId) (ad : Int → Nat → Nat) (σ : ZS) (Q : Int → ZS → Prop) (sz : Nat) (hw : wpX11_directive σ Q) : Met l yX11_directive (gws yX11_directive cX11_directive 4 (some .boolean)) (gR 5 0 0) (gPre D dA [.ref (ad 0 1000)] (zR dA ad σ) sz) (va_Qi (zQi Q) (gAt D dA (va_A (zR dA ad σ) sz) (zR dA ad)) (va_A (zR dA ad σ) sz)) 0 0 (va_A (zR dA ad σ) sz) := by
  refine Met.ofW (cc := cX11_directive) (maxL := 4) (ret := (some .boolean)) (by decide) rfl ?_
  intro p e s m args below meth c s₁ B hml hv
  obtain ⟨rfl, hsz, hP, hK, hD0⟩ := hv
  have hx := B.exec
  have hb := B.bytes
  have hr := B.returns
  have hts := atoms_spec (ws := gws yX11_directive cX11_directive 4 (some .boolean)) B.pre
  have hg : ∀ w ∈ gw, w.before _ s = true := fun w h => hts w (List.mem_cons_of_mem _ h)
  have hown : s.vm.findClass RX11 = some m.cls := findClass_of_methodNamed B.named
  have hlocks := B.notSynchronized
  subst hsz
  have hD := hD0.self (sz := s.heap.size)
  generalize hAe : va_A (zR dA ad σ) s.heap.size = A at hD ⊢
  have hA : ∀ q : Nat, s.heap.size ≤ q → A q := fun q h => by rw [← hAe]; exact Or.inr h
  have hS : va_S A s.heap s.heap [] := va_S.rf
  have hl := lv_entry ([.ref (ad 0 1000)]) (n := 4) (Nat.le_of_ble_eq_true rfl)
  rw [lg_entry_eq]
  generalize (lg_sl ([.ref (ad 0 1000)]) ++ List.replicate (4 - (lg_sl ([.ref (ad 0 1000)])).length) Slot.unset).toArray = ls at hl ⊢
  have hl : lv_has ls 4 [(0, .ref (ad 0 1000))] := hl
  have hret : ∀ (v : Int) (σ : ZS) (H : Heap) (locs : List Loc) (ls : Array Slot) (pc : Nat), (0 ≤ v ∧ v ≤ 1) → Q v σ → va_P D vwC (zR dA ad σ) H → va_D A (zR dA ad σ) → va_S A s.heap H locs → decode cX11_directive pc = .ok (.ireturn, 1) → W p l e (gR 5 0 0) s m #[.ref (ad 0 1000)] below meth c H locs 0 0 (MQ below (va_Qi (zQi Q) (gAt D dA A (zR dA ad)) A) #[.ref (ad 0 1000)] s 0 0 A) (F0 m pc ls [.int (Int32.ofInt v)]) := fun v σ H locs ls pc hv hw hP hD hS hd => g_iret hx hb hr (z_nb hv) hlocks hK σ hP hD hS ⟨v, rfl, hw⟩ (Nat.le_of_ble_eq_true rfl) (Nat.le_of_ble_eq_true rfl) hd
  generalize MQ below (va_Qi (zQi Q) (gAt D dA A (zR dA ad)) A) #[.ref (ad 0 1000)] s 0 0 A = QQ at hret ⊢
  have j153 : ∀ (v2 v3 : Int) (σ : ZS), ∀ (H : Heap) (locs : List Loc) (ls : Array Slot), va_P D vwC (zR dA ad σ) H → va_D A (zR dA ad σ) → va_S A s.heap H locs → lv_has ls 4 [(0, .ref (ad 0 1000)), (2, .int (Int32.ofInt v2)), (3, .int (Int32.ofInt v3))] → wpX11_directive_153 v2 v3 σ Q → W p l e (gR 5 0 0) s m #[.ref (ad 0 1000)] below meth c H locs 0 0 QQ (F0 m 153 ls []) := by
    intro v2 v3 σ H locs ls hP hD hS hl hw
    unfold wpX11_directive_153 at hw
    refine lv_aload_n hx hb dX11_directive_153 rfl (lv_at hl 0 rfl) ?_
    refine lv_iconst (v := Int32.ofInt 1) hx hb dX11_directive_154 (by decide) ?_
    refine zpR0_33 (v := 1) hx hb hg hown (by decide) hK hP hD hS q1648 dX11_directive_155 (fun H locs hP hD hS => ?_)
    refine lv_aload_n hx hb dX11_directive_158 rfl (lv_at hl 0 rfl) ?_
    refine lv_iload_n hx hb dX11_directive_159 rfl (lv_at hl 1 rfl) ?_
    refine lv_aload_n hx hb dX11_directive_160 rfl (lv_at hl 0 rfl) ?_
    refine zgR0_10 hx hb hg hown hK hP q1625 dX11_directive_161 ?_
    refine g_nrm (y := Int32.ofInt (zI σ 0 10)) rfl ?_
    refine lv_iload_n hx hb dX11_directive_164 rfl (lv_at hl 2 rfl) ?_
    refine z_Vv (n := 3) (As := [.int (Int32.ofInt v2), .int (Int32.ofInt (zI σ 0 10)), .int (Int32.ofInt v3)]) (rest := []) hx hb hml hg hown hK hP hD hS hA (kX11_open l D dA ad v2 (zI σ 0 10) v3 (zsI σ 0 33 1) _ _ hw) (zoR0) rfl q1967 q160 q1964 q1966 q95 (by decide +kernel) ⟨(Nat.le_of_ble_eq_true rfl), (Nat.le_of_ble_eq_true rfl)⟩ rfl hl.1 rfl (Nat.le_of_ble_eq_true rfl) dX11_directive_165 ⟨(Nat.le_of_ble_eq_true rfl), (Nat.le_of_ble_eq_true rfl)⟩ (fun σ2 H locs hw hP hD hS => ?_)
    refine lv_aload_n hx hb dX11_directive_168 rfl (lv_at hl 0 rfl) ?_
    refine z_Vv (n := 0) (As := []) (rest := []) hx hb hml hg hown hK hP hD hS hA (kX11_next l D dA ad σ2 _ _ hw) (zoR0) rfl q1895 q160 q1892 q1894 q79 (by decide +kernel) ⟨(Nat.le_of_ble_eq_true rfl), (Nat.le_of_ble_eq_true rfl)⟩ rfl hl.1 rfl (Nat.le_of_ble_eq_true rfl) dX11_directive_169 ⟨(Nat.le_of_ble_eq_true rfl), (Nat.le_of_ble_eq_true rfl)⟩ (fun σ4 H locs hw hP hD hS => ?_)
    refine lv_iconst (v := Int32.ofInt 1) hx hb dX11_directive_172 (by decide) ?_
    exact hret 1 σ4 _ _ _ _ (by decide) hw hP hD hS dX11_directive_173
  have j148 : ∀ (σ : ZS), ∀ (H : Heap) (locs : List Loc) (ls : Array Slot), va_P D vwC (zR dA ad σ) H → va_D A (zR dA ad σ) → va_S A s.heap H locs → lv_has ls 4 [(0, .ref (ad 0 1000))] → wpX11_directive_148 σ Q → W p l e (gR 5 0 0) s m #[.ref (ad 0 1000)] below meth c H locs 0 0 QQ (F0 m 148 ls []) := by
    intro σ H locs ls hP hD hS hl hw
    unfold wpX11_directive_148 at hw
    refine lv_aload_n hx hb dX11_directive_148 rfl (lv_at hl 0 rfl) ?_
    refine z_Vi (n := 0) (As := []) (rest := []) hx hb hml hg hown hK hP hD hS hA (kX11_fault l D dA ad σ _ _ hw) (zoR0) rfl q1919 q160 q1916 q1918 q83 (by decide +kernel) ⟨(Nat.le_of_ble_eq_true rfl), (Nat.le_of_ble_eq_true rfl)⟩ rfl hl.1 rfl (Nat.le_of_ble_eq_true rfl) dX11_directive_149 ⟨(Nat.le_of_ble_eq_true rfl), (Nat.le_of_ble_eq_true rfl)⟩ (fun x5 σ6 H locs hw hP hD hS => ?_)
    obtain ⟨o7, hw⟩ := hw
    exact hret x5 σ6 _ _ _ _ o7 hw hP hD hS dX11_directive_152
  have j90 : ∀ (v1 v2 v3 : Int) (σ : ZS), ∀ (H : Heap) (locs : List Loc) (ls : Array Slot), va_P D vwC (zR dA ad σ) H → va_D A (zR dA ad σ) → va_S A s.heap H locs → lv_has ls 4 [(0, .ref (ad 0 1000)), (1, .int (Int32.ofInt v1)), (2, .int (Int32.ofInt v2)), (3, .int (Int32.ofInt v3))] → wpX11_directive_90 v1 v2 v3 σ Q → W p l e (gR 5 0 0) s m #[.ref (ad 0 1000)] below meth c H locs 0 0 QQ (F0 m 90 ls []) := by
    intro v1 v2 v3 σ H locs ls hP hD hS hl hw
    unfold wpX11_directive_90 at hw
    refine lv_iload_n hx hb dX11_directive_90 rfl (lv_at hl 1 rfl) ?_
    refine lv_bipush (v := Int32.ofInt 12) hx hb dX11_directive_91 (by decide) ?_
    obtain ⟨o8, hw⟩ := hw
    refine z_icmp_eq (tgt := 98) hx hb o8 (by decide) dX11_directive_93 (by decide) (fun k9 => ?_) (fun k9 => ?_)
    · replace hw := hw.1 k9
      refine lv_aload_n hx hb dX11_directive_98 rfl (lv_at hl 0 rfl) ?_
      refine zgR0_7 hx hb hg hown hK hP q1622 dX11_directive_99 ?_
      refine lv_iconst (v := Int32.ofInt 2) hx hb dX11_directive_102 (by decide) ?_
      obtain ⟨o10, hw⟩ := hw
      refine z_icmp_ne (tgt := 148) hx hb o10 (by decide) dX11_directive_103 (by decide) (fun k11 => ?_) (fun k11 => ?_)
      · replace hw := hw.1 k11
        exact j148 σ _ _ _ hP hD hS (lv_sub hl [0] rfl) hw
      · replace hw := hw.2 k11
        refine lv_aload_n hx hb dX11_directive_106 rfl (lv_at hl 0 rfl) ?_
        refine zgR0_10 hx hb hg hown hK hP q1625 dX11_directive_107 ?_
        refine lv_iconst (v := Int32.ofInt 1) hx hb dX11_directive_110 (by decide) ?_
        obtain ⟨o12, hw⟩ := hw
        refine z_icmp_eq (tgt := 153) hx hb o12 (by decide) dX11_directive_111 (by decide) (fun k13 => ?_) (fun k13 => ?_)
        · replace hw := hw.1 k13
          exact j153 v2 v3 σ _ _ _ hP hD hS (lv_sub hl [0, 2, 3] rfl) hw
        · replace hw := hw.2 k13
          refine lv_aload_n hx hb dX11_directive_114 rfl (lv_at hl 0 rfl) ?_
          refine zgR0_10 hx hb hg hown hK hP q1625 dX11_directive_115 ?_
          refine lv_iconst (v := Int32.ofInt 2) hx hb dX11_directive_118 (by decide) ?_
          refine z_icmp_eq (tgt := 153) hx hb o12 (by decide) dX11_directive_119 (by decide) (fun k14 => ?_) (fun k14 => ?_)
          · replace hw := hw.1 k14
            exact j153 v2 v3 σ _ _ _ hP hD hS (lv_sub hl [0, 2, 3] rfl) hw
          · replace hw := hw.2 k14
            refine lv_aload_n hx hb dX11_directive_122 rfl (lv_at hl 0 rfl) ?_
            refine zgR0_10 hx hb hg hown hK hP q1625 dX11_directive_123 ?_
            refine lv_iconst (v := Int32.ofInt 4) hx hb dX11_directive_126 (by decide) ?_
            refine z_icmp_eq (tgt := 153) hx hb o12 (by decide) dX11_directive_127 (by decide) (fun k15 => ?_) (fun k15 => ?_)
            · replace hw := hw.1 k15
              exact j153 v2 v3 σ _ _ _ hP hD hS (lv_sub hl [0, 2, 3] rfl) hw
            · replace hw := hw.2 k15
              refine lv_aload_n hx hb dX11_directive_130 rfl (lv_at hl 0 rfl) ?_
              refine zgR0_10 hx hb hg hown hK hP q1625 dX11_directive_131 ?_
              refine lv_bipush (v := Int32.ofInt 8) hx hb dX11_directive_134 (by decide) ?_
              refine z_icmp_eq (tgt := 153) hx hb o12 (by decide) dX11_directive_136 (by decide) (fun k16 => ?_) (fun k16 => ?_)
              · replace hw := hw.1 k16
                exact j153 v2 v3 σ _ _ _ hP hD hS (lv_sub hl [0, 2, 3] rfl) hw
              · replace hw := hw.2 k16
                refine lv_aload_n hx hb dX11_directive_139 rfl (lv_at hl 0 rfl) ?_
                refine zgR0_10 hx hb hg hown hK hP q1625 dX11_directive_140 ?_
                refine lv_bipush (v := Int32.ofInt 16) hx hb dX11_directive_143 (by decide) ?_
                refine z_icmp_eq (tgt := 153) hx hb o12 (by decide) dX11_directive_145 (by decide) (fun k17 => ?_) (fun k17 => ?_)
                · replace hw := hw.1 k17
                  exact j153 v2 v3 σ _ _ _ hP hD hS (lv_sub hl [0, 2, 3] rfl) hw
                · replace hw := hw.2 k17
                  exact j148 σ _ _ _ hP hD hS (lv_sub hl [0] rfl) hw
    · replace hw := hw.2 k9
      refine lv_iconst (v := Int32.ofInt 1) hx hb dX11_directive_96 (by decide) ?_
      exact hret 1 σ _ _ _ _ (by decide) hw hP hD hS dX11_directive_97
  have j60 : ∀ (v1 v2 v3 : Int) (σ : ZS), ∀ (H : Heap) (locs : List Loc) (ls : Array Slot), va_P D vwC (zR dA ad σ) H → va_D A (zR dA ad σ) → va_S A s.heap H locs → lv_has ls 4 [(0, .ref (ad 0 1000)), (1, .int (Int32.ofInt v1)), (2, .int (Int32.ofInt v2)), (3, .int (Int32.ofInt v3))] → wpX11_directive_60 v1 v2 v3 σ Q → W p l e (gR 5 0 0) s m #[.ref (ad 0 1000)] below meth c H locs 0 0 QQ (F0 m 60 ls []) := by
    intro v1 v2 v3 σ H locs ls hP hD hS hl hw
    unfold wpX11_directive_60 at hw
    refine lv_iload_n hx hb dX11_directive_60 rfl (lv_at hl 1 rfl) ?_
    refine lv_bipush (v := Int32.ofInt 14) hx hb dX11_directive_61 (by decide) ?_
    obtain ⟨o18, hw⟩ := hw
    refine z_icmp_ne (tgt := 90) hx hb o18 (by decide) dX11_directive_63 (by decide) (fun k19 => ?_) (fun k19 => ?_)
    · replace hw := hw.1 k19
      exact j90 v1 v2 v3 σ _ _ _ hP hD hS (lv_sub hl [0, 1, 2, 3] rfl) hw
    · replace hw := hw.2 k19
      refine lv_aload_n hx hb dX11_directive_66 rfl (lv_at hl 0 rfl) ?_
      refine zgR0_13 hx hb hg hown hK hP q1628 dX11_directive_67 ?_
      refine lv_iload_n hx hb dX11_directive_70 rfl (lv_at hl 2 rfl) ?_
      obtain ⟨o20, hw⟩ := hw
      refine zlR0_13 hx hb o20 hK hP dX11_directive_71 ?_
      obtain ⟨o21, hw⟩ := hw
      refine z_if_eq (tgt := 83) hx hb o21 dX11_directive_72 (by decide) (fun k22 => ?_) (fun k22 => ?_)
      · replace hw := hw.1 k22
        refine lv_aload_n hx hb dX11_directive_83 rfl (lv_at hl 0 rfl) ?_
        refine zgR0_13 hx hb hg hown hK hP q1628 dX11_directive_84 ?_
        refine lv_iload_n hx hb dX11_directive_87 rfl (lv_at hl 2 rfl) ?_
        refine lv_iconst (v := Int32.ofInt 3) hx hb dX11_directive_88 (by decide) ?_
        refine zsR0_13 (v := 3) hx hb o20 hK hP hD hS dX11_directive_89 (fun H locs hP hD hS => ?_)
        exact j90 v1 v2 v3 (zsA σ 0 13 v2 3) _ _ _ hP hD hS (lv_sub hl [0, 1, 2, 3] rfl) hw
      · replace hw := hw.2 k22
        refine lv_aload_n hx hb dX11_directive_75 rfl (lv_at hl 0 rfl) ?_
        refine lv_iload_n hx hb dX11_directive_76 rfl (lv_at hl 3 rfl) ?_
        refine z_Vv (n := 1) (As := [.int (Int32.ofInt v3)]) (rest := []) hx hb hml hg hown hK hP hD hS hA (kX11_wrongAt l D dA ad v3 σ _ _ hw) (zoR0) rfl q1927 q160 q1924 q1926 q85 (by decide +kernel) ⟨(Nat.le_of_ble_eq_true rfl), (Nat.le_of_ble_eq_true rfl)⟩ rfl hl.1 rfl (Nat.le_of_ble_eq_true rfl) dX11_directive_77 ⟨(Nat.le_of_ble_eq_true rfl), (Nat.le_of_ble_eq_true rfl)⟩ (fun σ24 H locs hw hP hD hS => ?_)
        refine lv_goto (tgt := 90) hx hb dX11_directive_80 (by decide) ?_
        exact j90 v1 v2 v3 σ24 _ _ _ hP hD hS (lv_sub hl [0, 1, 2, 3] rfl) hw
  unfold wpX11_directive at hw
  refine lv_aload_n hx hb dX11_directive_0 rfl (lv_at hl 0 rfl) ?_
  refine zgR0_9 hx hb hg hown hK hP q1624 dX11_directive_1 ?_
  refine lv_istore_n (lv' := [(1, .int (Int32.ofInt (zI σ 0 9))), (0, .ref (ad 0 1000))]) hx hb dX11_directive_4 rfl hl (by decide) rfl (fun ls hl => ?_)
  refine lv_aload_n hx hb dX11_directive_5 rfl (lv_at hl 1 rfl) ?_
  refine z_Vv (n := 0) (As := []) (rest := []) hx hb hml hg hown hK hP hD hS hA (kX11_next l D dA ad σ _ _ hw) (zoR0) rfl q1895 q160 q1892 q1894 q79 (by decide +kernel) ⟨(Nat.le_of_ble_eq_true rfl), (Nat.le_of_ble_eq_true rfl)⟩ rfl hl.1 rfl (Nat.le_of_ble_eq_true rfl) dX11_directive_6 ⟨(Nat.le_of_ble_eq_true rfl), (Nat.le_of_ble_eq_true rfl)⟩ (fun σ26 H locs hw hP hD hS => ?_)
  refine lv_iload_n hx hb dX11_directive_9 rfl (lv_at hl 0 rfl) ?_
  refine lv_bipush (v := Int32.ofInt 15) hx hb dX11_directive_10 (by decide) ?_
  obtain ⟨o27, hw⟩ := hw
  refine z_icmp_lt (tgt := 21) hx hb o27 (by decide) dX11_directive_12 (by decide) (fun k28 => ?_) (fun k28 => ?_)
  · replace hw := hw.1 k28
    refine lv_aload_n hx hb dX11_directive_21 rfl (lv_at hl 1 rfl) ?_
    refine z_Vi (n := 0) (As := []) (rest := []) hx hb hml hg hown hK hP hD hS hA (kX11_isName l D dA ad σ26 _ _ hw) (zoR0) rfl q1915 q160 q1912 q1914 q82 (by decide +kernel) ⟨(Nat.le_of_ble_eq_true rfl), (Nat.le_of_ble_eq_true rfl)⟩ rfl hl.1 rfl (Nat.le_of_ble_eq_true rfl) dX11_directive_22 ⟨(Nat.le_of_ble_eq_true rfl), (Nat.le_of_ble_eq_true rfl)⟩ (fun x29 σ30 H locs hw hP hD hS => ?_)
    obtain ⟨o31, hw⟩ := hw
    refine z_if_ne (tgt := 33) hx hb o31 dX11_directive_25 (by decide) (fun k32 => ?_) (fun k32 => ?_)
    · replace hw := hw.1 k32
      refine lv_aload_n hx hb dX11_directive_33 rfl (lv_at hl 1 rfl) ?_
      refine z_Vi (n := 0) (As := []) (rest := []) hx hb hml hg hown hK hP hD hS hA (kX11_name l D dA ad σ30 _ _ hw) (zoR0) rfl q1923 q160 q1920 q1922 q84 (by decide +kernel) ⟨(Nat.le_of_ble_eq_true rfl), (Nat.le_of_ble_eq_true rfl)⟩ rfl hl.1 rfl (Nat.le_of_ble_eq_true rfl) dX11_directive_34 ⟨(Nat.le_of_ble_eq_true rfl), (Nat.le_of_ble_eq_true rfl)⟩ (fun x33 σ34 H locs hw hP hD hS => ?_)
      refine lv_istore_n (lv' := [(2, .int (Int32.ofInt x33)), (1, .int (Int32.ofInt (zI σ 0 9))), (0, .ref (ad 0 1000))]) hx hb dX11_directive_37 rfl hl (by decide) rfl (fun ls hl => ?_)
      refine lv_aload_n hx hb dX11_directive_38 rfl (lv_at hl 2 rfl) ?_
      refine zgR0_6 hx hb hg hown hK hP q1621 dX11_directive_39 ?_
      refine lv_istore_n (lv' := [(3, .int (Int32.ofInt (zI σ34 0 6))), (2, .int (Int32.ofInt x33)), (1, .int (Int32.ofInt (zI σ 0 9))), (0, .ref (ad 0 1000))]) hx hb dX11_directive_42 rfl hl (by decide) rfl (fun ls hl => ?_)
      refine lv_aload_n hx hb dX11_directive_43 rfl (lv_at hl 3 rfl) ?_
      refine z_Vv (n := 0) (As := []) (rest := []) hx hb hml hg hown hK hP hD hS hA (kX11_next l D dA ad σ34 _ _ hw) (zoR0) rfl q1895 q160 q1892 q1894 q79 (by decide +kernel) ⟨(Nat.le_of_ble_eq_true rfl), (Nat.le_of_ble_eq_true rfl)⟩ rfl hl.1 rfl (Nat.le_of_ble_eq_true rfl) dX11_directive_44 ⟨(Nat.le_of_ble_eq_true rfl), (Nat.le_of_ble_eq_true rfl)⟩ (fun σ36 H locs hw hP hD hS => ?_)
      refine lv_iload_n hx hb dX11_directive_47 rfl (lv_at hl 2 rfl) ?_
      refine lv_bipush (v := Int32.ofInt 13) hx hb dX11_directive_48 (by decide) ?_
      refine z_icmp_ne (tgt := 60) hx hb o27 (by decide) dX11_directive_50 (by decide) (fun k37 => ?_) (fun k37 => ?_)
      · replace hw := hw.1 k37
        exact j60 (zI σ 0 9) x33 (zI σ34 0 6) σ36 _ _ _ hP hD hS (lv_sub hl [3, 2, 1, 0] rfl) hw
      · replace hw := hw.2 k37
        refine lv_aload_n hx hb dX11_directive_53 rfl (lv_at hl 3 rfl) ?_
        refine lv_iconst (v := Int32.ofInt 0) hx hb dX11_directive_54 (by decide) ?_
        refine lv_iload_n hx hb dX11_directive_55 rfl (lv_at hl 1 rfl) ?_
        refine lv_iload_n hx hb dX11_directive_56 rfl (lv_at hl 0 rfl) ?_
        refine z_Vv (n := 3) (As := [.int (Int32.ofInt 0), .int (Int32.ofInt x33), .int (Int32.ofInt (zI σ34 0 6))]) (rest := []) hx hb hml hg hown hK hP hD hS hA (kX11_use l D dA ad 0 x33 (zI σ34 0 6) σ36 _ _ hw) (zoR0) rfl q1959 q160 q1956 q1958 q93 (by decide +kernel) ⟨(Nat.le_of_ble_eq_true rfl), (Nat.le_of_ble_eq_true rfl)⟩ rfl hl.1 rfl (Nat.le_of_ble_eq_true rfl) dX11_directive_57 ⟨(Nat.le_of_ble_eq_true rfl), (Nat.le_of_ble_eq_true rfl)⟩ (fun σ39 H locs hw hP hD hS => ?_)
        exact j60 (zI σ 0 9) x33 (zI σ34 0 6) σ39 _ _ _ hP hD hS (lv_sub hl [3, 2, 1, 0] rfl) hw
    · replace hw := hw.2 k32
      refine lv_aload_n hx hb dX11_directive_28 rfl (lv_at hl 1 rfl) ?_
      refine z_Vi (n := 0) (As := []) (rest := []) hx hb hml hg hown hK hP hD hS hA (kX11_fault l D dA ad σ30 _ _ hw) (zoR0) rfl q1919 q160 q1916 q1918 q83 (by decide +kernel) ⟨(Nat.le_of_ble_eq_true rfl), (Nat.le_of_ble_eq_true rfl)⟩ rfl hl.1 rfl (Nat.le_of_ble_eq_true rfl) dX11_directive_29 ⟨(Nat.le_of_ble_eq_true rfl), (Nat.le_of_ble_eq_true rfl)⟩ (fun x40 σ41 H locs hw hP hD hS => ?_)
      obtain ⟨o42, hw⟩ := hw
      exact hret x40 σ41 _ _ _ _ o42 hw hP hD hS dX11_directive_32
  · replace hw := hw.2 k28
    refine lv_aload_n hx hb dX11_directive_15 rfl (lv_at hl 1 rfl) ?_
    refine lv_iload_n hx hb dX11_directive_16 rfl (lv_at hl 0 rfl) ?_
    refine z_Vi (n := 1) (As := [.int (Int32.ofInt (zI σ 0 9))]) (rest := []) hx hb hml hg hown hK hP hD hS hA (kX11_data l D dA ad (zI σ 0 9) σ26 _ _ hw) (zoR0) rfl q1947 q160 q1944 q1946 q90 (by decide +kernel) ⟨(Nat.le_of_ble_eq_true rfl), (Nat.le_of_ble_eq_true rfl)⟩ rfl hl.1 rfl (Nat.le_of_ble_eq_true rfl) dX11_directive_17 ⟨(Nat.le_of_ble_eq_true rfl), (Nat.le_of_ble_eq_true rfl)⟩ (fun x43 σ44 H locs hw hP hD hS => ?_)
    obtain ⟨o45, hw⟩ := hw
    exact hret x43 σ44 _ _ _ _ o45 hw hP hD hS dX11_directive_20
def wpX11_part_91 (σ : ZS) (Q : Int → ZS → Prop) : Prop := Q 0 σ
def wpX11_part_28 (σ : ZS) (Q : Int → ZS → Prop) : Prop := (-2147483648 ≤ (zI σ 0 41) ∧ (zI σ 0 41) ≤ 2147483647) ∧ ((zI σ 0 41) < 0 → Q 1 (zsI σ 0 41 (zI σ 0 9))) ∧ (¬ (zI σ 0 41) < 0 → Q 0 σ)
def wpX11_part (σ : ZS) (Q : Int → ZS → Prop) : Prop := (-2147483648 ≤ (zI σ 0 7) ∧ (zI σ 0 7) ≤ 2147483647) ∧ (¬ (zI σ 0 7) = 2 → wpX11_isWord 3 3 σ (fun (x5 : Int) (σ6 : ZS) => (-2147483648 ≤ x5 ∧ x5 ≤ 2147483647) ∧ (¬ x5 = 0 → wpX11_part_28 σ6 Q) ∧ (x5 = 0 → wpX11_isWord 5 5 σ6 (fun (x9 : Int) (σ10 : ZS) => (-2147483648 ≤ x9 ∧ x9 ≤ 2147483647) ∧ (x9 = 0 → wpX11_isWord 6 7 σ10 (fun (x13 : Int) (σ14 : ZS) => (-2147483648 ≤ x13 ∧ x13 ≤ 2147483647) ∧ (x13 = 0 → wpX11_isName σ14 (fun (x17 : Int) (σ18 : ZS) => (-2147483648 ≤ x17 ∧ x17 ≤ 2147483647) ∧ (x17 = 0 → wpX11_part_91 σ18 Q) ∧ (¬ x17 = 0 → (-2147483648 ≤ (zI σ18 0 39) ∧ (zI σ18 0 39) ≤ 2147483647) ∧ ((zI σ18 0 39) < 0 → wpX11_name σ18 (fun (x23 : Int) (σ24 : ZS) => wpX11_use 1 x23 (zI σ24 0 6) (zsI σ24 0 39 x23) (fun (σ26 : ZS) => Q 1 σ26))) ∧ (¬ (zI σ18 0 39) < 0 → wpX11_part_91 σ18 Q)))) ∧ (¬ x13 = 0 → (-2147483648 ≤ (zI σ14 0 42) ∧ (zI σ14 0 42) ≤ 2147483647) ∧ ((zI σ14 0 42) < 0 → Q 1 (zsI σ14 0 42 (zI σ14 0 9))) ∧ (¬ (zI σ14 0 42) < 0 → Q 0 σ14)))) ∧ (¬ x9 = 0 → wpX11_part_28 σ10 Q))))) ∧ ((zI σ 0 7) = 2 → Q 1 σ)
set_option maxHeartbeats 4000000 in
set_option maxRecDepth 100000 in
theorem kX11_part (l : Launch) (D : va_G) (dA : Nat → ClassId) (ad : Int → Nat → Nat) (σ : ZS) (Q : Int → ZS → Prop) (sz : Nat) (hw : wpX11_part σ Q) : Met l yX11_part (gws yX11_part cX11_part 1 (some .boolean)) (gR 3 0 0) (gPre D dA [.ref (ad 0 1000)] (zR dA ad σ) sz) (va_Qi (zQi Q) (gAt D dA (va_A (zR dA ad σ) sz) (zR dA ad)) (va_A (zR dA ad σ) sz)) 0 0 (va_A (zR dA ad σ) sz) := by
  refine Met.ofW (cc := cX11_part) (maxL := 1) (ret := (some .boolean)) (by decide) rfl ?_
  intro p e s m args below meth c s₁ B hml hv
  obtain ⟨rfl, hsz, hP, hK, hD0⟩ := hv
  have hx := B.exec
  have hb := B.bytes
  have hr := B.returns
  have hts := atoms_spec (ws := gws yX11_part cX11_part 1 (some .boolean)) B.pre
  have hg : ∀ w ∈ gw, w.before _ s = true := fun w h => hts w (List.mem_cons_of_mem _ h)
  have hown : s.vm.findClass RX11 = some m.cls := findClass_of_methodNamed B.named
  have hlocks := B.notSynchronized
  subst hsz
  have hD := hD0.self (sz := s.heap.size)
  generalize hAe : va_A (zR dA ad σ) s.heap.size = A at hD ⊢
  have hA : ∀ q : Nat, s.heap.size ≤ q → A q := fun q h => by rw [← hAe]; exact Or.inr h
  have hS : va_S A s.heap s.heap [] := va_S.rf
  have hl := lv_entry ([.ref (ad 0 1000)]) (n := 1) (Nat.le_of_ble_eq_true rfl)
  rw [lg_entry_eq]
  generalize (lg_sl ([.ref (ad 0 1000)]) ++ List.replicate (1 - (lg_sl ([.ref (ad 0 1000)])).length) Slot.unset).toArray = ls at hl ⊢
  have hl : lv_has ls 1 [(0, .ref (ad 0 1000))] := hl
  have hret : ∀ (v : Int) (σ : ZS) (H : Heap) (locs : List Loc) (ls : Array Slot) (pc : Nat), (0 ≤ v ∧ v ≤ 1) → Q v σ → va_P D vwC (zR dA ad σ) H → va_D A (zR dA ad σ) → va_S A s.heap H locs → decode cX11_part pc = .ok (.ireturn, 1) → W p l e (gR 3 0 0) s m #[.ref (ad 0 1000)] below meth c H locs 0 0 (MQ below (va_Qi (zQi Q) (gAt D dA A (zR dA ad)) A) #[.ref (ad 0 1000)] s 0 0 A) (F0 m pc ls [.int (Int32.ofInt v)]) := fun v σ H locs ls pc hv hw hP hD hS hd => g_iret hx hb hr (z_nb hv) hlocks hK σ hP hD hS ⟨v, rfl, hw⟩ (Nat.le_of_ble_eq_true rfl) (Nat.le_of_ble_eq_true rfl) hd
  generalize MQ below (va_Qi (zQi Q) (gAt D dA A (zR dA ad)) A) #[.ref (ad 0 1000)] s 0 0 A = QQ at hret ⊢
  have j91 : ∀ (σ : ZS), ∀ (H : Heap) (locs : List Loc) (ls : Array Slot), va_P D vwC (zR dA ad σ) H → va_D A (zR dA ad σ) → va_S A s.heap H locs → lv_has ls 1 [] → wpX11_part_91 σ Q → W p l e (gR 3 0 0) s m #[.ref (ad 0 1000)] below meth c H locs 0 0 QQ (F0 m 91 ls []) := by
    intro σ H locs ls hP hD hS hl hw
    unfold wpX11_part_91 at hw
    refine lv_iconst (v := Int32.ofInt 0) hx hb dX11_part_91 (by decide) ?_
    exact hret 0 σ _ _ _ _ (by decide) hw hP hD hS dX11_part_92
  have j28 : ∀ (σ : ZS), ∀ (H : Heap) (locs : List Loc) (ls : Array Slot), va_P D vwC (zR dA ad σ) H → va_D A (zR dA ad σ) → va_S A s.heap H locs → lv_has ls 1 [(0, .ref (ad 0 1000))] → wpX11_part_28 σ Q → W p l e (gR 3 0 0) s m #[.ref (ad 0 1000)] below meth c H locs 0 0 QQ (F0 m 28 ls []) := by
    intro σ H locs ls hP hD hS hl hw
    unfold wpX11_part_28 at hw
    refine lv_aload_n hx hb dX11_part_28 rfl (lv_at hl 0 rfl) ?_
    refine zgR0_41 hx hb hg hown hK hP q1656 dX11_part_29 ?_
    obtain ⟨o1, hw⟩ := hw
    refine z_if_lt (tgt := 37) hx hb o1 dX11_part_32 (by decide) (fun k2 => ?_) (fun k2 => ?_)
    · replace hw := hw.1 k2
      refine lv_aload_n hx hb dX11_part_37 rfl (lv_at hl 0 rfl) ?_
      refine lv_aload_n hx hb dX11_part_38 rfl (lv_at hl 0 rfl) ?_
      refine zgR0_9 hx hb hg hown hK hP q1624 dX11_part_39 ?_
      refine zpR0_41 (v := (zI σ 0 9)) hx hb hg hown hK hP hD hS q1656 dX11_part_42 (fun H locs hP hD hS => ?_)
      refine lv_iconst (v := Int32.ofInt 1) hx hb dX11_part_45 (by decide) ?_
      exact hret 1 (zsI σ 0 41 (zI σ 0 9)) _ _ _ _ (by decide) hw hP hD hS dX11_part_46
    · replace hw := hw.2 k2
      refine lv_iconst (v := Int32.ofInt 0) hx hb dX11_part_35 (by decide) ?_
      exact hret 0 σ _ _ _ _ (by decide) hw hP hD hS dX11_part_36
  unfold wpX11_part at hw
  refine lv_aload_n hx hb dX11_part_0 rfl (lv_at hl 0 rfl) ?_
  refine zgR0_7 hx hb hg hown hK hP q1622 dX11_part_1 ?_
  refine lv_iconst (v := Int32.ofInt 2) hx hb dX11_part_4 (by decide) ?_
  obtain ⟨o3, hw⟩ := hw
  refine z_icmp_ne (tgt := 10) hx hb o3 (by decide) dX11_part_5 (by decide) (fun k4 => ?_) (fun k4 => ?_)
  · replace hw := hw.1 k4
    refine lv_aload_n hx hb dX11_part_10 rfl (lv_at hl 0 rfl) ?_
    refine lv_iconst (v := Int32.ofInt 3) hx hb dX11_part_11 (by decide) ?_
    refine lv_iconst (v := Int32.ofInt 3) hx hb dX11_part_12 (by decide) ?_
    refine z_Vi (n := 2) (As := [.int (Int32.ofInt 3), .int (Int32.ofInt 3)]) (rest := []) hx hb hml hg hown hK hP hD hS hA (kX11_isWord l D dA ad 3 3 σ _ _ hw) (zoR0) rfl q1983 q160 q1980 q1982 q99 (by decide +kernel) ⟨(Nat.le_of_ble_eq_true rfl), (Nat.le_of_ble_eq_true rfl)⟩ rfl hl.1 rfl (Nat.le_of_ble_eq_true rfl) dX11_part_13 ⟨(Nat.le_of_ble_eq_true rfl), (Nat.le_of_ble_eq_true rfl)⟩ (fun x5 σ6 H locs hw hP hD hS => ?_)
    obtain ⟨o7, hw⟩ := hw
    refine z_if_ne (tgt := 28) hx hb o7 dX11_part_16 (by decide) (fun k8 => ?_) (fun k8 => ?_)
    · replace hw := hw.1 k8
      exact j28 σ6 _ _ _ hP hD hS (lv_sub hl [0] rfl) hw
    · replace hw := hw.2 k8
      refine lv_aload_n hx hb dX11_part_19 rfl (lv_at hl 0 rfl) ?_
      refine lv_iconst (v := Int32.ofInt 5) hx hb dX11_part_20 (by decide) ?_
      refine lv_iconst (v := Int32.ofInt 5) hx hb dX11_part_21 (by decide) ?_
      refine z_Vi (n := 2) (As := [.int (Int32.ofInt 5), .int (Int32.ofInt 5)]) (rest := []) hx hb hml hg hown hK hP hD hS hA (kX11_isWord l D dA ad 5 5 σ6 _ _ hw) (zoR0) rfl q1983 q160 q1980 q1982 q99 (by decide +kernel) ⟨(Nat.le_of_ble_eq_true rfl), (Nat.le_of_ble_eq_true rfl)⟩ rfl hl.1 rfl (Nat.le_of_ble_eq_true rfl) dX11_part_22 ⟨(Nat.le_of_ble_eq_true rfl), (Nat.le_of_ble_eq_true rfl)⟩ (fun x9 σ10 H locs hw hP hD hS => ?_)
      obtain ⟨o11, hw⟩ := hw
      refine z_if_eq (tgt := 47) hx hb o11 dX11_part_25 (by decide) (fun k12 => ?_) (fun k12 => ?_)
      · replace hw := hw.1 k12
        refine lv_aload_n hx hb dX11_part_47 rfl (lv_at hl 0 rfl) ?_
        refine lv_bipush (v := Int32.ofInt 6) hx hb dX11_part_48 (by decide) ?_
        refine lv_bipush (v := Int32.ofInt 7) hx hb dX11_part_50 (by decide) ?_
        refine z_Vi (n := 2) (As := [.int (Int32.ofInt 6), .int (Int32.ofInt 7)]) (rest := []) hx hb hml hg hown hK hP hD hS hA (kX11_isWord l D dA ad 6 7 σ10 _ _ hw) (zoR0) rfl q1983 q160 q1980 q1982 q99 (by decide +kernel) ⟨(Nat.le_of_ble_eq_true rfl), (Nat.le_of_ble_eq_true rfl)⟩ rfl hl.1 rfl (Nat.le_of_ble_eq_true rfl) dX11_part_52 ⟨(Nat.le_of_ble_eq_true rfl), (Nat.le_of_ble_eq_true rfl)⟩ (fun x13 σ14 H locs hw hP hD hS => ?_)
        obtain ⟨o15, hw⟩ := hw
        refine z_if_eq (tgt := 77) hx hb o15 dX11_part_55 (by decide) (fun k16 => ?_) (fun k16 => ?_)
        · replace hw := hw.1 k16
          refine lv_aload_n hx hb dX11_part_77 rfl (lv_at hl 0 rfl) ?_
          refine z_Vi (n := 0) (As := []) (rest := []) hx hb hml hg hown hK hP hD hS hA (kX11_isName l D dA ad σ14 _ _ hw) (zoR0) rfl q1915 q160 q1912 q1914 q82 (by decide +kernel) ⟨(Nat.le_of_ble_eq_true rfl), (Nat.le_of_ble_eq_true rfl)⟩ rfl hl.1 rfl (Nat.le_of_ble_eq_true rfl) dX11_part_78 ⟨(Nat.le_of_ble_eq_true rfl), (Nat.le_of_ble_eq_true rfl)⟩ (fun x17 σ18 H locs hw hP hD hS => ?_)
          obtain ⟨o19, hw⟩ := hw
          refine z_if_eq (tgt := 91) hx hb o19 dX11_part_81 (by decide) (fun k20 => ?_) (fun k20 => ?_)
          · replace hw := hw.1 k20
            exact j91 σ18 _ _ _ hP hD hS (lv_sub hl [] rfl) hw
          · replace hw := hw.2 k20
            refine lv_aload_n hx hb dX11_part_84 rfl (lv_at hl 0 rfl) ?_
            refine zgR0_39 hx hb hg hown hK hP q1654 dX11_part_85 ?_
            obtain ⟨o21, hw⟩ := hw
            refine z_if_lt (tgt := 93) hx hb o21 dX11_part_88 (by decide) (fun k22 => ?_) (fun k22 => ?_)
            · replace hw := hw.1 k22
              refine lv_aload_n hx hb dX11_part_93 rfl (lv_at hl 0 rfl) ?_
              refine lv_aload_n hx hb dX11_part_94 rfl (lv_at hl 0 rfl) ?_
              refine z_Vi (n := 0) (As := []) (rest := [.ref (ad 0 1000)]) hx hb hml hg hown hK hP hD hS hA (kX11_name l D dA ad σ18 _ _ hw) (zoR0) rfl q1923 q160 q1920 q1922 q84 (by decide +kernel) ⟨(Nat.le_of_ble_eq_true rfl), (Nat.le_of_ble_eq_true rfl)⟩ rfl hl.1 rfl (Nat.le_of_ble_eq_true rfl) dX11_part_95 ⟨(Nat.le_of_ble_eq_true rfl), (Nat.le_of_ble_eq_true rfl)⟩ (fun x23 σ24 H locs hw hP hD hS => ?_)
              refine zpR0_39 (v := x23) hx hb hg hown hK hP hD hS q1654 dX11_part_98 (fun H locs hP hD hS => ?_)
              refine lv_aload_n hx hb dX11_part_101 rfl (lv_at hl 0 rfl) ?_
              refine lv_iconst (v := Int32.ofInt 1) hx hb dX11_part_102 (by decide) ?_
              refine lv_aload_n hx hb dX11_part_103 rfl (lv_at hl 0 rfl) ?_
              refine zgR0_39 hx hb hg hown hK hP q1654 dX11_part_104 ?_
              refine g_nrm (y := Int32.ofInt x23) rfl ?_
              refine lv_aload_n hx hb dX11_part_107 rfl (lv_at hl 0 rfl) ?_
              refine zgR0_6 hx hb hg hown hK hP q1621 dX11_part_108 ?_
              refine g_nrm (y := Int32.ofInt (zI σ24 0 6)) rfl ?_
              refine z_Vv (n := 3) (As := [.int (Int32.ofInt 1), .int (Int32.ofInt x23), .int (Int32.ofInt (zI σ24 0 6))]) (rest := []) hx hb hml hg hown hK hP hD hS hA (kX11_use l D dA ad 1 x23 (zI σ24 0 6) (zsI σ24 0 39 x23) _ _ hw) (zoR0) rfl q1959 q160 q1956 q1958 q93 (by decide +kernel) ⟨(Nat.le_of_ble_eq_true rfl), (Nat.le_of_ble_eq_true rfl)⟩ rfl hl.1 rfl (Nat.le_of_ble_eq_true rfl) dX11_part_111 ⟨(Nat.le_of_ble_eq_true rfl), (Nat.le_of_ble_eq_true rfl)⟩ (fun σ26 H locs hw hP hD hS => ?_)
              refine lv_iconst (v := Int32.ofInt 1) hx hb dX11_part_114 (by decide) ?_
              exact hret 1 σ26 _ _ _ _ (by decide) hw hP hD hS dX11_part_115
            · replace hw := hw.2 k22
              exact j91 σ18 _ _ _ hP hD hS (lv_sub hl [] rfl) hw
        · replace hw := hw.2 k16
          refine lv_aload_n hx hb dX11_part_58 rfl (lv_at hl 0 rfl) ?_
          refine zgR0_42 hx hb hg hown hK hP q1657 dX11_part_59 ?_
          obtain ⟨o27, hw⟩ := hw
          refine z_if_lt (tgt := 67) hx hb o27 dX11_part_62 (by decide) (fun k28 => ?_) (fun k28 => ?_)
          · replace hw := hw.1 k28
            refine lv_aload_n hx hb dX11_part_67 rfl (lv_at hl 0 rfl) ?_
            refine lv_aload_n hx hb dX11_part_68 rfl (lv_at hl 0 rfl) ?_
            refine zgR0_9 hx hb hg hown hK hP q1624 dX11_part_69 ?_
            refine zpR0_42 (v := (zI σ14 0 9)) hx hb hg hown hK hP hD hS q1657 dX11_part_72 (fun H locs hP hD hS => ?_)
            refine lv_iconst (v := Int32.ofInt 1) hx hb dX11_part_75 (by decide) ?_
            exact hret 1 (zsI σ14 0 42 (zI σ14 0 9)) _ _ _ _ (by decide) hw hP hD hS dX11_part_76
          · replace hw := hw.2 k28
            refine lv_iconst (v := Int32.ofInt 0) hx hb dX11_part_65 (by decide) ?_
            exact hret 0 σ14 _ _ _ _ (by decide) hw hP hD hS dX11_part_66
      · replace hw := hw.2 k12
        exact j28 σ10 _ _ _ hP hD hS (lv_sub hl [0] rfl) hw
  · replace hw := hw.2 k4
    refine lv_iconst (v := Int32.ofInt 1) hx hb dX11_part_8 (by decide) ?_
    exact hret 1 σ _ _ _ _ (by decide) hw hP hD hS dX11_part_9
def wpX11_memoryOperand_55 (σ : ZS) (Q : Int → ZS → Prop) : Prop := wpX11_fault σ (fun (x1 : Int) (σ2 : ZS) => (0 ≤ x1 ∧ x1 ≤ 1) ∧ Q x1 σ2)
def wpX11_memoryOperand_139 (K29 : Int → Int → ZS → Prop) (v2 s0 : Int) (σ : ZS) (Q : Int → ZS → Prop) : Prop := (-2147483648 ≤ v2 ∧ v2 ≤ 2147483647) ∧ (v2 = 0 → K29 s0 v2 σ) ∧ (¬ v2 = 0 → wpX11_next σ (fun (σ7 : ZS) => K29 s0 v2 σ7))
def wpX11_memoryOperand_124 (K29 : Int → Int → ZS → Prop) (s0 : Int) (σ : ZS) (Q : Int → ZS → Prop) : Prop := (-2147483648 ≤ (zI σ 0 7) ∧ (zI σ 0 7) ≤ 2147483647) ∧ (¬ (zI σ 0 7) = 45 → wpX11_memoryOperand_139 K29 s0 0 σ Q) ∧ ((zI σ 0 7) = 45 → wpX11_memoryOperand_139 K29 s0 1 σ Q)
def wpX11_memoryOperand_119 (K29 : Int → Int → ZS → Prop) (σ : ZS) (Q : Int → ZS → Prop) : Prop := wpX11_memoryOperand_124 K29 1 σ Q
def wpX11_memoryOperand_97 (K29 : Int → Int → ZS → Prop) (σ : ZS) (Q : Int → ZS → Prop) : Prop := wpX11_next σ (fun (σ11 : ZS) => (-2147483648 ≤ (zI σ11 0 7) ∧ (zI σ11 0 7) ≤ 2147483647) ∧ ((zI σ11 0 7) = 43 → wpX11_memoryOperand_119 K29 σ11 Q) ∧ (¬ (zI σ11 0 7) = 43 → (¬ (zI σ11 0 7) = 45 → wpX11_memoryOperand_124 K29 0 σ11 Q) ∧ ((zI σ11 0 7) = 45 → wpX11_memoryOperand_119 K29 σ11 Q)))
def wpX11_memoryOperand_89 (K29 : Int → Int → ZS → Prop) (s2 s1 : Int) (σ : ZS) (Q : Int → ZS → Prop) : Prop := wpX11_memoryOperand_97 K29 (zsI σ 0 38 ((s1 + s2) % 65536)) Q
def wpX11_memoryOperand_60 (K29 : Int → Int → ZS → Prop) (v1 : Int) (σ : ZS) (Q : Int → ZS → Prop) : Prop := (-2147483648 ≤ (zI σ 0 7) ∧ (zI σ 0 7) ≤ 2147483647) ∧ (¬ (zI σ 0 7) = 2 → wpX11_memoryOperand_97 K29 σ Q) ∧ ((zI σ 0 7) = 2 → (-2147483648 ≤ v1 ∧ v1 ≤ 2147483647) ∧ (v1 = 0 → wpX11_memoryOperand_89 K29 (zI σ 0 10) (zI σ 0 38) σ Q) ∧ (¬ v1 = 0 → wpX11_memoryOperand_89 K29 (-(zI σ 0 10)) (zI σ 0 38) σ Q))
def wpbX11_memoryOperand_29 (K29 : Int → Int → ZS → Prop) (v1 v2 : Int) (σ : ZS) (Q : Int → ZS → Prop) : Prop := (-2147483648 ≤ v2 ∧ v2 ≤ 2147483647) ∧ (v2 = 0 → wpX11_take 93 σ (fun (x21 : Int) (σ22 : ZS) => (0 ≤ x21 ∧ x21 ≤ 1) ∧ Q x21 σ22)) ∧ (¬ v2 = 0 → (-2147483648 ≤ v1 ∧ v1 ≤ 2147483647) ∧ (v1 = 0 → wpX11_part σ (fun (x26 : Int) (σ27 : ZS) => (-2147483648 ≤ x26 ∧ x26 ≤ 2147483647) ∧ (¬ x26 = 0 → wpX11_memoryOperand_60 K29 v1 σ27 Q) ∧ (x26 = 0 → wpX11_memoryOperand_55 σ27 Q))) ∧ (¬ v1 = 0 → (-2147483648 ≤ (zI σ 0 7) ∧ (zI σ 0 7) ≤ 2147483647) ∧ ((zI σ 0 7) = 2 → wpX11_memoryOperand_60 K29 v1 σ Q) ∧ (¬ (zI σ 0 7) = 2 → wpX11_memoryOperand_55 σ Q)))
def wpX11_memoryOperand_29 (v1 v2 : Int) (σ : ZS) (Q : Int → ZS → Prop) : Prop := lfp2 (fun K29 v1 v2 σ => wpbX11_memoryOperand_29 K29 v1 v2 σ Q) v1 v2 σ
def wpX11_memoryOperand (σ : ZS) (Q : Int → ZS → Prop) : Prop := wpX11_memoryOperand_29 0 1 (zsI (zsI (zsI (zsI (zsI σ 0 37 2) 0 38 0) 0 39 (-1)) 0 41 (-1)) 0 42 (-1)) Q
set_option maxHeartbeats 4000000 in
set_option maxRecDepth 100000 in
theorem kX11_memoryOperand (l : Launch) (D : va_G) (dA : Nat → ClassId) (ad : Int → Nat → Nat) (σ : ZS) (Q : Int → ZS → Prop) (sz : Nat) (hw : wpX11_memoryOperand σ Q) : Met l yX11_memoryOperand (gws yX11_memoryOperand cX11_memoryOperand 3 (some .boolean)) (gR 4 0 0) (gPre D dA [.ref (ad 0 1000)] (zR dA ad σ) sz) (va_Qi (zQi Q) (gAt D dA (va_A (zR dA ad σ) sz) (zR dA ad)) (va_A (zR dA ad σ) sz)) 0 0 (va_A (zR dA ad σ) sz) := by
  refine Met.ofW (cc := cX11_memoryOperand) (maxL := 3) (ret := (some .boolean)) (by decide) rfl ?_
  intro p e s m args below meth c s₁ B hml hv
  obtain ⟨rfl, hsz, hP, hK, hD0⟩ := hv
  have hx := B.exec
  have hb := B.bytes
  have hr := B.returns
  have hts := atoms_spec (ws := gws yX11_memoryOperand cX11_memoryOperand 3 (some .boolean)) B.pre
  have hg : ∀ w ∈ gw, w.before _ s = true := fun w h => hts w (List.mem_cons_of_mem _ h)
  have hown : s.vm.findClass RX11 = some m.cls := findClass_of_methodNamed B.named
  have hlocks := B.notSynchronized
  subst hsz
  have hD := hD0.self (sz := s.heap.size)
  generalize hAe : va_A (zR dA ad σ) s.heap.size = A at hD ⊢
  have hA : ∀ q : Nat, s.heap.size ≤ q → A q := fun q h => by rw [← hAe]; exact Or.inr h
  have hS : va_S A s.heap s.heap [] := va_S.rf
  have hl := lv_entry ([.ref (ad 0 1000)]) (n := 3) (Nat.le_of_ble_eq_true rfl)
  rw [lg_entry_eq]
  generalize (lg_sl ([.ref (ad 0 1000)]) ++ List.replicate (3 - (lg_sl ([.ref (ad 0 1000)])).length) Slot.unset).toArray = ls at hl ⊢
  have hl : lv_has ls 3 [(0, .ref (ad 0 1000))] := hl
  have hret : ∀ (v : Int) (σ : ZS) (H : Heap) (locs : List Loc) (ls : Array Slot) (pc : Nat), (0 ≤ v ∧ v ≤ 1) → Q v σ → va_P D vwC (zR dA ad σ) H → va_D A (zR dA ad σ) → va_S A s.heap H locs → decode cX11_memoryOperand pc = .ok (.ireturn, 1) → W p l e (gR 4 0 0) s m #[.ref (ad 0 1000)] below meth c H locs 0 0 (MQ below (va_Qi (zQi Q) (gAt D dA A (zR dA ad)) A) #[.ref (ad 0 1000)] s 0 0 A) (F0 m pc ls [.int (Int32.ofInt v)]) := fun v σ H locs ls pc hv hw hP hD hS hd => g_iret hx hb hr (z_nb hv) hlocks hK σ hP hD hS ⟨v, rfl, hw⟩ (Nat.le_of_ble_eq_true rfl) (Nat.le_of_ble_eq_true rfl) hd
  generalize MQ below (va_Qi (zQi Q) (gAt D dA A (zR dA ad)) A) #[.ref (ad 0 1000)] s 0 0 A = QQ at hret ⊢
  have j55 : ∀ (σ : ZS), ∀ (H : Heap) (locs : List Loc) (ls : Array Slot), va_P D vwC (zR dA ad σ) H → va_D A (zR dA ad σ) → va_S A s.heap H locs → lv_has ls 3 [(0, .ref (ad 0 1000))] → wpX11_memoryOperand_55 σ Q → W p l e (gR 4 0 0) s m #[.ref (ad 0 1000)] below meth c H locs 0 0 QQ (F0 m 55 ls []) := by
    intro σ H locs ls hP hD hS hl hw
    unfold wpX11_memoryOperand_55 at hw
    refine lv_aload_n hx hb dX11_memoryOperand_55 rfl (lv_at hl 0 rfl) ?_
    refine z_Vi (n := 0) (As := []) (rest := []) hx hb hml hg hown hK hP hD hS hA (kX11_fault l D dA ad σ _ _ hw) (zoR0) rfl q1919 q160 q1916 q1918 q83 (by decide +kernel) ⟨(Nat.le_of_ble_eq_true rfl), (Nat.le_of_ble_eq_true rfl)⟩ rfl hl.1 rfl (Nat.le_of_ble_eq_true rfl) dX11_memoryOperand_56 ⟨(Nat.le_of_ble_eq_true rfl), (Nat.le_of_ble_eq_true rfl)⟩ (fun x1 σ2 H locs hw hP hD hS => ?_)
    obtain ⟨o3, hw⟩ := hw
    exact hret x1 σ2 _ _ _ _ o3 hw hP hD hS dX11_memoryOperand_59
  have b29 : ∀ (K29 : Int → Int → ZS → Prop), (∀ (v1 v2 : Int) (σ : ZS), K29 v1 v2 σ → ∀ (H : Heap) (locs : List Loc) (ls : Array Slot), va_P D vwC (zR dA ad σ) H → va_D A (zR dA ad σ) → va_S A s.heap H locs → lv_has ls 3 [(0, .ref (ad 0 1000)), (1, .int (Int32.ofInt v1)), (2, .int (Int32.ofInt v2))] → W p l e (gR 4 0 0) s m #[.ref (ad 0 1000)] below meth c H locs 0 0 QQ (F0 m 29 ls [])) → ∀ (v1 v2 : Int) (σ : ZS), wpbX11_memoryOperand_29 K29 v1 v2 σ Q → ∀ (H : Heap) (locs : List Loc) (ls : Array Slot), va_P D vwC (zR dA ad σ) H → va_D A (zR dA ad σ) → va_S A s.heap H locs → lv_has ls 3 [(0, .ref (ad 0 1000)), (1, .int (Int32.ofInt v1)), (2, .int (Int32.ofInt v2))] → W p l e (gR 4 0 0) s m #[.ref (ad 0 1000)] below meth c H locs 0 0 QQ (F0 m 29 ls []) := by
    intro K29 hK29
    have j139 : ∀ (v2 s0 : Int) (σ : ZS), ∀ (H : Heap) (locs : List Loc) (ls : Array Slot), va_P D vwC (zR dA ad σ) H → va_D A (zR dA ad σ) → va_S A s.heap H locs → lv_has ls 3 [(0, .ref (ad 0 1000)), (2, .int (Int32.ofInt v2))] → wpX11_memoryOperand_139 K29 v2 s0 σ Q → W p l e (gR 4 0 0) s m #[.ref (ad 0 1000)] below meth c H locs 0 0 QQ (F0 m 139 ls [.int (Int32.ofInt s0)]) := by
      intro v2 s0 σ H locs ls hP hD hS hl hw
      unfold wpX11_memoryOperand_139 at hw
      refine lv_istore_n (lv' := [(1, .int (Int32.ofInt s0)), (0, .ref (ad 0 1000)), (2, .int (Int32.ofInt v2))]) hx hb dX11_memoryOperand_139 rfl hl (by decide) rfl (fun ls hl => ?_)
      refine lv_iload_n hx hb dX11_memoryOperand_140 rfl (lv_at hl 2 rfl) ?_
      obtain ⟨o4, hw⟩ := hw
      refine z_if_eq (tgt := 29) hx hb o4 dX11_memoryOperand_141 (by decide) (fun k5 => ?_) (fun k5 => ?_)
      · replace hw := hw.1 k5
        exact hK29 s0 v2 σ hw _ _ _ hP hD hS (lv_sub hl [1, 0, 2] rfl)
      · replace hw := hw.2 k5
        refine lv_aload_n hx hb dX11_memoryOperand_144 rfl (lv_at hl 1 rfl) ?_
        refine z_Vv (n := 0) (As := []) (rest := []) hx hb hml hg hown hK hP hD hS hA (kX11_next l D dA ad σ _ _ hw) (zoR0) rfl q1895 q160 q1892 q1894 q79 (by decide +kernel) ⟨(Nat.le_of_ble_eq_true rfl), (Nat.le_of_ble_eq_true rfl)⟩ rfl hl.1 rfl (Nat.le_of_ble_eq_true rfl) dX11_memoryOperand_145 ⟨(Nat.le_of_ble_eq_true rfl), (Nat.le_of_ble_eq_true rfl)⟩ (fun σ7 H locs hw hP hD hS => ?_)
        refine lv_goto (tgt := 29) hx hb dX11_memoryOperand_148 (by decide) ?_
        exact hK29 s0 v2 σ7 hw _ _ _ hP hD hS (lv_sub hl [1, 0, 2] rfl)
    have j124 : ∀ (s0 : Int) (σ : ZS), ∀ (H : Heap) (locs : List Loc) (ls : Array Slot), va_P D vwC (zR dA ad σ) H → va_D A (zR dA ad σ) → va_S A s.heap H locs → lv_has ls 3 [(0, .ref (ad 0 1000))] → wpX11_memoryOperand_124 K29 s0 σ Q → W p l e (gR 4 0 0) s m #[.ref (ad 0 1000)] below meth c H locs 0 0 QQ (F0 m 124 ls [.int (Int32.ofInt s0)]) := by
      intro s0 σ H locs ls hP hD hS hl hw
      unfold wpX11_memoryOperand_124 at hw
      refine lv_istore_n (lv' := [(2, .int (Int32.ofInt s0)), (0, .ref (ad 0 1000))]) hx hb dX11_memoryOperand_124 rfl hl (by decide) rfl (fun ls hl => ?_)
      refine lv_aload_n hx hb dX11_memoryOperand_125 rfl (lv_at hl 1 rfl) ?_
      refine zgR0_7 hx hb hg hown hK hP q1622 dX11_memoryOperand_126 ?_
      refine lv_bipush (v := Int32.ofInt 45) hx hb dX11_memoryOperand_129 (by decide) ?_
      obtain ⟨o8, hw⟩ := hw
      refine z_icmp_ne (tgt := 138) hx hb o8 (by decide) dX11_memoryOperand_131 (by decide) (fun k9 => ?_) (fun k9 => ?_)
      · replace hw := hw.1 k9
        refine lv_iconst (v := Int32.ofInt 0) hx hb dX11_memoryOperand_138 (by decide) ?_
        exact j139 s0 0 σ _ _ _ hP hD hS (lv_sub hl [1, 0] rfl) hw
      · replace hw := hw.2 k9
        refine lv_iconst (v := Int32.ofInt 1) hx hb dX11_memoryOperand_134 (by decide) ?_
        refine lv_goto (tgt := 139) hx hb dX11_memoryOperand_135 (by decide) ?_
        exact j139 s0 1 σ _ _ _ hP hD hS (lv_sub hl [1, 0] rfl) hw
    have j119 : ∀ (σ : ZS), ∀ (H : Heap) (locs : List Loc) (ls : Array Slot), va_P D vwC (zR dA ad σ) H → va_D A (zR dA ad σ) → va_S A s.heap H locs → lv_has ls 3 [(0, .ref (ad 0 1000))] → wpX11_memoryOperand_119 K29 σ Q → W p l e (gR 4 0 0) s m #[.ref (ad 0 1000)] below meth c H locs 0 0 QQ (F0 m 119 ls []) := by
      intro σ H locs ls hP hD hS hl hw
      unfold wpX11_memoryOperand_119 at hw
      refine lv_iconst (v := Int32.ofInt 1) hx hb dX11_memoryOperand_119 (by decide) ?_
      refine lv_goto (tgt := 124) hx hb dX11_memoryOperand_120 (by decide) ?_
      exact j124 1 σ _ _ _ hP hD hS (lv_sub hl [0] rfl) hw
    have j97 : ∀ (σ : ZS), ∀ (H : Heap) (locs : List Loc) (ls : Array Slot), va_P D vwC (zR dA ad σ) H → va_D A (zR dA ad σ) → va_S A s.heap H locs → lv_has ls 3 [(0, .ref (ad 0 1000))] → wpX11_memoryOperand_97 K29 σ Q → W p l e (gR 4 0 0) s m #[.ref (ad 0 1000)] below meth c H locs 0 0 QQ (F0 m 97 ls []) := by
      intro σ H locs ls hP hD hS hl hw
      unfold wpX11_memoryOperand_97 at hw
      refine lv_aload_n hx hb dX11_memoryOperand_97 rfl (lv_at hl 0 rfl) ?_
      refine z_Vv (n := 0) (As := []) (rest := []) hx hb hml hg hown hK hP hD hS hA (kX11_next l D dA ad σ _ _ hw) (zoR0) rfl q1895 q160 q1892 q1894 q79 (by decide +kernel) ⟨(Nat.le_of_ble_eq_true rfl), (Nat.le_of_ble_eq_true rfl)⟩ rfl hl.1 rfl (Nat.le_of_ble_eq_true rfl) dX11_memoryOperand_98 ⟨(Nat.le_of_ble_eq_true rfl), (Nat.le_of_ble_eq_true rfl)⟩ (fun σ11 H locs hw hP hD hS => ?_)
      refine lv_aload_n hx hb dX11_memoryOperand_101 rfl (lv_at hl 0 rfl) ?_
      refine zgR0_7 hx hb hg hown hK hP q1622 dX11_memoryOperand_102 ?_
      refine lv_bipush (v := Int32.ofInt 43) hx hb dX11_memoryOperand_105 (by decide) ?_
      obtain ⟨o12, hw⟩ := hw
      refine z_icmp_eq (tgt := 119) hx hb o12 (by decide) dX11_memoryOperand_107 (by decide) (fun k13 => ?_) (fun k13 => ?_)
      · replace hw := hw.1 k13
        exact j119 σ11 _ _ _ hP hD hS (lv_sub hl [0] rfl) hw
      · replace hw := hw.2 k13
        refine lv_aload_n hx hb dX11_memoryOperand_110 rfl (lv_at hl 0 rfl) ?_
        refine zgR0_7 hx hb hg hown hK hP q1622 dX11_memoryOperand_111 ?_
        refine lv_bipush (v := Int32.ofInt 45) hx hb dX11_memoryOperand_114 (by decide) ?_
        refine z_icmp_ne (tgt := 123) hx hb o12 (by decide) dX11_memoryOperand_116 (by decide) (fun k14 => ?_) (fun k14 => ?_)
        · replace hw := hw.1 k14
          refine lv_iconst (v := Int32.ofInt 0) hx hb dX11_memoryOperand_123 (by decide) ?_
          exact j124 0 σ11 _ _ _ hP hD hS (lv_sub hl [0] rfl) hw
        · replace hw := hw.2 k14
          exact j119 σ11 _ _ _ hP hD hS (lv_sub hl [0] rfl) hw
    have j89 : ∀ (s2 s1 : Int) (σ : ZS), ∀ (H : Heap) (locs : List Loc) (ls : Array Slot), va_P D vwC (zR dA ad σ) H → va_D A (zR dA ad σ) → va_S A s.heap H locs → lv_has ls 3 [(0, .ref (ad 0 1000))] → wpX11_memoryOperand_89 K29 s2 s1 σ Q → W p l e (gR 4 0 0) s m #[.ref (ad 0 1000)] below meth c H locs 0 0 QQ (F0 m 89 ls [.int (Int32.ofInt s2), .int (Int32.ofInt s1), .ref (ad 0 1000)]) := by
      intro s2 s1 σ H locs ls hP hD hS hl hw
      unfold wpX11_memoryOperand_89 at hw
      refine z_iadd hx hb dX11_memoryOperand_89 ?_
      refine lv_ldcw hx hb hown (hg _ q1907) dX11_memoryOperand_90 ?_
      refine g_nrm (y := Int32.ofInt 65535) (by decide) ?_
      refine z_iandK (M := 65536) hx hb 16 (by decide) (by decide) (by decide) dX11_memoryOperand_93 ?_
      refine zpR0_38 (v := ((s1 + s2) % 65536)) hx hb hg hown hK hP hD hS q1653 dX11_memoryOperand_94 (fun H locs hP hD hS => ?_)
      exact j97 (zsI σ 0 38 ((s1 + s2) % 65536)) _ _ _ hP hD hS (lv_sub hl [0] rfl) hw
    have j60 : ∀ (v1 : Int) (σ : ZS), ∀ (H : Heap) (locs : List Loc) (ls : Array Slot), va_P D vwC (zR dA ad σ) H → va_D A (zR dA ad σ) → va_S A s.heap H locs → lv_has ls 3 [(0, .ref (ad 0 1000)), (1, .int (Int32.ofInt v1))] → wpX11_memoryOperand_60 K29 v1 σ Q → W p l e (gR 4 0 0) s m #[.ref (ad 0 1000)] below meth c H locs 0 0 QQ (F0 m 60 ls []) := by
      intro v1 σ H locs ls hP hD hS hl hw
      unfold wpX11_memoryOperand_60 at hw
      refine lv_aload_n hx hb dX11_memoryOperand_60 rfl (lv_at hl 0 rfl) ?_
      refine zgR0_7 hx hb hg hown hK hP q1622 dX11_memoryOperand_61 ?_
      refine lv_iconst (v := Int32.ofInt 2) hx hb dX11_memoryOperand_64 (by decide) ?_
      obtain ⟨o15, hw⟩ := hw
      refine z_icmp_ne (tgt := 97) hx hb o15 (by decide) dX11_memoryOperand_65 (by decide) (fun k16 => ?_) (fun k16 => ?_)
      · replace hw := hw.1 k16
        exact j97 σ _ _ _ hP hD hS (lv_sub hl [0] rfl) hw
      · replace hw := hw.2 k16
        refine lv_aload_n hx hb dX11_memoryOperand_68 rfl (lv_at hl 0 rfl) ?_
        refine lv_aload_n hx hb dX11_memoryOperand_69 rfl (lv_at hl 0 rfl) ?_
        refine zgR0_38 hx hb hg hown hK hP q1653 dX11_memoryOperand_70 ?_
        refine lv_iload_n hx hb dX11_memoryOperand_73 rfl (lv_at hl 1 rfl) ?_
        obtain ⟨o17, hw⟩ := hw
        refine z_if_eq (tgt := 85) hx hb o17 dX11_memoryOperand_74 (by decide) (fun k18 => ?_) (fun k18 => ?_)
        · replace hw := hw.1 k18
          refine lv_aload_n hx hb dX11_memoryOperand_85 rfl (lv_at hl 0 rfl) ?_
          refine zgR0_10 hx hb hg hown hK hP q1625 dX11_memoryOperand_86 ?_
          exact j89 (zI σ 0 10) (zI σ 0 38) σ _ _ _ hP hD hS (lv_sub hl [0] rfl) hw
        · replace hw := hw.2 k18
          refine lv_aload_n hx hb dX11_memoryOperand_77 rfl (lv_at hl 0 rfl) ?_
          refine zgR0_10 hx hb hg hown hK hP q1625 dX11_memoryOperand_78 ?_
          refine z_ineg hx hb dX11_memoryOperand_81 ?_
          refine lv_goto (tgt := 89) hx hb dX11_memoryOperand_82 (by decide) ?_
          exact j89 (-(zI σ 0 10)) (zI σ 0 38) σ _ _ _ hP hD hS (lv_sub hl [0] rfl) hw
    intro v1 v2 σ hw H locs ls hP hD hS hl
    unfold wpbX11_memoryOperand_29 at hw
    refine lv_iload_n hx hb dX11_memoryOperand_29 rfl (lv_at hl 2 rfl) ?_
    obtain ⟨o19, hw⟩ := hw
    refine z_if_eq (tgt := 151) hx hb o19 dX11_memoryOperand_30 (by decide) (fun k20 => ?_) (fun k20 => ?_)
    · replace hw := hw.1 k20
      refine lv_aload_n hx hb dX11_memoryOperand_151 rfl (lv_at hl 0 rfl) ?_
      refine lv_bipush (v := Int32.ofInt 93) hx hb dX11_memoryOperand_152 (by decide) ?_
      refine z_Vi (n := 1) (As := [.int (Int32.ofInt 93)]) (rest := []) hx hb hml hg hown hK hP hD hS hA (kX11_take l D dA ad 93 σ _ _ hw) (zoR0) rfl q1931 q160 q1928 q1930 q86 (by decide +kernel) ⟨(Nat.le_of_ble_eq_true rfl), (Nat.le_of_ble_eq_true rfl)⟩ rfl hl.1 rfl (Nat.le_of_ble_eq_true rfl) dX11_memoryOperand_154 ⟨(Nat.le_of_ble_eq_true rfl), (Nat.le_of_ble_eq_true rfl)⟩ (fun x21 σ22 H locs hw hP hD hS => ?_)
      obtain ⟨o23, hw⟩ := hw
      exact hret x21 σ22 _ _ _ _ o23 hw hP hD hS dX11_memoryOperand_157
    · replace hw := hw.2 k20
      refine lv_iload_n hx hb dX11_memoryOperand_33 rfl (lv_at hl 1 rfl) ?_
      obtain ⟨o24, hw⟩ := hw
      refine z_if_eq (tgt := 48) hx hb o24 dX11_memoryOperand_34 (by decide) (fun k25 => ?_) (fun k25 => ?_)
      · replace hw := hw.1 k25
        refine lv_aload_n hx hb dX11_memoryOperand_48 rfl (lv_at hl 0 rfl) ?_
        refine z_Vi (n := 0) (As := []) (rest := []) hx hb hml hg hown hK hP hD hS hA (kX11_part l D dA ad σ _ _ hw) (zoR0) rfl q1991 q160 q1988 q1990 q101 (by decide +kernel) ⟨(Nat.le_of_ble_eq_true rfl), (Nat.le_of_ble_eq_true rfl)⟩ rfl hl.1 rfl (Nat.le_of_ble_eq_true rfl) dX11_memoryOperand_49 ⟨(Nat.le_of_ble_eq_true rfl), (Nat.le_of_ble_eq_true rfl)⟩ (fun x26 σ27 H locs hw hP hD hS => ?_)
        obtain ⟨o28, hw⟩ := hw
        refine z_if_ne (tgt := 60) hx hb o28 dX11_memoryOperand_52 (by decide) (fun k29 => ?_) (fun k29 => ?_)
        · replace hw := hw.1 k29
          exact j60 v1 σ27 _ _ _ hP hD hS (lv_sub hl [0, 1] rfl) hw
        · replace hw := hw.2 k29
          exact j55 σ27 _ _ _ hP hD hS (lv_sub hl [0] rfl) hw
      · replace hw := hw.2 k25
        refine lv_aload_n hx hb dX11_memoryOperand_37 rfl (lv_at hl 0 rfl) ?_
        refine zgR0_7 hx hb hg hown hK hP q1622 dX11_memoryOperand_38 ?_
        refine lv_iconst (v := Int32.ofInt 2) hx hb dX11_memoryOperand_41 (by decide) ?_
        obtain ⟨o30, hw⟩ := hw
        refine z_icmp_eq (tgt := 60) hx hb o30 (by decide) dX11_memoryOperand_42 (by decide) (fun k31 => ?_) (fun k31 => ?_)
        · replace hw := hw.1 k31
          exact j60 v1 σ _ _ _ hP hD hS (lv_sub hl [0, 1] rfl) hw
        · replace hw := hw.2 k31
          refine lv_goto (tgt := 55) hx hb dX11_memoryOperand_45 (by decide) ?_
          exact j55 σ _ _ _ hP hD hS (lv_sub hl [0] rfl) hw
  have j29 : ∀ (v1 v2 : Int) (σ : ZS), ∀ (H : Heap) (locs : List Loc) (ls : Array Slot), va_P D vwC (zR dA ad σ) H → va_D A (zR dA ad σ) → va_S A s.heap H locs → lv_has ls 3 [(0, .ref (ad 0 1000)), (1, .int (Int32.ofInt v1)), (2, .int (Int32.ofInt v2))] → wpX11_memoryOperand_29 v1 v2 σ Q → W p l e (gR 4 0 0) s m #[.ref (ad 0 1000)] below meth c H locs 0 0 QQ (F0 m 29 ls []) := by
    intro v1 v2 σ H locs ls hP hD hS hl hw
    exact hw (fun v1 v2 σ => ∀ (H : Heap) (locs : List Loc) (ls : Array Slot), va_P D vwC (zR dA ad σ) H → va_D A (zR dA ad σ) → va_S A s.heap H locs → lv_has ls 3 [(0, .ref (ad 0 1000)), (1, .int (Int32.ofInt v1)), (2, .int (Int32.ofInt v2))] → W p l e (gR 4 0 0) s m #[.ref (ad 0 1000)] below meth c H locs 0 0 QQ (F0 m 29 ls [])) (b29 (fun v1 v2 σ => ∀ (H : Heap) (locs : List Loc) (ls : Array Slot), va_P D vwC (zR dA ad σ) H → va_D A (zR dA ad σ) → va_S A s.heap H locs → lv_has ls 3 [(0, .ref (ad 0 1000)), (1, .int (Int32.ofInt v1)), (2, .int (Int32.ofInt v2))] → W p l e (gR 4 0 0) s m #[.ref (ad 0 1000)] below meth c H locs 0 0 QQ (F0 m 29 ls [])) (fun v1 v2 σ h => h)) _ _ _ hP hD hS hl
  unfold wpX11_memoryOperand at hw
  refine lv_aload_n hx hb dX11_memoryOperand_0 rfl (lv_at hl 0 rfl) ?_
  refine lv_iconst (v := Int32.ofInt 2) hx hb dX11_memoryOperand_1 (by decide) ?_
  refine zpR0_37 (v := 2) hx hb hg hown hK hP hD hS q1652 dX11_memoryOperand_2 (fun H locs hP hD hS => ?_)
  refine lv_aload_n hx hb dX11_memoryOperand_5 rfl (lv_at hl 0 rfl) ?_
  refine lv_iconst (v := Int32.ofInt 0) hx hb dX11_memoryOperand_6 (by decide) ?_
  refine zpR0_38 (v := 0) hx hb hg hown hK hP hD hS q1653 dX11_memoryOperand_7 (fun H locs hP hD hS => ?_)
  refine lv_aload_n hx hb dX11_memoryOperand_10 rfl (lv_at hl 0 rfl) ?_
  refine lv_iconst (v := Int32.ofInt (-1)) hx hb dX11_memoryOperand_11 (by decide) ?_
  refine zpR0_39 (v := (-1)) hx hb hg hown hK hP hD hS q1654 dX11_memoryOperand_12 (fun H locs hP hD hS => ?_)
  refine lv_aload_n hx hb dX11_memoryOperand_15 rfl (lv_at hl 0 rfl) ?_
  refine lv_iconst (v := Int32.ofInt (-1)) hx hb dX11_memoryOperand_16 (by decide) ?_
  refine zpR0_41 (v := (-1)) hx hb hg hown hK hP hD hS q1656 dX11_memoryOperand_17 (fun H locs hP hD hS => ?_)
  refine lv_aload_n hx hb dX11_memoryOperand_20 rfl (lv_at hl 0 rfl) ?_
  refine lv_iconst (v := Int32.ofInt (-1)) hx hb dX11_memoryOperand_21 (by decide) ?_
  refine zpR0_42 (v := (-1)) hx hb hg hown hK hP hD hS q1657 dX11_memoryOperand_22 (fun H locs hP hD hS => ?_)
  refine lv_iconst (v := Int32.ofInt 0) hx hb dX11_memoryOperand_25 (by decide) ?_
  refine lv_istore_n (lv' := [(1, .int (Int32.ofInt 0)), (0, .ref (ad 0 1000))]) hx hb dX11_memoryOperand_26 rfl hl (by decide) rfl (fun ls hl => ?_)
  refine lv_iconst (v := Int32.ofInt 1) hx hb dX11_memoryOperand_27 (by decide) ?_
  refine lv_istore_n (lv' := [(2, .int (Int32.ofInt 1)), (1, .int (Int32.ofInt 0)), (0, .ref (ad 0 1000))]) hx hb dX11_memoryOperand_28 rfl hl (by decide) rfl (fun ls hl => ?_)
  exact j29 0 1 (zsI (zsI (zsI (zsI (zsI σ 0 37 2) 0 38 0) 0 39 (-1)) 0 41 (-1)) 0 42 (-1)) _ _ _ hP hD hS (lv_sub hl [2, 1, 0] rfl) hw
def wpX11_operand_114 (v1 : Int) (σ : ZS) (Q : Int → ZS → Prop) : Prop := (-2147483648 ≤ (zand v1 16) ∧ (zand v1 16) ≤ 2147483647) ∧ (¬ (zand v1 16) = 0 → wpX11_value σ (fun (x3 : Int) (σ4 : ZS) => (0 ≤ x3 ∧ x3 ≤ 1) ∧ Q x3 σ4)) ∧ ((zand v1 16) = 0 → wpX11_fault σ (fun (x6 : Int) (σ7 : ZS) => (0 ≤ x6 ∧ x6 ≤ 1) ∧ Q x6 σ7))
def wpX11_operand_89 (v1 : Int) (σ : ZS) (Q : Int → ZS → Prop) : Prop := (-2147483648 ≤ (zI σ 0 7) ∧ (zI σ 0 7) ≤ 2147483647) ∧ (¬ (zI σ 0 7) = 91 → wpX11_operand_114 v1 σ Q) ∧ ((zI σ 0 7) = 91 → (-2147483648 ≤ (zand v1 8) ∧ (zand v1 8) ≤ 2147483647) ∧ ((zand v1 8) = 0 → wpX11_operand_114 v1 σ Q) ∧ (¬ (zand v1 8) = 0 → wpX11_next σ (fun (σ14 : ZS) => wpX11_memoryOperand σ14 (fun (x15 : Int) (σ16 : ZS) => (0 ≤ x15 ∧ x15 ≤ 1) ∧ Q x15 σ16))))
def wpX11_operand_67 (σ : ZS) (Q : Int → ZS → Prop) : Prop := wpX11_next (zsI (zsI σ 0 37 1) 0 38 ((zI σ 0 9) - 8)) (fun (σ19 : ZS) => Q 1 σ19)
def wpX11_operand_35 (v1 : Int) (σ : ZS) (Q : Int → ZS → Prop) : Prop := wpX11_isWord 8 11 σ (fun (x20 : Int) (σ21 : ZS) => (-2147483648 ≤ x20 ∧ x20 ≤ 2147483647) ∧ (x20 = 0 → wpX11_operand_89 v1 σ21 Q) ∧ (¬ x20 = 0 → (-2147483648 ≤ (zand v1 2) ∧ (zand v1 2) ≤ 2147483647) ∧ (¬ (zand v1 2) = 0 → wpX11_operand_67 σ21 Q) ∧ ((zand v1 2) = 0 → (-2147483648 ≤ (zand v1 4) ∧ (zand v1 4) ≤ 2147483647) ∧ ((zand v1 4) = 0 → wpX11_operand_89 v1 σ21 Q) ∧ (¬ (zand v1 4) = 0 → (-2147483648 ≤ (zI σ21 0 9) ∧ (zI σ21 0 9) ≤ 2147483647) ∧ ((zI σ21 0 9) = 9 → wpX11_operand_89 v1 σ21 Q) ∧ (¬ (zI σ21 0 9) = 9 → wpX11_operand_67 σ21 Q)))))
def wpX11_operand (a1 : Int) (σ : ZS) (Q : Int → ZS → Prop) : Prop := wpX11_isWord 0 7 σ (fun (x30 : Int) (σ31 : ZS) => (-2147483648 ≤ x30 ∧ x30 ≤ 2147483647) ∧ (x30 = 0 → wpX11_operand_35 a1 σ31 Q) ∧ (¬ x30 = 0 → ((a1 % 2) = 0 → wpX11_operand_35 a1 σ31 Q) ∧ (¬ (a1 % 2) = 0 → wpX11_next (zsI (zsI σ31 0 37 0) 0 38 (zI σ31 0 9)) (fun (σ36 : ZS) => Q 1 σ36))))
set_option maxHeartbeats 4000000 in
set_option maxRecDepth 100000 in
theorem kX11_operand (l : Launch) (D : va_G) (dA : Nat → ClassId) (ad : Int → Nat → Nat) (a1 : Int) (σ : ZS) (Q : Int → ZS → Prop) (sz : Nat) (hw : wpX11_operand a1 σ Q) : Met l yX11_operand (gws yX11_operand cX11_operand 2 (some .boolean)) (gR 5 0 0) (gPre D dA [.ref (ad 0 1000), .int (Int32.ofInt a1)] (zR dA ad σ) sz) (va_Qi (zQi Q) (gAt D dA (va_A (zR dA ad σ) sz) (zR dA ad)) (va_A (zR dA ad σ) sz)) 0 0 (va_A (zR dA ad σ) sz) := by
  refine Met.ofW (cc := cX11_operand) (maxL := 2) (ret := (some .boolean)) (by decide) rfl ?_
  intro p e s m args below meth c s₁ B hml hv
  obtain ⟨rfl, hsz, hP, hK, hD0⟩ := hv
  have hx := B.exec
  have hb := B.bytes
  have hr := B.returns
  have hts := atoms_spec (ws := gws yX11_operand cX11_operand 2 (some .boolean)) B.pre
  have hg : ∀ w ∈ gw, w.before _ s = true := fun w h => hts w (List.mem_cons_of_mem _ h)
  have hown : s.vm.findClass RX11 = some m.cls := findClass_of_methodNamed B.named
  have hlocks := B.notSynchronized
  subst hsz
  have hD := hD0.self (sz := s.heap.size)
  generalize hAe : va_A (zR dA ad σ) s.heap.size = A at hD ⊢
  have hA : ∀ q : Nat, s.heap.size ≤ q → A q := fun q h => by rw [← hAe]; exact Or.inr h
  have hS : va_S A s.heap s.heap [] := va_S.rf
  have hl := lv_entry ([.ref (ad 0 1000), .int (Int32.ofInt a1)]) (n := 2) (Nat.le_of_ble_eq_true rfl)
  rw [lg_entry_eq]
  generalize (lg_sl ([.ref (ad 0 1000), .int (Int32.ofInt a1)]) ++ List.replicate (2 - (lg_sl ([.ref (ad 0 1000), .int (Int32.ofInt a1)])).length) Slot.unset).toArray = ls at hl ⊢
  have hl : lv_has ls 2 [(0, .ref (ad 0 1000)), (1, .int (Int32.ofInt a1))] := hl
  have hret : ∀ (v : Int) (σ : ZS) (H : Heap) (locs : List Loc) (ls : Array Slot) (pc : Nat), (0 ≤ v ∧ v ≤ 1) → Q v σ → va_P D vwC (zR dA ad σ) H → va_D A (zR dA ad σ) → va_S A s.heap H locs → decode cX11_operand pc = .ok (.ireturn, 1) → W p l e (gR 5 0 0) s m #[.ref (ad 0 1000), .int (Int32.ofInt a1)] below meth c H locs 0 0 (MQ below (va_Qi (zQi Q) (gAt D dA A (zR dA ad)) A) #[.ref (ad 0 1000), .int (Int32.ofInt a1)] s 0 0 A) (F0 m pc ls [.int (Int32.ofInt v)]) := fun v σ H locs ls pc hv hw hP hD hS hd => g_iret hx hb hr (z_nb hv) hlocks hK σ hP hD hS ⟨v, rfl, hw⟩ (Nat.le_of_ble_eq_true rfl) (Nat.le_of_ble_eq_true rfl) hd
  generalize MQ below (va_Qi (zQi Q) (gAt D dA A (zR dA ad)) A) #[.ref (ad 0 1000), .int (Int32.ofInt a1)] s 0 0 A = QQ at hret ⊢
  have j114 : ∀ (v1 : Int) (σ : ZS), ∀ (H : Heap) (locs : List Loc) (ls : Array Slot), va_P D vwC (zR dA ad σ) H → va_D A (zR dA ad σ) → va_S A s.heap H locs → lv_has ls 2 [(0, .ref (ad 0 1000)), (1, .int (Int32.ofInt v1))] → wpX11_operand_114 v1 σ Q → W p l e (gR 5 0 0) s m #[.ref (ad 0 1000), .int (Int32.ofInt a1)] below meth c H locs 0 0 QQ (F0 m 114 ls []) := by
    intro v1 σ H locs ls hP hD hS hl hw
    unfold wpX11_operand_114 at hw
    refine lv_iload_n hx hb dX11_operand_114 rfl (lv_at hl 1 rfl) ?_
    refine lv_bipush (v := Int32.ofInt 16) hx hb dX11_operand_115 (by decide) ?_
    refine z_iand hx hb dX11_operand_117 ?_
    obtain ⟨o1, hw⟩ := hw
    refine z_if_ne (tgt := 126) hx hb o1 dX11_operand_118 (by decide) (fun k2 => ?_) (fun k2 => ?_)
    · replace hw := hw.1 k2
      refine lv_aload_n hx hb dX11_operand_126 rfl (lv_at hl 0 rfl) ?_
      refine z_Vi (n := 0) (As := []) (rest := []) hx hb hml hg hown hK hP hD hS hA (kX11_value l D dA ad σ _ _ hw) (zoR0) rfl q1955 q160 q1952 q1954 q92 (by decide +kernel) ⟨(Nat.le_of_ble_eq_true rfl), (Nat.le_of_ble_eq_true rfl)⟩ rfl hl.1 rfl (Nat.le_of_ble_eq_true rfl) dX11_operand_127 ⟨(Nat.le_of_ble_eq_true rfl), (Nat.le_of_ble_eq_true rfl)⟩ (fun x3 σ4 H locs hw hP hD hS => ?_)
      obtain ⟨o5, hw⟩ := hw
      exact hret x3 σ4 _ _ _ _ o5 hw hP hD hS dX11_operand_130
    · replace hw := hw.2 k2
      refine lv_aload_n hx hb dX11_operand_121 rfl (lv_at hl 0 rfl) ?_
      refine z_Vi (n := 0) (As := []) (rest := []) hx hb hml hg hown hK hP hD hS hA (kX11_fault l D dA ad σ _ _ hw) (zoR0) rfl q1919 q160 q1916 q1918 q83 (by decide +kernel) ⟨(Nat.le_of_ble_eq_true rfl), (Nat.le_of_ble_eq_true rfl)⟩ rfl hl.1 rfl (Nat.le_of_ble_eq_true rfl) dX11_operand_122 ⟨(Nat.le_of_ble_eq_true rfl), (Nat.le_of_ble_eq_true rfl)⟩ (fun x6 σ7 H locs hw hP hD hS => ?_)
      obtain ⟨o8, hw⟩ := hw
      exact hret x6 σ7 _ _ _ _ o8 hw hP hD hS dX11_operand_125
  have j89 : ∀ (v1 : Int) (σ : ZS), ∀ (H : Heap) (locs : List Loc) (ls : Array Slot), va_P D vwC (zR dA ad σ) H → va_D A (zR dA ad σ) → va_S A s.heap H locs → lv_has ls 2 [(0, .ref (ad 0 1000)), (1, .int (Int32.ofInt v1))] → wpX11_operand_89 v1 σ Q → W p l e (gR 5 0 0) s m #[.ref (ad 0 1000), .int (Int32.ofInt a1)] below meth c H locs 0 0 QQ (F0 m 89 ls []) := by
    intro v1 σ H locs ls hP hD hS hl hw
    unfold wpX11_operand_89 at hw
    refine lv_aload_n hx hb dX11_operand_89 rfl (lv_at hl 0 rfl) ?_
    refine zgR0_7 hx hb hg hown hK hP q1622 dX11_operand_90 ?_
    refine lv_bipush (v := Int32.ofInt 91) hx hb dX11_operand_93 (by decide) ?_
    obtain ⟨o9, hw⟩ := hw
    refine z_icmp_ne (tgt := 114) hx hb o9 (by decide) dX11_operand_95 (by decide) (fun k10 => ?_) (fun k10 => ?_)
    · replace hw := hw.1 k10
      exact j114 v1 σ _ _ _ hP hD hS (lv_sub hl [0, 1] rfl) hw
    · replace hw := hw.2 k10
      refine lv_iload_n hx hb dX11_operand_98 rfl (lv_at hl 1 rfl) ?_
      refine lv_bipush (v := Int32.ofInt 8) hx hb dX11_operand_99 (by decide) ?_
      refine z_iand hx hb dX11_operand_101 ?_
      obtain ⟨o11, hw⟩ := hw
      refine z_if_eq (tgt := 114) hx hb o11 dX11_operand_102 (by decide) (fun k12 => ?_) (fun k12 => ?_)
      · replace hw := hw.1 k12
        exact j114 v1 σ _ _ _ hP hD hS (lv_sub hl [0, 1] rfl) hw
      · replace hw := hw.2 k12
        refine lv_aload_n hx hb dX11_operand_105 rfl (lv_at hl 0 rfl) ?_
        refine z_Vv (n := 0) (As := []) (rest := []) hx hb hml hg hown hK hP hD hS hA (kX11_next l D dA ad σ _ _ hw) (zoR0) rfl q1895 q160 q1892 q1894 q79 (by decide +kernel) ⟨(Nat.le_of_ble_eq_true rfl), (Nat.le_of_ble_eq_true rfl)⟩ rfl hl.1 rfl (Nat.le_of_ble_eq_true rfl) dX11_operand_106 ⟨(Nat.le_of_ble_eq_true rfl), (Nat.le_of_ble_eq_true rfl)⟩ (fun σ14 H locs hw hP hD hS => ?_)
        refine lv_aload_n hx hb dX11_operand_109 rfl (lv_at hl 0 rfl) ?_
        refine z_Vi (n := 0) (As := []) (rest := []) hx hb hml hg hown hK hP hD hS hA (kX11_memoryOperand l D dA ad σ14 _ _ hw) (zoR0) rfl q1987 q160 q1984 q1986 q100 (by decide +kernel) ⟨(Nat.le_of_ble_eq_true rfl), (Nat.le_of_ble_eq_true rfl)⟩ rfl hl.1 rfl (Nat.le_of_ble_eq_true rfl) dX11_operand_110 ⟨(Nat.le_of_ble_eq_true rfl), (Nat.le_of_ble_eq_true rfl)⟩ (fun x15 σ16 H locs hw hP hD hS => ?_)
        obtain ⟨o17, hw⟩ := hw
        exact hret x15 σ16 _ _ _ _ o17 hw hP hD hS dX11_operand_113
  have j67 : ∀ (σ : ZS), ∀ (H : Heap) (locs : List Loc) (ls : Array Slot), va_P D vwC (zR dA ad σ) H → va_D A (zR dA ad σ) → va_S A s.heap H locs → lv_has ls 2 [(0, .ref (ad 0 1000))] → wpX11_operand_67 σ Q → W p l e (gR 5 0 0) s m #[.ref (ad 0 1000), .int (Int32.ofInt a1)] below meth c H locs 0 0 QQ (F0 m 67 ls []) := by
    intro σ H locs ls hP hD hS hl hw
    unfold wpX11_operand_67 at hw
    refine lv_aload_n hx hb dX11_operand_67 rfl (lv_at hl 0 rfl) ?_
    refine lv_iconst (v := Int32.ofInt 1) hx hb dX11_operand_68 (by decide) ?_
    refine zpR0_37 (v := 1) hx hb hg hown hK hP hD hS q1652 dX11_operand_69 (fun H locs hP hD hS => ?_)
    refine lv_aload_n hx hb dX11_operand_72 rfl (lv_at hl 0 rfl) ?_
    refine lv_aload_n hx hb dX11_operand_73 rfl (lv_at hl 0 rfl) ?_
    refine zgR0_9 hx hb hg hown hK hP q1624 dX11_operand_74 ?_
    refine g_nrm (y := Int32.ofInt (zI σ 0 9)) rfl ?_
    refine lv_bipush (v := Int32.ofInt 8) hx hb dX11_operand_77 (by decide) ?_
    refine z_isub hx hb dX11_operand_79 ?_
    refine zpR0_38 (v := ((zI σ 0 9) - 8)) hx hb hg hown hK hP hD hS q1653 dX11_operand_80 (fun H locs hP hD hS => ?_)
    refine lv_aload_n hx hb dX11_operand_83 rfl (lv_at hl 0 rfl) ?_
    refine z_Vv (n := 0) (As := []) (rest := []) hx hb hml hg hown hK hP hD hS hA (kX11_next l D dA ad (zsI (zsI σ 0 37 1) 0 38 ((zI σ 0 9) - 8)) _ _ hw) (zoR0) rfl q1895 q160 q1892 q1894 q79 (by decide +kernel) ⟨(Nat.le_of_ble_eq_true rfl), (Nat.le_of_ble_eq_true rfl)⟩ rfl hl.1 rfl (Nat.le_of_ble_eq_true rfl) dX11_operand_84 ⟨(Nat.le_of_ble_eq_true rfl), (Nat.le_of_ble_eq_true rfl)⟩ (fun σ19 H locs hw hP hD hS => ?_)
    refine lv_iconst (v := Int32.ofInt 1) hx hb dX11_operand_87 (by decide) ?_
    exact hret 1 σ19 _ _ _ _ (by decide) hw hP hD hS dX11_operand_88
  have j35 : ∀ (v1 : Int) (σ : ZS), ∀ (H : Heap) (locs : List Loc) (ls : Array Slot), va_P D vwC (zR dA ad σ) H → va_D A (zR dA ad σ) → va_S A s.heap H locs → lv_has ls 2 [(0, .ref (ad 0 1000)), (1, .int (Int32.ofInt v1))] → wpX11_operand_35 v1 σ Q → W p l e (gR 5 0 0) s m #[.ref (ad 0 1000), .int (Int32.ofInt a1)] below meth c H locs 0 0 QQ (F0 m 35 ls []) := by
    intro v1 σ H locs ls hP hD hS hl hw
    unfold wpX11_operand_35 at hw
    refine lv_aload_n hx hb dX11_operand_35 rfl (lv_at hl 0 rfl) ?_
    refine lv_bipush (v := Int32.ofInt 8) hx hb dX11_operand_36 (by decide) ?_
    refine lv_bipush (v := Int32.ofInt 11) hx hb dX11_operand_38 (by decide) ?_
    refine z_Vi (n := 2) (As := [.int (Int32.ofInt 8), .int (Int32.ofInt 11)]) (rest := []) hx hb hml hg hown hK hP hD hS hA (kX11_isWord l D dA ad 8 11 σ _ _ hw) (zoR0) rfl q1983 q160 q1980 q1982 q99 (by decide +kernel) ⟨(Nat.le_of_ble_eq_true rfl), (Nat.le_of_ble_eq_true rfl)⟩ rfl hl.1 rfl (Nat.le_of_ble_eq_true rfl) dX11_operand_40 ⟨(Nat.le_of_ble_eq_true rfl), (Nat.le_of_ble_eq_true rfl)⟩ (fun x20 σ21 H locs hw hP hD hS => ?_)
    obtain ⟨o22, hw⟩ := hw
    refine z_if_eq (tgt := 89) hx hb o22 dX11_operand_43 (by decide) (fun k23 => ?_) (fun k23 => ?_)
    · replace hw := hw.1 k23
      exact j89 v1 σ21 _ _ _ hP hD hS (lv_sub hl [0, 1] rfl) hw
    · replace hw := hw.2 k23
      refine lv_iload_n hx hb dX11_operand_46 rfl (lv_at hl 1 rfl) ?_
      refine lv_iconst (v := Int32.ofInt 2) hx hb dX11_operand_47 (by decide) ?_
      refine z_iand hx hb dX11_operand_48 ?_
      obtain ⟨o24, hw⟩ := hw
      refine z_if_ne (tgt := 67) hx hb o24 dX11_operand_49 (by decide) (fun k25 => ?_) (fun k25 => ?_)
      · replace hw := hw.1 k25
        exact j67 σ21 _ _ _ hP hD hS (lv_sub hl [0] rfl) hw
      · replace hw := hw.2 k25
        refine lv_iload_n hx hb dX11_operand_52 rfl (lv_at hl 1 rfl) ?_
        refine lv_iconst (v := Int32.ofInt 4) hx hb dX11_operand_53 (by decide) ?_
        refine z_iand hx hb dX11_operand_54 ?_
        obtain ⟨o26, hw⟩ := hw
        refine z_if_eq (tgt := 89) hx hb o26 dX11_operand_55 (by decide) (fun k27 => ?_) (fun k27 => ?_)
        · replace hw := hw.1 k27
          exact j89 v1 σ21 _ _ _ hP hD hS (lv_sub hl [0, 1] rfl) hw
        · replace hw := hw.2 k27
          refine lv_aload_n hx hb dX11_operand_58 rfl (lv_at hl 0 rfl) ?_
          refine zgR0_9 hx hb hg hown hK hP q1624 dX11_operand_59 ?_
          refine lv_bipush (v := Int32.ofInt 9) hx hb dX11_operand_62 (by decide) ?_
          obtain ⟨o28, hw⟩ := hw
          refine z_icmp_eq (tgt := 89) hx hb o28 (by decide) dX11_operand_64 (by decide) (fun k29 => ?_) (fun k29 => ?_)
          · replace hw := hw.1 k29
            exact j89 v1 σ21 _ _ _ hP hD hS (lv_sub hl [0, 1] rfl) hw
          · replace hw := hw.2 k29
            exact j67 σ21 _ _ _ hP hD hS (lv_sub hl [0] rfl) hw
  unfold wpX11_operand at hw
  refine lv_aload_n hx hb dX11_operand_0 rfl (lv_at hl 0 rfl) ?_
  refine lv_iconst (v := Int32.ofInt 0) hx hb dX11_operand_1 (by decide) ?_
  refine lv_bipush (v := Int32.ofInt 7) hx hb dX11_operand_2 (by decide) ?_
  refine z_Vi (n := 2) (As := [.int (Int32.ofInt 0), .int (Int32.ofInt 7)]) (rest := []) hx hb hml hg hown hK hP hD hS hA (kX11_isWord l D dA ad 0 7 σ _ _ hw) (zoR0) rfl q1983 q160 q1980 q1982 q99 (by decide +kernel) ⟨(Nat.le_of_ble_eq_true rfl), (Nat.le_of_ble_eq_true rfl)⟩ rfl hl.1 rfl (Nat.le_of_ble_eq_true rfl) dX11_operand_4 ⟨(Nat.le_of_ble_eq_true rfl), (Nat.le_of_ble_eq_true rfl)⟩ (fun x30 σ31 H locs hw hP hD hS => ?_)
  obtain ⟨o32, hw⟩ := hw
  refine z_if_eq (tgt := 35) hx hb o32 dX11_operand_7 (by decide) (fun k33 => ?_) (fun k33 => ?_)
  · replace hw := hw.1 k33
    exact j35 a1 σ31 _ _ _ hP hD hS (lv_sub hl [0, 1] rfl) hw
  · replace hw := hw.2 k33
    refine lv_iload_n hx hb dX11_operand_10 rfl (lv_at hl 1 rfl) ?_
    refine lv_iconst (v := Int32.ofInt 1) hx hb dX11_operand_11 (by decide) ?_
    refine z_iandK (M := 2) hx hb 1 (by decide) (by decide) (by decide) dX11_operand_12 ?_
    refine z_if_eq (tgt := 35) hx hb (by clear hw; omega) dX11_operand_13 (by decide) (fun k34 => ?_) (fun k34 => ?_)
    · replace hw := hw.1 k34
      exact j35 a1 σ31 _ _ _ hP hD hS (lv_sub hl [0, 1] rfl) hw
    · replace hw := hw.2 k34
      refine lv_aload_n hx hb dX11_operand_16 rfl (lv_at hl 0 rfl) ?_
      refine lv_iconst (v := Int32.ofInt 0) hx hb dX11_operand_17 (by decide) ?_
      refine zpR0_37 (v := 0) hx hb hg hown hK hP hD hS q1652 dX11_operand_18 (fun H locs hP hD hS => ?_)
      refine lv_aload_n hx hb dX11_operand_21 rfl (lv_at hl 0 rfl) ?_
      refine lv_aload_n hx hb dX11_operand_22 rfl (lv_at hl 0 rfl) ?_
      refine zgR0_9 hx hb hg hown hK hP q1624 dX11_operand_23 ?_
      refine g_nrm (y := Int32.ofInt (zI σ31 0 9)) rfl ?_
      refine zpR0_38 (v := (zI σ31 0 9)) hx hb hg hown hK hP hD hS q1653 dX11_operand_26 (fun H locs hP hD hS => ?_)
      refine lv_aload_n hx hb dX11_operand_29 rfl (lv_at hl 0 rfl) ?_
      refine z_Vv (n := 0) (As := []) (rest := []) hx hb hml hg hown hK hP hD hS hA (kX11_next l D dA ad (zsI (zsI σ31 0 37 0) 0 38 (zI σ31 0 9)) _ _ hw) (zoR0) rfl q1895 q160 q1892 q1894 q79 (by decide +kernel) ⟨(Nat.le_of_ble_eq_true rfl), (Nat.le_of_ble_eq_true rfl)⟩ rfl hl.1 rfl (Nat.le_of_ble_eq_true rfl) dX11_operand_30 ⟨(Nat.le_of_ble_eq_true rfl), (Nat.le_of_ble_eq_true rfl)⟩ (fun σ36 H locs hw hP hD hS => ?_)
      refine lv_iconst (v := Int32.ofInt 1) hx hb dX11_operand_33 (by decide) ?_
      exact hret 1 σ36 _ _ _ _ (by decide) hw hP hD hS dX11_operand_34
