theorem q186 : Cond.instanceMethod objectInit ∈ gw := gw_in (i := 186) (by decide +kernel) rfl
theorem q187 : Cond.code objectInit ⟨#[0xb1]⟩ 1 none ∈ gw := gw_in (i := 187) (by decide +kernel) rfl
theorem q193 : Cond.methodLink RX5 3 objectInit ∈ gw := gw_in (i := 193) (by decide +kernel) rfl
theorem q223 : Cond.arrayClass .long ∈ gw := gw_in (i := 223) (by decide +kernel) rfl
theorem q224 : Cond.arrayClass .int ∈ gw := gw_in (i := 224) (by decide +kernel) rfl
theorem q230 : Cond.methodLink RX9 3 objectInit ∈ gw := gw_in (i := 230) (by decide +kernel) rfl
theorem q256 : Cond.methodLink RX0 3 objectInit ∈ gw := gw_in (i := 256) (by decide +kernel) rfl
theorem q296 : Cond.methodLink RX8 1 objectInit ∈ gw := gw_in (i := 296) (by decide +kernel) rfl
theorem q297 : Cond.classLink RX8 17 RX7 ∈ gw := gw_in (i := 297) (by decide +kernel) rfl
theorem q298 : Cond.instantiable RX7 8 ∈ gw := gw_in (i := 298) (by decide +kernel) rfl
theorem q299 : Cond.methodLink RX8 19 yX7_init ∈ gw := gw_in (i := 299) (by decide +kernel) rfl
theorem q300 : Cond.instanceMethod yX7_init ∈ gw := gw_in (i := 300) (by decide +kernel) rfl
theorem q301 : Cond.code yX7_init cX7_init 1 none ∈ gw := gw_in (i := 301) (by decide +kernel) rfl
theorem q302 : Cond.methodLink RX7 1 objectInit ∈ gw := gw_in (i := 302) (by decide +kernel) rfl
theorem q303 : Cond.methodLink RX7 7 yX7_clear ∈ gw := gw_in (i := 303) (by decide +kernel) rfl
theorem q370 : Cond.methodLink RX2 3 objectInit ∈ gw := gw_in (i := 370) (by decide +kernel) rfl
theorem q396 : Cond.methodLink RX6 3 objectInit ∈ gw := gw_in (i := 396) (by decide +kernel) rfl
theorem q482 : Cond.methodLink RX3 3 objectInit ∈ gw := gw_in (i := 482) (by decide +kernel) rfl
theorem q510 : Cond.methodLink RX1 5 objectInit ∈ gw := gw_in (i := 510) (by decide +kernel) rfl
theorem q525 : Cond.fieldLink RX1 31 "SegmentBench$Image" "mainParagraph" "I" ∈ gw := gw_in (i := 525) (by decide +kernel) rfl
theorem q528 : Cond.fieldLink RX1 34 "SegmentBench$Image" "mainOffset" "I" ∈ gw := gw_in (i := 528) (by decide +kernel) rfl
theorem q551 : Cond.methodLink RX4 3 objectInit ∈ gw := gw_in (i := 551) (by decide +kernel) rfl
theorem dX5_init_0 : decode cX5_init 0 = .ok (.aload_n 0, 1) := by decide +kernel
theorem dX5_init_1 : decode cX5_init 1 = .ok (.invokespecial 3, 3) := by decide +kernel
theorem dX5_init_4 : decode cX5_init 4 = .ok (.aload_n 0, 1) := by decide +kernel
theorem dX5_init_5 : decode cX5_init 5 = .ok (.sipush 240, 3) := by decide +kernel
theorem dX5_init_8 : decode cX5_init 8 = .ok (.newarray .long, 2) := by decide +kernel
theorem dX5_init_10 : decode cX5_init 10 = .ok (.putfield 11, 3) := by decide +kernel
theorem dX5_init_13 : decode cX5_init 13 = .ok (.aload_n 0, 1) := by decide +kernel
theorem dX5_init_14 : decode cX5_init 14 = .ok (.sipush 240, 3) := by decide +kernel
theorem dX5_init_17 : decode cX5_init 17 = .ok (.newarray .int, 2) := by decide +kernel
theorem dX5_init_19 : decode cX5_init 19 = .ok (.putfield 15, 3) := by decide +kernel
theorem dX5_init_22 : decode cX5_init 22 = .ok (.aload_n 0, 1) := by decide +kernel
theorem dX5_init_23 : decode cX5_init 23 = .ok (.sipush 240, 3) := by decide +kernel
theorem dX5_init_26 : decode cX5_init 26 = .ok (.newarray .int, 2) := by decide +kernel
theorem dX5_init_28 : decode cX5_init 28 = .ok (.putfield 19, 3) := by decide +kernel
theorem dX5_init_31 : decode cX5_init 31 = .ok (.aload_n 0, 1) := by decide +kernel
theorem dX5_init_32 : decode cX5_init 32 = .ok (.sipush 240, 3) := by decide +kernel
theorem dX5_init_35 : decode cX5_init 35 = .ok (.newarray .int, 2) := by decide +kernel
theorem dX5_init_37 : decode cX5_init 37 = .ok (.putfield 22, 3) := by decide +kernel
theorem dX5_init_40 : decode cX5_init 40 = .ok (.aload_n 0, 1) := by decide +kernel
theorem dX5_init_41 : decode cX5_init 41 = .ok (.sipush 240, 3) := by decide +kernel
theorem dX5_init_44 : decode cX5_init 44 = .ok (.newarray .int, 2) := by decide +kernel
theorem dX5_init_46 : decode cX5_init 46 = .ok (.putfield 25, 3) := by decide +kernel
theorem dX5_init_49 : decode cX5_init 49 = .ok (.aload_n 0, 1) := by decide +kernel
theorem dX5_init_50 : decode cX5_init 50 = .ok (.iconst 0, 1) := by decide +kernel
theorem dX5_init_51 : decode cX5_init 51 = .ok (.putfield 28, 3) := by decide +kernel
theorem dX5_init_54 : decode cX5_init 54 = .ok (.aload_n 0, 1) := by decide +kernel
theorem dX5_init_55 : decode cX5_init 55 = .ok (.iconst (-1), 1) := by decide +kernel
theorem dX5_init_56 : decode cX5_init 56 = .ok (.putfield 32, 3) := by decide +kernel
theorem dX5_init_59 : decode cX5_init 59 = .ok (.return_, 1) := by decide +kernel
theorem dX9_init_0 : decode cX9_init 0 = .ok (.aload_n 0, 1) := by decide +kernel
theorem dX9_init_1 : decode cX9_init 1 = .ok (.invokespecial 3, 3) := by decide +kernel
theorem dX9_init_4 : decode cX9_init 4 = .ok (.aload_n 0, 1) := by decide +kernel
theorem dX9_init_5 : decode cX9_init 5 = .ok (.sipush 481, 3) := by decide +kernel
theorem dX9_init_8 : decode cX9_init 8 = .ok (.newarray .int, 2) := by decide +kernel
theorem dX9_init_10 : decode cX9_init 10 = .ok (.putfield 9, 3) := by decide +kernel
theorem dX9_init_13 : decode cX9_init 13 = .ok (.aload_n 0, 1) := by decide +kernel
theorem dX9_init_14 : decode cX9_init 14 = .ok (.sipush 481, 3) := by decide +kernel
theorem dX9_init_17 : decode cX9_init 17 = .ok (.newarray .int, 2) := by decide +kernel
theorem dX9_init_19 : decode cX9_init 19 = .ok (.putfield 15, 3) := by decide +kernel
theorem dX9_init_22 : decode cX9_init 22 = .ok (.aload_n 0, 1) := by decide +kernel
theorem dX9_init_23 : decode cX9_init 23 = .ok (.sipush 481, 3) := by decide +kernel
theorem dX9_init_26 : decode cX9_init 26 = .ok (.newarray .int, 2) := by decide +kernel
theorem dX9_init_28 : decode cX9_init 28 = .ok (.putfield 18, 3) := by decide +kernel
theorem dX9_init_31 : decode cX9_init 31 = .ok (.aload_n 0, 1) := by decide +kernel
theorem dX9_init_32 : decode cX9_init 32 = .ok (.iconst 0, 1) := by decide +kernel
theorem dX9_init_33 : decode cX9_init 33 = .ok (.putfield 21, 3) := by decide +kernel
theorem dX9_init_36 : decode cX9_init 36 = .ok (.aload_n 0, 1) := by decide +kernel
theorem dX9_init_37 : decode cX9_init 37 = .ok (.aload_n 1, 1) := by decide +kernel
theorem dX9_init_38 : decode cX9_init 38 = .ok (.putfield 25, 3) := by decide +kernel
theorem dX9_init_41 : decode cX9_init 41 = .ok (.return_, 1) := by decide +kernel
theorem dX7_init_0 : decode cX7_init 0 = .ok (.aload_n 0, 1) := by decide +kernel
theorem dX7_init_1 : decode cX7_init 1 = .ok (.invokespecial 1, 3) := by decide +kernel
theorem dX7_init_4 : decode cX7_init 4 = .ok (.aload_n 0, 1) := by decide +kernel
theorem dX7_init_5 : decode cX7_init 5 = .ok (.iconst 0, 1) := by decide +kernel
theorem dX7_init_6 : decode cX7_init 6 = .ok (.invokevirtual 7, 3) := by decide +kernel
theorem dX7_init_9 : decode cX7_init 9 = .ok (.return_, 1) := by decide +kernel
theorem dX0_init_0 : decode cX0_init 0 = .ok (.aload_n 0, 1) := by decide +kernel
theorem dX0_init_1 : decode cX0_init 1 = .ok (.invokespecial 3, 3) := by decide +kernel
theorem dX0_init_4 : decode cX0_init 4 = .ok (.aload_n 0, 1) := by decide +kernel
theorem dX0_init_5 : decode cX0_init 5 = .ok (.sipush 248, 3) := by decide +kernel
theorem dX0_init_8 : decode cX0_init 8 = .ok (.newarray .int, 2) := by decide +kernel
theorem dX0_init_10 : decode cX0_init 10 = .ok (.putfield 11, 3) := by decide +kernel
theorem dX0_init_13 : decode cX0_init 13 = .ok (.aload_n 0, 1) := by decide +kernel
theorem dX0_init_14 : decode cX0_init 14 = .ok (.sipush 248, 3) := by decide +kernel
theorem dX0_init_17 : decode cX0_init 17 = .ok (.newarray .int, 2) := by decide +kernel
theorem dX0_init_19 : decode cX0_init 19 = .ok (.putfield 15, 3) := by decide +kernel
theorem dX0_init_22 : decode cX0_init 22 = .ok (.aload_n 0, 1) := by decide +kernel
theorem dX0_init_23 : decode cX0_init 23 = .ok (.sipush 248, 3) := by decide +kernel
theorem dX0_init_26 : decode cX0_init 26 = .ok (.newarray .int, 2) := by decide +kernel
theorem dX0_init_28 : decode cX0_init 28 = .ok (.putfield 18, 3) := by decide +kernel
theorem dX0_init_31 : decode cX0_init 31 = .ok (.aload_n 0, 1) := by decide +kernel
theorem dX0_init_32 : decode cX0_init 32 = .ok (.sipush 248, 3) := by decide +kernel
theorem dX0_init_35 : decode cX0_init 35 = .ok (.newarray .int, 2) := by decide +kernel
theorem dX0_init_37 : decode cX0_init 37 = .ok (.putfield 21, 3) := by decide +kernel
theorem dX0_init_40 : decode cX0_init 40 = .ok (.aload_n 0, 1) := by decide +kernel
theorem dX0_init_41 : decode cX0_init 41 = .ok (.sipush 248, 3) := by decide +kernel
theorem dX0_init_44 : decode cX0_init 44 = .ok (.newarray .int, 2) := by decide +kernel
theorem dX0_init_46 : decode cX0_init 46 = .ok (.putfield 24, 3) := by decide +kernel
theorem dX0_init_49 : decode cX0_init 49 = .ok (.aload_n 0, 1) := by decide +kernel
theorem dX0_init_50 : decode cX0_init 50 = .ok (.sipush 248, 3) := by decide +kernel
theorem dX0_init_53 : decode cX0_init 53 = .ok (.newarray .int, 2) := by decide +kernel
theorem dX0_init_55 : decode cX0_init 55 = .ok (.putfield 27, 3) := by decide +kernel
theorem dX0_init_58 : decode cX0_init 58 = .ok (.aload_n 0, 1) := by decide +kernel
theorem dX0_init_59 : decode cX0_init 59 = .ok (.sipush 248, 3) := by decide +kernel
theorem dX0_init_62 : decode cX0_init 62 = .ok (.newarray .int, 2) := by decide +kernel
theorem dX0_init_64 : decode cX0_init 64 = .ok (.putfield 30, 3) := by decide +kernel
theorem dX0_init_67 : decode cX0_init 67 = .ok (.aload_n 0, 1) := by decide +kernel
theorem dX0_init_68 : decode cX0_init 68 = .ok (.iconst 0, 1) := by decide +kernel
theorem dX0_init_69 : decode cX0_init 69 = .ok (.putfield 33, 3) := by decide +kernel
theorem dX0_init_72 : decode cX0_init 72 = .ok (.return_, 1) := by decide +kernel
theorem dX8_init_0 : decode cX8_init 0 = .ok (.aload_n 0, 1) := by decide +kernel
theorem dX8_init_1 : decode cX8_init 1 = .ok (.invokespecial 1, 3) := by decide +kernel
theorem dX8_init_4 : decode cX8_init 4 = .ok (.aload_n 0, 1) := by decide +kernel
theorem dX8_init_5 : decode cX8_init 5 = .ok (.aload_n 1, 1) := by decide +kernel
theorem dX8_init_6 : decode cX8_init 6 = .ok (.putfield 7, 3) := by decide +kernel
theorem dX8_init_9 : decode cX8_init 9 = .ok (.aload_n 0, 1) := by decide +kernel
theorem dX8_init_10 : decode cX8_init 10 = .ok (.aload_n 2, 1) := by decide +kernel
theorem dX8_init_11 : decode cX8_init 11 = .ok (.putfield 13, 3) := by decide +kernel
theorem dX8_init_14 : decode cX8_init 14 = .ok (.aload_n 0, 1) := by decide +kernel
theorem dX8_init_15 : decode cX8_init 15 = .ok (.new 17, 3) := by decide +kernel
theorem dX8_init_18 : decode cX8_init 18 = .ok (.dup, 1) := by decide +kernel
theorem dX8_init_19 : decode cX8_init 19 = .ok (.invokespecial 19, 3) := by decide +kernel
theorem dX8_init_22 : decode cX8_init 22 = .ok (.putfield 20, 3) := by decide +kernel
theorem dX8_init_25 : decode cX8_init 25 = .ok (.aload_n 0, 1) := by decide +kernel
theorem dX8_init_26 : decode cX8_init 26 = .ok (.new 17, 3) := by decide +kernel
theorem dX8_init_29 : decode cX8_init 29 = .ok (.dup, 1) := by decide +kernel
theorem dX8_init_30 : decode cX8_init 30 = .ok (.invokespecial 19, 3) := by decide +kernel
theorem dX8_init_33 : decode cX8_init 33 = .ok (.putfield 24, 3) := by decide +kernel
theorem dX8_init_36 : decode cX8_init 36 = .ok (.aload_n 0, 1) := by decide +kernel
theorem dX8_init_37 : decode cX8_init 37 = .ok (.iconst 0, 1) := by decide +kernel
theorem dX8_init_38 : decode cX8_init 38 = .ok (.putfield 27, 3) := by decide +kernel
theorem dX8_init_41 : decode cX8_init 41 = .ok (.aload_n 0, 1) := by decide +kernel
theorem dX8_init_42 : decode cX8_init 42 = .ok (.iconst 0, 1) := by decide +kernel
theorem dX8_init_43 : decode cX8_init 43 = .ok (.putfield 31, 3) := by decide +kernel
theorem dX8_init_46 : decode cX8_init 46 = .ok (.return_, 1) := by decide +kernel
theorem dX2_init_0 : decode cX2_init 0 = .ok (.aload_n 0, 1) := by decide +kernel
theorem dX2_init_1 : decode cX2_init 1 = .ok (.invokespecial 3, 3) := by decide +kernel
theorem dX2_init_4 : decode cX2_init 4 = .ok (.aload_n 0, 1) := by decide +kernel
theorem dX2_init_5 : decode cX2_init 5 = .ok (.aload_n 1, 1) := by decide +kernel
theorem dX2_init_6 : decode cX2_init 6 = .ok (.putfield 9, 3) := by decide +kernel
theorem dX2_init_9 : decode cX2_init 9 = .ok (.aload_n 0, 1) := by decide +kernel
theorem dX2_init_10 : decode cX2_init 10 = .ok (.aload_n 2, 1) := by decide +kernel
theorem dX2_init_11 : decode cX2_init 11 = .ok (.putfield 15, 3) := by decide +kernel
theorem dX2_init_14 : decode cX2_init 14 = .ok (.aload_n 0, 1) := by decide +kernel
theorem dX2_init_15 : decode cX2_init 15 = .ok (.bipush 60, 2) := by decide +kernel
theorem dX2_init_17 : decode cX2_init 17 = .ok (.newarray .int, 2) := by decide +kernel
theorem dX2_init_19 : decode cX2_init 19 = .ok (.putfield 19, 3) := by decide +kernel
theorem dX2_init_22 : decode cX2_init 22 = .ok (.aload_n 0, 1) := by decide +kernel
theorem dX2_init_23 : decode cX2_init 23 = .ok (.bipush 60, 2) := by decide +kernel
theorem dX2_init_25 : decode cX2_init 25 = .ok (.newarray .int, 2) := by decide +kernel
theorem dX2_init_27 : decode cX2_init 27 = .ok (.putfield 23, 3) := by decide +kernel
theorem dX2_init_30 : decode cX2_init 30 = .ok (.aload_n 0, 1) := by decide +kernel
theorem dX2_init_31 : decode cX2_init 31 = .ok (.iconst 0, 1) := by decide +kernel
theorem dX2_init_32 : decode cX2_init 32 = .ok (.putfield 26, 3) := by decide +kernel
theorem dX2_init_35 : decode cX2_init 35 = .ok (.aload_n 0, 1) := by decide +kernel
theorem dX2_init_36 : decode cX2_init 36 = .ok (.iconst (-1), 1) := by decide +kernel
theorem dX2_init_37 : decode cX2_init 37 = .ok (.putfield 30, 3) := by decide +kernel
theorem dX2_init_40 : decode cX2_init 40 = .ok (.return_, 1) := by decide +kernel
theorem dX6_init_0 : decode cX6_init 0 = .ok (.aload_n 0, 1) := by decide +kernel
theorem dX6_init_1 : decode cX6_init 1 = .ok (.invokespecial 3, 3) := by decide +kernel
theorem dX6_init_4 : decode cX6_init 4 = .ok (.aload_n 0, 1) := by decide +kernel
theorem dX6_init_5 : decode cX6_init 5 = .ok (.iconst 0, 1) := by decide +kernel
theorem dX6_init_6 : decode cX6_init 6 = .ok (.putfield 9, 3) := by decide +kernel
theorem dX6_init_9 : decode cX6_init 9 = .ok (.aload_n 0, 1) := by decide +kernel
theorem dX6_init_10 : decode cX6_init 10 = .ok (.iconst 0, 1) := by decide +kernel
theorem dX6_init_11 : decode cX6_init 11 = .ok (.putfield 15, 3) := by decide +kernel
theorem dX6_init_14 : decode cX6_init 14 = .ok (.aload_n 0, 1) := by decide +kernel
theorem dX6_init_15 : decode cX6_init 15 = .ok (.bipush 24, 2) := by decide +kernel
theorem dX6_init_17 : decode cX6_init 17 = .ok (.newarray .long, 2) := by decide +kernel
theorem dX6_init_19 : decode cX6_init 19 = .ok (.putfield 19, 3) := by decide +kernel
theorem dX6_init_22 : decode cX6_init 22 = .ok (.aload_n 0, 1) := by decide +kernel
theorem dX6_init_23 : decode cX6_init 23 = .ok (.bipush 24, 2) := by decide +kernel
theorem dX6_init_25 : decode cX6_init 25 = .ok (.newarray .int, 2) := by decide +kernel
theorem dX6_init_27 : decode cX6_init 27 = .ok (.putfield 23, 3) := by decide +kernel
theorem dX6_init_30 : decode cX6_init 30 = .ok (.aload_n 0, 1) := by decide +kernel
theorem dX6_init_31 : decode cX6_init 31 = .ok (.bipush 24, 2) := by decide +kernel
theorem dX6_init_33 : decode cX6_init 33 = .ok (.newarray .int, 2) := by decide +kernel
theorem dX6_init_35 : decode cX6_init 35 = .ok (.putfield 27, 3) := by decide +kernel
theorem dX6_init_38 : decode cX6_init 38 = .ok (.aload_n 0, 1) := by decide +kernel
theorem dX6_init_39 : decode cX6_init 39 = .ok (.bipush 24, 2) := by decide +kernel
theorem dX6_init_41 : decode cX6_init 41 = .ok (.newarray .int, 2) := by decide +kernel
theorem dX6_init_43 : decode cX6_init 43 = .ok (.putfield 30, 3) := by decide +kernel
theorem dX6_init_46 : decode cX6_init 46 = .ok (.aload_n 0, 1) := by decide +kernel
theorem dX6_init_47 : decode cX6_init 47 = .ok (.sipush 400, 3) := by decide +kernel
theorem dX6_init_50 : decode cX6_init 50 = .ok (.newarray .int, 2) := by decide +kernel
theorem dX6_init_52 : decode cX6_init 52 = .ok (.putfield 33, 3) := by decide +kernel
theorem dX6_init_55 : decode cX6_init 55 = .ok (.aload_n 0, 1) := by decide +kernel
theorem dX6_init_56 : decode cX6_init 56 = .ok (.iconst 0, 1) := by decide +kernel
theorem dX6_init_57 : decode cX6_init 57 = .ok (.putfield 36, 3) := by decide +kernel
theorem dX6_init_60 : decode cX6_init 60 = .ok (.aload_n 0, 1) := by decide +kernel
theorem dX6_init_61 : decode cX6_init 61 = .ok (.sipush 200, 3) := by decide +kernel
theorem dX6_init_64 : decode cX6_init 64 = .ok (.newarray .int, 2) := by decide +kernel
theorem dX6_init_66 : decode cX6_init 66 = .ok (.putfield 39, 3) := by decide +kernel
theorem dX6_init_69 : decode cX6_init 69 = .ok (.aload_n 0, 1) := by decide +kernel
theorem dX6_init_70 : decode cX6_init 70 = .ok (.sipush 200, 3) := by decide +kernel
theorem dX6_init_73 : decode cX6_init 73 = .ok (.newarray .int, 2) := by decide +kernel
theorem dX6_init_75 : decode cX6_init 75 = .ok (.putfield 42, 3) := by decide +kernel
theorem dX6_init_78 : decode cX6_init 78 = .ok (.aload_n 0, 1) := by decide +kernel
theorem dX6_init_79 : decode cX6_init 79 = .ok (.sipush 200, 3) := by decide +kernel
theorem dX6_init_82 : decode cX6_init 82 = .ok (.newarray .int, 2) := by decide +kernel
theorem dX6_init_84 : decode cX6_init 84 = .ok (.putfield 45, 3) := by decide +kernel
theorem dX6_init_87 : decode cX6_init 87 = .ok (.aload_n 0, 1) := by decide +kernel
theorem dX6_init_88 : decode cX6_init 88 = .ok (.sipush 200, 3) := by decide +kernel
theorem dX6_init_91 : decode cX6_init 91 = .ok (.newarray .int, 2) := by decide +kernel
theorem dX6_init_93 : decode cX6_init 93 = .ok (.putfield 48, 3) := by decide +kernel
theorem dX6_init_96 : decode cX6_init 96 = .ok (.aload_n 0, 1) := by decide +kernel
theorem dX6_init_97 : decode cX6_init 97 = .ok (.sipush 200, 3) := by decide +kernel
theorem dX6_init_100 : decode cX6_init 100 = .ok (.newarray .long, 2) := by decide +kernel
theorem dX6_init_102 : decode cX6_init 102 = .ok (.putfield 51, 3) := by decide +kernel
theorem dX6_init_105 : decode cX6_init 105 = .ok (.aload_n 0, 1) := by decide +kernel
theorem dX6_init_106 : decode cX6_init 106 = .ok (.iconst 0, 1) := by decide +kernel
theorem dX6_init_107 : decode cX6_init 107 = .ok (.putfield 54, 3) := by decide +kernel
theorem dX6_init_110 : decode cX6_init 110 = .ok (.aload_n 0, 1) := by decide +kernel
theorem dX6_init_111 : decode cX6_init 111 = .ok (.bipush 24, 2) := by decide +kernel
theorem dX6_init_113 : decode cX6_init 113 = .ok (.newarray .long, 2) := by decide +kernel
theorem dX6_init_115 : decode cX6_init 115 = .ok (.putfield 57, 3) := by decide +kernel
theorem dX6_init_118 : decode cX6_init 118 = .ok (.aload_n 0, 1) := by decide +kernel
theorem dX6_init_119 : decode cX6_init 119 = .ok (.bipush 24, 2) := by decide +kernel
theorem dX6_init_121 : decode cX6_init 121 = .ok (.newarray .int, 2) := by decide +kernel
theorem dX6_init_123 : decode cX6_init 123 = .ok (.putfield 60, 3) := by decide +kernel
theorem dX6_init_126 : decode cX6_init 126 = .ok (.aload_n 0, 1) := by decide +kernel
theorem dX6_init_127 : decode cX6_init 127 = .ok (.bipush 24, 2) := by decide +kernel
theorem dX6_init_129 : decode cX6_init 129 = .ok (.newarray .int, 2) := by decide +kernel
theorem dX6_init_131 : decode cX6_init 131 = .ok (.putfield 63, 3) := by decide +kernel
theorem dX6_init_134 : decode cX6_init 134 = .ok (.return_, 1) := by decide +kernel
theorem dX3_init_0 : decode cX3_init 0 = .ok (.aload_n 0, 1) := by decide +kernel
theorem dX3_init_1 : decode cX3_init 1 = .ok (.invokespecial 3, 3) := by decide +kernel
theorem dX3_init_4 : decode cX3_init 4 = .ok (.aload_n 0, 1) := by decide +kernel
theorem dX3_init_5 : decode cX3_init 5 = .ok (.aload_n 1, 1) := by decide +kernel
theorem dX3_init_6 : decode cX3_init 6 = .ok (.putfield 9, 3) := by decide +kernel
theorem dX3_init_9 : decode cX3_init 9 = .ok (.aload_n 0, 1) := by decide +kernel
theorem dX3_init_10 : decode cX3_init 10 = .ok (.bipush 72, 2) := by decide +kernel
theorem dX3_init_12 : decode cX3_init 12 = .ok (.newarray .long, 2) := by decide +kernel
theorem dX3_init_14 : decode cX3_init 14 = .ok (.putfield 15, 3) := by decide +kernel
theorem dX3_init_17 : decode cX3_init 17 = .ok (.aload_n 0, 1) := by decide +kernel
theorem dX3_init_18 : decode cX3_init 18 = .ok (.bipush 72, 2) := by decide +kernel
theorem dX3_init_20 : decode cX3_init 20 = .ok (.newarray .int, 2) := by decide +kernel
theorem dX3_init_22 : decode cX3_init 22 = .ok (.putfield 19, 3) := by decide +kernel
theorem dX3_init_25 : decode cX3_init 25 = .ok (.aload_n 0, 1) := by decide +kernel
theorem dX3_init_26 : decode cX3_init 26 = .ok (.bipush 72, 2) := by decide +kernel
theorem dX3_init_28 : decode cX3_init 28 = .ok (.newarray .int, 2) := by decide +kernel
theorem dX3_init_30 : decode cX3_init 30 = .ok (.putfield 23, 3) := by decide +kernel
theorem dX3_init_33 : decode cX3_init 33 = .ok (.aload_n 0, 1) := by decide +kernel
theorem dX3_init_34 : decode cX3_init 34 = .ok (.iconst 0, 1) := by decide +kernel
theorem dX3_init_35 : decode cX3_init 35 = .ok (.putfield 26, 3) := by decide +kernel
theorem dX3_init_38 : decode cX3_init 38 = .ok (.aload_n 0, 1) := by decide +kernel
theorem dX3_init_39 : decode cX3_init 39 = .ok (.bipush 72, 2) := by decide +kernel
theorem dX3_init_41 : decode cX3_init 41 = .ok (.newarray .int, 2) := by decide +kernel
theorem dX3_init_43 : decode cX3_init 43 = .ok (.putfield 30, 3) := by decide +kernel
theorem dX3_init_46 : decode cX3_init 46 = .ok (.aload_n 0, 1) := by decide +kernel
theorem dX3_init_47 : decode cX3_init 47 = .ok (.bipush 72, 2) := by decide +kernel
theorem dX3_init_49 : decode cX3_init 49 = .ok (.newarray .int, 2) := by decide +kernel
theorem dX3_init_51 : decode cX3_init 51 = .ok (.putfield 33, 3) := by decide +kernel
theorem dX3_init_54 : decode cX3_init 54 = .ok (.return_, 1) := by decide +kernel
theorem dX1_init_0 : decode cX1_init 0 = .ok (.aload_n 0, 1) := by decide +kernel
theorem dX1_init_1 : decode cX1_init 1 = .ok (.invokespecial 5, 3) := by decide +kernel
theorem dX1_init_4 : decode cX1_init 4 = .ok (.aload_n 0, 1) := by decide +kernel
theorem dX1_init_5 : decode cX1_init 5 = .ok (.iconst 0, 1) := by decide +kernel
theorem dX1_init_6 : decode cX1_init 6 = .ok (.putfield 11, 3) := by decide +kernel
theorem dX1_init_9 : decode cX1_init 9 = .ok (.aload_n 0, 1) := by decide +kernel
theorem dX1_init_10 : decode cX1_init 10 = .ok (.iconst 0, 1) := by decide +kernel
theorem dX1_init_11 : decode cX1_init 11 = .ok (.putfield 17, 3) := by decide +kernel
theorem dX1_init_14 : decode cX1_init 14 = .ok (.aload_n 0, 1) := by decide +kernel
theorem dX1_init_15 : decode cX1_init 15 = .ok (.sipush 1200, 3) := by decide +kernel
theorem dX1_init_18 : decode cX1_init 18 = .ok (.newarray .int, 2) := by decide +kernel
theorem dX1_init_20 : decode cX1_init 20 = .ok (.putfield 21, 3) := by decide +kernel
theorem dX1_init_23 : decode cX1_init 23 = .ok (.aload_n 0, 1) := by decide +kernel
theorem dX1_init_24 : decode cX1_init 24 = .ok (.iconst 0, 1) := by decide +kernel
theorem dX1_init_25 : decode cX1_init 25 = .ok (.putfield 25, 3) := by decide +kernel
theorem dX1_init_28 : decode cX1_init 28 = .ok (.aload_n 0, 1) := by decide +kernel
theorem dX1_init_29 : decode cX1_init 29 = .ok (.sipush 600, 3) := by decide +kernel
theorem dX1_init_32 : decode cX1_init 32 = .ok (.newarray .int, 2) := by decide +kernel
theorem dX1_init_34 : decode cX1_init 34 = .ok (.putfield 28, 3) := by decide +kernel
theorem dX1_init_37 : decode cX1_init 37 = .ok (.aload_n 0, 1) := by decide +kernel
theorem dX1_init_38 : decode cX1_init 38 = .ok (.iconst 0, 1) := by decide +kernel
theorem dX1_init_39 : decode cX1_init 39 = .ok (.putfield 31, 3) := by decide +kernel
theorem dX1_init_42 : decode cX1_init 42 = .ok (.aload_n 0, 1) := by decide +kernel
theorem dX1_init_43 : decode cX1_init 43 = .ok (.iconst 0, 1) := by decide +kernel
theorem dX1_init_44 : decode cX1_init 44 = .ok (.putfield 34, 3) := by decide +kernel
theorem dX1_init_47 : decode cX1_init 47 = .ok (.return_, 1) := by decide +kernel
theorem dX4_init_0 : decode cX4_init 0 = .ok (.aload_n 0, 1) := by decide +kernel
theorem dX4_init_1 : decode cX4_init 1 = .ok (.invokespecial 3, 3) := by decide +kernel
theorem dX4_init_4 : decode cX4_init 4 = .ok (.aload_n 0, 1) := by decide +kernel
theorem dX4_init_5 : decode cX4_init 5 = .ok (.sipush 4096, 3) := by decide +kernel
theorem dX4_init_8 : decode cX4_init 8 = .ok (.newarray .int, 2) := by decide +kernel
theorem dX4_init_10 : decode cX4_init 10 = .ok (.putfield 9, 3) := by decide +kernel
theorem dX4_init_13 : decode cX4_init 13 = .ok (.aload_n 0, 1) := by decide +kernel
theorem dX4_init_14 : decode cX4_init 14 = .ok (.bipush 8, 2) := by decide +kernel
theorem dX4_init_16 : decode cX4_init 16 = .ok (.newarray .int, 2) := by decide +kernel
theorem dX4_init_18 : decode cX4_init 18 = .ok (.putfield 13, 3) := by decide +kernel
theorem dX4_init_21 : decode cX4_init 21 = .ok (.aload_n 0, 1) := by decide +kernel
theorem dX4_init_22 : decode cX4_init 22 = .ok (.iconst 4, 1) := by decide +kernel
theorem dX4_init_23 : decode cX4_init 23 = .ok (.newarray .int, 2) := by decide +kernel
theorem dX4_init_25 : decode cX4_init 25 = .ok (.putfield 16, 3) := by decide +kernel
theorem dX4_init_28 : decode cX4_init 28 = .ok (.aload_n 0, 1) := by decide +kernel
theorem dX4_init_29 : decode cX4_init 29 = .ok (.bipush 30, 2) := by decide +kernel
theorem dX4_init_31 : decode cX4_init 31 = .ok (.newarray .int, 2) := by decide +kernel
theorem dX4_init_33 : decode cX4_init 33 = .ok (.putfield 19, 3) := by decide +kernel
theorem dX4_init_36 : decode cX4_init 36 = .ok (.aload_n 0, 1) := by decide +kernel
theorem dX4_init_37 : decode cX4_init 37 = .ok (.iconst 1, 1) := by decide +kernel
theorem dX4_init_38 : decode cX4_init 38 = .ok (.putfield 22, 3) := by decide +kernel
theorem dX4_init_41 : decode cX4_init 41 = .ok (.aload_n 0, 1) := by decide +kernel
theorem dX4_init_42 : decode cX4_init 42 = .ok (.iconst 0, 1) := by decide +kernel
theorem dX4_init_43 : decode cX4_init 43 = .ok (.putfield 26, 3) := by decide +kernel
theorem dX4_init_46 : decode cX4_init 46 = .ok (.aload_n 0, 1) := by decide +kernel
theorem dX4_init_47 : decode cX4_init 47 = .ok (.iconst 0, 1) := by decide +kernel
theorem dX4_init_48 : decode cX4_init 48 = .ok (.putfield 30, 3) := by decide +kernel
theorem dX4_init_51 : decode cX4_init 51 = .ok (.aload_n 0, 1) := by decide +kernel
theorem dX4_init_52 : decode cX4_init 52 = .ok (.iconst 0, 1) := by decide +kernel
theorem dX4_init_53 : decode cX4_init 53 = .ok (.putfield 33, 3) := by decide +kernel
theorem dX4_init_56 : decode cX4_init 56 = .ok (.aload_n 0, 1) := by decide +kernel
theorem dX4_init_57 : decode cX4_init 57 = .ok (.iconst 0, 1) := by decide +kernel
theorem dX4_init_58 : decode cX4_init 58 = .ok (.putfield 36, 3) := by decide +kernel
theorem dX4_init_61 : decode cX4_init 61 = .ok (.aload_n 0, 1) := by decide +kernel
theorem dX4_init_62 : decode cX4_init 62 = .ok (.iconst 0, 1) := by decide +kernel
theorem dX4_init_63 : decode cX4_init 63 = .ok (.putfield 39, 3) := by decide +kernel
theorem dX4_init_66 : decode cX4_init 66 = .ok (.aload_n 0, 1) := by decide +kernel
theorem dX4_init_67 : decode cX4_init 67 = .ok (.iconst 0, 1) := by decide +kernel
theorem dX4_init_68 : decode cX4_init 68 = .ok (.putfield 42, 3) := by decide +kernel
theorem dX4_init_71 : decode cX4_init 71 = .ok (.aload_n 0, 1) := by decide +kernel
theorem dX4_init_72 : decode cX4_init 72 = .ok (.iconst 0, 1) := by decide +kernel
theorem dX4_init_73 : decode cX4_init 73 = .ok (.putfield 45, 3) := by decide +kernel
theorem dX4_init_76 : decode cX4_init 76 = .ok (.aload_n 0, 1) := by decide +kernel
theorem dX4_init_77 : decode cX4_init 77 = .ok (.iconst 0, 1) := by decide +kernel
theorem dX4_init_78 : decode cX4_init 78 = .ok (.putfield 48, 3) := by decide +kernel
theorem dX4_init_81 : decode cX4_init 81 = .ok (.aload_n 0, 1) := by decide +kernel
theorem dX4_init_82 : decode cX4_init 82 = .ok (.iconst 0, 1) := by decide +kernel
theorem dX4_init_83 : decode cX4_init 83 = .ok (.putfield 51, 3) := by decide +kernel
theorem dX4_init_86 : decode cX4_init 86 = .ok (.return_, 1) := by decide +kernel
set_option maxHeartbeats 4000000 in
set_option maxRecDepth 100000 in
theorem c_X5_init (l : Launch) (D : va_G) (dA : Nat → ClassId) (h0 : Nat) (sz : Nat) : Met l yX5_init (gws yX5_init cX5_init 1 none) (gR 2 5 1200) (gPre D dA [.ref h0] [(h0, .inr (5, [.null, .null, .null, .null, .null, .int 0, .int 0]))] sz) (va_Qv (fun _ : Nat → Nat => True) (gAt D dA (va_A [(h0, .inr (5, [.null, .null, .null, .null, .null, .int 0, .int 0]))] sz) (fun ad : Nat → Nat => [(h0, .inr (5, [.ref (ad 0), .ref (ad 1), .ref (ad 2), .ref (ad 3), .ref (ad 4), .int 0, .int (-1)])), (ad 0, .inl (dA 1, 240, .inr (.inl (fun _ => 0)))), (ad 1, .inl (dA 0, 240, .inl (fun _ => 0))), (ad 2, .inl (dA 0, 240, .inl (fun _ => 0))), (ad 3, .inl (dA 0, 240, .inl (fun _ => 0))), (ad 4, .inl (dA 0, 240, .inl (fun _ => 0)))])) (va_A [(h0, .inr (5, [.null, .null, .null, .null, .null, .int 0, .int 0]))] sz)) 5 1200 (va_A [(h0, .inr (5, [.null, .null, .null, .null, .null, .int 0, .int 0]))] sz) := by
  refine Met.ofW (cc := cX5_init) (maxL := 1) (ret := none) (by decide) rfl ?_
  intro p e s m args below meth c s₁ B hml hv
  obtain ⟨rfl, hsz, hP, hK, hD0⟩ := hv
  have hx := B.exec
  have hb := B.bytes
  have hr := B.returns
  have hts := atoms_spec (ws := gws yX5_init cX5_init 1 none) B.pre
  have hg : ∀ w ∈ gw, w.before _ s = true := fun w h => hts w (List.mem_cons_of_mem _ h)
  have hown : s.vm.findClass RX5 = some m.cls := findClass_of_methodNamed B.named
  have hlocks := B.notSynchronized
  have hin : meth.name = "<init>" := (name_of_methodNamed B.named B.method).1
  subst hsz
  have hD := hD0.self (sz := s.heap.size)
  generalize hAe : va_A [(h0, .inr (5, [.null, .null, .null, .null, .null, .int 0, .int 0]))] s.heap.size = A at hD ⊢
  have hA : ∀ q : Nat, s.heap.size ≤ q → A q := fun q h => by rw [← hAe]; exact Or.inr h
  have hS : va_S A s.heap s.heap [] := va_S.rf
  have hP : va_P D vwC [(h0, .inr (5, [.null, .null, .null, .null, .null, .int 0, .int 0]))] s.heap := hP
  have hl := lv_entry ([.ref h0]) (n := 1) (Nat.le_of_ble_eq_true rfl)
  rw [lg_entry_eq]
  generalize (lg_sl ([.ref h0]) ++ List.replicate (1 - (lg_sl ([.ref h0])).length) Slot.unset).toArray = ls at hl ⊢
  have hl : lv_has ls 1 [(0, .ref h0)] := hl
  refine lv_aload_n hx hb dX5_init_0 rfl (lv_at hl 0 rfl) ?_
  refine g_obj hx hb hg hown q193 q186 q187 hml hl.1 dX5_init_1 (Nat.le_of_ble_eq_true rfl) (Nat.le_of_ble_eq_true rfl) ?_
  refine lv_aload_n hx hb dX5_init_4 rfl (lv_at hl 0 rfl) ?_
  refine lv_sipush (v := 240) hx hb dX5_init_5 (by decide) ?_
  refine g_newa (ty := .long) (N' := 240) (a0 := (240, .inr (.inl (fun _ => 0)))) hx hb hg rfl q223 hK hP hD hS hA 1 rfl (fun _ => rfl) (by decide) (by decide) (Nat.le_of_ble_eq_true rfl) (Nat.le_of_ble_eq_true rfl) (Nat.le_of_ble_eq_true rfl) dX5_init_8 (fun q1 H hP hD hS => ?_)
  refine W.widen (k := 1) (n := 240) (Nat.le_of_ble_eq_true rfl) (Nat.le_of_ble_eq_true rfl) ?_
  have hP : va_P D vwC [(h0, .inr (5, [.null, .null, .null, .null, .null, .int 0, .int 0])), (q1, .inl (dA 1, 240, .inr (.inl (fun _ => 0))))] H := hP
  have hD : va_D A [(h0, .inr (5, [.null, .null, .null, .null, .null, .int 0, .int 0])), (q1, .inl (dA 1, 240, .inr (.inl (fun _ => 0))))] := hD
  refine g_putF (w' := [(h0, .inr (5, [.ref q1, .null, .null, .null, .null, .int 0, .int 0])), (q1, .inl (dA 1, 240, .inr (.inl (fun _ => 0))))]) hx hb hg hown hK hP hD hS 0 rfl rfl inX5 tyX5_ok nmX5 0 (by decide) q194 rfl hin rfl rfl rfl (Nat.le_of_ble_eq_true rfl) rfl dX5_init_10 (fun H locs hP hD hS => ?_)
  refine lv_aload_n hx hb dX5_init_13 rfl (lv_at hl 0 rfl) ?_
  refine lv_sipush (v := 240) hx hb dX5_init_14 (by decide) ?_
  refine g_newa (ty := .int) (N' := 240) (a0 := (240, .inl (fun _ => 0))) hx hb hg rfl q224 hK hP hD hS hA 0 rfl (fun _ => rfl) (by decide) (by decide) (Nat.le_of_ble_eq_true rfl) (Nat.le_of_ble_eq_true rfl) (Nat.le_of_ble_eq_true rfl) dX5_init_17 (fun q2 H hP hD hS => ?_)
  refine W.widen (k := 2) (n := 480) (Nat.le_of_ble_eq_true rfl) (Nat.le_of_ble_eq_true rfl) ?_
  have hP : va_P D vwC [(h0, .inr (5, [.ref q1, .null, .null, .null, .null, .int 0, .int 0])), (q1, .inl (dA 1, 240, .inr (.inl (fun _ => 0)))), (q2, .inl (dA 0, 240, .inl (fun _ => 0)))] H := hP
  have hD : va_D A [(h0, .inr (5, [.ref q1, .null, .null, .null, .null, .int 0, .int 0])), (q1, .inl (dA 1, 240, .inr (.inl (fun _ => 0)))), (q2, .inl (dA 0, 240, .inl (fun _ => 0)))] := hD
  refine g_putF (w' := [(h0, .inr (5, [.ref q1, .ref q2, .null, .null, .null, .int 0, .int 0])), (q1, .inl (dA 1, 240, .inr (.inl (fun _ => 0)))), (q2, .inl (dA 0, 240, .inl (fun _ => 0)))]) hx hb hg hown hK hP hD hS 0 rfl rfl inX5 tyX5_ok nmX5 1 (by decide) q196 rfl hin rfl rfl rfl (Nat.le_of_ble_eq_true rfl) rfl dX5_init_19 (fun H locs hP hD hS => ?_)
  refine lv_aload_n hx hb dX5_init_22 rfl (lv_at hl 0 rfl) ?_
  refine lv_sipush (v := 240) hx hb dX5_init_23 (by decide) ?_
  refine g_newa (ty := .int) (N' := 240) (a0 := (240, .inl (fun _ => 0))) hx hb hg rfl q224 hK hP hD hS hA 0 rfl (fun _ => rfl) (by decide) (by decide) (Nat.le_of_ble_eq_true rfl) (Nat.le_of_ble_eq_true rfl) (Nat.le_of_ble_eq_true rfl) dX5_init_26 (fun q3 H hP hD hS => ?_)
  refine W.widen (k := 3) (n := 720) (Nat.le_of_ble_eq_true rfl) (Nat.le_of_ble_eq_true rfl) ?_
  have hP : va_P D vwC [(h0, .inr (5, [.ref q1, .ref q2, .null, .null, .null, .int 0, .int 0])), (q1, .inl (dA 1, 240, .inr (.inl (fun _ => 0)))), (q2, .inl (dA 0, 240, .inl (fun _ => 0))), (q3, .inl (dA 0, 240, .inl (fun _ => 0)))] H := hP
  have hD : va_D A [(h0, .inr (5, [.ref q1, .ref q2, .null, .null, .null, .int 0, .int 0])), (q1, .inl (dA 1, 240, .inr (.inl (fun _ => 0)))), (q2, .inl (dA 0, 240, .inl (fun _ => 0))), (q3, .inl (dA 0, 240, .inl (fun _ => 0)))] := hD
  refine g_putF (w' := [(h0, .inr (5, [.ref q1, .ref q2, .ref q3, .null, .null, .int 0, .int 0])), (q1, .inl (dA 1, 240, .inr (.inl (fun _ => 0)))), (q2, .inl (dA 0, 240, .inl (fun _ => 0))), (q3, .inl (dA 0, 240, .inl (fun _ => 0)))]) hx hb hg hown hK hP hD hS 0 rfl rfl inX5 tyX5_ok nmX5 2 (by decide) q198 rfl hin rfl rfl rfl (Nat.le_of_ble_eq_true rfl) rfl dX5_init_28 (fun H locs hP hD hS => ?_)
  refine lv_aload_n hx hb dX5_init_31 rfl (lv_at hl 0 rfl) ?_
  refine lv_sipush (v := 240) hx hb dX5_init_32 (by decide) ?_
  refine g_newa (ty := .int) (N' := 240) (a0 := (240, .inl (fun _ => 0))) hx hb hg rfl q224 hK hP hD hS hA 0 rfl (fun _ => rfl) (by decide) (by decide) (Nat.le_of_ble_eq_true rfl) (Nat.le_of_ble_eq_true rfl) (Nat.le_of_ble_eq_true rfl) dX5_init_35 (fun q4 H hP hD hS => ?_)
  refine W.widen (k := 4) (n := 960) (Nat.le_of_ble_eq_true rfl) (Nat.le_of_ble_eq_true rfl) ?_
  have hP : va_P D vwC [(h0, .inr (5, [.ref q1, .ref q2, .ref q3, .null, .null, .int 0, .int 0])), (q1, .inl (dA 1, 240, .inr (.inl (fun _ => 0)))), (q2, .inl (dA 0, 240, .inl (fun _ => 0))), (q3, .inl (dA 0, 240, .inl (fun _ => 0))), (q4, .inl (dA 0, 240, .inl (fun _ => 0)))] H := hP
  have hD : va_D A [(h0, .inr (5, [.ref q1, .ref q2, .ref q3, .null, .null, .int 0, .int 0])), (q1, .inl (dA 1, 240, .inr (.inl (fun _ => 0)))), (q2, .inl (dA 0, 240, .inl (fun _ => 0))), (q3, .inl (dA 0, 240, .inl (fun _ => 0))), (q4, .inl (dA 0, 240, .inl (fun _ => 0)))] := hD
  refine g_putF (w' := [(h0, .inr (5, [.ref q1, .ref q2, .ref q3, .ref q4, .null, .int 0, .int 0])), (q1, .inl (dA 1, 240, .inr (.inl (fun _ => 0)))), (q2, .inl (dA 0, 240, .inl (fun _ => 0))), (q3, .inl (dA 0, 240, .inl (fun _ => 0))), (q4, .inl (dA 0, 240, .inl (fun _ => 0)))]) hx hb hg hown hK hP hD hS 0 rfl rfl inX5 tyX5_ok nmX5 3 (by decide) q200 rfl hin rfl rfl rfl (Nat.le_of_ble_eq_true rfl) rfl dX5_init_37 (fun H locs hP hD hS => ?_)
  refine lv_aload_n hx hb dX5_init_40 rfl (lv_at hl 0 rfl) ?_
  refine lv_sipush (v := 240) hx hb dX5_init_41 (by decide) ?_
  refine g_newa (ty := .int) (N' := 240) (a0 := (240, .inl (fun _ => 0))) hx hb hg rfl q224 hK hP hD hS hA 0 rfl (fun _ => rfl) (by decide) (by decide) (Nat.le_of_ble_eq_true rfl) (Nat.le_of_ble_eq_true rfl) (Nat.le_of_ble_eq_true rfl) dX5_init_44 (fun q5 H hP hD hS => ?_)
  refine W.widen (k := 5) (n := 1200) (Nat.le_of_ble_eq_true rfl) (Nat.le_of_ble_eq_true rfl) ?_
  have hP : va_P D vwC [(h0, .inr (5, [.ref q1, .ref q2, .ref q3, .ref q4, .null, .int 0, .int 0])), (q1, .inl (dA 1, 240, .inr (.inl (fun _ => 0)))), (q2, .inl (dA 0, 240, .inl (fun _ => 0))), (q3, .inl (dA 0, 240, .inl (fun _ => 0))), (q4, .inl (dA 0, 240, .inl (fun _ => 0))), (q5, .inl (dA 0, 240, .inl (fun _ => 0)))] H := hP
  have hD : va_D A [(h0, .inr (5, [.ref q1, .ref q2, .ref q3, .ref q4, .null, .int 0, .int 0])), (q1, .inl (dA 1, 240, .inr (.inl (fun _ => 0)))), (q2, .inl (dA 0, 240, .inl (fun _ => 0))), (q3, .inl (dA 0, 240, .inl (fun _ => 0))), (q4, .inl (dA 0, 240, .inl (fun _ => 0))), (q5, .inl (dA 0, 240, .inl (fun _ => 0)))] := hD
  refine g_putF (w' := [(h0, .inr (5, [.ref q1, .ref q2, .ref q3, .ref q4, .ref q5, .int 0, .int 0])), (q1, .inl (dA 1, 240, .inr (.inl (fun _ => 0)))), (q2, .inl (dA 0, 240, .inl (fun _ => 0))), (q3, .inl (dA 0, 240, .inl (fun _ => 0))), (q4, .inl (dA 0, 240, .inl (fun _ => 0))), (q5, .inl (dA 0, 240, .inl (fun _ => 0)))]) hx hb hg hown hK hP hD hS 0 rfl rfl inX5 tyX5_ok nmX5 4 (by decide) q202 rfl hin rfl rfl rfl (Nat.le_of_ble_eq_true rfl) rfl dX5_init_46 (fun H locs hP hD hS => ?_)
  refine lv_aload_n hx hb dX5_init_49 rfl (lv_at hl 0 rfl) ?_
  refine lv_iconst (v := 0) hx hb dX5_init_50 (by decide) ?_
  refine g_put (w' := [(h0, .inr (5, [.ref q1, .ref q2, .ref q3, .ref q4, .ref q5, .int 0, .int 0])), (q1, .inl (dA 1, 240, .inr (.inl (fun _ => 0)))), (q2, .inl (dA 0, 240, .inl (fun _ => 0))), (q3, .inl (dA 0, 240, .inl (fun _ => 0))), (q4, .inl (dA 0, 240, .inl (fun _ => 0))), (q5, .inl (dA 0, 240, .inl (fun _ => 0)))]) hx hb hg hown hK hP hD hS 0 rfl rfl inX5 tyX5_ok nmX5 5 (by decide) q204 rfl rfl rfl (Nat.le_of_ble_eq_true rfl) rfl dX5_init_51 (fun H locs hP hD hS => ?_)
  refine lv_aload_n hx hb dX5_init_54 rfl (lv_at hl 0 rfl) ?_
  refine lv_iconst (v := (-1)) hx hb dX5_init_55 (by decide) ?_
  refine g_put (w' := [(h0, .inr (5, [.ref q1, .ref q2, .ref q3, .ref q4, .ref q5, .int 0, .int (-1)])), (q1, .inl (dA 1, 240, .inr (.inl (fun _ => 0)))), (q2, .inl (dA 0, 240, .inl (fun _ => 0))), (q3, .inl (dA 0, 240, .inl (fun _ => 0))), (q4, .inl (dA 0, 240, .inl (fun _ => 0))), (q5, .inl (dA 0, 240, .inl (fun _ => 0)))]) hx hb hg hown hK hP hD hS 0 rfl rfl inX5 tyX5_ok nmX5 6 (by decide) q205 rfl rfl rfl (Nat.le_of_ble_eq_true rfl) rfl dX5_init_56 (fun H locs hP hD hS => ?_)
  obtain ⟨hP, hD⟩ := g_cut (is := [0, 1, 2, 3, 4, 5]) (w' := [(h0, .inr (5, [.ref q1, .ref q2, .ref q3, .ref q4, .ref q5, .int 0, .int (-1)])), (q1, .inl (dA 1, 240, .inr (.inl (fun _ => 0)))), (q2, .inl (dA 0, 240, .inl (fun _ => 0))), (q3, .inl (dA 0, 240, .inl (fun _ => 0))), (q4, .inl (dA 0, 240, .inl (fun _ => 0))), (q5, .inl (dA 0, 240, .inl (fun _ => 0)))]) hP hD (by decide) rfl rfl
  exact g_vret hx hb hr hlocks hK (fun k => ([q1, q2, q3, q4, q5] : List Nat).getD k 0) hP hD hS trivial (Nat.le_of_ble_eq_true rfl) (Nat.le_of_ble_eq_true rfl) dX5_init_59
set_option maxHeartbeats 4000000 in
set_option maxRecDepth 100000 in
theorem c_X9_init (l : Launch) (D : va_G) (dA : Nat → ClassId) (h0 : Nat) (n0 : Nat) (sz : Nat) : Met l yX9_init (gws yX9_init cX9_init 2 none) (gR 2 3 1443) (gPre D dA [.ref h0, .ref n0] [(h0, .inr (9, [.null, .null, .null, .int 0, .null]))] sz) (va_Qv (fun _ : Nat → Nat => True) (gAt D dA (va_A [(h0, .inr (9, [.null, .null, .null, .int 0, .null]))] sz) (fun ad : Nat → Nat => [(h0, .inr (9, [.ref (ad 0), .ref (ad 1), .ref (ad 2), .int 0, .ref n0])), (ad 0, .inl (dA 0, 481, .inl (fun _ => 0))), (ad 1, .inl (dA 0, 481, .inl (fun _ => 0))), (ad 2, .inl (dA 0, 481, .inl (fun _ => 0)))])) (va_A [(h0, .inr (9, [.null, .null, .null, .int 0, .null]))] sz)) 3 1443 (va_A [(h0, .inr (9, [.null, .null, .null, .int 0, .null]))] sz) := by
  refine Met.ofW (cc := cX9_init) (maxL := 2) (ret := none) (by decide) rfl ?_
  intro p e s m args below meth c s₁ B hml hv
  obtain ⟨rfl, hsz, hP, hK, hD0⟩ := hv
  have hx := B.exec
  have hb := B.bytes
  have hr := B.returns
  have hts := atoms_spec (ws := gws yX9_init cX9_init 2 none) B.pre
  have hg : ∀ w ∈ gw, w.before _ s = true := fun w h => hts w (List.mem_cons_of_mem _ h)
  have hown : s.vm.findClass RX9 = some m.cls := findClass_of_methodNamed B.named
  have hlocks := B.notSynchronized
  have hin : meth.name = "<init>" := (name_of_methodNamed B.named B.method).1
  subst hsz
  have hD := hD0.self (sz := s.heap.size)
  generalize hAe : va_A [(h0, .inr (9, [.null, .null, .null, .int 0, .null]))] s.heap.size = A at hD ⊢
  have hA : ∀ q : Nat, s.heap.size ≤ q → A q := fun q h => by rw [← hAe]; exact Or.inr h
  have hS : va_S A s.heap s.heap [] := va_S.rf
  have hP : va_P D vwC [(h0, .inr (9, [.null, .null, .null, .int 0, .null]))] s.heap := hP
  have hl := lv_entry ([.ref h0, .ref n0]) (n := 2) (Nat.le_of_ble_eq_true rfl)
  rw [lg_entry_eq]
  generalize (lg_sl ([.ref h0, .ref n0]) ++ List.replicate (2 - (lg_sl ([.ref h0, .ref n0])).length) Slot.unset).toArray = ls at hl ⊢
  have hl : lv_has ls 2 [(0, .ref h0), (1, .ref n0)] := hl
  refine lv_aload_n hx hb dX9_init_0 rfl (lv_at hl 0 rfl) ?_
  refine g_obj hx hb hg hown q230 q186 q187 hml hl.1 dX9_init_1 (Nat.le_of_ble_eq_true rfl) (Nat.le_of_ble_eq_true rfl) ?_
  refine lv_aload_n hx hb dX9_init_4 rfl (lv_at hl 0 rfl) ?_
  refine lv_sipush (v := 481) hx hb dX9_init_5 (by decide) ?_
  refine g_newa (ty := .int) (N' := 481) (a0 := (481, .inl (fun _ => 0))) hx hb hg rfl q224 hK hP hD hS hA 0 rfl (fun _ => rfl) (by decide) (by decide) (Nat.le_of_ble_eq_true rfl) (Nat.le_of_ble_eq_true rfl) (Nat.le_of_ble_eq_true rfl) dX9_init_8 (fun q1 H hP hD hS => ?_)
  refine W.widen (k := 1) (n := 481) (Nat.le_of_ble_eq_true rfl) (Nat.le_of_ble_eq_true rfl) ?_
  have hP : va_P D vwC [(h0, .inr (9, [.null, .null, .null, .int 0, .null])), (q1, .inl (dA 0, 481, .inl (fun _ => 0)))] H := hP
  have hD : va_D A [(h0, .inr (9, [.null, .null, .null, .int 0, .null])), (q1, .inl (dA 0, 481, .inl (fun _ => 0)))] := hD
  refine g_putF (w' := [(h0, .inr (9, [.ref q1, .null, .null, .int 0, .null])), (q1, .inl (dA 0, 481, .inl (fun _ => 0)))]) hx hb hg hown hK hP hD hS 0 rfl rfl inX9 tyX9_ok nmX9 0 (by decide) q231 rfl hin rfl rfl rfl (Nat.le_of_ble_eq_true rfl) rfl dX9_init_10 (fun H locs hP hD hS => ?_)
  refine lv_aload_n hx hb dX9_init_13 rfl (lv_at hl 0 rfl) ?_
  refine lv_sipush (v := 481) hx hb dX9_init_14 (by decide) ?_
  refine g_newa (ty := .int) (N' := 481) (a0 := (481, .inl (fun _ => 0))) hx hb hg rfl q224 hK hP hD hS hA 0 rfl (fun _ => rfl) (by decide) (by decide) (Nat.le_of_ble_eq_true rfl) (Nat.le_of_ble_eq_true rfl) (Nat.le_of_ble_eq_true rfl) dX9_init_17 (fun q2 H hP hD hS => ?_)
  refine W.widen (k := 2) (n := 962) (Nat.le_of_ble_eq_true rfl) (Nat.le_of_ble_eq_true rfl) ?_
  have hP : va_P D vwC [(h0, .inr (9, [.ref q1, .null, .null, .int 0, .null])), (q1, .inl (dA 0, 481, .inl (fun _ => 0))), (q2, .inl (dA 0, 481, .inl (fun _ => 0)))] H := hP
  have hD : va_D A [(h0, .inr (9, [.ref q1, .null, .null, .int 0, .null])), (q1, .inl (dA 0, 481, .inl (fun _ => 0))), (q2, .inl (dA 0, 481, .inl (fun _ => 0)))] := hD
  refine g_putF (w' := [(h0, .inr (9, [.ref q1, .ref q2, .null, .int 0, .null])), (q1, .inl (dA 0, 481, .inl (fun _ => 0))), (q2, .inl (dA 0, 481, .inl (fun _ => 0)))]) hx hb hg hown hK hP hD hS 0 rfl rfl inX9 tyX9_ok nmX9 1 (by decide) q233 rfl hin rfl rfl rfl (Nat.le_of_ble_eq_true rfl) rfl dX9_init_19 (fun H locs hP hD hS => ?_)
  refine lv_aload_n hx hb dX9_init_22 rfl (lv_at hl 0 rfl) ?_
  refine lv_sipush (v := 481) hx hb dX9_init_23 (by decide) ?_
  refine g_newa (ty := .int) (N' := 481) (a0 := (481, .inl (fun _ => 0))) hx hb hg rfl q224 hK hP hD hS hA 0 rfl (fun _ => rfl) (by decide) (by decide) (Nat.le_of_ble_eq_true rfl) (Nat.le_of_ble_eq_true rfl) (Nat.le_of_ble_eq_true rfl) dX9_init_26 (fun q3 H hP hD hS => ?_)
  refine W.widen (k := 3) (n := 1443) (Nat.le_of_ble_eq_true rfl) (Nat.le_of_ble_eq_true rfl) ?_
  have hP : va_P D vwC [(h0, .inr (9, [.ref q1, .ref q2, .null, .int 0, .null])), (q1, .inl (dA 0, 481, .inl (fun _ => 0))), (q2, .inl (dA 0, 481, .inl (fun _ => 0))), (q3, .inl (dA 0, 481, .inl (fun _ => 0)))] H := hP
  have hD : va_D A [(h0, .inr (9, [.ref q1, .ref q2, .null, .int 0, .null])), (q1, .inl (dA 0, 481, .inl (fun _ => 0))), (q2, .inl (dA 0, 481, .inl (fun _ => 0))), (q3, .inl (dA 0, 481, .inl (fun _ => 0)))] := hD
  refine g_putF (w' := [(h0, .inr (9, [.ref q1, .ref q2, .ref q3, .int 0, .null])), (q1, .inl (dA 0, 481, .inl (fun _ => 0))), (q2, .inl (dA 0, 481, .inl (fun _ => 0))), (q3, .inl (dA 0, 481, .inl (fun _ => 0)))]) hx hb hg hown hK hP hD hS 0 rfl rfl inX9 tyX9_ok nmX9 2 (by decide) q235 rfl hin rfl rfl rfl (Nat.le_of_ble_eq_true rfl) rfl dX9_init_28 (fun H locs hP hD hS => ?_)
  refine lv_aload_n hx hb dX9_init_31 rfl (lv_at hl 0 rfl) ?_
  refine lv_iconst (v := 0) hx hb dX9_init_32 (by decide) ?_
  refine g_put (w' := [(h0, .inr (9, [.ref q1, .ref q2, .ref q3, .int 0, .null])), (q1, .inl (dA 0, 481, .inl (fun _ => 0))), (q2, .inl (dA 0, 481, .inl (fun _ => 0))), (q3, .inl (dA 0, 481, .inl (fun _ => 0)))]) hx hb hg hown hK hP hD hS 0 rfl rfl inX9 tyX9_ok nmX9 3 (by decide) q237 rfl rfl rfl (Nat.le_of_ble_eq_true rfl) rfl dX9_init_33 (fun H locs hP hD hS => ?_)
  refine lv_aload_n hx hb dX9_init_36 rfl (lv_at hl 0 rfl) ?_
  refine lv_aload_n hx hb dX9_init_37 rfl (lv_at hl 1 rfl) ?_
  refine g_putF (w' := [(h0, .inr (9, [.ref q1, .ref q2, .ref q3, .int 0, .ref n0])), (q1, .inl (dA 0, 481, .inl (fun _ => 0))), (q2, .inl (dA 0, 481, .inl (fun _ => 0))), (q3, .inl (dA 0, 481, .inl (fun _ => 0)))]) hx hb hg hown hK hP hD hS 0 rfl rfl inX9 tyX9_ok nmX9 4 (by decide) q239 rfl hin rfl rfl rfl (Nat.le_of_ble_eq_true rfl) rfl dX9_init_38 (fun H locs hP hD hS => ?_)
  obtain ⟨hP, hD⟩ := g_cut (is := [0, 1, 2, 3]) (w' := [(h0, .inr (9, [.ref q1, .ref q2, .ref q3, .int 0, .ref n0])), (q1, .inl (dA 0, 481, .inl (fun _ => 0))), (q2, .inl (dA 0, 481, .inl (fun _ => 0))), (q3, .inl (dA 0, 481, .inl (fun _ => 0)))]) hP hD (by decide) rfl rfl
  exact g_vret hx hb hr hlocks hK (fun k => ([q1, q2, q3] : List Nat).getD k 0) hP hD hS trivial (Nat.le_of_ble_eq_true rfl) (Nat.le_of_ble_eq_true rfl) dX9_init_41
set_option maxHeartbeats 4000000 in
set_option maxRecDepth 100000 in
theorem c_X7_clear (l : Launch) (D : va_G) (dA : Nat → ClassId) (h0 : Nat) (sz : Nat) : Met l yX7_clear (gws yX7_clear cX7_clear 2 none) (gR 2 0 0) (gPre D dA [.ref h0, .int 0] [(h0, .inr (7, [.int 0, .int 0, .int 0, .int 0, .int 0, .int 0, .int 0, .int 0]))] sz) (va_Qv (fun _ : Nat → Nat => True) (gAt D dA (va_A [(h0, .inr (7, [.int 0, .int 0, .int 0, .int 0, .int 0, .int 0, .int 0, .int 0]))] sz) (fun ad : Nat → Nat => [(h0, .inr (7, [.int 0, .int 0, .int 0, .int (-1), .int (-1), .int 0, .int 0, .int 0]))])) (va_A [(h0, .inr (7, [.int 0, .int 0, .int 0, .int 0, .int 0, .int 0, .int 0, .int 0]))] sz)) 0 0 (va_A [(h0, .inr (7, [.int 0, .int 0, .int 0, .int 0, .int 0, .int 0, .int 0, .int 0]))] sz) := by
  refine Met.ofW (cc := cX7_clear) (maxL := 2) (ret := none) (by decide) rfl ?_
  intro p e s m args below meth c s₁ B hml hv
  obtain ⟨rfl, hsz, hP, hK, hD0⟩ := hv
  have hx := B.exec
  have hb := B.bytes
  have hr := B.returns
  have hts := atoms_spec (ws := gws yX7_clear cX7_clear 2 none) B.pre
  have hg : ∀ w ∈ gw, w.before _ s = true := fun w h => hts w (List.mem_cons_of_mem _ h)
  have hown : s.vm.findClass RX7 = some m.cls := findClass_of_methodNamed B.named
  have hlocks := B.notSynchronized
  subst hsz
  have hD := hD0.self (sz := s.heap.size)
  generalize hAe : va_A [(h0, .inr (7, [.int 0, .int 0, .int 0, .int 0, .int 0, .int 0, .int 0, .int 0]))] s.heap.size = A at hD ⊢
  have hA : ∀ q : Nat, s.heap.size ≤ q → A q := fun q h => by rw [← hAe]; exact Or.inr h
  have hS : va_S A s.heap s.heap [] := va_S.rf
  have hP : va_P D vwC [(h0, .inr (7, [.int 0, .int 0, .int 0, .int 0, .int 0, .int 0, .int 0, .int 0]))] s.heap := hP
  have hl := lv_entry ([.ref h0, .int 0]) (n := 2) (Nat.le_of_ble_eq_true rfl)
  rw [lg_entry_eq]
  generalize (lg_sl ([.ref h0, .int 0]) ++ List.replicate (2 - (lg_sl ([.ref h0, .int 0])).length) Slot.unset).toArray = ls at hl ⊢
  have hl : lv_has ls 2 [(0, .ref h0), (1, .int 0)] := hl
  refine lv_aload_n hx hb dX7_clear_0 rfl (lv_at hl 0 rfl) ?_
  refine lv_iload_n hx hb dX7_clear_1 rfl (lv_at hl 1 rfl) ?_
  refine g_put (w' := [(h0, .inr (7, [.int 0, .int 0, .int 0, .int 0, .int 0, .int 0, .int 0, .int 0]))]) hx hb hg hown hK hP hD hS 0 rfl rfl inX7 tyX7_ok nmX7 0 (by decide) q307 rfl rfl rfl (Nat.le_of_ble_eq_true rfl) rfl dX7_clear_2 (fun H locs hP hD hS => ?_)
  refine lv_aload_n hx hb dX7_clear_5 rfl (lv_at hl 0 rfl) ?_
  refine lv_iconst (v := 0) hx hb dX7_clear_6 (by decide) ?_
  refine g_put (w' := [(h0, .inr (7, [.int 0, .int 0, .int 0, .int 0, .int 0, .int 0, .int 0, .int 0]))]) hx hb hg hown hK hP hD hS 0 rfl rfl inX7 tyX7_ok nmX7 1 (by decide) q310 rfl rfl rfl (Nat.le_of_ble_eq_true rfl) rfl dX7_clear_7 (fun H locs hP hD hS => ?_)
  refine lv_aload_n hx hb dX7_clear_10 rfl (lv_at hl 0 rfl) ?_
  refine lv_iconst (v := 0) hx hb dX7_clear_11 (by decide) ?_
  refine g_put (w' := [(h0, .inr (7, [.int 0, .int 0, .int 0, .int 0, .int 0, .int 0, .int 0, .int 0]))]) hx hb hg hown hK hP hD hS 0 rfl rfl inX7 tyX7_ok nmX7 2 (by decide) q313 rfl rfl rfl (Nat.le_of_ble_eq_true rfl) rfl dX7_clear_12 (fun H locs hP hD hS => ?_)
  refine lv_aload_n hx hb dX7_clear_15 rfl (lv_at hl 0 rfl) ?_
  refine lv_iconst (v := (-1)) hx hb dX7_clear_16 (by decide) ?_
  refine g_put (w' := [(h0, .inr (7, [.int 0, .int 0, .int 0, .int (-1), .int 0, .int 0, .int 0, .int 0]))]) hx hb hg hown hK hP hD hS 0 rfl rfl inX7 tyX7_ok nmX7 3 (by decide) q316 rfl rfl rfl (Nat.le_of_ble_eq_true rfl) rfl dX7_clear_17 (fun H locs hP hD hS => ?_)
  refine lv_aload_n hx hb dX7_clear_20 rfl (lv_at hl 0 rfl) ?_
  refine lv_iconst (v := (-1)) hx hb dX7_clear_21 (by decide) ?_
  refine g_put (w' := [(h0, .inr (7, [.int 0, .int 0, .int 0, .int (-1), .int (-1), .int 0, .int 0, .int 0]))]) hx hb hg hown hK hP hD hS 0 rfl rfl inX7 tyX7_ok nmX7 4 (by decide) q319 rfl rfl rfl (Nat.le_of_ble_eq_true rfl) rfl dX7_clear_22 (fun H locs hP hD hS => ?_)
  refine lv_aload_n hx hb dX7_clear_25 rfl (lv_at hl 0 rfl) ?_
  refine lv_iconst (v := 0) hx hb dX7_clear_26 (by decide) ?_
  refine g_put (w' := [(h0, .inr (7, [.int 0, .int 0, .int 0, .int (-1), .int (-1), .int 0, .int 0, .int 0]))]) hx hb hg hown hK hP hD hS 0 rfl rfl inX7 tyX7_ok nmX7 5 (by decide) q322 rfl rfl rfl (Nat.le_of_ble_eq_true rfl) rfl dX7_clear_27 (fun H locs hP hD hS => ?_)
  refine lv_aload_n hx hb dX7_clear_30 rfl (lv_at hl 0 rfl) ?_
  refine lv_iconst (v := 0) hx hb dX7_clear_31 (by decide) ?_
  refine g_put (w' := [(h0, .inr (7, [.int 0, .int 0, .int 0, .int (-1), .int (-1), .int 0, .int 0, .int 0]))]) hx hb hg hown hK hP hD hS 0 rfl rfl inX7 tyX7_ok nmX7 6 (by decide) q325 rfl rfl rfl (Nat.le_of_ble_eq_true rfl) rfl dX7_clear_32 (fun H locs hP hD hS => ?_)
  refine lv_aload_n hx hb dX7_clear_35 rfl (lv_at hl 0 rfl) ?_
  refine lv_iconst (v := 0) hx hb dX7_clear_36 (by decide) ?_
  refine g_put (w' := [(h0, .inr (7, [.int 0, .int 0, .int 0, .int (-1), .int (-1), .int 0, .int 0, .int 0]))]) hx hb hg hown hK hP hD hS 0 rfl rfl inX7 tyX7_ok nmX7 7 (by decide) q327 rfl rfl rfl (Nat.le_of_ble_eq_true rfl) rfl dX7_clear_37 (fun H locs hP hD hS => ?_)
  obtain ⟨hP, hD⟩ := g_cut (is := [0]) (w' := [(h0, .inr (7, [.int 0, .int 0, .int 0, .int (-1), .int (-1), .int 0, .int 0, .int 0]))]) hP hD (by decide) rfl rfl
  exact g_vret hx hb hr hlocks hK (fun k => ([] : List Nat).getD k 0) hP hD hS trivial (Nat.le_of_ble_eq_true rfl) (Nat.le_of_ble_eq_true rfl) dX7_clear_40
set_option maxHeartbeats 4000000 in
set_option maxRecDepth 100000 in
theorem c_X7_init (l : Launch) (D : va_G) (dA : Nat → ClassId) (h0 : Nat) (sz : Nat) : Met l yX7_init (gws yX7_init cX7_init 1 none) (gR 3 0 0) (gPre D dA [.ref h0] [(h0, .inr (7, [.int 0, .int 0, .int 0, .int 0, .int 0, .int 0, .int 0, .int 0]))] sz) (va_Qv (fun _ : Nat → Nat => True) (gAt D dA (va_A [(h0, .inr (7, [.int 0, .int 0, .int 0, .int 0, .int 0, .int 0, .int 0, .int 0]))] sz) (fun ad : Nat → Nat => [(h0, .inr (7, [.int 0, .int 0, .int 0, .int (-1), .int (-1), .int 0, .int 0, .int 0]))])) (va_A [(h0, .inr (7, [.int 0, .int 0, .int 0, .int 0, .int 0, .int 0, .int 0, .int 0]))] sz)) 0 0 (va_A [(h0, .inr (7, [.int 0, .int 0, .int 0, .int 0, .int 0, .int 0, .int 0, .int 0]))] sz) := by
  refine Met.ofW (cc := cX7_init) (maxL := 1) (ret := none) (by decide) rfl ?_
  intro p e s m args below meth c s₁ B hml hv
  obtain ⟨rfl, hsz, hP, hK, hD0⟩ := hv
  have hx := B.exec
  have hb := B.bytes
  have hr := B.returns
  have hts := atoms_spec (ws := gws yX7_init cX7_init 1 none) B.pre
  have hg : ∀ w ∈ gw, w.before _ s = true := fun w h => hts w (List.mem_cons_of_mem _ h)
  have hown : s.vm.findClass RX7 = some m.cls := findClass_of_methodNamed B.named
  have hlocks := B.notSynchronized
  have hin : meth.name = "<init>" := (name_of_methodNamed B.named B.method).1
  subst hsz
  have hD := hD0.self (sz := s.heap.size)
  generalize hAe : va_A [(h0, .inr (7, [.int 0, .int 0, .int 0, .int 0, .int 0, .int 0, .int 0, .int 0]))] s.heap.size = A at hD ⊢
  have hA : ∀ q : Nat, s.heap.size ≤ q → A q := fun q h => by rw [← hAe]; exact Or.inr h
  have hS : va_S A s.heap s.heap [] := va_S.rf
  have hP : va_P D vwC [(h0, .inr (7, [.int 0, .int 0, .int 0, .int 0, .int 0, .int 0, .int 0, .int 0]))] s.heap := hP
  have hl := lv_entry ([.ref h0]) (n := 1) (Nat.le_of_ble_eq_true rfl)
  rw [lg_entry_eq]
  generalize (lg_sl ([.ref h0]) ++ List.replicate (1 - (lg_sl ([.ref h0])).length) Slot.unset).toArray = ls at hl ⊢
  have hl : lv_has ls 1 [(0, .ref h0)] := hl
  refine lv_aload_n hx hb dX7_init_0 rfl (lv_at hl 0 rfl) ?_
  refine g_obj hx hb hg hown q302 q186 q187 hml hl.1 dX7_init_1 (Nat.le_of_ble_eq_true rfl) (Nat.le_of_ble_eq_true rfl) ?_
  refine lv_aload_n hx hb dX7_init_4 rfl (lv_at hl 0 rfl) ?_
  refine lv_iconst (v := 0) hx hb dX7_init_5 (by decide) ?_
  refine g_Vv (n := 1) (As := [.int 0]) (rest := []) (wr := []) hx hb hml hg hown hK hP hD hS hA (c_X7_clear l D dA h0 _) [0] [] rfl (by decide) rfl (by decide) (by decide) 0 rfl rfl q306 q154 q303 q305 q0 (by decide +kernel) ⟨(Nat.le_of_ble_eq_true rfl), (Nat.le_of_ble_eq_true rfl)⟩ rfl hl.1 rfl (Nat.le_of_ble_eq_true rfl) dX7_init_6 ⟨(Nat.le_of_ble_eq_true rfl), (Nat.le_of_ble_eq_true rfl)⟩ (fun u1 H locs w3 hP hD hS => ?_)
  refine W.widen (k := 0) (n := 0) (Nat.le_of_ble_eq_true rfl) (Nat.le_of_ble_eq_true rfl) ?_
  have hP : va_P D vwC [(h0, .inr (7, [.int 0, .int 0, .int 0, .int (-1), .int (-1), .int 0, .int 0, .int 0]))] H := hP
  have hD : va_D A [(h0, .inr (7, [.int 0, .int 0, .int 0, .int (-1), .int (-1), .int 0, .int 0, .int 0]))] := hD
  obtain ⟨hP, hD⟩ := g_cut (is := [0]) (w' := [(h0, .inr (7, [.int 0, .int 0, .int 0, .int (-1), .int (-1), .int 0, .int 0, .int 0]))]) hP hD (by decide) rfl rfl
  exact g_vret hx hb hr hlocks hK (fun k => ([] : List Nat).getD k 0) hP hD hS trivial (Nat.le_of_ble_eq_true rfl) (Nat.le_of_ble_eq_true rfl) dX7_init_9
set_option maxHeartbeats 4000000 in
set_option maxRecDepth 100000 in
theorem c_X0_init (l : Launch) (D : va_G) (dA : Nat → ClassId) (h0 : Nat) (sz : Nat) : Met l yX0_init (gws yX0_init cX0_init 1 none) (gR 2 7 1736) (gPre D dA [.ref h0] [(h0, .inr (0, [.null, .null, .null, .null, .null, .null, .null, .int 0]))] sz) (va_Qv (fun _ : Nat → Nat => True) (gAt D dA (va_A [(h0, .inr (0, [.null, .null, .null, .null, .null, .null, .null, .int 0]))] sz) (fun ad : Nat → Nat => [(h0, .inr (0, [.ref (ad 0), .ref (ad 1), .ref (ad 2), .ref (ad 3), .ref (ad 4), .ref (ad 5), .ref (ad 6), .int 0])), (ad 0, .inl (dA 0, 248, .inl (fun _ => 0))), (ad 1, .inl (dA 0, 248, .inl (fun _ => 0))), (ad 2, .inl (dA 0, 248, .inl (fun _ => 0))), (ad 3, .inl (dA 0, 248, .inl (fun _ => 0))), (ad 4, .inl (dA 0, 248, .inl (fun _ => 0))), (ad 5, .inl (dA 0, 248, .inl (fun _ => 0))), (ad 6, .inl (dA 0, 248, .inl (fun _ => 0)))])) (va_A [(h0, .inr (0, [.null, .null, .null, .null, .null, .null, .null, .int 0]))] sz)) 7 1736 (va_A [(h0, .inr (0, [.null, .null, .null, .null, .null, .null, .null, .int 0]))] sz) := by
  refine Met.ofW (cc := cX0_init) (maxL := 1) (ret := none) (by decide) rfl ?_
  intro p e s m args below meth c s₁ B hml hv
  obtain ⟨rfl, hsz, hP, hK, hD0⟩ := hv
  have hx := B.exec
  have hb := B.bytes
  have hr := B.returns
  have hts := atoms_spec (ws := gws yX0_init cX0_init 1 none) B.pre
  have hg : ∀ w ∈ gw, w.before _ s = true := fun w h => hts w (List.mem_cons_of_mem _ h)
  have hown : s.vm.findClass RX0 = some m.cls := findClass_of_methodNamed B.named
  have hlocks := B.notSynchronized
  have hin : meth.name = "<init>" := (name_of_methodNamed B.named B.method).1
  subst hsz
  have hD := hD0.self (sz := s.heap.size)
  generalize hAe : va_A [(h0, .inr (0, [.null, .null, .null, .null, .null, .null, .null, .int 0]))] s.heap.size = A at hD ⊢
  have hA : ∀ q : Nat, s.heap.size ≤ q → A q := fun q h => by rw [← hAe]; exact Or.inr h
  have hS : va_S A s.heap s.heap [] := va_S.rf
  have hP : va_P D vwC [(h0, .inr (0, [.null, .null, .null, .null, .null, .null, .null, .int 0]))] s.heap := hP
  have hl := lv_entry ([.ref h0]) (n := 1) (Nat.le_of_ble_eq_true rfl)
  rw [lg_entry_eq]
  generalize (lg_sl ([.ref h0]) ++ List.replicate (1 - (lg_sl ([.ref h0])).length) Slot.unset).toArray = ls at hl ⊢
  have hl : lv_has ls 1 [(0, .ref h0)] := hl
  refine lv_aload_n hx hb dX0_init_0 rfl (lv_at hl 0 rfl) ?_
  refine g_obj hx hb hg hown q256 q186 q187 hml hl.1 dX0_init_1 (Nat.le_of_ble_eq_true rfl) (Nat.le_of_ble_eq_true rfl) ?_
  refine lv_aload_n hx hb dX0_init_4 rfl (lv_at hl 0 rfl) ?_
  refine lv_sipush (v := 248) hx hb dX0_init_5 (by decide) ?_
  refine g_newa (ty := .int) (N' := 248) (a0 := (248, .inl (fun _ => 0))) hx hb hg rfl q224 hK hP hD hS hA 0 rfl (fun _ => rfl) (by decide) (by decide) (Nat.le_of_ble_eq_true rfl) (Nat.le_of_ble_eq_true rfl) (Nat.le_of_ble_eq_true rfl) dX0_init_8 (fun q1 H hP hD hS => ?_)
  refine W.widen (k := 1) (n := 248) (Nat.le_of_ble_eq_true rfl) (Nat.le_of_ble_eq_true rfl) ?_
  have hP : va_P D vwC [(h0, .inr (0, [.null, .null, .null, .null, .null, .null, .null, .int 0])), (q1, .inl (dA 0, 248, .inl (fun _ => 0)))] H := hP
  have hD : va_D A [(h0, .inr (0, [.null, .null, .null, .null, .null, .null, .null, .int 0])), (q1, .inl (dA 0, 248, .inl (fun _ => 0)))] := hD
  refine g_putF (w' := [(h0, .inr (0, [.ref q1, .null, .null, .null, .null, .null, .null, .int 0])), (q1, .inl (dA 0, 248, .inl (fun _ => 0)))]) hx hb hg hown hK hP hD hS 0 rfl rfl inX0 tyX0_ok nmX0 0 (by decide) q257 rfl hin rfl rfl rfl (Nat.le_of_ble_eq_true rfl) rfl dX0_init_10 (fun H locs hP hD hS => ?_)
  refine lv_aload_n hx hb dX0_init_13 rfl (lv_at hl 0 rfl) ?_
  refine lv_sipush (v := 248) hx hb dX0_init_14 (by decide) ?_
  refine g_newa (ty := .int) (N' := 248) (a0 := (248, .inl (fun _ => 0))) hx hb hg rfl q224 hK hP hD hS hA 0 rfl (fun _ => rfl) (by decide) (by decide) (Nat.le_of_ble_eq_true rfl) (Nat.le_of_ble_eq_true rfl) (Nat.le_of_ble_eq_true rfl) dX0_init_17 (fun q2 H hP hD hS => ?_)
  refine W.widen (k := 2) (n := 496) (Nat.le_of_ble_eq_true rfl) (Nat.le_of_ble_eq_true rfl) ?_
  have hP : va_P D vwC [(h0, .inr (0, [.ref q1, .null, .null, .null, .null, .null, .null, .int 0])), (q1, .inl (dA 0, 248, .inl (fun _ => 0))), (q2, .inl (dA 0, 248, .inl (fun _ => 0)))] H := hP
  have hD : va_D A [(h0, .inr (0, [.ref q1, .null, .null, .null, .null, .null, .null, .int 0])), (q1, .inl (dA 0, 248, .inl (fun _ => 0))), (q2, .inl (dA 0, 248, .inl (fun _ => 0)))] := hD
  refine g_putF (w' := [(h0, .inr (0, [.ref q1, .ref q2, .null, .null, .null, .null, .null, .int 0])), (q1, .inl (dA 0, 248, .inl (fun _ => 0))), (q2, .inl (dA 0, 248, .inl (fun _ => 0)))]) hx hb hg hown hK hP hD hS 0 rfl rfl inX0 tyX0_ok nmX0 1 (by decide) q259 rfl hin rfl rfl rfl (Nat.le_of_ble_eq_true rfl) rfl dX0_init_19 (fun H locs hP hD hS => ?_)
  refine lv_aload_n hx hb dX0_init_22 rfl (lv_at hl 0 rfl) ?_
  refine lv_sipush (v := 248) hx hb dX0_init_23 (by decide) ?_
  refine g_newa (ty := .int) (N' := 248) (a0 := (248, .inl (fun _ => 0))) hx hb hg rfl q224 hK hP hD hS hA 0 rfl (fun _ => rfl) (by decide) (by decide) (Nat.le_of_ble_eq_true rfl) (Nat.le_of_ble_eq_true rfl) (Nat.le_of_ble_eq_true rfl) dX0_init_26 (fun q3 H hP hD hS => ?_)
  refine W.widen (k := 3) (n := 744) (Nat.le_of_ble_eq_true rfl) (Nat.le_of_ble_eq_true rfl) ?_
  have hP : va_P D vwC [(h0, .inr (0, [.ref q1, .ref q2, .null, .null, .null, .null, .null, .int 0])), (q1, .inl (dA 0, 248, .inl (fun _ => 0))), (q2, .inl (dA 0, 248, .inl (fun _ => 0))), (q3, .inl (dA 0, 248, .inl (fun _ => 0)))] H := hP
  have hD : va_D A [(h0, .inr (0, [.ref q1, .ref q2, .null, .null, .null, .null, .null, .int 0])), (q1, .inl (dA 0, 248, .inl (fun _ => 0))), (q2, .inl (dA 0, 248, .inl (fun _ => 0))), (q3, .inl (dA 0, 248, .inl (fun _ => 0)))] := hD
  refine g_putF (w' := [(h0, .inr (0, [.ref q1, .ref q2, .ref q3, .null, .null, .null, .null, .int 0])), (q1, .inl (dA 0, 248, .inl (fun _ => 0))), (q2, .inl (dA 0, 248, .inl (fun _ => 0))), (q3, .inl (dA 0, 248, .inl (fun _ => 0)))]) hx hb hg hown hK hP hD hS 0 rfl rfl inX0 tyX0_ok nmX0 2 (by decide) q261 rfl hin rfl rfl rfl (Nat.le_of_ble_eq_true rfl) rfl dX0_init_28 (fun H locs hP hD hS => ?_)
  refine lv_aload_n hx hb dX0_init_31 rfl (lv_at hl 0 rfl) ?_
  refine lv_sipush (v := 248) hx hb dX0_init_32 (by decide) ?_
  refine g_newa (ty := .int) (N' := 248) (a0 := (248, .inl (fun _ => 0))) hx hb hg rfl q224 hK hP hD hS hA 0 rfl (fun _ => rfl) (by decide) (by decide) (Nat.le_of_ble_eq_true rfl) (Nat.le_of_ble_eq_true rfl) (Nat.le_of_ble_eq_true rfl) dX0_init_35 (fun q4 H hP hD hS => ?_)
  refine W.widen (k := 4) (n := 992) (Nat.le_of_ble_eq_true rfl) (Nat.le_of_ble_eq_true rfl) ?_
  have hP : va_P D vwC [(h0, .inr (0, [.ref q1, .ref q2, .ref q3, .null, .null, .null, .null, .int 0])), (q1, .inl (dA 0, 248, .inl (fun _ => 0))), (q2, .inl (dA 0, 248, .inl (fun _ => 0))), (q3, .inl (dA 0, 248, .inl (fun _ => 0))), (q4, .inl (dA 0, 248, .inl (fun _ => 0)))] H := hP
  have hD : va_D A [(h0, .inr (0, [.ref q1, .ref q2, .ref q3, .null, .null, .null, .null, .int 0])), (q1, .inl (dA 0, 248, .inl (fun _ => 0))), (q2, .inl (dA 0, 248, .inl (fun _ => 0))), (q3, .inl (dA 0, 248, .inl (fun _ => 0))), (q4, .inl (dA 0, 248, .inl (fun _ => 0)))] := hD
  refine g_putF (w' := [(h0, .inr (0, [.ref q1, .ref q2, .ref q3, .ref q4, .null, .null, .null, .int 0])), (q1, .inl (dA 0, 248, .inl (fun _ => 0))), (q2, .inl (dA 0, 248, .inl (fun _ => 0))), (q3, .inl (dA 0, 248, .inl (fun _ => 0))), (q4, .inl (dA 0, 248, .inl (fun _ => 0)))]) hx hb hg hown hK hP hD hS 0 rfl rfl inX0 tyX0_ok nmX0 3 (by decide) q263 rfl hin rfl rfl rfl (Nat.le_of_ble_eq_true rfl) rfl dX0_init_37 (fun H locs hP hD hS => ?_)
  refine lv_aload_n hx hb dX0_init_40 rfl (lv_at hl 0 rfl) ?_
  refine lv_sipush (v := 248) hx hb dX0_init_41 (by decide) ?_
  refine g_newa (ty := .int) (N' := 248) (a0 := (248, .inl (fun _ => 0))) hx hb hg rfl q224 hK hP hD hS hA 0 rfl (fun _ => rfl) (by decide) (by decide) (Nat.le_of_ble_eq_true rfl) (Nat.le_of_ble_eq_true rfl) (Nat.le_of_ble_eq_true rfl) dX0_init_44 (fun q5 H hP hD hS => ?_)
  refine W.widen (k := 5) (n := 1240) (Nat.le_of_ble_eq_true rfl) (Nat.le_of_ble_eq_true rfl) ?_
  have hP : va_P D vwC [(h0, .inr (0, [.ref q1, .ref q2, .ref q3, .ref q4, .null, .null, .null, .int 0])), (q1, .inl (dA 0, 248, .inl (fun _ => 0))), (q2, .inl (dA 0, 248, .inl (fun _ => 0))), (q3, .inl (dA 0, 248, .inl (fun _ => 0))), (q4, .inl (dA 0, 248, .inl (fun _ => 0))), (q5, .inl (dA 0, 248, .inl (fun _ => 0)))] H := hP
  have hD : va_D A [(h0, .inr (0, [.ref q1, .ref q2, .ref q3, .ref q4, .null, .null, .null, .int 0])), (q1, .inl (dA 0, 248, .inl (fun _ => 0))), (q2, .inl (dA 0, 248, .inl (fun _ => 0))), (q3, .inl (dA 0, 248, .inl (fun _ => 0))), (q4, .inl (dA 0, 248, .inl (fun _ => 0))), (q5, .inl (dA 0, 248, .inl (fun _ => 0)))] := hD
  refine g_putF (w' := [(h0, .inr (0, [.ref q1, .ref q2, .ref q3, .ref q4, .ref q5, .null, .null, .int 0])), (q1, .inl (dA 0, 248, .inl (fun _ => 0))), (q2, .inl (dA 0, 248, .inl (fun _ => 0))), (q3, .inl (dA 0, 248, .inl (fun _ => 0))), (q4, .inl (dA 0, 248, .inl (fun _ => 0))), (q5, .inl (dA 0, 248, .inl (fun _ => 0)))]) hx hb hg hown hK hP hD hS 0 rfl rfl inX0 tyX0_ok nmX0 4 (by decide) q265 rfl hin rfl rfl rfl (Nat.le_of_ble_eq_true rfl) rfl dX0_init_46 (fun H locs hP hD hS => ?_)
  refine lv_aload_n hx hb dX0_init_49 rfl (lv_at hl 0 rfl) ?_
  refine lv_sipush (v := 248) hx hb dX0_init_50 (by decide) ?_
  refine g_newa (ty := .int) (N' := 248) (a0 := (248, .inl (fun _ => 0))) hx hb hg rfl q224 hK hP hD hS hA 0 rfl (fun _ => rfl) (by decide) (by decide) (Nat.le_of_ble_eq_true rfl) (Nat.le_of_ble_eq_true rfl) (Nat.le_of_ble_eq_true rfl) dX0_init_53 (fun q6 H hP hD hS => ?_)
  refine W.widen (k := 6) (n := 1488) (Nat.le_of_ble_eq_true rfl) (Nat.le_of_ble_eq_true rfl) ?_
  have hP : va_P D vwC [(h0, .inr (0, [.ref q1, .ref q2, .ref q3, .ref q4, .ref q5, .null, .null, .int 0])), (q1, .inl (dA 0, 248, .inl (fun _ => 0))), (q2, .inl (dA 0, 248, .inl (fun _ => 0))), (q3, .inl (dA 0, 248, .inl (fun _ => 0))), (q4, .inl (dA 0, 248, .inl (fun _ => 0))), (q5, .inl (dA 0, 248, .inl (fun _ => 0))), (q6, .inl (dA 0, 248, .inl (fun _ => 0)))] H := hP
  have hD : va_D A [(h0, .inr (0, [.ref q1, .ref q2, .ref q3, .ref q4, .ref q5, .null, .null, .int 0])), (q1, .inl (dA 0, 248, .inl (fun _ => 0))), (q2, .inl (dA 0, 248, .inl (fun _ => 0))), (q3, .inl (dA 0, 248, .inl (fun _ => 0))), (q4, .inl (dA 0, 248, .inl (fun _ => 0))), (q5, .inl (dA 0, 248, .inl (fun _ => 0))), (q6, .inl (dA 0, 248, .inl (fun _ => 0)))] := hD
  refine g_putF (w' := [(h0, .inr (0, [.ref q1, .ref q2, .ref q3, .ref q4, .ref q5, .ref q6, .null, .int 0])), (q1, .inl (dA 0, 248, .inl (fun _ => 0))), (q2, .inl (dA 0, 248, .inl (fun _ => 0))), (q3, .inl (dA 0, 248, .inl (fun _ => 0))), (q4, .inl (dA 0, 248, .inl (fun _ => 0))), (q5, .inl (dA 0, 248, .inl (fun _ => 0))), (q6, .inl (dA 0, 248, .inl (fun _ => 0)))]) hx hb hg hown hK hP hD hS 0 rfl rfl inX0 tyX0_ok nmX0 5 (by decide) q267 rfl hin rfl rfl rfl (Nat.le_of_ble_eq_true rfl) rfl dX0_init_55 (fun H locs hP hD hS => ?_)
  refine lv_aload_n hx hb dX0_init_58 rfl (lv_at hl 0 rfl) ?_
  refine lv_sipush (v := 248) hx hb dX0_init_59 (by decide) ?_
  refine g_newa (ty := .int) (N' := 248) (a0 := (248, .inl (fun _ => 0))) hx hb hg rfl q224 hK hP hD hS hA 0 rfl (fun _ => rfl) (by decide) (by decide) (Nat.le_of_ble_eq_true rfl) (Nat.le_of_ble_eq_true rfl) (Nat.le_of_ble_eq_true rfl) dX0_init_62 (fun q7 H hP hD hS => ?_)
  refine W.widen (k := 7) (n := 1736) (Nat.le_of_ble_eq_true rfl) (Nat.le_of_ble_eq_true rfl) ?_
  have hP : va_P D vwC [(h0, .inr (0, [.ref q1, .ref q2, .ref q3, .ref q4, .ref q5, .ref q6, .null, .int 0])), (q1, .inl (dA 0, 248, .inl (fun _ => 0))), (q2, .inl (dA 0, 248, .inl (fun _ => 0))), (q3, .inl (dA 0, 248, .inl (fun _ => 0))), (q4, .inl (dA 0, 248, .inl (fun _ => 0))), (q5, .inl (dA 0, 248, .inl (fun _ => 0))), (q6, .inl (dA 0, 248, .inl (fun _ => 0))), (q7, .inl (dA 0, 248, .inl (fun _ => 0)))] H := hP
  have hD : va_D A [(h0, .inr (0, [.ref q1, .ref q2, .ref q3, .ref q4, .ref q5, .ref q6, .null, .int 0])), (q1, .inl (dA 0, 248, .inl (fun _ => 0))), (q2, .inl (dA 0, 248, .inl (fun _ => 0))), (q3, .inl (dA 0, 248, .inl (fun _ => 0))), (q4, .inl (dA 0, 248, .inl (fun _ => 0))), (q5, .inl (dA 0, 248, .inl (fun _ => 0))), (q6, .inl (dA 0, 248, .inl (fun _ => 0))), (q7, .inl (dA 0, 248, .inl (fun _ => 0)))] := hD
  refine g_putF (w' := [(h0, .inr (0, [.ref q1, .ref q2, .ref q3, .ref q4, .ref q5, .ref q6, .ref q7, .int 0])), (q1, .inl (dA 0, 248, .inl (fun _ => 0))), (q2, .inl (dA 0, 248, .inl (fun _ => 0))), (q3, .inl (dA 0, 248, .inl (fun _ => 0))), (q4, .inl (dA 0, 248, .inl (fun _ => 0))), (q5, .inl (dA 0, 248, .inl (fun _ => 0))), (q6, .inl (dA 0, 248, .inl (fun _ => 0))), (q7, .inl (dA 0, 248, .inl (fun _ => 0)))]) hx hb hg hown hK hP hD hS 0 rfl rfl inX0 tyX0_ok nmX0 6 (by decide) q269 rfl hin rfl rfl rfl (Nat.le_of_ble_eq_true rfl) rfl dX0_init_64 (fun H locs hP hD hS => ?_)
  refine lv_aload_n hx hb dX0_init_67 rfl (lv_at hl 0 rfl) ?_
  refine lv_iconst (v := 0) hx hb dX0_init_68 (by decide) ?_
  refine g_put (w' := [(h0, .inr (0, [.ref q1, .ref q2, .ref q3, .ref q4, .ref q5, .ref q6, .ref q7, .int 0])), (q1, .inl (dA 0, 248, .inl (fun _ => 0))), (q2, .inl (dA 0, 248, .inl (fun _ => 0))), (q3, .inl (dA 0, 248, .inl (fun _ => 0))), (q4, .inl (dA 0, 248, .inl (fun _ => 0))), (q5, .inl (dA 0, 248, .inl (fun _ => 0))), (q6, .inl (dA 0, 248, .inl (fun _ => 0))), (q7, .inl (dA 0, 248, .inl (fun _ => 0)))]) hx hb hg hown hK hP hD hS 0 rfl rfl inX0 tyX0_ok nmX0 7 (by decide) q271 rfl rfl rfl (Nat.le_of_ble_eq_true rfl) rfl dX0_init_69 (fun H locs hP hD hS => ?_)
  obtain ⟨hP, hD⟩ := g_cut (is := [0, 1, 2, 3, 4, 5, 6, 7]) (w' := [(h0, .inr (0, [.ref q1, .ref q2, .ref q3, .ref q4, .ref q5, .ref q6, .ref q7, .int 0])), (q1, .inl (dA 0, 248, .inl (fun _ => 0))), (q2, .inl (dA 0, 248, .inl (fun _ => 0))), (q3, .inl (dA 0, 248, .inl (fun _ => 0))), (q4, .inl (dA 0, 248, .inl (fun _ => 0))), (q5, .inl (dA 0, 248, .inl (fun _ => 0))), (q6, .inl (dA 0, 248, .inl (fun _ => 0))), (q7, .inl (dA 0, 248, .inl (fun _ => 0)))]) hP hD (by decide) rfl rfl
  exact g_vret hx hb hr hlocks hK (fun k => ([q1, q2, q3, q4, q5, q6, q7] : List Nat).getD k 0) hP hD hS trivial (Nat.le_of_ble_eq_true rfl) (Nat.le_of_ble_eq_true rfl) dX0_init_72
set_option maxHeartbeats 4000000 in
set_option maxRecDepth 100000 in
theorem c_X8_init (l : Launch) (D : va_G) (dA : Nat → ClassId) (h0 : Nat) (n0 : Nat) (n1 : Nat) (sz : Nat) : Met l yX8_init (gws yX8_init cX8_init 3 none) (gR 4 2 16) (gPre D dA [.ref h0, .ref n0, .ref n1] [(h0, .inr (8, [.null, .null, .null, .null, .int 0, .int 0]))] sz) (va_Qv (fun _ : Nat → Nat => True) (gAt D dA (va_A [(h0, .inr (8, [.null, .null, .null, .null, .int 0, .int 0]))] sz) (fun ad : Nat → Nat => [(h0, .inr (8, [.ref n0, .ref n1, .ref (ad 0), .ref (ad 1), .int 0, .int 0])), (ad 0, .inr (7, [.int 0, .int 0, .int 0, .int (-1), .int (-1), .int 0, .int 0, .int 0])), (ad 1, .inr (7, [.int 0, .int 0, .int 0, .int (-1), .int (-1), .int 0, .int 0, .int 0]))])) (va_A [(h0, .inr (8, [.null, .null, .null, .null, .int 0, .int 0]))] sz)) 2 16 (va_A [(h0, .inr (8, [.null, .null, .null, .null, .int 0, .int 0]))] sz) := by
  refine Met.ofW (cc := cX8_init) (maxL := 3) (ret := none) (by decide) rfl ?_
  intro p e s m args below meth c s₁ B hml hv
  obtain ⟨rfl, hsz, hP, hK, hD0⟩ := hv
  have hx := B.exec
  have hb := B.bytes
  have hr := B.returns
  have hts := atoms_spec (ws := gws yX8_init cX8_init 3 none) B.pre
  have hg : ∀ w ∈ gw, w.before _ s = true := fun w h => hts w (List.mem_cons_of_mem _ h)
  have hown : s.vm.findClass RX8 = some m.cls := findClass_of_methodNamed B.named
  have hlocks := B.notSynchronized
  have hin : meth.name = "<init>" := (name_of_methodNamed B.named B.method).1
  subst hsz
  have hD := hD0.self (sz := s.heap.size)
  generalize hAe : va_A [(h0, .inr (8, [.null, .null, .null, .null, .int 0, .int 0]))] s.heap.size = A at hD ⊢
  have hA : ∀ q : Nat, s.heap.size ≤ q → A q := fun q h => by rw [← hAe]; exact Or.inr h
  have hS : va_S A s.heap s.heap [] := va_S.rf
  have hP : va_P D vwC [(h0, .inr (8, [.null, .null, .null, .null, .int 0, .int 0]))] s.heap := hP
  have hl := lv_entry ([.ref h0, .ref n0, .ref n1]) (n := 3) (Nat.le_of_ble_eq_true rfl)
  rw [lg_entry_eq]
  generalize (lg_sl ([.ref h0, .ref n0, .ref n1]) ++ List.replicate (3 - (lg_sl ([.ref h0, .ref n0, .ref n1])).length) Slot.unset).toArray = ls at hl ⊢
  have hl : lv_has ls 3 [(0, .ref h0), (1, .ref n0), (2, .ref n1)] := hl
  refine lv_aload_n hx hb dX8_init_0 rfl (lv_at hl 0 rfl) ?_
  refine g_obj hx hb hg hown q296 q186 q187 hml hl.1 dX8_init_1 (Nat.le_of_ble_eq_true rfl) (Nat.le_of_ble_eq_true rfl) ?_
  refine lv_aload_n hx hb dX8_init_4 rfl (lv_at hl 0 rfl) ?_
  refine lv_aload_n hx hb dX8_init_5 rfl (lv_at hl 1 rfl) ?_
  refine g_putF (w' := [(h0, .inr (8, [.ref n0, .null, .null, .null, .int 0, .int 0]))]) hx hb hg hown hK hP hD hS 0 rfl rfl inX8 tyX8_ok nmX8 0 (by decide) q346 rfl hin rfl rfl rfl (Nat.le_of_ble_eq_true rfl) rfl dX8_init_6 (fun H locs hP hD hS => ?_)
  refine lv_aload_n hx hb dX8_init_9 rfl (lv_at hl 0 rfl) ?_
  refine lv_aload_n hx hb dX8_init_10 rfl (lv_at hl 2 rfl) ?_
  refine g_putF (w' := [(h0, .inr (8, [.ref n0, .ref n1, .null, .null, .int 0, .int 0]))]) hx hb hg hown hK hP hD hS 0 rfl rfl inX8 tyX8_ok nmX8 1 (by decide) q347 rfl hin rfl rfl rfl (Nat.le_of_ble_eq_true rfl) rfl dX8_init_11 (fun H locs hP hD hS => ?_)
  refine lv_aload_n hx hb dX8_init_14 rfl (lv_at hl 0 rfl) ?_
  refine g_new (fs := f0X7) hx hb hg 7 rfl inX7 tyX7_ok hown q297 q298 q154 hK hP hD hS hA dfX7 (Nat.le_of_ble_eq_true rfl) (Nat.le_of_ble_eq_true rfl) dX8_init_15 (fun q1 H hP hD hS => ?_)
  refine W.widen (k := 1) (n := 8) (Nat.le_of_ble_eq_true rfl) (Nat.le_of_ble_eq_true rfl) ?_
  have hP : va_P D vwC [(h0, .inr (8, [.ref n0, .ref n1, .null, .null, .int 0, .int 0])), (q1, .inr (7, [.int 0, .int 0, .int 0, .int 0, .int 0, .int 0, .int 0, .int 0]))] H := hP
  have hD : va_D A [(h0, .inr (8, [.ref n0, .ref n1, .null, .null, .int 0, .int 0])), (q1, .inr (7, [.int 0, .int 0, .int 0, .int 0, .int 0, .int 0, .int 0, .int 0]))] := hD
  refine lv_dup hx hb dX8_init_18 rfl ?_
  refine g_Iv (n := 0) (As := []) (rest := [.ref q1, .ref h0]) (wr := [(h0, .inr (8, [.ref n0, .ref n1, .null, .null, .int 0, .int 0]))]) hx hb hml hg hown hK hP hD hS hA (c_X7_init l D dA q1 _) [1] [0] rfl (by decide) rfl (by decide) (by decide) q301 q154 q299 q300 rfl (by decide +kernel) ⟨(Nat.le_of_ble_eq_true rfl), (Nat.le_of_ble_eq_true rfl)⟩ rfl hl.1 rfl (Nat.le_of_ble_eq_true rfl) dX8_init_19 ⟨(Nat.le_of_ble_eq_true rfl), (Nat.le_of_ble_eq_true rfl)⟩ (fun u2 H locs w4 hP hD hS => ?_)
  refine W.widen (k := 1) (n := 8) (Nat.le_of_ble_eq_true rfl) (Nat.le_of_ble_eq_true rfl) ?_
  have hP : va_P D vwC [(h0, .inr (8, [.ref n0, .ref n1, .null, .null, .int 0, .int 0])), (q1, .inr (7, [.int 0, .int 0, .int 0, .int (-1), .int (-1), .int 0, .int 0, .int 0]))] H := hP
  have hD : va_D A [(h0, .inr (8, [.ref n0, .ref n1, .null, .null, .int 0, .int 0])), (q1, .inr (7, [.int 0, .int 0, .int 0, .int (-1), .int (-1), .int 0, .int 0, .int 0]))] := hD
  refine g_putF (w' := [(h0, .inr (8, [.ref n0, .ref n1, .ref q1, .null, .int 0, .int 0])), (q1, .inr (7, [.int 0, .int 0, .int 0, .int (-1), .int (-1), .int 0, .int 0, .int 0]))]) hx hb hg hown hK hP hD hS 0 rfl rfl inX8 tyX8_ok nmX8 2 (by decide) q348 rfl hin rfl rfl rfl (Nat.le_of_ble_eq_true rfl) rfl dX8_init_22 (fun H locs hP hD hS => ?_)
  refine lv_aload_n hx hb dX8_init_25 rfl (lv_at hl 0 rfl) ?_
  refine g_new (fs := f0X7) hx hb hg 7 rfl inX7 tyX7_ok hown q297 q298 q154 hK hP hD hS hA dfX7 (Nat.le_of_ble_eq_true rfl) (Nat.le_of_ble_eq_true rfl) dX8_init_26 (fun q5 H hP hD hS => ?_)
  refine W.widen (k := 2) (n := 16) (Nat.le_of_ble_eq_true rfl) (Nat.le_of_ble_eq_true rfl) ?_
  have hP : va_P D vwC [(h0, .inr (8, [.ref n0, .ref n1, .ref q1, .null, .int 0, .int 0])), (q1, .inr (7, [.int 0, .int 0, .int 0, .int (-1), .int (-1), .int 0, .int 0, .int 0])), (q5, .inr (7, [.int 0, .int 0, .int 0, .int 0, .int 0, .int 0, .int 0, .int 0]))] H := hP
  have hD : va_D A [(h0, .inr (8, [.ref n0, .ref n1, .ref q1, .null, .int 0, .int 0])), (q1, .inr (7, [.int 0, .int 0, .int 0, .int (-1), .int (-1), .int 0, .int 0, .int 0])), (q5, .inr (7, [.int 0, .int 0, .int 0, .int 0, .int 0, .int 0, .int 0, .int 0]))] := hD
  refine lv_dup hx hb dX8_init_29 rfl ?_
  refine g_Iv (n := 0) (As := []) (rest := [.ref q5, .ref h0]) (wr := [(h0, .inr (8, [.ref n0, .ref n1, .ref q1, .null, .int 0, .int 0])), (q1, .inr (7, [.int 0, .int 0, .int 0, .int (-1), .int (-1), .int 0, .int 0, .int 0]))]) hx hb hml hg hown hK hP hD hS hA (c_X7_init l D dA q5 _) [2] [0, 1] rfl (by decide) rfl (by decide) (by decide) q301 q154 q299 q300 rfl (by decide +kernel) ⟨(Nat.le_of_ble_eq_true rfl), (Nat.le_of_ble_eq_true rfl)⟩ rfl hl.1 rfl (Nat.le_of_ble_eq_true rfl) dX8_init_30 ⟨(Nat.le_of_ble_eq_true rfl), (Nat.le_of_ble_eq_true rfl)⟩ (fun u6 H locs w8 hP hD hS => ?_)
  refine W.widen (k := 2) (n := 16) (Nat.le_of_ble_eq_true rfl) (Nat.le_of_ble_eq_true rfl) ?_
  have hP : va_P D vwC [(h0, .inr (8, [.ref n0, .ref n1, .ref q1, .null, .int 0, .int 0])), (q1, .inr (7, [.int 0, .int 0, .int 0, .int (-1), .int (-1), .int 0, .int 0, .int 0])), (q5, .inr (7, [.int 0, .int 0, .int 0, .int (-1), .int (-1), .int 0, .int 0, .int 0]))] H := hP
  have hD : va_D A [(h0, .inr (8, [.ref n0, .ref n1, .ref q1, .null, .int 0, .int 0])), (q1, .inr (7, [.int 0, .int 0, .int 0, .int (-1), .int (-1), .int 0, .int 0, .int 0])), (q5, .inr (7, [.int 0, .int 0, .int 0, .int (-1), .int (-1), .int 0, .int 0, .int 0]))] := hD
  refine g_putF (w' := [(h0, .inr (8, [.ref n0, .ref n1, .ref q1, .ref q5, .int 0, .int 0])), (q1, .inr (7, [.int 0, .int 0, .int 0, .int (-1), .int (-1), .int 0, .int 0, .int 0])), (q5, .inr (7, [.int 0, .int 0, .int 0, .int (-1), .int (-1), .int 0, .int 0, .int 0]))]) hx hb hg hown hK hP hD hS 0 rfl rfl inX8 tyX8_ok nmX8 3 (by decide) q349 rfl hin rfl rfl rfl (Nat.le_of_ble_eq_true rfl) rfl dX8_init_33 (fun H locs hP hD hS => ?_)
  refine lv_aload_n hx hb dX8_init_36 rfl (lv_at hl 0 rfl) ?_
  refine lv_iconst (v := 0) hx hb dX8_init_37 (by decide) ?_
  refine g_put (w' := [(h0, .inr (8, [.ref n0, .ref n1, .ref q1, .ref q5, .int 0, .int 0])), (q1, .inr (7, [.int 0, .int 0, .int 0, .int (-1), .int (-1), .int 0, .int 0, .int 0])), (q5, .inr (7, [.int 0, .int 0, .int 0, .int (-1), .int (-1), .int 0, .int 0, .int 0]))]) hx hb hg hown hK hP hD hS 0 rfl rfl inX8 tyX8_ok nmX8 4 (by decide) q350 rfl rfl rfl (Nat.le_of_ble_eq_true rfl) rfl dX8_init_38 (fun H locs hP hD hS => ?_)
  refine lv_aload_n hx hb dX8_init_41 rfl (lv_at hl 0 rfl) ?_
  refine lv_iconst (v := 0) hx hb dX8_init_42 (by decide) ?_
  refine g_put (w' := [(h0, .inr (8, [.ref n0, .ref n1, .ref q1, .ref q5, .int 0, .int 0])), (q1, .inr (7, [.int 0, .int 0, .int 0, .int (-1), .int (-1), .int 0, .int 0, .int 0])), (q5, .inr (7, [.int 0, .int 0, .int 0, .int (-1), .int (-1), .int 0, .int 0, .int 0]))]) hx hb hg hown hK hP hD hS 0 rfl rfl inX8 tyX8_ok nmX8 5 (by decide) q351 rfl rfl rfl (Nat.le_of_ble_eq_true rfl) rfl dX8_init_43 (fun H locs hP hD hS => ?_)
  obtain ⟨hP, hD⟩ := g_cut (is := [0, 1, 2]) (w' := [(h0, .inr (8, [.ref n0, .ref n1, .ref q1, .ref q5, .int 0, .int 0])), (q1, .inr (7, [.int 0, .int 0, .int 0, .int (-1), .int (-1), .int 0, .int 0, .int 0])), (q5, .inr (7, [.int 0, .int 0, .int 0, .int (-1), .int (-1), .int 0, .int 0, .int 0]))]) hP hD (by decide) rfl rfl
  exact g_vret hx hb hr hlocks hK (fun k => ([q1, q5] : List Nat).getD k 0) hP hD hS trivial (Nat.le_of_ble_eq_true rfl) (Nat.le_of_ble_eq_true rfl) dX8_init_46
set_option maxHeartbeats 4000000 in
set_option maxRecDepth 100000 in
theorem c_X2_init (l : Launch) (D : va_G) (dA : Nat → ClassId) (h0 : Nat) (n0 : Nat) (n1 : Nat) (sz : Nat) : Met l yX2_init (gws yX2_init cX2_init 3 none) (gR 2 2 120) (gPre D dA [.ref h0, .ref n0, .ref n1] [(h0, .inr (2, [.null, .null, .null, .null, .int 0, .int 0]))] sz) (va_Qv (fun _ : Nat → Nat => True) (gAt D dA (va_A [(h0, .inr (2, [.null, .null, .null, .null, .int 0, .int 0]))] sz) (fun ad : Nat → Nat => [(h0, .inr (2, [.ref n0, .ref n1, .ref (ad 0), .ref (ad 1), .int 0, .int (-1)])), (ad 0, .inl (dA 0, 60, .inl (fun _ => 0))), (ad 1, .inl (dA 0, 60, .inl (fun _ => 0)))])) (va_A [(h0, .inr (2, [.null, .null, .null, .null, .int 0, .int 0]))] sz)) 2 120 (va_A [(h0, .inr (2, [.null, .null, .null, .null, .int 0, .int 0]))] sz) := by
  refine Met.ofW (cc := cX2_init) (maxL := 3) (ret := none) (by decide) rfl ?_
  intro p e s m args below meth c s₁ B hml hv
  obtain ⟨rfl, hsz, hP, hK, hD0⟩ := hv
  have hx := B.exec
  have hb := B.bytes
  have hr := B.returns
  have hts := atoms_spec (ws := gws yX2_init cX2_init 3 none) B.pre
  have hg : ∀ w ∈ gw, w.before _ s = true := fun w h => hts w (List.mem_cons_of_mem _ h)
  have hown : s.vm.findClass RX2 = some m.cls := findClass_of_methodNamed B.named
  have hlocks := B.notSynchronized
  have hin : meth.name = "<init>" := (name_of_methodNamed B.named B.method).1
  subst hsz
  have hD := hD0.self (sz := s.heap.size)
  generalize hAe : va_A [(h0, .inr (2, [.null, .null, .null, .null, .int 0, .int 0]))] s.heap.size = A at hD ⊢
  have hA : ∀ q : Nat, s.heap.size ≤ q → A q := fun q h => by rw [← hAe]; exact Or.inr h
  have hS : va_S A s.heap s.heap [] := va_S.rf
  have hP : va_P D vwC [(h0, .inr (2, [.null, .null, .null, .null, .int 0, .int 0]))] s.heap := hP
  have hl := lv_entry ([.ref h0, .ref n0, .ref n1]) (n := 3) (Nat.le_of_ble_eq_true rfl)
  rw [lg_entry_eq]
  generalize (lg_sl ([.ref h0, .ref n0, .ref n1]) ++ List.replicate (3 - (lg_sl ([.ref h0, .ref n0, .ref n1])).length) Slot.unset).toArray = ls at hl ⊢
  have hl : lv_has ls 3 [(0, .ref h0), (1, .ref n0), (2, .ref n1)] := hl
  refine lv_aload_n hx hb dX2_init_0 rfl (lv_at hl 0 rfl) ?_
  refine g_obj hx hb hg hown q370 q186 q187 hml hl.1 dX2_init_1 (Nat.le_of_ble_eq_true rfl) (Nat.le_of_ble_eq_true rfl) ?_
  refine lv_aload_n hx hb dX2_init_4 rfl (lv_at hl 0 rfl) ?_
  refine lv_aload_n hx hb dX2_init_5 rfl (lv_at hl 1 rfl) ?_
  refine g_putF (w' := [(h0, .inr (2, [.ref n0, .null, .null, .null, .int 0, .int 0]))]) hx hb hg hown hK hP hD hS 0 rfl rfl inX2 tyX2_ok nmX2 0 (by decide) q371 rfl hin rfl rfl rfl (Nat.le_of_ble_eq_true rfl) rfl dX2_init_6 (fun H locs hP hD hS => ?_)
  refine lv_aload_n hx hb dX2_init_9 rfl (lv_at hl 0 rfl) ?_
  refine lv_aload_n hx hb dX2_init_10 rfl (lv_at hl 2 rfl) ?_
  refine g_putF (w' := [(h0, .inr (2, [.ref n0, .ref n1, .null, .null, .int 0, .int 0]))]) hx hb hg hown hK hP hD hS 0 rfl rfl inX2 tyX2_ok nmX2 1 (by decide) q372 rfl hin rfl rfl rfl (Nat.le_of_ble_eq_true rfl) rfl dX2_init_11 (fun H locs hP hD hS => ?_)
  refine lv_aload_n hx hb dX2_init_14 rfl (lv_at hl 0 rfl) ?_
  refine lv_bipush (v := 60) hx hb dX2_init_15 (by decide) ?_
  refine g_newa (ty := .int) (N' := 60) (a0 := (60, .inl (fun _ => 0))) hx hb hg rfl q224 hK hP hD hS hA 0 rfl (fun _ => rfl) (by decide) (by decide) (Nat.le_of_ble_eq_true rfl) (Nat.le_of_ble_eq_true rfl) (Nat.le_of_ble_eq_true rfl) dX2_init_17 (fun q1 H hP hD hS => ?_)
  refine W.widen (k := 1) (n := 60) (Nat.le_of_ble_eq_true rfl) (Nat.le_of_ble_eq_true rfl) ?_
  have hP : va_P D vwC [(h0, .inr (2, [.ref n0, .ref n1, .null, .null, .int 0, .int 0])), (q1, .inl (dA 0, 60, .inl (fun _ => 0)))] H := hP
  have hD : va_D A [(h0, .inr (2, [.ref n0, .ref n1, .null, .null, .int 0, .int 0])), (q1, .inl (dA 0, 60, .inl (fun _ => 0)))] := hD
  refine g_putF (w' := [(h0, .inr (2, [.ref n0, .ref n1, .ref q1, .null, .int 0, .int 0])), (q1, .inl (dA 0, 60, .inl (fun _ => 0)))]) hx hb hg hown hK hP hD hS 0 rfl rfl inX2 tyX2_ok nmX2 2 (by decide) q373 rfl hin rfl rfl rfl (Nat.le_of_ble_eq_true rfl) rfl dX2_init_19 (fun H locs hP hD hS => ?_)
  refine lv_aload_n hx hb dX2_init_22 rfl (lv_at hl 0 rfl) ?_
  refine lv_bipush (v := 60) hx hb dX2_init_23 (by decide) ?_
  refine g_newa (ty := .int) (N' := 60) (a0 := (60, .inl (fun _ => 0))) hx hb hg rfl q224 hK hP hD hS hA 0 rfl (fun _ => rfl) (by decide) (by decide) (Nat.le_of_ble_eq_true rfl) (Nat.le_of_ble_eq_true rfl) (Nat.le_of_ble_eq_true rfl) dX2_init_25 (fun q2 H hP hD hS => ?_)
  refine W.widen (k := 2) (n := 120) (Nat.le_of_ble_eq_true rfl) (Nat.le_of_ble_eq_true rfl) ?_
  have hP : va_P D vwC [(h0, .inr (2, [.ref n0, .ref n1, .ref q1, .null, .int 0, .int 0])), (q1, .inl (dA 0, 60, .inl (fun _ => 0))), (q2, .inl (dA 0, 60, .inl (fun _ => 0)))] H := hP
  have hD : va_D A [(h0, .inr (2, [.ref n0, .ref n1, .ref q1, .null, .int 0, .int 0])), (q1, .inl (dA 0, 60, .inl (fun _ => 0))), (q2, .inl (dA 0, 60, .inl (fun _ => 0)))] := hD
  refine g_putF (w' := [(h0, .inr (2, [.ref n0, .ref n1, .ref q1, .ref q2, .int 0, .int 0])), (q1, .inl (dA 0, 60, .inl (fun _ => 0))), (q2, .inl (dA 0, 60, .inl (fun _ => 0)))]) hx hb hg hown hK hP hD hS 0 rfl rfl inX2 tyX2_ok nmX2 3 (by decide) q374 rfl hin rfl rfl rfl (Nat.le_of_ble_eq_true rfl) rfl dX2_init_27 (fun H locs hP hD hS => ?_)
  refine lv_aload_n hx hb dX2_init_30 rfl (lv_at hl 0 rfl) ?_
  refine lv_iconst (v := 0) hx hb dX2_init_31 (by decide) ?_
  refine g_put (w' := [(h0, .inr (2, [.ref n0, .ref n1, .ref q1, .ref q2, .int 0, .int 0])), (q1, .inl (dA 0, 60, .inl (fun _ => 0))), (q2, .inl (dA 0, 60, .inl (fun _ => 0)))]) hx hb hg hown hK hP hD hS 0 rfl rfl inX2 tyX2_ok nmX2 4 (by decide) q375 rfl rfl rfl (Nat.le_of_ble_eq_true rfl) rfl dX2_init_32 (fun H locs hP hD hS => ?_)
  refine lv_aload_n hx hb dX2_init_35 rfl (lv_at hl 0 rfl) ?_
  refine lv_iconst (v := (-1)) hx hb dX2_init_36 (by decide) ?_
  refine g_put (w' := [(h0, .inr (2, [.ref n0, .ref n1, .ref q1, .ref q2, .int 0, .int (-1)])), (q1, .inl (dA 0, 60, .inl (fun _ => 0))), (q2, .inl (dA 0, 60, .inl (fun _ => 0)))]) hx hb hg hown hK hP hD hS 0 rfl rfl inX2 tyX2_ok nmX2 5 (by decide) q376 rfl rfl rfl (Nat.le_of_ble_eq_true rfl) rfl dX2_init_37 (fun H locs hP hD hS => ?_)
  obtain ⟨hP, hD⟩ := g_cut (is := [0, 1, 2]) (w' := [(h0, .inr (2, [.ref n0, .ref n1, .ref q1, .ref q2, .int 0, .int (-1)])), (q1, .inl (dA 0, 60, .inl (fun _ => 0))), (q2, .inl (dA 0, 60, .inl (fun _ => 0)))]) hP hD (by decide) rfl rfl
  exact g_vret hx hb hr hlocks hK (fun k => ([q1, q2] : List Nat).getD k 0) hP hD hS trivial (Nat.le_of_ble_eq_true rfl) (Nat.le_of_ble_eq_true rfl) dX2_init_40
set_option maxHeartbeats 4000000 in
set_option maxRecDepth 100000 in
theorem c_X6_init (l : Launch) (D : va_G) (dA : Nat → ClassId) (h0 : Nat) (sz : Nat) : Met l yX6_init (gws yX6_init cX6_init 1 none) (gR 2 13 1568) (gPre D dA [.ref h0] [(h0, .inr (6, [.int 0, .int 0, .null, .null, .null, .null, .null, .int 0, .null, .null, .null, .null, .null, .int 0, .null, .null, .null]))] sz) (va_Qv (fun _ : Nat → Nat => True) (gAt D dA (va_A [(h0, .inr (6, [.int 0, .int 0, .null, .null, .null, .null, .null, .int 0, .null, .null, .null, .null, .null, .int 0, .null, .null, .null]))] sz) (fun ad : Nat → Nat => [(h0, .inr (6, [.int 0, .int 0, .ref (ad 0), .ref (ad 1), .ref (ad 2), .ref (ad 3), .ref (ad 4), .int 0, .ref (ad 5), .ref (ad 6), .ref (ad 7), .ref (ad 8), .ref (ad 9), .int 0, .ref (ad 10), .ref (ad 11), .ref (ad 12)])), (ad 0, .inl (dA 1, 24, .inr (.inl (fun _ => 0)))), (ad 1, .inl (dA 0, 24, .inl (fun _ => 0))), (ad 2, .inl (dA 0, 24, .inl (fun _ => 0))), (ad 3, .inl (dA 0, 24, .inl (fun _ => 0))), (ad 4, .inl (dA 0, 400, .inl (fun _ => 0))), (ad 5, .inl (dA 0, 200, .inl (fun _ => 0))), (ad 6, .inl (dA 0, 200, .inl (fun _ => 0))), (ad 7, .inl (dA 0, 200, .inl (fun _ => 0))), (ad 8, .inl (dA 0, 200, .inl (fun _ => 0))), (ad 9, .inl (dA 1, 200, .inr (.inl (fun _ => 0)))), (ad 10, .inl (dA 1, 24, .inr (.inl (fun _ => 0)))), (ad 11, .inl (dA 0, 24, .inl (fun _ => 0))), (ad 12, .inl (dA 0, 24, .inl (fun _ => 0)))])) (va_A [(h0, .inr (6, [.int 0, .int 0, .null, .null, .null, .null, .null, .int 0, .null, .null, .null, .null, .null, .int 0, .null, .null, .null]))] sz)) 13 1568 (va_A [(h0, .inr (6, [.int 0, .int 0, .null, .null, .null, .null, .null, .int 0, .null, .null, .null, .null, .null, .int 0, .null, .null, .null]))] sz) := by
  refine Met.ofW (cc := cX6_init) (maxL := 1) (ret := none) (by decide) rfl ?_
  intro p e s m args below meth c s₁ B hml hv
  obtain ⟨rfl, hsz, hP, hK, hD0⟩ := hv
  have hx := B.exec
  have hb := B.bytes
  have hr := B.returns
  have hts := atoms_spec (ws := gws yX6_init cX6_init 1 none) B.pre
  have hg : ∀ w ∈ gw, w.before _ s = true := fun w h => hts w (List.mem_cons_of_mem _ h)
  have hown : s.vm.findClass RX6 = some m.cls := findClass_of_methodNamed B.named
  have hlocks := B.notSynchronized
  have hin : meth.name = "<init>" := (name_of_methodNamed B.named B.method).1
  subst hsz
  have hD := hD0.self (sz := s.heap.size)
  generalize hAe : va_A [(h0, .inr (6, [.int 0, .int 0, .null, .null, .null, .null, .null, .int 0, .null, .null, .null, .null, .null, .int 0, .null, .null, .null]))] s.heap.size = A at hD ⊢
  have hA : ∀ q : Nat, s.heap.size ≤ q → A q := fun q h => by rw [← hAe]; exact Or.inr h
  have hS : va_S A s.heap s.heap [] := va_S.rf
  have hP : va_P D vwC [(h0, .inr (6, [.int 0, .int 0, .null, .null, .null, .null, .null, .int 0, .null, .null, .null, .null, .null, .int 0, .null, .null, .null]))] s.heap := hP
  have hl := lv_entry ([.ref h0]) (n := 1) (Nat.le_of_ble_eq_true rfl)
  rw [lg_entry_eq]
  generalize (lg_sl ([.ref h0]) ++ List.replicate (1 - (lg_sl ([.ref h0])).length) Slot.unset).toArray = ls at hl ⊢
  have hl : lv_has ls 1 [(0, .ref h0)] := hl
  refine lv_aload_n hx hb dX6_init_0 rfl (lv_at hl 0 rfl) ?_
  refine g_obj hx hb hg hown q396 q186 q187 hml hl.1 dX6_init_1 (Nat.le_of_ble_eq_true rfl) (Nat.le_of_ble_eq_true rfl) ?_
  refine lv_aload_n hx hb dX6_init_4 rfl (lv_at hl 0 rfl) ?_
  refine lv_iconst (v := 0) hx hb dX6_init_5 (by decide) ?_
  refine g_put (w' := [(h0, .inr (6, [.int 0, .int 0, .null, .null, .null, .null, .null, .int 0, .null, .null, .null, .null, .null, .int 0, .null, .null, .null]))]) hx hb hg hown hK hP hD hS 0 rfl rfl inX6 tyX6_ok nmX6 0 (by decide) q397 rfl rfl rfl (Nat.le_of_ble_eq_true rfl) rfl dX6_init_6 (fun H locs hP hD hS => ?_)
  refine lv_aload_n hx hb dX6_init_9 rfl (lv_at hl 0 rfl) ?_
  refine lv_iconst (v := 0) hx hb dX6_init_10 (by decide) ?_
  refine g_put (w' := [(h0, .inr (6, [.int 0, .int 0, .null, .null, .null, .null, .null, .int 0, .null, .null, .null, .null, .null, .int 0, .null, .null, .null]))]) hx hb hg hown hK hP hD hS 0 rfl rfl inX6 tyX6_ok nmX6 1 (by decide) q401 rfl rfl rfl (Nat.le_of_ble_eq_true rfl) rfl dX6_init_11 (fun H locs hP hD hS => ?_)
  refine lv_aload_n hx hb dX6_init_14 rfl (lv_at hl 0 rfl) ?_
  refine lv_bipush (v := 24) hx hb dX6_init_15 (by decide) ?_
  refine g_newa (ty := .long) (N' := 24) (a0 := (24, .inr (.inl (fun _ => 0)))) hx hb hg rfl q223 hK hP hD hS hA 1 rfl (fun _ => rfl) (by decide) (by decide) (Nat.le_of_ble_eq_true rfl) (Nat.le_of_ble_eq_true rfl) (Nat.le_of_ble_eq_true rfl) dX6_init_17 (fun q1 H hP hD hS => ?_)
  refine W.widen (k := 1) (n := 24) (Nat.le_of_ble_eq_true rfl) (Nat.le_of_ble_eq_true rfl) ?_
  have hP : va_P D vwC [(h0, .inr (6, [.int 0, .int 0, .null, .null, .null, .null, .null, .int 0, .null, .null, .null, .null, .null, .int 0, .null, .null, .null])), (q1, .inl (dA 1, 24, .inr (.inl (fun _ => 0))))] H := hP
  have hD : va_D A [(h0, .inr (6, [.int 0, .int 0, .null, .null, .null, .null, .null, .int 0, .null, .null, .null, .null, .null, .int 0, .null, .null, .null])), (q1, .inl (dA 1, 24, .inr (.inl (fun _ => 0))))] := hD
  refine g_putF (w' := [(h0, .inr (6, [.int 0, .int 0, .ref q1, .null, .null, .null, .null, .int 0, .null, .null, .null, .null, .null, .int 0, .null, .null, .null])), (q1, .inl (dA 1, 24, .inr (.inl (fun _ => 0))))]) hx hb hg hown hK hP hD hS 0 rfl rfl inX6 tyX6_ok nmX6 2 (by decide) q404 rfl hin rfl rfl rfl (Nat.le_of_ble_eq_true rfl) rfl dX6_init_19 (fun H locs hP hD hS => ?_)
  refine lv_aload_n hx hb dX6_init_22 rfl (lv_at hl 0 rfl) ?_
  refine lv_bipush (v := 24) hx hb dX6_init_23 (by decide) ?_
  refine g_newa (ty := .int) (N' := 24) (a0 := (24, .inl (fun _ => 0))) hx hb hg rfl q224 hK hP hD hS hA 0 rfl (fun _ => rfl) (by decide) (by decide) (Nat.le_of_ble_eq_true rfl) (Nat.le_of_ble_eq_true rfl) (Nat.le_of_ble_eq_true rfl) dX6_init_25 (fun q2 H hP hD hS => ?_)
  refine W.widen (k := 2) (n := 48) (Nat.le_of_ble_eq_true rfl) (Nat.le_of_ble_eq_true rfl) ?_
  have hP : va_P D vwC [(h0, .inr (6, [.int 0, .int 0, .ref q1, .null, .null, .null, .null, .int 0, .null, .null, .null, .null, .null, .int 0, .null, .null, .null])), (q1, .inl (dA 1, 24, .inr (.inl (fun _ => 0)))), (q2, .inl (dA 0, 24, .inl (fun _ => 0)))] H := hP
  have hD : va_D A [(h0, .inr (6, [.int 0, .int 0, .ref q1, .null, .null, .null, .null, .int 0, .null, .null, .null, .null, .null, .int 0, .null, .null, .null])), (q1, .inl (dA 1, 24, .inr (.inl (fun _ => 0)))), (q2, .inl (dA 0, 24, .inl (fun _ => 0)))] := hD
  refine g_putF (w' := [(h0, .inr (6, [.int 0, .int 0, .ref q1, .ref q2, .null, .null, .null, .int 0, .null, .null, .null, .null, .null, .int 0, .null, .null, .null])), (q1, .inl (dA 1, 24, .inr (.inl (fun _ => 0)))), (q2, .inl (dA 0, 24, .inl (fun _ => 0)))]) hx hb hg hown hK hP hD hS 0 rfl rfl inX6 tyX6_ok nmX6 3 (by decide) q406 rfl hin rfl rfl rfl (Nat.le_of_ble_eq_true rfl) rfl dX6_init_27 (fun H locs hP hD hS => ?_)
  refine lv_aload_n hx hb dX6_init_30 rfl (lv_at hl 0 rfl) ?_
  refine lv_bipush (v := 24) hx hb dX6_init_31 (by decide) ?_
  refine g_newa (ty := .int) (N' := 24) (a0 := (24, .inl (fun _ => 0))) hx hb hg rfl q224 hK hP hD hS hA 0 rfl (fun _ => rfl) (by decide) (by decide) (Nat.le_of_ble_eq_true rfl) (Nat.le_of_ble_eq_true rfl) (Nat.le_of_ble_eq_true rfl) dX6_init_33 (fun q3 H hP hD hS => ?_)
  refine W.widen (k := 3) (n := 72) (Nat.le_of_ble_eq_true rfl) (Nat.le_of_ble_eq_true rfl) ?_
  have hP : va_P D vwC [(h0, .inr (6, [.int 0, .int 0, .ref q1, .ref q2, .null, .null, .null, .int 0, .null, .null, .null, .null, .null, .int 0, .null, .null, .null])), (q1, .inl (dA 1, 24, .inr (.inl (fun _ => 0)))), (q2, .inl (dA 0, 24, .inl (fun _ => 0))), (q3, .inl (dA 0, 24, .inl (fun _ => 0)))] H := hP
  have hD : va_D A [(h0, .inr (6, [.int 0, .int 0, .ref q1, .ref q2, .null, .null, .null, .int 0, .null, .null, .null, .null, .null, .int 0, .null, .null, .null])), (q1, .inl (dA 1, 24, .inr (.inl (fun _ => 0)))), (q2, .inl (dA 0, 24, .inl (fun _ => 0))), (q3, .inl (dA 0, 24, .inl (fun _ => 0)))] := hD
  refine g_putF (w' := [(h0, .inr (6, [.int 0, .int 0, .ref q1, .ref q2, .ref q3, .null, .null, .int 0, .null, .null, .null, .null, .null, .int 0, .null, .null, .null])), (q1, .inl (dA 1, 24, .inr (.inl (fun _ => 0)))), (q2, .inl (dA 0, 24, .inl (fun _ => 0))), (q3, .inl (dA 0, 24, .inl (fun _ => 0)))]) hx hb hg hown hK hP hD hS 0 rfl rfl inX6 tyX6_ok nmX6 4 (by decide) q408 rfl hin rfl rfl rfl (Nat.le_of_ble_eq_true rfl) rfl dX6_init_35 (fun H locs hP hD hS => ?_)
  refine lv_aload_n hx hb dX6_init_38 rfl (lv_at hl 0 rfl) ?_
  refine lv_bipush (v := 24) hx hb dX6_init_39 (by decide) ?_
  refine g_newa (ty := .int) (N' := 24) (a0 := (24, .inl (fun _ => 0))) hx hb hg rfl q224 hK hP hD hS hA 0 rfl (fun _ => rfl) (by decide) (by decide) (Nat.le_of_ble_eq_true rfl) (Nat.le_of_ble_eq_true rfl) (Nat.le_of_ble_eq_true rfl) dX6_init_41 (fun q4 H hP hD hS => ?_)
  refine W.widen (k := 4) (n := 96) (Nat.le_of_ble_eq_true rfl) (Nat.le_of_ble_eq_true rfl) ?_
  have hP : va_P D vwC [(h0, .inr (6, [.int 0, .int 0, .ref q1, .ref q2, .ref q3, .null, .null, .int 0, .null, .null, .null, .null, .null, .int 0, .null, .null, .null])), (q1, .inl (dA 1, 24, .inr (.inl (fun _ => 0)))), (q2, .inl (dA 0, 24, .inl (fun _ => 0))), (q3, .inl (dA 0, 24, .inl (fun _ => 0))), (q4, .inl (dA 0, 24, .inl (fun _ => 0)))] H := hP
  have hD : va_D A [(h0, .inr (6, [.int 0, .int 0, .ref q1, .ref q2, .ref q3, .null, .null, .int 0, .null, .null, .null, .null, .null, .int 0, .null, .null, .null])), (q1, .inl (dA 1, 24, .inr (.inl (fun _ => 0)))), (q2, .inl (dA 0, 24, .inl (fun _ => 0))), (q3, .inl (dA 0, 24, .inl (fun _ => 0))), (q4, .inl (dA 0, 24, .inl (fun _ => 0)))] := hD
  refine g_putF (w' := [(h0, .inr (6, [.int 0, .int 0, .ref q1, .ref q2, .ref q3, .ref q4, .null, .int 0, .null, .null, .null, .null, .null, .int 0, .null, .null, .null])), (q1, .inl (dA 1, 24, .inr (.inl (fun _ => 0)))), (q2, .inl (dA 0, 24, .inl (fun _ => 0))), (q3, .inl (dA 0, 24, .inl (fun _ => 0))), (q4, .inl (dA 0, 24, .inl (fun _ => 0)))]) hx hb hg hown hK hP hD hS 0 rfl rfl inX6 tyX6_ok nmX6 5 (by decide) q411 rfl hin rfl rfl rfl (Nat.le_of_ble_eq_true rfl) rfl dX6_init_43 (fun H locs hP hD hS => ?_)
  refine lv_aload_n hx hb dX6_init_46 rfl (lv_at hl 0 rfl) ?_
  refine lv_sipush (v := 400) hx hb dX6_init_47 (by decide) ?_
  refine g_newa (ty := .int) (N' := 400) (a0 := (400, .inl (fun _ => 0))) hx hb hg rfl q224 hK hP hD hS hA 0 rfl (fun _ => rfl) (by decide) (by decide) (Nat.le_of_ble_eq_true rfl) (Nat.le_of_ble_eq_true rfl) (Nat.le_of_ble_eq_true rfl) dX6_init_50 (fun q5 H hP hD hS => ?_)
  refine W.widen (k := 5) (n := 496) (Nat.le_of_ble_eq_true rfl) (Nat.le_of_ble_eq_true rfl) ?_
  have hP : va_P D vwC [(h0, .inr (6, [.int 0, .int 0, .ref q1, .ref q2, .ref q3, .ref q4, .null, .int 0, .null, .null, .null, .null, .null, .int 0, .null, .null, .null])), (q1, .inl (dA 1, 24, .inr (.inl (fun _ => 0)))), (q2, .inl (dA 0, 24, .inl (fun _ => 0))), (q3, .inl (dA 0, 24, .inl (fun _ => 0))), (q4, .inl (dA 0, 24, .inl (fun _ => 0))), (q5, .inl (dA 0, 400, .inl (fun _ => 0)))] H := hP
  have hD : va_D A [(h0, .inr (6, [.int 0, .int 0, .ref q1, .ref q2, .ref q3, .ref q4, .null, .int 0, .null, .null, .null, .null, .null, .int 0, .null, .null, .null])), (q1, .inl (dA 1, 24, .inr (.inl (fun _ => 0)))), (q2, .inl (dA 0, 24, .inl (fun _ => 0))), (q3, .inl (dA 0, 24, .inl (fun _ => 0))), (q4, .inl (dA 0, 24, .inl (fun _ => 0))), (q5, .inl (dA 0, 400, .inl (fun _ => 0)))] := hD
  refine g_putF (w' := [(h0, .inr (6, [.int 0, .int 0, .ref q1, .ref q2, .ref q3, .ref q4, .ref q5, .int 0, .null, .null, .null, .null, .null, .int 0, .null, .null, .null])), (q1, .inl (dA 1, 24, .inr (.inl (fun _ => 0)))), (q2, .inl (dA 0, 24, .inl (fun _ => 0))), (q3, .inl (dA 0, 24, .inl (fun _ => 0))), (q4, .inl (dA 0, 24, .inl (fun _ => 0))), (q5, .inl (dA 0, 400, .inl (fun _ => 0)))]) hx hb hg hown hK hP hD hS 0 rfl rfl inX6 tyX6_ok nmX6 6 (by decide) q414 rfl hin rfl rfl rfl (Nat.le_of_ble_eq_true rfl) rfl dX6_init_52 (fun H locs hP hD hS => ?_)
  refine lv_aload_n hx hb dX6_init_55 rfl (lv_at hl 0 rfl) ?_
  refine lv_iconst (v := 0) hx hb dX6_init_56 (by decide) ?_
  refine g_put (w' := [(h0, .inr (6, [.int 0, .int 0, .ref q1, .ref q2, .ref q3, .ref q4, .ref q5, .int 0, .null, .null, .null, .null, .null, .int 0, .null, .null, .null])), (q1, .inl (dA 1, 24, .inr (.inl (fun _ => 0)))), (q2, .inl (dA 0, 24, .inl (fun _ => 0))), (q3, .inl (dA 0, 24, .inl (fun _ => 0))), (q4, .inl (dA 0, 24, .inl (fun _ => 0))), (q5, .inl (dA 0, 400, .inl (fun _ => 0)))]) hx hb hg hown hK hP hD hS 0 rfl rfl inX6 tyX6_ok nmX6 7 (by decide) q417 rfl rfl rfl (Nat.le_of_ble_eq_true rfl) rfl dX6_init_57 (fun H locs hP hD hS => ?_)
  refine lv_aload_n hx hb dX6_init_60 rfl (lv_at hl 0 rfl) ?_
  refine lv_sipush (v := 200) hx hb dX6_init_61 (by decide) ?_
  refine g_newa (ty := .int) (N' := 200) (a0 := (200, .inl (fun _ => 0))) hx hb hg rfl q224 hK hP hD hS hA 0 rfl (fun _ => rfl) (by decide) (by decide) (Nat.le_of_ble_eq_true rfl) (Nat.le_of_ble_eq_true rfl) (Nat.le_of_ble_eq_true rfl) dX6_init_64 (fun q6 H hP hD hS => ?_)
  refine W.widen (k := 6) (n := 696) (Nat.le_of_ble_eq_true rfl) (Nat.le_of_ble_eq_true rfl) ?_
  have hP : va_P D vwC [(h0, .inr (6, [.int 0, .int 0, .ref q1, .ref q2, .ref q3, .ref q4, .ref q5, .int 0, .null, .null, .null, .null, .null, .int 0, .null, .null, .null])), (q1, .inl (dA 1, 24, .inr (.inl (fun _ => 0)))), (q2, .inl (dA 0, 24, .inl (fun _ => 0))), (q3, .inl (dA 0, 24, .inl (fun _ => 0))), (q4, .inl (dA 0, 24, .inl (fun _ => 0))), (q5, .inl (dA 0, 400, .inl (fun _ => 0))), (q6, .inl (dA 0, 200, .inl (fun _ => 0)))] H := hP
  have hD : va_D A [(h0, .inr (6, [.int 0, .int 0, .ref q1, .ref q2, .ref q3, .ref q4, .ref q5, .int 0, .null, .null, .null, .null, .null, .int 0, .null, .null, .null])), (q1, .inl (dA 1, 24, .inr (.inl (fun _ => 0)))), (q2, .inl (dA 0, 24, .inl (fun _ => 0))), (q3, .inl (dA 0, 24, .inl (fun _ => 0))), (q4, .inl (dA 0, 24, .inl (fun _ => 0))), (q5, .inl (dA 0, 400, .inl (fun _ => 0))), (q6, .inl (dA 0, 200, .inl (fun _ => 0)))] := hD
  refine g_putF (w' := [(h0, .inr (6, [.int 0, .int 0, .ref q1, .ref q2, .ref q3, .ref q4, .ref q5, .int 0, .ref q6, .null, .null, .null, .null, .int 0, .null, .null, .null])), (q1, .inl (dA 1, 24, .inr (.inl (fun _ => 0)))), (q2, .inl (dA 0, 24, .inl (fun _ => 0))), (q3, .inl (dA 0, 24, .inl (fun _ => 0))), (q4, .inl (dA 0, 24, .inl (fun _ => 0))), (q5, .inl (dA 0, 400, .inl (fun _ => 0))), (q6, .inl (dA 0, 200, .inl (fun _ => 0)))]) hx hb hg hown hK hP hD hS 0 rfl rfl inX6 tyX6_ok nmX6 8 (by decide) q420 rfl hin rfl rfl rfl (Nat.le_of_ble_eq_true rfl) rfl dX6_init_66 (fun H locs hP hD hS => ?_)
  refine lv_aload_n hx hb dX6_init_69 rfl (lv_at hl 0 rfl) ?_
  refine lv_sipush (v := 200) hx hb dX6_init_70 (by decide) ?_
  refine g_newa (ty := .int) (N' := 200) (a0 := (200, .inl (fun _ => 0))) hx hb hg rfl q224 hK hP hD hS hA 0 rfl (fun _ => rfl) (by decide) (by decide) (Nat.le_of_ble_eq_true rfl) (Nat.le_of_ble_eq_true rfl) (Nat.le_of_ble_eq_true rfl) dX6_init_73 (fun q7 H hP hD hS => ?_)
  refine W.widen (k := 7) (n := 896) (Nat.le_of_ble_eq_true rfl) (Nat.le_of_ble_eq_true rfl) ?_
  have hP : va_P D vwC [(h0, .inr (6, [.int 0, .int 0, .ref q1, .ref q2, .ref q3, .ref q4, .ref q5, .int 0, .ref q6, .null, .null, .null, .null, .int 0, .null, .null, .null])), (q1, .inl (dA 1, 24, .inr (.inl (fun _ => 0)))), (q2, .inl (dA 0, 24, .inl (fun _ => 0))), (q3, .inl (dA 0, 24, .inl (fun _ => 0))), (q4, .inl (dA 0, 24, .inl (fun _ => 0))), (q5, .inl (dA 0, 400, .inl (fun _ => 0))), (q6, .inl (dA 0, 200, .inl (fun _ => 0))), (q7, .inl (dA 0, 200, .inl (fun _ => 0)))] H := hP
  have hD : va_D A [(h0, .inr (6, [.int 0, .int 0, .ref q1, .ref q2, .ref q3, .ref q4, .ref q5, .int 0, .ref q6, .null, .null, .null, .null, .int 0, .null, .null, .null])), (q1, .inl (dA 1, 24, .inr (.inl (fun _ => 0)))), (q2, .inl (dA 0, 24, .inl (fun _ => 0))), (q3, .inl (dA 0, 24, .inl (fun _ => 0))), (q4, .inl (dA 0, 24, .inl (fun _ => 0))), (q5, .inl (dA 0, 400, .inl (fun _ => 0))), (q6, .inl (dA 0, 200, .inl (fun _ => 0))), (q7, .inl (dA 0, 200, .inl (fun _ => 0)))] := hD
  refine g_putF (w' := [(h0, .inr (6, [.int 0, .int 0, .ref q1, .ref q2, .ref q3, .ref q4, .ref q5, .int 0, .ref q6, .ref q7, .null, .null, .null, .int 0, .null, .null, .null])), (q1, .inl (dA 1, 24, .inr (.inl (fun _ => 0)))), (q2, .inl (dA 0, 24, .inl (fun _ => 0))), (q3, .inl (dA 0, 24, .inl (fun _ => 0))), (q4, .inl (dA 0, 24, .inl (fun _ => 0))), (q5, .inl (dA 0, 400, .inl (fun _ => 0))), (q6, .inl (dA 0, 200, .inl (fun _ => 0))), (q7, .inl (dA 0, 200, .inl (fun _ => 0)))]) hx hb hg hown hK hP hD hS 0 rfl rfl inX6 tyX6_ok nmX6 9 (by decide) q423 rfl hin rfl rfl rfl (Nat.le_of_ble_eq_true rfl) rfl dX6_init_75 (fun H locs hP hD hS => ?_)
  refine lv_aload_n hx hb dX6_init_78 rfl (lv_at hl 0 rfl) ?_
  refine lv_sipush (v := 200) hx hb dX6_init_79 (by decide) ?_
  refine g_newa (ty := .int) (N' := 200) (a0 := (200, .inl (fun _ => 0))) hx hb hg rfl q224 hK hP hD hS hA 0 rfl (fun _ => rfl) (by decide) (by decide) (Nat.le_of_ble_eq_true rfl) (Nat.le_of_ble_eq_true rfl) (Nat.le_of_ble_eq_true rfl) dX6_init_82 (fun q8 H hP hD hS => ?_)
  refine W.widen (k := 8) (n := 1096) (Nat.le_of_ble_eq_true rfl) (Nat.le_of_ble_eq_true rfl) ?_
  have hP : va_P D vwC [(h0, .inr (6, [.int 0, .int 0, .ref q1, .ref q2, .ref q3, .ref q4, .ref q5, .int 0, .ref q6, .ref q7, .null, .null, .null, .int 0, .null, .null, .null])), (q1, .inl (dA 1, 24, .inr (.inl (fun _ => 0)))), (q2, .inl (dA 0, 24, .inl (fun _ => 0))), (q3, .inl (dA 0, 24, .inl (fun _ => 0))), (q4, .inl (dA 0, 24, .inl (fun _ => 0))), (q5, .inl (dA 0, 400, .inl (fun _ => 0))), (q6, .inl (dA 0, 200, .inl (fun _ => 0))), (q7, .inl (dA 0, 200, .inl (fun _ => 0))), (q8, .inl (dA 0, 200, .inl (fun _ => 0)))] H := hP
  have hD : va_D A [(h0, .inr (6, [.int 0, .int 0, .ref q1, .ref q2, .ref q3, .ref q4, .ref q5, .int 0, .ref q6, .ref q7, .null, .null, .null, .int 0, .null, .null, .null])), (q1, .inl (dA 1, 24, .inr (.inl (fun _ => 0)))), (q2, .inl (dA 0, 24, .inl (fun _ => 0))), (q3, .inl (dA 0, 24, .inl (fun _ => 0))), (q4, .inl (dA 0, 24, .inl (fun _ => 0))), (q5, .inl (dA 0, 400, .inl (fun _ => 0))), (q6, .inl (dA 0, 200, .inl (fun _ => 0))), (q7, .inl (dA 0, 200, .inl (fun _ => 0))), (q8, .inl (dA 0, 200, .inl (fun _ => 0)))] := hD
  refine g_putF (w' := [(h0, .inr (6, [.int 0, .int 0, .ref q1, .ref q2, .ref q3, .ref q4, .ref q5, .int 0, .ref q6, .ref q7, .ref q8, .null, .null, .int 0, .null, .null, .null])), (q1, .inl (dA 1, 24, .inr (.inl (fun _ => 0)))), (q2, .inl (dA 0, 24, .inl (fun _ => 0))), (q3, .inl (dA 0, 24, .inl (fun _ => 0))), (q4, .inl (dA 0, 24, .inl (fun _ => 0))), (q5, .inl (dA 0, 400, .inl (fun _ => 0))), (q6, .inl (dA 0, 200, .inl (fun _ => 0))), (q7, .inl (dA 0, 200, .inl (fun _ => 0))), (q8, .inl (dA 0, 200, .inl (fun _ => 0)))]) hx hb hg hown hK hP hD hS 0 rfl rfl inX6 tyX6_ok nmX6 10 (by decide) q426 rfl hin rfl rfl rfl (Nat.le_of_ble_eq_true rfl) rfl dX6_init_84 (fun H locs hP hD hS => ?_)
  refine lv_aload_n hx hb dX6_init_87 rfl (lv_at hl 0 rfl) ?_
  refine lv_sipush (v := 200) hx hb dX6_init_88 (by decide) ?_
  refine g_newa (ty := .int) (N' := 200) (a0 := (200, .inl (fun _ => 0))) hx hb hg rfl q224 hK hP hD hS hA 0 rfl (fun _ => rfl) (by decide) (by decide) (Nat.le_of_ble_eq_true rfl) (Nat.le_of_ble_eq_true rfl) (Nat.le_of_ble_eq_true rfl) dX6_init_91 (fun q9 H hP hD hS => ?_)
  refine W.widen (k := 9) (n := 1296) (Nat.le_of_ble_eq_true rfl) (Nat.le_of_ble_eq_true rfl) ?_
  have hP : va_P D vwC [(h0, .inr (6, [.int 0, .int 0, .ref q1, .ref q2, .ref q3, .ref q4, .ref q5, .int 0, .ref q6, .ref q7, .ref q8, .null, .null, .int 0, .null, .null, .null])), (q1, .inl (dA 1, 24, .inr (.inl (fun _ => 0)))), (q2, .inl (dA 0, 24, .inl (fun _ => 0))), (q3, .inl (dA 0, 24, .inl (fun _ => 0))), (q4, .inl (dA 0, 24, .inl (fun _ => 0))), (q5, .inl (dA 0, 400, .inl (fun _ => 0))), (q6, .inl (dA 0, 200, .inl (fun _ => 0))), (q7, .inl (dA 0, 200, .inl (fun _ => 0))), (q8, .inl (dA 0, 200, .inl (fun _ => 0))), (q9, .inl (dA 0, 200, .inl (fun _ => 0)))] H := hP
  have hD : va_D A [(h0, .inr (6, [.int 0, .int 0, .ref q1, .ref q2, .ref q3, .ref q4, .ref q5, .int 0, .ref q6, .ref q7, .ref q8, .null, .null, .int 0, .null, .null, .null])), (q1, .inl (dA 1, 24, .inr (.inl (fun _ => 0)))), (q2, .inl (dA 0, 24, .inl (fun _ => 0))), (q3, .inl (dA 0, 24, .inl (fun _ => 0))), (q4, .inl (dA 0, 24, .inl (fun _ => 0))), (q5, .inl (dA 0, 400, .inl (fun _ => 0))), (q6, .inl (dA 0, 200, .inl (fun _ => 0))), (q7, .inl (dA 0, 200, .inl (fun _ => 0))), (q8, .inl (dA 0, 200, .inl (fun _ => 0))), (q9, .inl (dA 0, 200, .inl (fun _ => 0)))] := hD
  refine g_putF (w' := [(h0, .inr (6, [.int 0, .int 0, .ref q1, .ref q2, .ref q3, .ref q4, .ref q5, .int 0, .ref q6, .ref q7, .ref q8, .ref q9, .null, .int 0, .null, .null, .null])), (q1, .inl (dA 1, 24, .inr (.inl (fun _ => 0)))), (q2, .inl (dA 0, 24, .inl (fun _ => 0))), (q3, .inl (dA 0, 24, .inl (fun _ => 0))), (q4, .inl (dA 0, 24, .inl (fun _ => 0))), (q5, .inl (dA 0, 400, .inl (fun _ => 0))), (q6, .inl (dA 0, 200, .inl (fun _ => 0))), (q7, .inl (dA 0, 200, .inl (fun _ => 0))), (q8, .inl (dA 0, 200, .inl (fun _ => 0))), (q9, .inl (dA 0, 200, .inl (fun _ => 0)))]) hx hb hg hown hK hP hD hS 0 rfl rfl inX6 tyX6_ok nmX6 11 (by decide) q429 rfl hin rfl rfl rfl (Nat.le_of_ble_eq_true rfl) rfl dX6_init_93 (fun H locs hP hD hS => ?_)
  refine lv_aload_n hx hb dX6_init_96 rfl (lv_at hl 0 rfl) ?_
  refine lv_sipush (v := 200) hx hb dX6_init_97 (by decide) ?_
  refine g_newa (ty := .long) (N' := 200) (a0 := (200, .inr (.inl (fun _ => 0)))) hx hb hg rfl q223 hK hP hD hS hA 1 rfl (fun _ => rfl) (by decide) (by decide) (Nat.le_of_ble_eq_true rfl) (Nat.le_of_ble_eq_true rfl) (Nat.le_of_ble_eq_true rfl) dX6_init_100 (fun q10 H hP hD hS => ?_)
  refine W.widen (k := 10) (n := 1496) (Nat.le_of_ble_eq_true rfl) (Nat.le_of_ble_eq_true rfl) ?_
  have hP : va_P D vwC [(h0, .inr (6, [.int 0, .int 0, .ref q1, .ref q2, .ref q3, .ref q4, .ref q5, .int 0, .ref q6, .ref q7, .ref q8, .ref q9, .null, .int 0, .null, .null, .null])), (q1, .inl (dA 1, 24, .inr (.inl (fun _ => 0)))), (q2, .inl (dA 0, 24, .inl (fun _ => 0))), (q3, .inl (dA 0, 24, .inl (fun _ => 0))), (q4, .inl (dA 0, 24, .inl (fun _ => 0))), (q5, .inl (dA 0, 400, .inl (fun _ => 0))), (q6, .inl (dA 0, 200, .inl (fun _ => 0))), (q7, .inl (dA 0, 200, .inl (fun _ => 0))), (q8, .inl (dA 0, 200, .inl (fun _ => 0))), (q9, .inl (dA 0, 200, .inl (fun _ => 0))), (q10, .inl (dA 1, 200, .inr (.inl (fun _ => 0))))] H := hP
  have hD : va_D A [(h0, .inr (6, [.int 0, .int 0, .ref q1, .ref q2, .ref q3, .ref q4, .ref q5, .int 0, .ref q6, .ref q7, .ref q8, .ref q9, .null, .int 0, .null, .null, .null])), (q1, .inl (dA 1, 24, .inr (.inl (fun _ => 0)))), (q2, .inl (dA 0, 24, .inl (fun _ => 0))), (q3, .inl (dA 0, 24, .inl (fun _ => 0))), (q4, .inl (dA 0, 24, .inl (fun _ => 0))), (q5, .inl (dA 0, 400, .inl (fun _ => 0))), (q6, .inl (dA 0, 200, .inl (fun _ => 0))), (q7, .inl (dA 0, 200, .inl (fun _ => 0))), (q8, .inl (dA 0, 200, .inl (fun _ => 0))), (q9, .inl (dA 0, 200, .inl (fun _ => 0))), (q10, .inl (dA 1, 200, .inr (.inl (fun _ => 0))))] := hD
  refine g_putF (w' := [(h0, .inr (6, [.int 0, .int 0, .ref q1, .ref q2, .ref q3, .ref q4, .ref q5, .int 0, .ref q6, .ref q7, .ref q8, .ref q9, .ref q10, .int 0, .null, .null, .null])), (q1, .inl (dA 1, 24, .inr (.inl (fun _ => 0)))), (q2, .inl (dA 0, 24, .inl (fun _ => 0))), (q3, .inl (dA 0, 24, .inl (fun _ => 0))), (q4, .inl (dA 0, 24, .inl (fun _ => 0))), (q5, .inl (dA 0, 400, .inl (fun _ => 0))), (q6, .inl (dA 0, 200, .inl (fun _ => 0))), (q7, .inl (dA 0, 200, .inl (fun _ => 0))), (q8, .inl (dA 0, 200, .inl (fun _ => 0))), (q9, .inl (dA 0, 200, .inl (fun _ => 0))), (q10, .inl (dA 1, 200, .inr (.inl (fun _ => 0))))]) hx hb hg hown hK hP hD hS 0 rfl rfl inX6 tyX6_ok nmX6 12 (by decide) q432 rfl hin rfl rfl rfl (Nat.le_of_ble_eq_true rfl) rfl dX6_init_102 (fun H locs hP hD hS => ?_)
  refine lv_aload_n hx hb dX6_init_105 rfl (lv_at hl 0 rfl) ?_
  refine lv_iconst (v := 0) hx hb dX6_init_106 (by decide) ?_
  refine g_put (w' := [(h0, .inr (6, [.int 0, .int 0, .ref q1, .ref q2, .ref q3, .ref q4, .ref q5, .int 0, .ref q6, .ref q7, .ref q8, .ref q9, .ref q10, .int 0, .null, .null, .null])), (q1, .inl (dA 1, 24, .inr (.inl (fun _ => 0)))), (q2, .inl (dA 0, 24, .inl (fun _ => 0))), (q3, .inl (dA 0, 24, .inl (fun _ => 0))), (q4, .inl (dA 0, 24, .inl (fun _ => 0))), (q5, .inl (dA 0, 400, .inl (fun _ => 0))), (q6, .inl (dA 0, 200, .inl (fun _ => 0))), (q7, .inl (dA 0, 200, .inl (fun _ => 0))), (q8, .inl (dA 0, 200, .inl (fun _ => 0))), (q9, .inl (dA 0, 200, .inl (fun _ => 0))), (q10, .inl (dA 1, 200, .inr (.inl (fun _ => 0))))]) hx hb hg hown hK hP hD hS 0 rfl rfl inX6 tyX6_ok nmX6 13 (by decide) q434 rfl rfl rfl (Nat.le_of_ble_eq_true rfl) rfl dX6_init_107 (fun H locs hP hD hS => ?_)
  refine lv_aload_n hx hb dX6_init_110 rfl (lv_at hl 0 rfl) ?_
  refine lv_bipush (v := 24) hx hb dX6_init_111 (by decide) ?_
  refine g_newa (ty := .long) (N' := 24) (a0 := (24, .inr (.inl (fun _ => 0)))) hx hb hg rfl q223 hK hP hD hS hA 1 rfl (fun _ => rfl) (by decide) (by decide) (Nat.le_of_ble_eq_true rfl) (Nat.le_of_ble_eq_true rfl) (Nat.le_of_ble_eq_true rfl) dX6_init_113 (fun q11 H hP hD hS => ?_)
  refine W.widen (k := 11) (n := 1520) (Nat.le_of_ble_eq_true rfl) (Nat.le_of_ble_eq_true rfl) ?_
  have hP : va_P D vwC [(h0, .inr (6, [.int 0, .int 0, .ref q1, .ref q2, .ref q3, .ref q4, .ref q5, .int 0, .ref q6, .ref q7, .ref q8, .ref q9, .ref q10, .int 0, .null, .null, .null])), (q1, .inl (dA 1, 24, .inr (.inl (fun _ => 0)))), (q2, .inl (dA 0, 24, .inl (fun _ => 0))), (q3, .inl (dA 0, 24, .inl (fun _ => 0))), (q4, .inl (dA 0, 24, .inl (fun _ => 0))), (q5, .inl (dA 0, 400, .inl (fun _ => 0))), (q6, .inl (dA 0, 200, .inl (fun _ => 0))), (q7, .inl (dA 0, 200, .inl (fun _ => 0))), (q8, .inl (dA 0, 200, .inl (fun _ => 0))), (q9, .inl (dA 0, 200, .inl (fun _ => 0))), (q10, .inl (dA 1, 200, .inr (.inl (fun _ => 0)))), (q11, .inl (dA 1, 24, .inr (.inl (fun _ => 0))))] H := hP
  have hD : va_D A [(h0, .inr (6, [.int 0, .int 0, .ref q1, .ref q2, .ref q3, .ref q4, .ref q5, .int 0, .ref q6, .ref q7, .ref q8, .ref q9, .ref q10, .int 0, .null, .null, .null])), (q1, .inl (dA 1, 24, .inr (.inl (fun _ => 0)))), (q2, .inl (dA 0, 24, .inl (fun _ => 0))), (q3, .inl (dA 0, 24, .inl (fun _ => 0))), (q4, .inl (dA 0, 24, .inl (fun _ => 0))), (q5, .inl (dA 0, 400, .inl (fun _ => 0))), (q6, .inl (dA 0, 200, .inl (fun _ => 0))), (q7, .inl (dA 0, 200, .inl (fun _ => 0))), (q8, .inl (dA 0, 200, .inl (fun _ => 0))), (q9, .inl (dA 0, 200, .inl (fun _ => 0))), (q10, .inl (dA 1, 200, .inr (.inl (fun _ => 0)))), (q11, .inl (dA 1, 24, .inr (.inl (fun _ => 0))))] := hD
  refine g_putF (w' := [(h0, .inr (6, [.int 0, .int 0, .ref q1, .ref q2, .ref q3, .ref q4, .ref q5, .int 0, .ref q6, .ref q7, .ref q8, .ref q9, .ref q10, .int 0, .ref q11, .null, .null])), (q1, .inl (dA 1, 24, .inr (.inl (fun _ => 0)))), (q2, .inl (dA 0, 24, .inl (fun _ => 0))), (q3, .inl (dA 0, 24, .inl (fun _ => 0))), (q4, .inl (dA 0, 24, .inl (fun _ => 0))), (q5, .inl (dA 0, 400, .inl (fun _ => 0))), (q6, .inl (dA 0, 200, .inl (fun _ => 0))), (q7, .inl (dA 0, 200, .inl (fun _ => 0))), (q8, .inl (dA 0, 200, .inl (fun _ => 0))), (q9, .inl (dA 0, 200, .inl (fun _ => 0))), (q10, .inl (dA 1, 200, .inr (.inl (fun _ => 0)))), (q11, .inl (dA 1, 24, .inr (.inl (fun _ => 0))))]) hx hb hg hown hK hP hD hS 0 rfl rfl inX6 tyX6_ok nmX6 14 (by decide) q436 rfl hin rfl rfl rfl (Nat.le_of_ble_eq_true rfl) rfl dX6_init_115 (fun H locs hP hD hS => ?_)
  refine lv_aload_n hx hb dX6_init_118 rfl (lv_at hl 0 rfl) ?_
  refine lv_bipush (v := 24) hx hb dX6_init_119 (by decide) ?_
  refine g_newa (ty := .int) (N' := 24) (a0 := (24, .inl (fun _ => 0))) hx hb hg rfl q224 hK hP hD hS hA 0 rfl (fun _ => rfl) (by decide) (by decide) (Nat.le_of_ble_eq_true rfl) (Nat.le_of_ble_eq_true rfl) (Nat.le_of_ble_eq_true rfl) dX6_init_121 (fun q12 H hP hD hS => ?_)
  refine W.widen (k := 12) (n := 1544) (Nat.le_of_ble_eq_true rfl) (Nat.le_of_ble_eq_true rfl) ?_
  have hP : va_P D vwC [(h0, .inr (6, [.int 0, .int 0, .ref q1, .ref q2, .ref q3, .ref q4, .ref q5, .int 0, .ref q6, .ref q7, .ref q8, .ref q9, .ref q10, .int 0, .ref q11, .null, .null])), (q1, .inl (dA 1, 24, .inr (.inl (fun _ => 0)))), (q2, .inl (dA 0, 24, .inl (fun _ => 0))), (q3, .inl (dA 0, 24, .inl (fun _ => 0))), (q4, .inl (dA 0, 24, .inl (fun _ => 0))), (q5, .inl (dA 0, 400, .inl (fun _ => 0))), (q6, .inl (dA 0, 200, .inl (fun _ => 0))), (q7, .inl (dA 0, 200, .inl (fun _ => 0))), (q8, .inl (dA 0, 200, .inl (fun _ => 0))), (q9, .inl (dA 0, 200, .inl (fun _ => 0))), (q10, .inl (dA 1, 200, .inr (.inl (fun _ => 0)))), (q11, .inl (dA 1, 24, .inr (.inl (fun _ => 0)))), (q12, .inl (dA 0, 24, .inl (fun _ => 0)))] H := hP
  have hD : va_D A [(h0, .inr (6, [.int 0, .int 0, .ref q1, .ref q2, .ref q3, .ref q4, .ref q5, .int 0, .ref q6, .ref q7, .ref q8, .ref q9, .ref q10, .int 0, .ref q11, .null, .null])), (q1, .inl (dA 1, 24, .inr (.inl (fun _ => 0)))), (q2, .inl (dA 0, 24, .inl (fun _ => 0))), (q3, .inl (dA 0, 24, .inl (fun _ => 0))), (q4, .inl (dA 0, 24, .inl (fun _ => 0))), (q5, .inl (dA 0, 400, .inl (fun _ => 0))), (q6, .inl (dA 0, 200, .inl (fun _ => 0))), (q7, .inl (dA 0, 200, .inl (fun _ => 0))), (q8, .inl (dA 0, 200, .inl (fun _ => 0))), (q9, .inl (dA 0, 200, .inl (fun _ => 0))), (q10, .inl (dA 1, 200, .inr (.inl (fun _ => 0)))), (q11, .inl (dA 1, 24, .inr (.inl (fun _ => 0)))), (q12, .inl (dA 0, 24, .inl (fun _ => 0)))] := hD
  refine g_putF (w' := [(h0, .inr (6, [.int 0, .int 0, .ref q1, .ref q2, .ref q3, .ref q4, .ref q5, .int 0, .ref q6, .ref q7, .ref q8, .ref q9, .ref q10, .int 0, .ref q11, .ref q12, .null])), (q1, .inl (dA 1, 24, .inr (.inl (fun _ => 0)))), (q2, .inl (dA 0, 24, .inl (fun _ => 0))), (q3, .inl (dA 0, 24, .inl (fun _ => 0))), (q4, .inl (dA 0, 24, .inl (fun _ => 0))), (q5, .inl (dA 0, 400, .inl (fun _ => 0))), (q6, .inl (dA 0, 200, .inl (fun _ => 0))), (q7, .inl (dA 0, 200, .inl (fun _ => 0))), (q8, .inl (dA 0, 200, .inl (fun _ => 0))), (q9, .inl (dA 0, 200, .inl (fun _ => 0))), (q10, .inl (dA 1, 200, .inr (.inl (fun _ => 0)))), (q11, .inl (dA 1, 24, .inr (.inl (fun _ => 0)))), (q12, .inl (dA 0, 24, .inl (fun _ => 0)))]) hx hb hg hown hK hP hD hS 0 rfl rfl inX6 tyX6_ok nmX6 15 (by decide) q438 rfl hin rfl rfl rfl (Nat.le_of_ble_eq_true rfl) rfl dX6_init_123 (fun H locs hP hD hS => ?_)
  refine lv_aload_n hx hb dX6_init_126 rfl (lv_at hl 0 rfl) ?_
  refine lv_bipush (v := 24) hx hb dX6_init_127 (by decide) ?_
  refine g_newa (ty := .int) (N' := 24) (a0 := (24, .inl (fun _ => 0))) hx hb hg rfl q224 hK hP hD hS hA 0 rfl (fun _ => rfl) (by decide) (by decide) (Nat.le_of_ble_eq_true rfl) (Nat.le_of_ble_eq_true rfl) (Nat.le_of_ble_eq_true rfl) dX6_init_129 (fun q13 H hP hD hS => ?_)
  refine W.widen (k := 13) (n := 1568) (Nat.le_of_ble_eq_true rfl) (Nat.le_of_ble_eq_true rfl) ?_
  have hP : va_P D vwC [(h0, .inr (6, [.int 0, .int 0, .ref q1, .ref q2, .ref q3, .ref q4, .ref q5, .int 0, .ref q6, .ref q7, .ref q8, .ref q9, .ref q10, .int 0, .ref q11, .ref q12, .null])), (q1, .inl (dA 1, 24, .inr (.inl (fun _ => 0)))), (q2, .inl (dA 0, 24, .inl (fun _ => 0))), (q3, .inl (dA 0, 24, .inl (fun _ => 0))), (q4, .inl (dA 0, 24, .inl (fun _ => 0))), (q5, .inl (dA 0, 400, .inl (fun _ => 0))), (q6, .inl (dA 0, 200, .inl (fun _ => 0))), (q7, .inl (dA 0, 200, .inl (fun _ => 0))), (q8, .inl (dA 0, 200, .inl (fun _ => 0))), (q9, .inl (dA 0, 200, .inl (fun _ => 0))), (q10, .inl (dA 1, 200, .inr (.inl (fun _ => 0)))), (q11, .inl (dA 1, 24, .inr (.inl (fun _ => 0)))), (q12, .inl (dA 0, 24, .inl (fun _ => 0))), (q13, .inl (dA 0, 24, .inl (fun _ => 0)))] H := hP
  have hD : va_D A [(h0, .inr (6, [.int 0, .int 0, .ref q1, .ref q2, .ref q3, .ref q4, .ref q5, .int 0, .ref q6, .ref q7, .ref q8, .ref q9, .ref q10, .int 0, .ref q11, .ref q12, .null])), (q1, .inl (dA 1, 24, .inr (.inl (fun _ => 0)))), (q2, .inl (dA 0, 24, .inl (fun _ => 0))), (q3, .inl (dA 0, 24, .inl (fun _ => 0))), (q4, .inl (dA 0, 24, .inl (fun _ => 0))), (q5, .inl (dA 0, 400, .inl (fun _ => 0))), (q6, .inl (dA 0, 200, .inl (fun _ => 0))), (q7, .inl (dA 0, 200, .inl (fun _ => 0))), (q8, .inl (dA 0, 200, .inl (fun _ => 0))), (q9, .inl (dA 0, 200, .inl (fun _ => 0))), (q10, .inl (dA 1, 200, .inr (.inl (fun _ => 0)))), (q11, .inl (dA 1, 24, .inr (.inl (fun _ => 0)))), (q12, .inl (dA 0, 24, .inl (fun _ => 0))), (q13, .inl (dA 0, 24, .inl (fun _ => 0)))] := hD
  refine g_putF (w' := [(h0, .inr (6, [.int 0, .int 0, .ref q1, .ref q2, .ref q3, .ref q4, .ref q5, .int 0, .ref q6, .ref q7, .ref q8, .ref q9, .ref q10, .int 0, .ref q11, .ref q12, .ref q13])), (q1, .inl (dA 1, 24, .inr (.inl (fun _ => 0)))), (q2, .inl (dA 0, 24, .inl (fun _ => 0))), (q3, .inl (dA 0, 24, .inl (fun _ => 0))), (q4, .inl (dA 0, 24, .inl (fun _ => 0))), (q5, .inl (dA 0, 400, .inl (fun _ => 0))), (q6, .inl (dA 0, 200, .inl (fun _ => 0))), (q7, .inl (dA 0, 200, .inl (fun _ => 0))), (q8, .inl (dA 0, 200, .inl (fun _ => 0))), (q9, .inl (dA 0, 200, .inl (fun _ => 0))), (q10, .inl (dA 1, 200, .inr (.inl (fun _ => 0)))), (q11, .inl (dA 1, 24, .inr (.inl (fun _ => 0)))), (q12, .inl (dA 0, 24, .inl (fun _ => 0))), (q13, .inl (dA 0, 24, .inl (fun _ => 0)))]) hx hb hg hown hK hP hD hS 0 rfl rfl inX6 tyX6_ok nmX6 16 (by decide) q440 rfl hin rfl rfl rfl (Nat.le_of_ble_eq_true rfl) rfl dX6_init_131 (fun H locs hP hD hS => ?_)
  obtain ⟨hP, hD⟩ := g_cut (is := [0, 1, 2, 3, 4, 5, 6, 7, 8, 9, 10, 11, 12, 13]) (w' := [(h0, .inr (6, [.int 0, .int 0, .ref q1, .ref q2, .ref q3, .ref q4, .ref q5, .int 0, .ref q6, .ref q7, .ref q8, .ref q9, .ref q10, .int 0, .ref q11, .ref q12, .ref q13])), (q1, .inl (dA 1, 24, .inr (.inl (fun _ => 0)))), (q2, .inl (dA 0, 24, .inl (fun _ => 0))), (q3, .inl (dA 0, 24, .inl (fun _ => 0))), (q4, .inl (dA 0, 24, .inl (fun _ => 0))), (q5, .inl (dA 0, 400, .inl (fun _ => 0))), (q6, .inl (dA 0, 200, .inl (fun _ => 0))), (q7, .inl (dA 0, 200, .inl (fun _ => 0))), (q8, .inl (dA 0, 200, .inl (fun _ => 0))), (q9, .inl (dA 0, 200, .inl (fun _ => 0))), (q10, .inl (dA 1, 200, .inr (.inl (fun _ => 0)))), (q11, .inl (dA 1, 24, .inr (.inl (fun _ => 0)))), (q12, .inl (dA 0, 24, .inl (fun _ => 0))), (q13, .inl (dA 0, 24, .inl (fun _ => 0)))]) hP hD (by decide) rfl rfl
  exact g_vret hx hb hr hlocks hK (fun k => ([q1, q2, q3, q4, q5, q6, q7, q8, q9, q10, q11, q12, q13] : List Nat).getD k 0) hP hD hS trivial (Nat.le_of_ble_eq_true rfl) (Nat.le_of_ble_eq_true rfl) dX6_init_134
set_option maxHeartbeats 4000000 in
set_option maxRecDepth 100000 in
theorem c_X3_init (l : Launch) (D : va_G) (dA : Nat → ClassId) (h0 : Nat) (n0 : Nat) (sz : Nat) : Met l yX3_init (gws yX3_init cX3_init 2 none) (gR 2 5 360) (gPre D dA [.ref h0, .ref n0] [(h0, .inr (3, [.null, .null, .null, .null, .int 0, .null, .null]))] sz) (va_Qv (fun _ : Nat → Nat => True) (gAt D dA (va_A [(h0, .inr (3, [.null, .null, .null, .null, .int 0, .null, .null]))] sz) (fun ad : Nat → Nat => [(h0, .inr (3, [.ref n0, .ref (ad 0), .ref (ad 1), .ref (ad 2), .int 0, .ref (ad 3), .ref (ad 4)])), (ad 0, .inl (dA 1, 72, .inr (.inl (fun _ => 0)))), (ad 1, .inl (dA 0, 72, .inl (fun _ => 0))), (ad 2, .inl (dA 0, 72, .inl (fun _ => 0))), (ad 3, .inl (dA 0, 72, .inl (fun _ => 0))), (ad 4, .inl (dA 0, 72, .inl (fun _ => 0)))])) (va_A [(h0, .inr (3, [.null, .null, .null, .null, .int 0, .null, .null]))] sz)) 5 360 (va_A [(h0, .inr (3, [.null, .null, .null, .null, .int 0, .null, .null]))] sz) := by
  refine Met.ofW (cc := cX3_init) (maxL := 2) (ret := none) (by decide) rfl ?_
  intro p e s m args below meth c s₁ B hml hv
  obtain ⟨rfl, hsz, hP, hK, hD0⟩ := hv
  have hx := B.exec
  have hb := B.bytes
  have hr := B.returns
  have hts := atoms_spec (ws := gws yX3_init cX3_init 2 none) B.pre
  have hg : ∀ w ∈ gw, w.before _ s = true := fun w h => hts w (List.mem_cons_of_mem _ h)
  have hown : s.vm.findClass RX3 = some m.cls := findClass_of_methodNamed B.named
  have hlocks := B.notSynchronized
  have hin : meth.name = "<init>" := (name_of_methodNamed B.named B.method).1
  subst hsz
  have hD := hD0.self (sz := s.heap.size)
  generalize hAe : va_A [(h0, .inr (3, [.null, .null, .null, .null, .int 0, .null, .null]))] s.heap.size = A at hD ⊢
  have hA : ∀ q : Nat, s.heap.size ≤ q → A q := fun q h => by rw [← hAe]; exact Or.inr h
  have hS : va_S A s.heap s.heap [] := va_S.rf
  have hP : va_P D vwC [(h0, .inr (3, [.null, .null, .null, .null, .int 0, .null, .null]))] s.heap := hP
  have hl := lv_entry ([.ref h0, .ref n0]) (n := 2) (Nat.le_of_ble_eq_true rfl)
  rw [lg_entry_eq]
  generalize (lg_sl ([.ref h0, .ref n0]) ++ List.replicate (2 - (lg_sl ([.ref h0, .ref n0])).length) Slot.unset).toArray = ls at hl ⊢
  have hl : lv_has ls 2 [(0, .ref h0), (1, .ref n0)] := hl
  refine lv_aload_n hx hb dX3_init_0 rfl (lv_at hl 0 rfl) ?_
  refine g_obj hx hb hg hown q482 q186 q187 hml hl.1 dX3_init_1 (Nat.le_of_ble_eq_true rfl) (Nat.le_of_ble_eq_true rfl) ?_
  refine lv_aload_n hx hb dX3_init_4 rfl (lv_at hl 0 rfl) ?_
  refine lv_aload_n hx hb dX3_init_5 rfl (lv_at hl 1 rfl) ?_
  refine g_putF (w' := [(h0, .inr (3, [.ref n0, .null, .null, .null, .int 0, .null, .null]))]) hx hb hg hown hK hP hD hS 0 rfl rfl inX3 tyX3_ok nmX3 0 (by decide) q483 rfl hin rfl rfl rfl (Nat.le_of_ble_eq_true rfl) rfl dX3_init_6 (fun H locs hP hD hS => ?_)
  refine lv_aload_n hx hb dX3_init_9 rfl (lv_at hl 0 rfl) ?_
  refine lv_bipush (v := 72) hx hb dX3_init_10 (by decide) ?_
  refine g_newa (ty := .long) (N' := 72) (a0 := (72, .inr (.inl (fun _ => 0)))) hx hb hg rfl q223 hK hP hD hS hA 1 rfl (fun _ => rfl) (by decide) (by decide) (Nat.le_of_ble_eq_true rfl) (Nat.le_of_ble_eq_true rfl) (Nat.le_of_ble_eq_true rfl) dX3_init_12 (fun q1 H hP hD hS => ?_)
  refine W.widen (k := 1) (n := 72) (Nat.le_of_ble_eq_true rfl) (Nat.le_of_ble_eq_true rfl) ?_
  have hP : va_P D vwC [(h0, .inr (3, [.ref n0, .null, .null, .null, .int 0, .null, .null])), (q1, .inl (dA 1, 72, .inr (.inl (fun _ => 0))))] H := hP
  have hD : va_D A [(h0, .inr (3, [.ref n0, .null, .null, .null, .int 0, .null, .null])), (q1, .inl (dA 1, 72, .inr (.inl (fun _ => 0))))] := hD
  refine g_putF (w' := [(h0, .inr (3, [.ref n0, .ref q1, .null, .null, .int 0, .null, .null])), (q1, .inl (dA 1, 72, .inr (.inl (fun _ => 0))))]) hx hb hg hown hK hP hD hS 0 rfl rfl inX3 tyX3_ok nmX3 1 (by decide) q484 rfl hin rfl rfl rfl (Nat.le_of_ble_eq_true rfl) rfl dX3_init_14 (fun H locs hP hD hS => ?_)
  refine lv_aload_n hx hb dX3_init_17 rfl (lv_at hl 0 rfl) ?_
  refine lv_bipush (v := 72) hx hb dX3_init_18 (by decide) ?_
  refine g_newa (ty := .int) (N' := 72) (a0 := (72, .inl (fun _ => 0))) hx hb hg rfl q224 hK hP hD hS hA 0 rfl (fun _ => rfl) (by decide) (by decide) (Nat.le_of_ble_eq_true rfl) (Nat.le_of_ble_eq_true rfl) (Nat.le_of_ble_eq_true rfl) dX3_init_20 (fun q2 H hP hD hS => ?_)
  refine W.widen (k := 2) (n := 144) (Nat.le_of_ble_eq_true rfl) (Nat.le_of_ble_eq_true rfl) ?_
  have hP : va_P D vwC [(h0, .inr (3, [.ref n0, .ref q1, .null, .null, .int 0, .null, .null])), (q1, .inl (dA 1, 72, .inr (.inl (fun _ => 0)))), (q2, .inl (dA 0, 72, .inl (fun _ => 0)))] H := hP
  have hD : va_D A [(h0, .inr (3, [.ref n0, .ref q1, .null, .null, .int 0, .null, .null])), (q1, .inl (dA 1, 72, .inr (.inl (fun _ => 0)))), (q2, .inl (dA 0, 72, .inl (fun _ => 0)))] := hD
  refine g_putF (w' := [(h0, .inr (3, [.ref n0, .ref q1, .ref q2, .null, .int 0, .null, .null])), (q1, .inl (dA 1, 72, .inr (.inl (fun _ => 0)))), (q2, .inl (dA 0, 72, .inl (fun _ => 0)))]) hx hb hg hown hK hP hD hS 0 rfl rfl inX3 tyX3_ok nmX3 2 (by decide) q485 rfl hin rfl rfl rfl (Nat.le_of_ble_eq_true rfl) rfl dX3_init_22 (fun H locs hP hD hS => ?_)
  refine lv_aload_n hx hb dX3_init_25 rfl (lv_at hl 0 rfl) ?_
  refine lv_bipush (v := 72) hx hb dX3_init_26 (by decide) ?_
  refine g_newa (ty := .int) (N' := 72) (a0 := (72, .inl (fun _ => 0))) hx hb hg rfl q224 hK hP hD hS hA 0 rfl (fun _ => rfl) (by decide) (by decide) (Nat.le_of_ble_eq_true rfl) (Nat.le_of_ble_eq_true rfl) (Nat.le_of_ble_eq_true rfl) dX3_init_28 (fun q3 H hP hD hS => ?_)
  refine W.widen (k := 3) (n := 216) (Nat.le_of_ble_eq_true rfl) (Nat.le_of_ble_eq_true rfl) ?_
  have hP : va_P D vwC [(h0, .inr (3, [.ref n0, .ref q1, .ref q2, .null, .int 0, .null, .null])), (q1, .inl (dA 1, 72, .inr (.inl (fun _ => 0)))), (q2, .inl (dA 0, 72, .inl (fun _ => 0))), (q3, .inl (dA 0, 72, .inl (fun _ => 0)))] H := hP
  have hD : va_D A [(h0, .inr (3, [.ref n0, .ref q1, .ref q2, .null, .int 0, .null, .null])), (q1, .inl (dA 1, 72, .inr (.inl (fun _ => 0)))), (q2, .inl (dA 0, 72, .inl (fun _ => 0))), (q3, .inl (dA 0, 72, .inl (fun _ => 0)))] := hD
  refine g_putF (w' := [(h0, .inr (3, [.ref n0, .ref q1, .ref q2, .ref q3, .int 0, .null, .null])), (q1, .inl (dA 1, 72, .inr (.inl (fun _ => 0)))), (q2, .inl (dA 0, 72, .inl (fun _ => 0))), (q3, .inl (dA 0, 72, .inl (fun _ => 0)))]) hx hb hg hown hK hP hD hS 0 rfl rfl inX3 tyX3_ok nmX3 3 (by decide) q486 rfl hin rfl rfl rfl (Nat.le_of_ble_eq_true rfl) rfl dX3_init_30 (fun H locs hP hD hS => ?_)
  refine lv_aload_n hx hb dX3_init_33 rfl (lv_at hl 0 rfl) ?_
  refine lv_iconst (v := 0) hx hb dX3_init_34 (by decide) ?_
  refine g_put (w' := [(h0, .inr (3, [.ref n0, .ref q1, .ref q2, .ref q3, .int 0, .null, .null])), (q1, .inl (dA 1, 72, .inr (.inl (fun _ => 0)))), (q2, .inl (dA 0, 72, .inl (fun _ => 0))), (q3, .inl (dA 0, 72, .inl (fun _ => 0)))]) hx hb hg hown hK hP hD hS 0 rfl rfl inX3 tyX3_ok nmX3 4 (by decide) q487 rfl rfl rfl (Nat.le_of_ble_eq_true rfl) rfl dX3_init_35 (fun H locs hP hD hS => ?_)
  refine lv_aload_n hx hb dX3_init_38 rfl (lv_at hl 0 rfl) ?_
  refine lv_bipush (v := 72) hx hb dX3_init_39 (by decide) ?_
  refine g_newa (ty := .int) (N' := 72) (a0 := (72, .inl (fun _ => 0))) hx hb hg rfl q224 hK hP hD hS hA 0 rfl (fun _ => rfl) (by decide) (by decide) (Nat.le_of_ble_eq_true rfl) (Nat.le_of_ble_eq_true rfl) (Nat.le_of_ble_eq_true rfl) dX3_init_41 (fun q4 H hP hD hS => ?_)
  refine W.widen (k := 4) (n := 288) (Nat.le_of_ble_eq_true rfl) (Nat.le_of_ble_eq_true rfl) ?_
  have hP : va_P D vwC [(h0, .inr (3, [.ref n0, .ref q1, .ref q2, .ref q3, .int 0, .null, .null])), (q1, .inl (dA 1, 72, .inr (.inl (fun _ => 0)))), (q2, .inl (dA 0, 72, .inl (fun _ => 0))), (q3, .inl (dA 0, 72, .inl (fun _ => 0))), (q4, .inl (dA 0, 72, .inl (fun _ => 0)))] H := hP
  have hD : va_D A [(h0, .inr (3, [.ref n0, .ref q1, .ref q2, .ref q3, .int 0, .null, .null])), (q1, .inl (dA 1, 72, .inr (.inl (fun _ => 0)))), (q2, .inl (dA 0, 72, .inl (fun _ => 0))), (q3, .inl (dA 0, 72, .inl (fun _ => 0))), (q4, .inl (dA 0, 72, .inl (fun _ => 0)))] := hD
  refine g_putF (w' := [(h0, .inr (3, [.ref n0, .ref q1, .ref q2, .ref q3, .int 0, .ref q4, .null])), (q1, .inl (dA 1, 72, .inr (.inl (fun _ => 0)))), (q2, .inl (dA 0, 72, .inl (fun _ => 0))), (q3, .inl (dA 0, 72, .inl (fun _ => 0))), (q4, .inl (dA 0, 72, .inl (fun _ => 0)))]) hx hb hg hown hK hP hD hS 0 rfl rfl inX3 tyX3_ok nmX3 5 (by decide) q488 rfl hin rfl rfl rfl (Nat.le_of_ble_eq_true rfl) rfl dX3_init_43 (fun H locs hP hD hS => ?_)
  refine lv_aload_n hx hb dX3_init_46 rfl (lv_at hl 0 rfl) ?_
  refine lv_bipush (v := 72) hx hb dX3_init_47 (by decide) ?_
  refine g_newa (ty := .int) (N' := 72) (a0 := (72, .inl (fun _ => 0))) hx hb hg rfl q224 hK hP hD hS hA 0 rfl (fun _ => rfl) (by decide) (by decide) (Nat.le_of_ble_eq_true rfl) (Nat.le_of_ble_eq_true rfl) (Nat.le_of_ble_eq_true rfl) dX3_init_49 (fun q5 H hP hD hS => ?_)
  refine W.widen (k := 5) (n := 360) (Nat.le_of_ble_eq_true rfl) (Nat.le_of_ble_eq_true rfl) ?_
  have hP : va_P D vwC [(h0, .inr (3, [.ref n0, .ref q1, .ref q2, .ref q3, .int 0, .ref q4, .null])), (q1, .inl (dA 1, 72, .inr (.inl (fun _ => 0)))), (q2, .inl (dA 0, 72, .inl (fun _ => 0))), (q3, .inl (dA 0, 72, .inl (fun _ => 0))), (q4, .inl (dA 0, 72, .inl (fun _ => 0))), (q5, .inl (dA 0, 72, .inl (fun _ => 0)))] H := hP
  have hD : va_D A [(h0, .inr (3, [.ref n0, .ref q1, .ref q2, .ref q3, .int 0, .ref q4, .null])), (q1, .inl (dA 1, 72, .inr (.inl (fun _ => 0)))), (q2, .inl (dA 0, 72, .inl (fun _ => 0))), (q3, .inl (dA 0, 72, .inl (fun _ => 0))), (q4, .inl (dA 0, 72, .inl (fun _ => 0))), (q5, .inl (dA 0, 72, .inl (fun _ => 0)))] := hD
  refine g_putF (w' := [(h0, .inr (3, [.ref n0, .ref q1, .ref q2, .ref q3, .int 0, .ref q4, .ref q5])), (q1, .inl (dA 1, 72, .inr (.inl (fun _ => 0)))), (q2, .inl (dA 0, 72, .inl (fun _ => 0))), (q3, .inl (dA 0, 72, .inl (fun _ => 0))), (q4, .inl (dA 0, 72, .inl (fun _ => 0))), (q5, .inl (dA 0, 72, .inl (fun _ => 0)))]) hx hb hg hown hK hP hD hS 0 rfl rfl inX3 tyX3_ok nmX3 6 (by decide) q489 rfl hin rfl rfl rfl (Nat.le_of_ble_eq_true rfl) rfl dX3_init_51 (fun H locs hP hD hS => ?_)
  obtain ⟨hP, hD⟩ := g_cut (is := [0, 1, 2, 3, 4, 5]) (w' := [(h0, .inr (3, [.ref n0, .ref q1, .ref q2, .ref q3, .int 0, .ref q4, .ref q5])), (q1, .inl (dA 1, 72, .inr (.inl (fun _ => 0)))), (q2, .inl (dA 0, 72, .inl (fun _ => 0))), (q3, .inl (dA 0, 72, .inl (fun _ => 0))), (q4, .inl (dA 0, 72, .inl (fun _ => 0))), (q5, .inl (dA 0, 72, .inl (fun _ => 0)))]) hP hD (by decide) rfl rfl
  exact g_vret hx hb hr hlocks hK (fun k => ([q1, q2, q3, q4, q5] : List Nat).getD k 0) hP hD hS trivial (Nat.le_of_ble_eq_true rfl) (Nat.le_of_ble_eq_true rfl) dX3_init_54
set_option maxHeartbeats 4000000 in
set_option maxRecDepth 100000 in
theorem c_X1_init (l : Launch) (D : va_G) (dA : Nat → ClassId) (h0 : Nat) (sz : Nat) : Met l yX1_init (gws yX1_init cX1_init 1 none) (gR 2 2 1800) (gPre D dA [.ref h0] [(h0, .inr (1, [.int 0, .int 0, .null, .int 0, .null, .int 0, .int 0]))] sz) (va_Qv (fun _ : Nat → Nat => True) (gAt D dA (va_A [(h0, .inr (1, [.int 0, .int 0, .null, .int 0, .null, .int 0, .int 0]))] sz) (fun ad : Nat → Nat => [(h0, .inr (1, [.int 0, .int 0, .ref (ad 0), .int 0, .ref (ad 1), .int 0, .int 0])), (ad 0, .inl (dA 0, 1200, .inl (fun _ => 0))), (ad 1, .inl (dA 0, 600, .inl (fun _ => 0)))])) (va_A [(h0, .inr (1, [.int 0, .int 0, .null, .int 0, .null, .int 0, .int 0]))] sz)) 2 1800 (va_A [(h0, .inr (1, [.int 0, .int 0, .null, .int 0, .null, .int 0, .int 0]))] sz) := by
  refine Met.ofW (cc := cX1_init) (maxL := 1) (ret := none) (by decide) rfl ?_
  intro p e s m args below meth c s₁ B hml hv
  obtain ⟨rfl, hsz, hP, hK, hD0⟩ := hv
  have hx := B.exec
  have hb := B.bytes
  have hr := B.returns
  have hts := atoms_spec (ws := gws yX1_init cX1_init 1 none) B.pre
  have hg : ∀ w ∈ gw, w.before _ s = true := fun w h => hts w (List.mem_cons_of_mem _ h)
  have hown : s.vm.findClass RX1 = some m.cls := findClass_of_methodNamed B.named
  have hlocks := B.notSynchronized
  have hin : meth.name = "<init>" := (name_of_methodNamed B.named B.method).1
  subst hsz
  have hD := hD0.self (sz := s.heap.size)
  generalize hAe : va_A [(h0, .inr (1, [.int 0, .int 0, .null, .int 0, .null, .int 0, .int 0]))] s.heap.size = A at hD ⊢
  have hA : ∀ q : Nat, s.heap.size ≤ q → A q := fun q h => by rw [← hAe]; exact Or.inr h
  have hS : va_S A s.heap s.heap [] := va_S.rf
  have hP : va_P D vwC [(h0, .inr (1, [.int 0, .int 0, .null, .int 0, .null, .int 0, .int 0]))] s.heap := hP
  have hl := lv_entry ([.ref h0]) (n := 1) (Nat.le_of_ble_eq_true rfl)
  rw [lg_entry_eq]
  generalize (lg_sl ([.ref h0]) ++ List.replicate (1 - (lg_sl ([.ref h0])).length) Slot.unset).toArray = ls at hl ⊢
  have hl : lv_has ls 1 [(0, .ref h0)] := hl
  refine lv_aload_n hx hb dX1_init_0 rfl (lv_at hl 0 rfl) ?_
  refine g_obj hx hb hg hown q510 q186 q187 hml hl.1 dX1_init_1 (Nat.le_of_ble_eq_true rfl) (Nat.le_of_ble_eq_true rfl) ?_
  refine lv_aload_n hx hb dX1_init_4 rfl (lv_at hl 0 rfl) ?_
  refine lv_iconst (v := 0) hx hb dX1_init_5 (by decide) ?_
  refine g_put (w' := [(h0, .inr (1, [.int 0, .int 0, .null, .int 0, .null, .int 0, .int 0]))]) hx hb hg hown hK hP hD hS 0 rfl rfl inX1 tyX1_ok nmX1 0 (by decide) q511 rfl rfl rfl (Nat.le_of_ble_eq_true rfl) rfl dX1_init_6 (fun H locs hP hD hS => ?_)
  refine lv_aload_n hx hb dX1_init_9 rfl (lv_at hl 0 rfl) ?_
  refine lv_iconst (v := 0) hx hb dX1_init_10 (by decide) ?_
  refine g_put (w' := [(h0, .inr (1, [.int 0, .int 0, .null, .int 0, .null, .int 0, .int 0]))]) hx hb hg hown hK hP hD hS 0 rfl rfl inX1 tyX1_ok nmX1 1 (by decide) q513 rfl rfl rfl (Nat.le_of_ble_eq_true rfl) rfl dX1_init_11 (fun H locs hP hD hS => ?_)
  refine lv_aload_n hx hb dX1_init_14 rfl (lv_at hl 0 rfl) ?_
  refine lv_sipush (v := 1200) hx hb dX1_init_15 (by decide) ?_
  refine g_newa (ty := .int) (N' := 1200) (a0 := (1200, .inl (fun _ => 0))) hx hb hg rfl q224 hK hP hD hS hA 0 rfl (fun _ => rfl) (by decide) (by decide) (Nat.le_of_ble_eq_true rfl) (Nat.le_of_ble_eq_true rfl) (Nat.le_of_ble_eq_true rfl) dX1_init_18 (fun q1 H hP hD hS => ?_)
  refine W.widen (k := 1) (n := 1200) (Nat.le_of_ble_eq_true rfl) (Nat.le_of_ble_eq_true rfl) ?_
  have hP : va_P D vwC [(h0, .inr (1, [.int 0, .int 0, .null, .int 0, .null, .int 0, .int 0])), (q1, .inl (dA 0, 1200, .inl (fun _ => 0)))] H := hP
  have hD : va_D A [(h0, .inr (1, [.int 0, .int 0, .null, .int 0, .null, .int 0, .int 0])), (q1, .inl (dA 0, 1200, .inl (fun _ => 0)))] := hD
  refine g_putF (w' := [(h0, .inr (1, [.int 0, .int 0, .ref q1, .int 0, .null, .int 0, .int 0])), (q1, .inl (dA 0, 1200, .inl (fun _ => 0)))]) hx hb hg hown hK hP hD hS 0 rfl rfl inX1 tyX1_ok nmX1 2 (by decide) q516 rfl hin rfl rfl rfl (Nat.le_of_ble_eq_true rfl) rfl dX1_init_20 (fun H locs hP hD hS => ?_)
  refine lv_aload_n hx hb dX1_init_23 rfl (lv_at hl 0 rfl) ?_
  refine lv_iconst (v := 0) hx hb dX1_init_24 (by decide) ?_
  refine g_put (w' := [(h0, .inr (1, [.int 0, .int 0, .ref q1, .int 0, .null, .int 0, .int 0])), (q1, .inl (dA 0, 1200, .inl (fun _ => 0)))]) hx hb hg hown hK hP hD hS 0 rfl rfl inX1 tyX1_ok nmX1 3 (by decide) q520 rfl rfl rfl (Nat.le_of_ble_eq_true rfl) rfl dX1_init_25 (fun H locs hP hD hS => ?_)
  refine lv_aload_n hx hb dX1_init_28 rfl (lv_at hl 0 rfl) ?_
  refine lv_sipush (v := 600) hx hb dX1_init_29 (by decide) ?_
  refine g_newa (ty := .int) (N' := 600) (a0 := (600, .inl (fun _ => 0))) hx hb hg rfl q224 hK hP hD hS hA 0 rfl (fun _ => rfl) (by decide) (by decide) (Nat.le_of_ble_eq_true rfl) (Nat.le_of_ble_eq_true rfl) (Nat.le_of_ble_eq_true rfl) dX1_init_32 (fun q2 H hP hD hS => ?_)
  refine W.widen (k := 2) (n := 1800) (Nat.le_of_ble_eq_true rfl) (Nat.le_of_ble_eq_true rfl) ?_
  have hP : va_P D vwC [(h0, .inr (1, [.int 0, .int 0, .ref q1, .int 0, .null, .int 0, .int 0])), (q1, .inl (dA 0, 1200, .inl (fun _ => 0))), (q2, .inl (dA 0, 600, .inl (fun _ => 0)))] H := hP
  have hD : va_D A [(h0, .inr (1, [.int 0, .int 0, .ref q1, .int 0, .null, .int 0, .int 0])), (q1, .inl (dA 0, 1200, .inl (fun _ => 0))), (q2, .inl (dA 0, 600, .inl (fun _ => 0)))] := hD
  refine g_putF (w' := [(h0, .inr (1, [.int 0, .int 0, .ref q1, .int 0, .ref q2, .int 0, .int 0])), (q1, .inl (dA 0, 1200, .inl (fun _ => 0))), (q2, .inl (dA 0, 600, .inl (fun _ => 0)))]) hx hb hg hown hK hP hD hS 0 rfl rfl inX1 tyX1_ok nmX1 4 (by decide) q523 rfl hin rfl rfl rfl (Nat.le_of_ble_eq_true rfl) rfl dX1_init_34 (fun H locs hP hD hS => ?_)
  refine lv_aload_n hx hb dX1_init_37 rfl (lv_at hl 0 rfl) ?_
  refine lv_iconst (v := 0) hx hb dX1_init_38 (by decide) ?_
  refine g_put (w' := [(h0, .inr (1, [.int 0, .int 0, .ref q1, .int 0, .ref q2, .int 0, .int 0])), (q1, .inl (dA 0, 1200, .inl (fun _ => 0))), (q2, .inl (dA 0, 600, .inl (fun _ => 0)))]) hx hb hg hown hK hP hD hS 0 rfl rfl inX1 tyX1_ok nmX1 5 (by decide) q525 rfl rfl rfl (Nat.le_of_ble_eq_true rfl) rfl dX1_init_39 (fun H locs hP hD hS => ?_)
  refine lv_aload_n hx hb dX1_init_42 rfl (lv_at hl 0 rfl) ?_
  refine lv_iconst (v := 0) hx hb dX1_init_43 (by decide) ?_
  refine g_put (w' := [(h0, .inr (1, [.int 0, .int 0, .ref q1, .int 0, .ref q2, .int 0, .int 0])), (q1, .inl (dA 0, 1200, .inl (fun _ => 0))), (q2, .inl (dA 0, 600, .inl (fun _ => 0)))]) hx hb hg hown hK hP hD hS 0 rfl rfl inX1 tyX1_ok nmX1 6 (by decide) q528 rfl rfl rfl (Nat.le_of_ble_eq_true rfl) rfl dX1_init_44 (fun H locs hP hD hS => ?_)
  obtain ⟨hP, hD⟩ := g_cut (is := [0, 1, 2]) (w' := [(h0, .inr (1, [.int 0, .int 0, .ref q1, .int 0, .ref q2, .int 0, .int 0])), (q1, .inl (dA 0, 1200, .inl (fun _ => 0))), (q2, .inl (dA 0, 600, .inl (fun _ => 0)))]) hP hD (by decide) rfl rfl
  exact g_vret hx hb hr hlocks hK (fun k => ([q1, q2] : List Nat).getD k 0) hP hD hS trivial (Nat.le_of_ble_eq_true rfl) (Nat.le_of_ble_eq_true rfl) dX1_init_47
set_option maxHeartbeats 4000000 in
set_option maxRecDepth 100000 in
theorem c_X4_init (l : Launch) (D : va_G) (dA : Nat → ClassId) (h0 : Nat) (sz : Nat) : Met l yX4_init (gws yX4_init cX4_init 1 none) (gR 2 4 4138) (gPre D dA [.ref h0] [(h0, .inr (4, [.null, .null, .null, .int 0, .int 0, .int 0, .int 0, .int 0, .int 0, .int 0, .null, .int 0, .int 0, .int 0]))] sz) (va_Qv (fun _ : Nat → Nat => True) (gAt D dA (va_A [(h0, .inr (4, [.null, .null, .null, .int 0, .int 0, .int 0, .int 0, .int 0, .int 0, .int 0, .null, .int 0, .int 0, .int 0]))] sz) (fun ad : Nat → Nat => [(h0, .inr (4, [.ref (ad 0), .ref (ad 1), .ref (ad 2), .int 0, .int 0, .int 0, .int 0, .int 1, .int 0, .int 0, .ref (ad 3), .int 0, .int 0, .int 0])), (ad 0, .inl (dA 0, 4096, .inl (fun _ => 0))), (ad 1, .inl (dA 0, 8, .inl (fun _ => 0))), (ad 2, .inl (dA 0, 4, .inl (fun _ => 0))), (ad 3, .inl (dA 0, 30, .inl (fun _ => 0)))])) (va_A [(h0, .inr (4, [.null, .null, .null, .int 0, .int 0, .int 0, .int 0, .int 0, .int 0, .int 0, .null, .int 0, .int 0, .int 0]))] sz)) 4 4138 (va_A [(h0, .inr (4, [.null, .null, .null, .int 0, .int 0, .int 0, .int 0, .int 0, .int 0, .int 0, .null, .int 0, .int 0, .int 0]))] sz) := by
  refine Met.ofW (cc := cX4_init) (maxL := 1) (ret := none) (by decide) rfl ?_
  intro p e s m args below meth c s₁ B hml hv
  obtain ⟨rfl, hsz, hP, hK, hD0⟩ := hv
  have hx := B.exec
  have hb := B.bytes
  have hr := B.returns
  have hts := atoms_spec (ws := gws yX4_init cX4_init 1 none) B.pre
  have hg : ∀ w ∈ gw, w.before _ s = true := fun w h => hts w (List.mem_cons_of_mem _ h)
  have hown : s.vm.findClass RX4 = some m.cls := findClass_of_methodNamed B.named
  have hlocks := B.notSynchronized
  have hin : meth.name = "<init>" := (name_of_methodNamed B.named B.method).1
  subst hsz
  have hD := hD0.self (sz := s.heap.size)
  generalize hAe : va_A [(h0, .inr (4, [.null, .null, .null, .int 0, .int 0, .int 0, .int 0, .int 0, .int 0, .int 0, .null, .int 0, .int 0, .int 0]))] s.heap.size = A at hD ⊢
  have hA : ∀ q : Nat, s.heap.size ≤ q → A q := fun q h => by rw [← hAe]; exact Or.inr h
  have hS : va_S A s.heap s.heap [] := va_S.rf
  have hP : va_P D vwC [(h0, .inr (4, [.null, .null, .null, .int 0, .int 0, .int 0, .int 0, .int 0, .int 0, .int 0, .null, .int 0, .int 0, .int 0]))] s.heap := hP
  have hl := lv_entry ([.ref h0]) (n := 1) (Nat.le_of_ble_eq_true rfl)
  rw [lg_entry_eq]
  generalize (lg_sl ([.ref h0]) ++ List.replicate (1 - (lg_sl ([.ref h0])).length) Slot.unset).toArray = ls at hl ⊢
  have hl : lv_has ls 1 [(0, .ref h0)] := hl
  refine lv_aload_n hx hb dX4_init_0 rfl (lv_at hl 0 rfl) ?_
  refine g_obj hx hb hg hown q551 q186 q187 hml hl.1 dX4_init_1 (Nat.le_of_ble_eq_true rfl) (Nat.le_of_ble_eq_true rfl) ?_
  refine lv_aload_n hx hb dX4_init_4 rfl (lv_at hl 0 rfl) ?_
  refine lv_sipush (v := 4096) hx hb dX4_init_5 (by decide) ?_
  refine g_newa (ty := .int) (N' := 4096) (a0 := (4096, .inl (fun _ => 0))) hx hb hg rfl q224 hK hP hD hS hA 0 rfl (fun _ => rfl) (by decide) (by decide) (Nat.le_of_ble_eq_true rfl) (Nat.le_of_ble_eq_true rfl) (Nat.le_of_ble_eq_true rfl) dX4_init_8 (fun q1 H hP hD hS => ?_)
  refine W.widen (k := 1) (n := 4096) (Nat.le_of_ble_eq_true rfl) (Nat.le_of_ble_eq_true rfl) ?_
  have hP : va_P D vwC [(h0, .inr (4, [.null, .null, .null, .int 0, .int 0, .int 0, .int 0, .int 0, .int 0, .int 0, .null, .int 0, .int 0, .int 0])), (q1, .inl (dA 0, 4096, .inl (fun _ => 0)))] H := hP
  have hD : va_D A [(h0, .inr (4, [.null, .null, .null, .int 0, .int 0, .int 0, .int 0, .int 0, .int 0, .int 0, .null, .int 0, .int 0, .int 0])), (q1, .inl (dA 0, 4096, .inl (fun _ => 0)))] := hD
  refine g_putF (w' := [(h0, .inr (4, [.ref q1, .null, .null, .int 0, .int 0, .int 0, .int 0, .int 0, .int 0, .int 0, .null, .int 0, .int 0, .int 0])), (q1, .inl (dA 0, 4096, .inl (fun _ => 0)))]) hx hb hg hown hK hP hD hS 0 rfl rfl inX4 tyX4_ok nmX4 0 (by decide) q552 rfl hin rfl rfl rfl (Nat.le_of_ble_eq_true rfl) rfl dX4_init_10 (fun H locs hP hD hS => ?_)
  refine lv_aload_n hx hb dX4_init_13 rfl (lv_at hl 0 rfl) ?_
  refine lv_bipush (v := 8) hx hb dX4_init_14 (by decide) ?_
  refine g_newa (ty := .int) (N' := 8) (a0 := (8, .inl (fun _ => 0))) hx hb hg rfl q224 hK hP hD hS hA 0 rfl (fun _ => rfl) (by decide) (by decide) (Nat.le_of_ble_eq_true rfl) (Nat.le_of_ble_eq_true rfl) (Nat.le_of_ble_eq_true rfl) dX4_init_16 (fun q2 H hP hD hS => ?_)
  refine W.widen (k := 2) (n := 4104) (Nat.le_of_ble_eq_true rfl) (Nat.le_of_ble_eq_true rfl) ?_
  have hP : va_P D vwC [(h0, .inr (4, [.ref q1, .null, .null, .int 0, .int 0, .int 0, .int 0, .int 0, .int 0, .int 0, .null, .int 0, .int 0, .int 0])), (q1, .inl (dA 0, 4096, .inl (fun _ => 0))), (q2, .inl (dA 0, 8, .inl (fun _ => 0)))] H := hP
  have hD : va_D A [(h0, .inr (4, [.ref q1, .null, .null, .int 0, .int 0, .int 0, .int 0, .int 0, .int 0, .int 0, .null, .int 0, .int 0, .int 0])), (q1, .inl (dA 0, 4096, .inl (fun _ => 0))), (q2, .inl (dA 0, 8, .inl (fun _ => 0)))] := hD
  refine g_putF (w' := [(h0, .inr (4, [.ref q1, .ref q2, .null, .int 0, .int 0, .int 0, .int 0, .int 0, .int 0, .int 0, .null, .int 0, .int 0, .int 0])), (q1, .inl (dA 0, 4096, .inl (fun _ => 0))), (q2, .inl (dA 0, 8, .inl (fun _ => 0)))]) hx hb hg hown hK hP hD hS 0 rfl rfl inX4 tyX4_ok nmX4 1 (by decide) q554 rfl hin rfl rfl rfl (Nat.le_of_ble_eq_true rfl) rfl dX4_init_18 (fun H locs hP hD hS => ?_)
  refine lv_aload_n hx hb dX4_init_21 rfl (lv_at hl 0 rfl) ?_
  refine lv_iconst (v := 4) hx hb dX4_init_22 (by decide) ?_
  refine g_newa (ty := .int) (N' := 4) (a0 := (4, .inl (fun _ => 0))) hx hb hg rfl q224 hK hP hD hS hA 0 rfl (fun _ => rfl) (by decide) (by decide) (Nat.le_of_ble_eq_true rfl) (Nat.le_of_ble_eq_true rfl) (Nat.le_of_ble_eq_true rfl) dX4_init_23 (fun q3 H hP hD hS => ?_)
  refine W.widen (k := 3) (n := 4108) (Nat.le_of_ble_eq_true rfl) (Nat.le_of_ble_eq_true rfl) ?_
  have hP : va_P D vwC [(h0, .inr (4, [.ref q1, .ref q2, .null, .int 0, .int 0, .int 0, .int 0, .int 0, .int 0, .int 0, .null, .int 0, .int 0, .int 0])), (q1, .inl (dA 0, 4096, .inl (fun _ => 0))), (q2, .inl (dA 0, 8, .inl (fun _ => 0))), (q3, .inl (dA 0, 4, .inl (fun _ => 0)))] H := hP
  have hD : va_D A [(h0, .inr (4, [.ref q1, .ref q2, .null, .int 0, .int 0, .int 0, .int 0, .int 0, .int 0, .int 0, .null, .int 0, .int 0, .int 0])), (q1, .inl (dA 0, 4096, .inl (fun _ => 0))), (q2, .inl (dA 0, 8, .inl (fun _ => 0))), (q3, .inl (dA 0, 4, .inl (fun _ => 0)))] := hD
  refine g_putF (w' := [(h0, .inr (4, [.ref q1, .ref q2, .ref q3, .int 0, .int 0, .int 0, .int 0, .int 0, .int 0, .int 0, .null, .int 0, .int 0, .int 0])), (q1, .inl (dA 0, 4096, .inl (fun _ => 0))), (q2, .inl (dA 0, 8, .inl (fun _ => 0))), (q3, .inl (dA 0, 4, .inl (fun _ => 0)))]) hx hb hg hown hK hP hD hS 0 rfl rfl inX4 tyX4_ok nmX4 2 (by decide) q556 rfl hin rfl rfl rfl (Nat.le_of_ble_eq_true rfl) rfl dX4_init_25 (fun H locs hP hD hS => ?_)
  refine lv_aload_n hx hb dX4_init_28 rfl (lv_at hl 0 rfl) ?_
  refine lv_bipush (v := 30) hx hb dX4_init_29 (by decide) ?_
  refine g_newa (ty := .int) (N' := 30) (a0 := (30, .inl (fun _ => 0))) hx hb hg rfl q224 hK hP hD hS hA 0 rfl (fun _ => rfl) (by decide) (by decide) (Nat.le_of_ble_eq_true rfl) (Nat.le_of_ble_eq_true rfl) (Nat.le_of_ble_eq_true rfl) dX4_init_31 (fun q4 H hP hD hS => ?_)
  refine W.widen (k := 4) (n := 4138) (Nat.le_of_ble_eq_true rfl) (Nat.le_of_ble_eq_true rfl) ?_
  have hP : va_P D vwC [(h0, .inr (4, [.ref q1, .ref q2, .ref q3, .int 0, .int 0, .int 0, .int 0, .int 0, .int 0, .int 0, .null, .int 0, .int 0, .int 0])), (q1, .inl (dA 0, 4096, .inl (fun _ => 0))), (q2, .inl (dA 0, 8, .inl (fun _ => 0))), (q3, .inl (dA 0, 4, .inl (fun _ => 0))), (q4, .inl (dA 0, 30, .inl (fun _ => 0)))] H := hP
  have hD : va_D A [(h0, .inr (4, [.ref q1, .ref q2, .ref q3, .int 0, .int 0, .int 0, .int 0, .int 0, .int 0, .int 0, .null, .int 0, .int 0, .int 0])), (q1, .inl (dA 0, 4096, .inl (fun _ => 0))), (q2, .inl (dA 0, 8, .inl (fun _ => 0))), (q3, .inl (dA 0, 4, .inl (fun _ => 0))), (q4, .inl (dA 0, 30, .inl (fun _ => 0)))] := hD
  refine g_putF (w' := [(h0, .inr (4, [.ref q1, .ref q2, .ref q3, .int 0, .int 0, .int 0, .int 0, .int 0, .int 0, .int 0, .ref q4, .int 0, .int 0, .int 0])), (q1, .inl (dA 0, 4096, .inl (fun _ => 0))), (q2, .inl (dA 0, 8, .inl (fun _ => 0))), (q3, .inl (dA 0, 4, .inl (fun _ => 0))), (q4, .inl (dA 0, 30, .inl (fun _ => 0)))]) hx hb hg hown hK hP hD hS 0 rfl rfl inX4 tyX4_ok nmX4 10 (by decide) q572 rfl hin rfl rfl rfl (Nat.le_of_ble_eq_true rfl) rfl dX4_init_33 (fun H locs hP hD hS => ?_)
  refine lv_aload_n hx hb dX4_init_36 rfl (lv_at hl 0 rfl) ?_
  refine lv_iconst (v := 1) hx hb dX4_init_37 (by decide) ?_
  refine g_put (w' := [(h0, .inr (4, [.ref q1, .ref q2, .ref q3, .int 0, .int 0, .int 0, .int 0, .int 1, .int 0, .int 0, .ref q4, .int 0, .int 0, .int 0])), (q1, .inl (dA 0, 4096, .inl (fun _ => 0))), (q2, .inl (dA 0, 8, .inl (fun _ => 0))), (q3, .inl (dA 0, 4, .inl (fun _ => 0))), (q4, .inl (dA 0, 30, .inl (fun _ => 0)))]) hx hb hg hown hK hP hD hS 0 rfl rfl inX4 tyX4_ok nmX4 7 (by decide) q566 rfl rfl rfl (Nat.le_of_ble_eq_true rfl) rfl dX4_init_38 (fun H locs hP hD hS => ?_)
  refine lv_aload_n hx hb dX4_init_41 rfl (lv_at hl 0 rfl) ?_
  refine lv_iconst (v := 0) hx hb dX4_init_42 (by decide) ?_
  refine g_put (w' := [(h0, .inr (4, [.ref q1, .ref q2, .ref q3, .int 0, .int 0, .int 0, .int 0, .int 1, .int 0, .int 0, .ref q4, .int 0, .int 0, .int 0])), (q1, .inl (dA 0, 4096, .inl (fun _ => 0))), (q2, .inl (dA 0, 8, .inl (fun _ => 0))), (q3, .inl (dA 0, 4, .inl (fun _ => 0))), (q4, .inl (dA 0, 30, .inl (fun _ => 0)))]) hx hb hg hown hK hP hD hS 0 rfl rfl inX4 tyX4_ok nmX4 3 (by decide) q558 rfl rfl rfl (Nat.le_of_ble_eq_true rfl) rfl dX4_init_43 (fun H locs hP hD hS => ?_)
  refine lv_aload_n hx hb dX4_init_46 rfl (lv_at hl 0 rfl) ?_
  refine lv_iconst (v := 0) hx hb dX4_init_47 (by decide) ?_
  refine g_put (w' := [(h0, .inr (4, [.ref q1, .ref q2, .ref q3, .int 0, .int 0, .int 0, .int 0, .int 1, .int 0, .int 0, .ref q4, .int 0, .int 0, .int 0])), (q1, .inl (dA 0, 4096, .inl (fun _ => 0))), (q2, .inl (dA 0, 8, .inl (fun _ => 0))), (q3, .inl (dA 0, 4, .inl (fun _ => 0))), (q4, .inl (dA 0, 30, .inl (fun _ => 0)))]) hx hb hg hown hK hP hD hS 0 rfl rfl inX4 tyX4_ok nmX4 4 (by decide) q560 rfl rfl rfl (Nat.le_of_ble_eq_true rfl) rfl dX4_init_48 (fun H locs hP hD hS => ?_)
  refine lv_aload_n hx hb dX4_init_51 rfl (lv_at hl 0 rfl) ?_
  refine lv_iconst (v := 0) hx hb dX4_init_52 (by decide) ?_
  refine g_put (w' := [(h0, .inr (4, [.ref q1, .ref q2, .ref q3, .int 0, .int 0, .int 0, .int 0, .int 1, .int 0, .int 0, .ref q4, .int 0, .int 0, .int 0])), (q1, .inl (dA 0, 4096, .inl (fun _ => 0))), (q2, .inl (dA 0, 8, .inl (fun _ => 0))), (q3, .inl (dA 0, 4, .inl (fun _ => 0))), (q4, .inl (dA 0, 30, .inl (fun _ => 0)))]) hx hb hg hown hK hP hD hS 0 rfl rfl inX4 tyX4_ok nmX4 5 (by decide) q562 rfl rfl rfl (Nat.le_of_ble_eq_true rfl) rfl dX4_init_53 (fun H locs hP hD hS => ?_)
  refine lv_aload_n hx hb dX4_init_56 rfl (lv_at hl 0 rfl) ?_
  refine lv_iconst (v := 0) hx hb dX4_init_57 (by decide) ?_
  refine g_put (w' := [(h0, .inr (4, [.ref q1, .ref q2, .ref q3, .int 0, .int 0, .int 0, .int 0, .int 1, .int 0, .int 0, .ref q4, .int 0, .int 0, .int 0])), (q1, .inl (dA 0, 4096, .inl (fun _ => 0))), (q2, .inl (dA 0, 8, .inl (fun _ => 0))), (q3, .inl (dA 0, 4, .inl (fun _ => 0))), (q4, .inl (dA 0, 30, .inl (fun _ => 0)))]) hx hb hg hown hK hP hD hS 0 rfl rfl inX4 tyX4_ok nmX4 6 (by decide) q564 rfl rfl rfl (Nat.le_of_ble_eq_true rfl) rfl dX4_init_58 (fun H locs hP hD hS => ?_)
  refine lv_aload_n hx hb dX4_init_61 rfl (lv_at hl 0 rfl) ?_
  refine lv_iconst (v := 0) hx hb dX4_init_62 (by decide) ?_
  refine g_put (w' := [(h0, .inr (4, [.ref q1, .ref q2, .ref q3, .int 0, .int 0, .int 0, .int 0, .int 1, .int 0, .int 0, .ref q4, .int 0, .int 0, .int 0])), (q1, .inl (dA 0, 4096, .inl (fun _ => 0))), (q2, .inl (dA 0, 8, .inl (fun _ => 0))), (q3, .inl (dA 0, 4, .inl (fun _ => 0))), (q4, .inl (dA 0, 30, .inl (fun _ => 0)))]) hx hb hg hown hK hP hD hS 0 rfl rfl inX4 tyX4_ok nmX4 8 (by decide) q568 rfl rfl rfl (Nat.le_of_ble_eq_true rfl) rfl dX4_init_63 (fun H locs hP hD hS => ?_)
  refine lv_aload_n hx hb dX4_init_66 rfl (lv_at hl 0 rfl) ?_
  refine lv_iconst (v := 0) hx hb dX4_init_67 (by decide) ?_
  refine g_put (w' := [(h0, .inr (4, [.ref q1, .ref q2, .ref q3, .int 0, .int 0, .int 0, .int 0, .int 1, .int 0, .int 0, .ref q4, .int 0, .int 0, .int 0])), (q1, .inl (dA 0, 4096, .inl (fun _ => 0))), (q2, .inl (dA 0, 8, .inl (fun _ => 0))), (q3, .inl (dA 0, 4, .inl (fun _ => 0))), (q4, .inl (dA 0, 30, .inl (fun _ => 0)))]) hx hb hg hown hK hP hD hS 0 rfl rfl inX4 tyX4_ok nmX4 9 (by decide) q570 rfl rfl rfl (Nat.le_of_ble_eq_true rfl) rfl dX4_init_68 (fun H locs hP hD hS => ?_)
  refine lv_aload_n hx hb dX4_init_71 rfl (lv_at hl 0 rfl) ?_
  refine lv_iconst (v := 0) hx hb dX4_init_72 (by decide) ?_
  refine g_put (w' := [(h0, .inr (4, [.ref q1, .ref q2, .ref q3, .int 0, .int 0, .int 0, .int 0, .int 1, .int 0, .int 0, .ref q4, .int 0, .int 0, .int 0])), (q1, .inl (dA 0, 4096, .inl (fun _ => 0))), (q2, .inl (dA 0, 8, .inl (fun _ => 0))), (q3, .inl (dA 0, 4, .inl (fun _ => 0))), (q4, .inl (dA 0, 30, .inl (fun _ => 0)))]) hx hb hg hown hK hP hD hS 0 rfl rfl inX4 tyX4_ok nmX4 11 (by decide) q574 rfl rfl rfl (Nat.le_of_ble_eq_true rfl) rfl dX4_init_73 (fun H locs hP hD hS => ?_)
  refine lv_aload_n hx hb dX4_init_76 rfl (lv_at hl 0 rfl) ?_
  refine lv_iconst (v := 0) hx hb dX4_init_77 (by decide) ?_
  refine g_put (w' := [(h0, .inr (4, [.ref q1, .ref q2, .ref q3, .int 0, .int 0, .int 0, .int 0, .int 1, .int 0, .int 0, .ref q4, .int 0, .int 0, .int 0])), (q1, .inl (dA 0, 4096, .inl (fun _ => 0))), (q2, .inl (dA 0, 8, .inl (fun _ => 0))), (q3, .inl (dA 0, 4, .inl (fun _ => 0))), (q4, .inl (dA 0, 30, .inl (fun _ => 0)))]) hx hb hg hown hK hP hD hS 0 rfl rfl inX4 tyX4_ok nmX4 12 (by decide) q575 rfl rfl rfl (Nat.le_of_ble_eq_true rfl) rfl dX4_init_78 (fun H locs hP hD hS => ?_)
  refine lv_aload_n hx hb dX4_init_81 rfl (lv_at hl 0 rfl) ?_
  refine lv_iconst (v := 0) hx hb dX4_init_82 (by decide) ?_
  refine g_put (w' := [(h0, .inr (4, [.ref q1, .ref q2, .ref q3, .int 0, .int 0, .int 0, .int 0, .int 1, .int 0, .int 0, .ref q4, .int 0, .int 0, .int 0])), (q1, .inl (dA 0, 4096, .inl (fun _ => 0))), (q2, .inl (dA 0, 8, .inl (fun _ => 0))), (q3, .inl (dA 0, 4, .inl (fun _ => 0))), (q4, .inl (dA 0, 30, .inl (fun _ => 0)))]) hx hb hg hown hK hP hD hS 0 rfl rfl inX4 tyX4_ok nmX4 13 (by decide) q576 rfl rfl rfl (Nat.le_of_ble_eq_true rfl) rfl dX4_init_83 (fun H locs hP hD hS => ?_)
  obtain ⟨hP, hD⟩ := g_cut (is := [0, 1, 2, 3, 4]) (w' := [(h0, .inr (4, [.ref q1, .ref q2, .ref q3, .int 0, .int 0, .int 0, .int 0, .int 1, .int 0, .int 0, .ref q4, .int 0, .int 0, .int 0])), (q1, .inl (dA 0, 4096, .inl (fun _ => 0))), (q2, .inl (dA 0, 8, .inl (fun _ => 0))), (q3, .inl (dA 0, 4, .inl (fun _ => 0))), (q4, .inl (dA 0, 30, .inl (fun _ => 0)))]) hP hD (by decide) rfl rfl
  exact g_vret hx hb hr hlocks hK (fun k => ([q1, q2, q3, q4] : List Nat).getD k 0) hP hD hS trivial (Nat.le_of_ble_eq_true rfl) (Nat.le_of_ble_eq_true rfl) dX4_init_86
