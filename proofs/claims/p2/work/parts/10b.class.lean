theorem q152 : Cond.initialized RX0 ∈ gw := gw_in (i := 152) (by decide +kernel) rfl
theorem q177 : Cond.initialized RJ7 ∈ gw := gw_in (i := 177) (by decide +kernel) rfl
theorem q196 : Cond.fieldLink RX5 15 "SegmentBench$Names" "role" "[I" ∈ gw := gw_in (i := 196) (by decide +kernel) rfl
theorem q198 : Cond.fieldLink RX5 19 "SegmentBench$Names" "segment" "[I" ∈ gw := gw_in (i := 198) (by decide +kernel) rfl
theorem q204 : Cond.fieldLink RX5 28 "SegmentBench$Names" "size" "I" ∈ gw := gw_in (i := 204) (by decide +kernel) rfl
theorem q205 : Cond.fieldLink RX5 32 "SegmentBench$Names" "crowdedAt" "I" ∈ gw := gw_in (i := 205) (by decide +kernel) rfl
theorem q257 : Cond.fieldLink RX0 11 "SegmentBench$Draft" "type" "[I" ∈ gw := gw_in (i := 257) (by decide +kernel) rfl
theorem q259 : Cond.fieldLink RX0 15 "SegmentBench$Draft" "value" "[I" ∈ gw := gw_in (i := 259) (by decide +kernel) rfl
theorem q261 : Cond.fieldLink RX0 18 "SegmentBench$Draft" "name" "[I" ∈ gw := gw_in (i := 261) (by decide +kernel) rfl
theorem q263 : Cond.fieldLink RX0 21 "SegmentBench$Draft" "place" "[I" ∈ gw := gw_in (i := 263) (by decide +kernel) rfl
theorem q265 : Cond.fieldLink RX0 24 "SegmentBench$Draft" "word" "[I" ∈ gw := gw_in (i := 265) (by decide +kernel) rfl
theorem q267 : Cond.fieldLink RX0 27 "SegmentBench$Draft" "segment" "[I" ∈ gw := gw_in (i := 267) (by decide +kernel) rfl
theorem q269 : Cond.fieldLink RX0 30 "SegmentBench$Draft" "offset" "[I" ∈ gw := gw_in (i := 269) (by decide +kernel) rfl
theorem q271 : Cond.fieldLink RX0 33 "SegmentBench$Draft" "size" "I" ∈ gw := gw_in (i := 271) (by decide +kernel) rfl
theorem q397 : Cond.fieldLink RX6 9 "SegmentBench$ObjectModule" "there" "Z" ∈ gw := gw_in (i := 397) (by decide +kernel) rfl
theorem q401 : Cond.fieldLink RX6 15 "SegmentBench$ObjectModule" "segments" "I" ∈ gw := gw_in (i := 401) (by decide +kernel) rfl
theorem q414 : Cond.fieldLink RX6 33 "SegmentBench$ObjectModule" "bytes" "[I" ∈ gw := gw_in (i := 414) (by decide +kernel) rfl
theorem q417 : Cond.fieldLink RX6 36 "SegmentBench$ObjectModule" "fixups" "I" ∈ gw := gw_in (i := 417) (by decide +kernel) rfl
theorem q420 : Cond.fieldLink RX6 39 "SegmentBench$ObjectModule" "fixupKind" "[I" ∈ gw := gw_in (i := 420) (by decide +kernel) rfl
theorem q423 : Cond.fieldLink RX6 42 "SegmentBench$ObjectModule" "fixupSegment" "[I" ∈ gw := gw_in (i := 423) (by decide +kernel) rfl
theorem q426 : Cond.fieldLink RX6 45 "SegmentBench$ObjectModule" "fixupPlace" "[I" ∈ gw := gw_in (i := 426) (by decide +kernel) rfl
theorem q429 : Cond.fieldLink RX6 48 "SegmentBench$ObjectModule" "fixupAbout" "[I" ∈ gw := gw_in (i := 429) (by decide +kernel) rfl
theorem q432 : Cond.fieldLink RX6 51 "SegmentBench$ObjectModule" "fixupName" "[J" ∈ gw := gw_in (i := 432) (by decide +kernel) rfl
theorem q434 : Cond.fieldLink RX6 54 "SegmentBench$ObjectModule" "publics" "I" ∈ gw := gw_in (i := 434) (by decide +kernel) rfl
theorem q511 : Cond.fieldLink RX1 11 "SegmentBench$Image" "there" "Z" ∈ gw := gw_in (i := 511) (by decide +kernel) rfl
theorem q513 : Cond.fieldLink RX1 17 "SegmentBench$Image" "size" "I" ∈ gw := gw_in (i := 513) (by decide +kernel) rfl
theorem q516 : Cond.fieldLink RX1 21 "SegmentBench$Image" "bytes" "[I" ∈ gw := gw_in (i := 516) (by decide +kernel) rfl
theorem q520 : Cond.fieldLink RX1 25 "SegmentBench$Image" "relocations" "I" ∈ gw := gw_in (i := 520) (by decide +kernel) rfl
theorem q523 : Cond.fieldLink RX1 28 "SegmentBench$Image" "relocation" "[I" ∈ gw := gw_in (i := 523) (by decide +kernel) rfl
theorem q960 : Cond.instanceMethod yX0_add ∈ gw := gw_in (i := 960) (by decide +kernel) rfl
theorem q961 : Cond.selects RX0 yX0_add yX0_add ∈ gw := gw_in (i := 961) (by decide +kernel) rfl
theorem q962 : Cond.code yX0_add cX0_add 6 none ∈ gw := gw_in (i := 962) (by decide +kernel) rfl
theorem q1024 : Cond.methodLink RX0 37 yX0_add ∈ gw := gw_in (i := 1024) (by decide +kernel) rfl
theorem q1163 : Cond.static yJ7_fill_53178 ∈ gw := gw_in (i := 1163) (by decide +kernel) rfl
theorem q1164 : Cond.code yJ7_fill_53178 cJ7_fill_53178 4 none ∈ gw := gw_in (i := 1164) (by decide +kernel) rfl
theorem q1198 : Cond.methodLink RX6 66 yJ7_fill_53178 ∈ gw := gw_in (i := 1198) (by decide +kernel) rfl
theorem q1337 : Cond.methodLink RX1 37 yJ7_fill_53178 ∈ gw := gw_in (i := 1337) (by decide +kernel) rfl
theorem dX1_begin_0 : decode cX1_begin 0 = .ok (.aload_n 0, 1) := by decide +kernel
theorem dX1_begin_1 : decode cX1_begin 1 = .ok (.iconst 1, 1) := by decide +kernel
theorem dX1_begin_2 : decode cX1_begin 2 = .ok (.putfield 11, 3) := by decide +kernel
theorem dX1_begin_5 : decode cX1_begin 5 = .ok (.aload_n 0, 1) := by decide +kernel
theorem dX1_begin_6 : decode cX1_begin 6 = .ok (.iload_n 1, 1) := by decide +kernel
theorem dX1_begin_7 : decode cX1_begin 7 = .ok (.putfield 17, 3) := by decide +kernel
theorem dX1_begin_10 : decode cX1_begin 10 = .ok (.aload_n 0, 1) := by decide +kernel
theorem dX1_begin_11 : decode cX1_begin 11 = .ok (.iconst 0, 1) := by decide +kernel
theorem dX1_begin_12 : decode cX1_begin 12 = .ok (.putfield 25, 3) := by decide +kernel
theorem dX1_begin_15 : decode cX1_begin 15 = .ok (.aload_n 0, 1) := by decide +kernel
theorem dX1_begin_16 : decode cX1_begin 16 = .ok (.getfield 21, 3) := by decide +kernel
theorem dX1_begin_19 : decode cX1_begin 19 = .ok (.iconst 0, 1) := by decide +kernel
theorem dX1_begin_20 : decode cX1_begin 20 = .ok (.invokestatic 37, 3) := by decide +kernel
theorem dX1_begin_23 : decode cX1_begin 23 = .ok (.return_, 1) := by decide +kernel
theorem dX1_addRelocation_0 : decode cX1_addRelocation 0 = .ok (.aload_n 0, 1) := by decide +kernel
theorem dX1_addRelocation_1 : decode cX1_addRelocation 1 = .ok (.getfield 25, 3) := by decide +kernel
theorem dX1_addRelocation_4 : decode cX1_addRelocation 4 = .ok (.sipush 600, 3) := by decide +kernel
theorem dX1_addRelocation_7 : decode cX1_addRelocation 7 = .ok (.if_icmp .ge 23, 3) := by decide +kernel
theorem dX1_addRelocation_30 : decode cX1_addRelocation 30 = .ok (.return_, 1) := by decide +kernel
theorem dX1_addRelocation_10 : decode cX1_addRelocation 10 = .ok (.aload_n 0, 1) := by decide +kernel
theorem dX1_addRelocation_11 : decode cX1_addRelocation 11 = .ok (.getfield 28, 3) := by decide +kernel
theorem dX1_addRelocation_14 : decode cX1_addRelocation 14 = .ok (.aload_n 0, 1) := by decide +kernel
theorem dX1_addRelocation_15 : decode cX1_addRelocation 15 = .ok (.getfield 25, 3) := by decide +kernel
theorem dX1_addRelocation_18 : decode cX1_addRelocation 18 = .ok (.iload_n 1, 1) := by decide +kernel
theorem dX1_addRelocation_19 : decode cX1_addRelocation 19 = .ok (.iastore, 1) := by decide +kernel
theorem dX1_addRelocation_20 : decode cX1_addRelocation 20 = .ok (.aload_n 0, 1) := by decide +kernel
theorem dX1_addRelocation_21 : decode cX1_addRelocation 21 = .ok (.dup, 1) := by decide +kernel
theorem dX1_addRelocation_22 : decode cX1_addRelocation 22 = .ok (.getfield 25, 3) := by decide +kernel
theorem dX1_addRelocation_25 : decode cX1_addRelocation 25 = .ok (.iconst 1, 1) := by decide +kernel
theorem dX1_addRelocation_26 : decode cX1_addRelocation 26 = .ok (.iadd, 1) := by decide +kernel
theorem dX1_addRelocation_27 : decode cX1_addRelocation 27 = .ok (.putfield 25, 3) := by decide +kernel
theorem dX1_addWord_0 : decode cX1_addWord 0 = .ok (.iload_n 1, 1) := by decide +kernel
theorem dX1_addWord_1 : decode cX1_addWord 1 = .ok (.ifCond .lt 61, 3) := by decide +kernel
theorem dX1_addWord_62 : decode cX1_addWord 62 = .ok (.return_, 1) := by decide +kernel
theorem dX1_addWord_4 : decode cX1_addWord 4 = .ok (.iload_n 1, 1) := by decide +kernel
theorem dX1_addWord_5 : decode cX1_addWord 5 = .ok (.iconst 1, 1) := by decide +kernel
theorem dX1_addWord_6 : decode cX1_addWord 6 = .ok (.iadd, 1) := by decide +kernel
theorem dX1_addWord_7 : decode cX1_addWord 7 = .ok (.sipush 1200, 3) := by decide +kernel
theorem dX1_addWord_10 : decode cX1_addWord 10 = .ok (.if_icmp .ge 52, 3) := by decide +kernel
theorem dX1_addWord_13 : decode cX1_addWord 13 = .ok (.aload_n 0, 1) := by decide +kernel
theorem dX1_addWord_14 : decode cX1_addWord 14 = .ok (.getfield 21, 3) := by decide +kernel
theorem dX1_addWord_17 : decode cX1_addWord 17 = .ok (.iload_n 1, 1) := by decide +kernel
theorem dX1_addWord_18 : decode cX1_addWord 18 = .ok (.iaload, 1) := by decide +kernel
theorem dX1_addWord_19 : decode cX1_addWord 19 = .ok (.sipush 256, 3) := by decide +kernel
theorem dX1_addWord_22 : decode cX1_addWord 22 = .ok (.aload_n 0, 1) := by decide +kernel
theorem dX1_addWord_23 : decode cX1_addWord 23 = .ok (.getfield 21, 3) := by decide +kernel
theorem dX1_addWord_26 : decode cX1_addWord 26 = .ok (.iload_n 1, 1) := by decide +kernel
theorem dX1_addWord_27 : decode cX1_addWord 27 = .ok (.iconst 1, 1) := by decide +kernel
theorem dX1_addWord_28 : decode cX1_addWord 28 = .ok (.iadd, 1) := by decide +kernel
theorem dX1_addWord_29 : decode cX1_addWord 29 = .ok (.iaload, 1) := by decide +kernel
theorem dX1_addWord_30 : decode cX1_addWord 30 = .ok (.imul, 1) := by decide +kernel
theorem dX1_addWord_31 : decode cX1_addWord 31 = .ok (.iadd, 1) := by decide +kernel
theorem dX1_addWord_32 : decode cX1_addWord 32 = .ok (.iload_n 2, 1) := by decide +kernel
theorem dX1_addWord_33 : decode cX1_addWord 33 = .ok (.iadd, 1) := by decide +kernel
theorem dX1_addWord_34 : decode cX1_addWord 34 = .ok (.istore_n 3, 1) := by decide +kernel
theorem dX1_addWord_35 : decode cX1_addWord 35 = .ok (.aload_n 0, 1) := by decide +kernel
theorem dX1_addWord_36 : decode cX1_addWord 36 = .ok (.getfield 21, 3) := by decide +kernel
theorem dX1_addWord_39 : decode cX1_addWord 39 = .ok (.iload_n 1, 1) := by decide +kernel
theorem dX1_addWord_40 : decode cX1_addWord 40 = .ok (.iload_n 3, 1) := by decide +kernel
theorem dX1_addWord_41 : decode cX1_addWord 41 = .ok (.sipush 255, 3) := by decide +kernel
theorem dX1_addWord_44 : decode cX1_addWord 44 = .ok (.iand, 1) := by decide +kernel
theorem dX1_addWord_45 : decode cX1_addWord 45 = .ok (.iastore, 1) := by decide +kernel
theorem dX1_addWord_46 : decode cX1_addWord 46 = .ok (.aload_n 0, 1) := by decide +kernel
theorem dX1_addWord_47 : decode cX1_addWord 47 = .ok (.getfield 21, 3) := by decide +kernel
theorem dX1_addWord_50 : decode cX1_addWord 50 = .ok (.iload_n 1, 1) := by decide +kernel
theorem dX1_addWord_51 : decode cX1_addWord 51 = .ok (.iconst 1, 1) := by decide +kernel
theorem dX1_addWord_52 : decode cX1_addWord 52 = .ok (.iadd, 1) := by decide +kernel
theorem dX1_addWord_53 : decode cX1_addWord 53 = .ok (.iload_n 3, 1) := by decide +kernel
theorem dX1_addWord_54 : decode cX1_addWord 54 = .ok (.bipush 8, 2) := by decide +kernel
theorem dX1_addWord_56 : decode cX1_addWord 56 = .ok (.ishr, 1) := by decide +kernel
theorem dX1_addWord_57 : decode cX1_addWord 57 = .ok (.sipush 255, 3) := by decide +kernel
theorem dX1_addWord_60 : decode cX1_addWord 60 = .ok (.iand, 1) := by decide +kernel
theorem dX1_addWord_61 : decode cX1_addWord 61 = .ok (.iastore, 1) := by decide +kernel
theorem dX6_clear_0 : decode cX6_clear 0 = .ok (.aload_n 0, 1) := by decide +kernel
theorem dX6_clear_1 : decode cX6_clear 1 = .ok (.iconst 0, 1) := by decide +kernel
theorem dX6_clear_2 : decode cX6_clear 2 = .ok (.putfield 9, 3) := by decide +kernel
theorem dX6_clear_5 : decode cX6_clear 5 = .ok (.aload_n 0, 1) := by decide +kernel
theorem dX6_clear_6 : decode cX6_clear 6 = .ok (.iconst 0, 1) := by decide +kernel
theorem dX6_clear_7 : decode cX6_clear 7 = .ok (.putfield 15, 3) := by decide +kernel
theorem dX6_clear_10 : decode cX6_clear 10 = .ok (.aload_n 0, 1) := by decide +kernel
theorem dX6_clear_11 : decode cX6_clear 11 = .ok (.iconst 0, 1) := by decide +kernel
theorem dX6_clear_12 : decode cX6_clear 12 = .ok (.putfield 36, 3) := by decide +kernel
theorem dX6_clear_15 : decode cX6_clear 15 = .ok (.aload_n 0, 1) := by decide +kernel
theorem dX6_clear_16 : decode cX6_clear 16 = .ok (.iconst 0, 1) := by decide +kernel
theorem dX6_clear_17 : decode cX6_clear 17 = .ok (.putfield 54, 3) := by decide +kernel
theorem dX6_clear_20 : decode cX6_clear 20 = .ok (.aload_n 0, 1) := by decide +kernel
theorem dX6_clear_21 : decode cX6_clear 21 = .ok (.getfield 33, 3) := by decide +kernel
theorem dX6_clear_24 : decode cX6_clear 24 = .ok (.iconst 0, 1) := by decide +kernel
theorem dX6_clear_25 : decode cX6_clear 25 = .ok (.invokestatic 66, 3) := by decide +kernel
theorem dX6_clear_28 : decode cX6_clear 28 = .ok (.return_, 1) := by decide +kernel
theorem dX6_addFixup_0 : decode cX6_addFixup 0 = .ok (.aload_n 0, 1) := by decide +kernel
theorem dX6_addFixup_1 : decode cX6_addFixup 1 = .ok (.getfield 36, 3) := by decide +kernel
theorem dX6_addFixup_4 : decode cX6_addFixup 4 = .ok (.sipush 200, 3) := by decide +kernel
theorem dX6_addFixup_7 : decode cX6_addFixup 7 = .ok (.if_icmp .ge 65, 3) := by decide +kernel
theorem dX6_addFixup_72 : decode cX6_addFixup 72 = .ok (.return_, 1) := by decide +kernel
theorem dX6_addFixup_10 : decode cX6_addFixup 10 = .ok (.aload_n 0, 1) := by decide +kernel
theorem dX6_addFixup_11 : decode cX6_addFixup 11 = .ok (.getfield 39, 3) := by decide +kernel
theorem dX6_addFixup_14 : decode cX6_addFixup 14 = .ok (.aload_n 0, 1) := by decide +kernel
theorem dX6_addFixup_15 : decode cX6_addFixup 15 = .ok (.getfield 36, 3) := by decide +kernel
theorem dX6_addFixup_18 : decode cX6_addFixup 18 = .ok (.iload_n 1, 1) := by decide +kernel
theorem dX6_addFixup_19 : decode cX6_addFixup 19 = .ok (.iastore, 1) := by decide +kernel
theorem dX6_addFixup_20 : decode cX6_addFixup 20 = .ok (.aload_n 0, 1) := by decide +kernel
theorem dX6_addFixup_21 : decode cX6_addFixup 21 = .ok (.getfield 42, 3) := by decide +kernel
theorem dX6_addFixup_24 : decode cX6_addFixup 24 = .ok (.aload_n 0, 1) := by decide +kernel
theorem dX6_addFixup_25 : decode cX6_addFixup 25 = .ok (.getfield 36, 3) := by decide +kernel
theorem dX6_addFixup_28 : decode cX6_addFixup 28 = .ok (.iload_n 2, 1) := by decide +kernel
theorem dX6_addFixup_29 : decode cX6_addFixup 29 = .ok (.iastore, 1) := by decide +kernel
theorem dX6_addFixup_30 : decode cX6_addFixup 30 = .ok (.aload_n 0, 1) := by decide +kernel
theorem dX6_addFixup_31 : decode cX6_addFixup 31 = .ok (.getfield 45, 3) := by decide +kernel
theorem dX6_addFixup_34 : decode cX6_addFixup 34 = .ok (.aload_n 0, 1) := by decide +kernel
theorem dX6_addFixup_35 : decode cX6_addFixup 35 = .ok (.getfield 36, 3) := by decide +kernel
theorem dX6_addFixup_38 : decode cX6_addFixup 38 = .ok (.iload_n 3, 1) := by decide +kernel
theorem dX6_addFixup_39 : decode cX6_addFixup 39 = .ok (.iastore, 1) := by decide +kernel
theorem dX6_addFixup_40 : decode cX6_addFixup 40 = .ok (.aload_n 0, 1) := by decide +kernel
theorem dX6_addFixup_41 : decode cX6_addFixup 41 = .ok (.getfield 48, 3) := by decide +kernel
theorem dX6_addFixup_44 : decode cX6_addFixup 44 = .ok (.aload_n 0, 1) := by decide +kernel
theorem dX6_addFixup_45 : decode cX6_addFixup 45 = .ok (.getfield 36, 3) := by decide +kernel
theorem dX6_addFixup_48 : decode cX6_addFixup 48 = .ok (.iload 4, 2) := by decide +kernel
theorem dX6_addFixup_50 : decode cX6_addFixup 50 = .ok (.iastore, 1) := by decide +kernel
theorem dX6_addFixup_51 : decode cX6_addFixup 51 = .ok (.aload_n 0, 1) := by decide +kernel
theorem dX6_addFixup_52 : decode cX6_addFixup 52 = .ok (.getfield 51, 3) := by decide +kernel
theorem dX6_addFixup_55 : decode cX6_addFixup 55 = .ok (.aload_n 0, 1) := by decide +kernel
theorem dX6_addFixup_56 : decode cX6_addFixup 56 = .ok (.getfield 36, 3) := by decide +kernel
theorem dX6_addFixup_59 : decode cX6_addFixup 59 = .ok (.lload 5, 2) := by decide +kernel
theorem dX6_addFixup_61 : decode cX6_addFixup 61 = .ok (.lastore, 1) := by decide +kernel
theorem dX6_addFixup_62 : decode cX6_addFixup 62 = .ok (.aload_n 0, 1) := by decide +kernel
theorem dX6_addFixup_63 : decode cX6_addFixup 63 = .ok (.dup, 1) := by decide +kernel
theorem dX6_addFixup_64 : decode cX6_addFixup 64 = .ok (.getfield 36, 3) := by decide +kernel
theorem dX6_addFixup_67 : decode cX6_addFixup 67 = .ok (.iconst 1, 1) := by decide +kernel
theorem dX6_addFixup_68 : decode cX6_addFixup 68 = .ok (.iadd, 1) := by decide +kernel
theorem dX6_addFixup_69 : decode cX6_addFixup 69 = .ok (.putfield 36, 3) := by decide +kernel
theorem dX5_clear_0 : decode cX5_clear 0 = .ok (.aload_n 0, 1) := by decide +kernel
theorem dX5_clear_1 : decode cX5_clear 1 = .ok (.iconst 0, 1) := by decide +kernel
theorem dX5_clear_2 : decode cX5_clear 2 = .ok (.putfield 28, 3) := by decide +kernel
theorem dX5_clear_5 : decode cX5_clear 5 = .ok (.aload_n 0, 1) := by decide +kernel
theorem dX5_clear_6 : decode cX5_clear 6 = .ok (.iconst (-1), 1) := by decide +kernel
theorem dX5_clear_7 : decode cX5_clear 7 = .ok (.putfield 32, 3) := by decide +kernel
theorem dX5_clear_10 : decode cX5_clear 10 = .ok (.return_, 1) := by decide +kernel
theorem dX5_make_0 : decode cX5_make 0 = .ok (.aload_n 0, 1) := by decide +kernel
theorem dX5_make_1 : decode cX5_make 1 = .ok (.getfield 15, 3) := by decide +kernel
theorem dX5_make_4 : decode cX5_make 4 = .ok (.iload_n 1, 1) := by decide +kernel
theorem dX5_make_5 : decode cX5_make 5 = .ok (.iload_n 2, 1) := by decide +kernel
theorem dX5_make_6 : decode cX5_make 6 = .ok (.iastore, 1) := by decide +kernel
theorem dX5_make_7 : decode cX5_make 7 = .ok (.aload_n 0, 1) := by decide +kernel
theorem dX5_make_8 : decode cX5_make 8 = .ok (.getfield 19, 3) := by decide +kernel
theorem dX5_make_11 : decode cX5_make 11 = .ok (.iload_n 1, 1) := by decide +kernel
theorem dX5_make_12 : decode cX5_make 12 = .ok (.iload_n 3, 1) := by decide +kernel
theorem dX5_make_13 : decode cX5_make 13 = .ok (.iastore, 1) := by decide +kernel
theorem dX5_make_14 : decode cX5_make 14 = .ok (.return_, 1) := by decide +kernel
theorem dX0_add_0 : decode cX0_add 0 = .ok (.aload_n 0, 1) := by decide +kernel
theorem dX0_add_1 : decode cX0_add 1 = .ok (.getfield 33, 3) := by decide +kernel
theorem dX0_add_4 : decode cX0_add 4 = .ok (.sipush 248, 3) := by decide +kernel
theorem dX0_add_7 : decode cX0_add 7 = .ok (.if_icmp .ge 85, 3) := by decide +kernel
theorem dX0_add_92 : decode cX0_add 92 = .ok (.return_, 1) := by decide +kernel
theorem dX0_add_10 : decode cX0_add 10 = .ok (.aload_n 0, 1) := by decide +kernel
theorem dX0_add_11 : decode cX0_add 11 = .ok (.getfield 11, 3) := by decide +kernel
theorem dX0_add_14 : decode cX0_add 14 = .ok (.aload_n 0, 1) := by decide +kernel
theorem dX0_add_15 : decode cX0_add 15 = .ok (.getfield 33, 3) := by decide +kernel
theorem dX0_add_18 : decode cX0_add 18 = .ok (.iload_n 1, 1) := by decide +kernel
theorem dX0_add_19 : decode cX0_add 19 = .ok (.iastore, 1) := by decide +kernel
theorem dX0_add_20 : decode cX0_add 20 = .ok (.aload_n 0, 1) := by decide +kernel
theorem dX0_add_21 : decode cX0_add 21 = .ok (.getfield 15, 3) := by decide +kernel
theorem dX0_add_24 : decode cX0_add 24 = .ok (.aload_n 0, 1) := by decide +kernel
theorem dX0_add_25 : decode cX0_add 25 = .ok (.getfield 33, 3) := by decide +kernel
theorem dX0_add_28 : decode cX0_add 28 = .ok (.iload_n 2, 1) := by decide +kernel
theorem dX0_add_29 : decode cX0_add 29 = .ok (.iastore, 1) := by decide +kernel
theorem dX0_add_30 : decode cX0_add 30 = .ok (.aload_n 0, 1) := by decide +kernel
theorem dX0_add_31 : decode cX0_add 31 = .ok (.getfield 18, 3) := by decide +kernel
theorem dX0_add_34 : decode cX0_add 34 = .ok (.aload_n 0, 1) := by decide +kernel
theorem dX0_add_35 : decode cX0_add 35 = .ok (.getfield 33, 3) := by decide +kernel
theorem dX0_add_38 : decode cX0_add 38 = .ok (.iload_n 3, 1) := by decide +kernel
theorem dX0_add_39 : decode cX0_add 39 = .ok (.iastore, 1) := by decide +kernel
theorem dX0_add_40 : decode cX0_add 40 = .ok (.aload_n 0, 1) := by decide +kernel
theorem dX0_add_41 : decode cX0_add 41 = .ok (.getfield 21, 3) := by decide +kernel
theorem dX0_add_44 : decode cX0_add 44 = .ok (.aload_n 0, 1) := by decide +kernel
theorem dX0_add_45 : decode cX0_add 45 = .ok (.getfield 33, 3) := by decide +kernel
theorem dX0_add_48 : decode cX0_add 48 = .ok (.iload 4, 2) := by decide +kernel
theorem dX0_add_50 : decode cX0_add 50 = .ok (.iastore, 1) := by decide +kernel
theorem dX0_add_51 : decode cX0_add 51 = .ok (.aload_n 0, 1) := by decide +kernel
theorem dX0_add_52 : decode cX0_add 52 = .ok (.getfield 24, 3) := by decide +kernel
theorem dX0_add_55 : decode cX0_add 55 = .ok (.aload_n 0, 1) := by decide +kernel
theorem dX0_add_56 : decode cX0_add 56 = .ok (.getfield 33, 3) := by decide +kernel
theorem dX0_add_59 : decode cX0_add 59 = .ok (.iload 5, 2) := by decide +kernel
theorem dX0_add_61 : decode cX0_add 61 = .ok (.iastore, 1) := by decide +kernel
theorem dX0_add_62 : decode cX0_add 62 = .ok (.aload_n 0, 1) := by decide +kernel
theorem dX0_add_63 : decode cX0_add 63 = .ok (.getfield 27, 3) := by decide +kernel
theorem dX0_add_66 : decode cX0_add 66 = .ok (.aload_n 0, 1) := by decide +kernel
theorem dX0_add_67 : decode cX0_add 67 = .ok (.getfield 33, 3) := by decide +kernel
theorem dX0_add_70 : decode cX0_add 70 = .ok (.iconst (-1), 1) := by decide +kernel
theorem dX0_add_71 : decode cX0_add 71 = .ok (.iastore, 1) := by decide +kernel
theorem dX0_add_72 : decode cX0_add 72 = .ok (.aload_n 0, 1) := by decide +kernel
theorem dX0_add_73 : decode cX0_add 73 = .ok (.getfield 30, 3) := by decide +kernel
theorem dX0_add_76 : decode cX0_add 76 = .ok (.aload_n 0, 1) := by decide +kernel
theorem dX0_add_77 : decode cX0_add 77 = .ok (.getfield 33, 3) := by decide +kernel
theorem dX0_add_80 : decode cX0_add 80 = .ok (.iconst 0, 1) := by decide +kernel
theorem dX0_add_81 : decode cX0_add 81 = .ok (.iastore, 1) := by decide +kernel
theorem dX0_add_82 : decode cX0_add 82 = .ok (.aload_n 0, 1) := by decide +kernel
theorem dX0_add_83 : decode cX0_add 83 = .ok (.dup, 1) := by decide +kernel
theorem dX0_add_84 : decode cX0_add 84 = .ok (.getfield 33, 3) := by decide +kernel
theorem dX0_add_87 : decode cX0_add 87 = .ok (.iconst 1, 1) := by decide +kernel
theorem dX0_add_88 : decode cX0_add 88 = .ok (.iadd, 1) := by decide +kernel
theorem dX0_add_89 : decode cX0_add 89 = .ok (.putfield 33, 3) := by decide +kernel
theorem dX0_addByte_0 : decode cX0_addByte 0 = .ok (.aload_n 0, 1) := by decide +kernel
theorem dX0_addByte_1 : decode cX0_addByte 1 = .ok (.iconst 4, 1) := by decide +kernel
theorem dX0_addByte_2 : decode cX0_addByte 2 = .ok (.iload_n 1, 1) := by decide +kernel
theorem dX0_addByte_3 : decode cX0_addByte 3 = .ok (.sipush 255, 3) := by decide +kernel
theorem dX0_addByte_6 : decode cX0_addByte 6 = .ok (.iand, 1) := by decide +kernel
theorem dX0_addByte_7 : decode cX0_addByte 7 = .ok (.iconst (-1), 1) := by decide +kernel
theorem dX0_addByte_8 : decode cX0_addByte 8 = .ok (.iconst (-1), 1) := by decide +kernel
theorem dX0_addByte_9 : decode cX0_addByte 9 = .ok (.iconst (-1), 1) := by decide +kernel
theorem dX0_addByte_10 : decode cX0_addByte 10 = .ok (.invokevirtual 37, 3) := by decide +kernel
theorem dX0_addByte_13 : decode cX0_addByte 13 = .ok (.return_, 1) := by decide +kernel
set_option maxHeartbeats 4000000 in
set_option maxRecDepth 100000 in
theorem s_X1_begin (l : Launch) (D : va_G) (dA : Nat → ClassId) (t0 : Nat) (a0 : Int32) (i0 : Int32) (i1 : Int32) (c2 : Nat) (i3 : Int32) (c4 : Nat) (i5 : Int32) (i6 : Int32) (m2 : Nat → Int32) (p0 : 0 ≤ i0.toInt ∧ i0.toInt ≤ 1) (p1 : 0 ≤ i3.toInt ∧ i3.toInt ≤ 600) (p2 : ∀ j : Nat, 0 ≤ (m2 j).toInt ∧ (m2 j).toInt ≤ 255) (sz : Nat) : Met l yX1_begin (gws yX1_begin cX1_begin 2 none) (gR 2 0 0) (gPre D dA [.ref t0, .int a0] [(t0, .inr (1, [.int i0, .int i1, .ref c2, .int i3, .ref c4, .int i5, .int i6])), (c2, .inl (dA 0, 1200, .inl m2))] sz) (va_Qv (fun u : Int32 × Int32 × Int32 × (Nat → Int32) => (0 ≤ u.1.toInt ∧ u.1.toInt ≤ 1) ∧ (0 ≤ u.2.2.1.toInt ∧ u.2.2.1.toInt ≤ 600) ∧ (∀ j : Nat, 0 ≤ (u.2.2.2 j).toInt ∧ (u.2.2.2 j).toInt ≤ 255)) (gAt D dA (va_A [(t0, .inr (1, [.int i0, .int i1, .ref c2, .int i3, .ref c4, .int i5, .int i6])), (c2, .inl (dA 0, 1200, .inl m2))] sz) (fun u : Int32 × Int32 × Int32 × (Nat → Int32) => [(t0, .inr (1, [.int u.1, .int u.2.1, .ref c2, .int u.2.2.1, .ref c4, .int i5, .int i6])), (c2, .inl (dA 0, 1200, .inl (u.2.2.2)))])) (va_A [(t0, .inr (1, [.int i0, .int i1, .ref c2, .int i3, .ref c4, .int i5, .int i6])), (c2, .inl (dA 0, 1200, .inl m2))] sz)) 0 0 (va_A [(t0, .inr (1, [.int i0, .int i1, .ref c2, .int i3, .ref c4, .int i5, .int i6])), (c2, .inl (dA 0, 1200, .inl m2))] sz) := by
  refine Met.ofW (cc := cX1_begin) (maxL := 2) (ret := none) (by decide) rfl ?_
  intro p e s m args below meth c s₁ B hml hv
  obtain ⟨rfl, hsz, hP, hK, hD0⟩ := hv
  have hx := B.exec
  have hb := B.bytes
  have hr := B.returns
  have hts := atoms_spec (ws := gws yX1_begin cX1_begin 2 none) B.pre
  have hg : ∀ w ∈ gw, w.before _ s = true := fun w h => hts w (List.mem_cons_of_mem _ h)
  have hown : s.vm.findClass RX1 = some m.cls := findClass_of_methodNamed B.named
  have hlocks := B.notSynchronized
  subst hsz
  have hD := hD0.self (sz := s.heap.size)
  generalize hAe : va_A [(t0, .inr (1, [.int i0, .int i1, .ref c2, .int i3, .ref c4, .int i5, .int i6])), (c2, .inl (dA 0, 1200, .inl m2))] s.heap.size = A at hD ⊢
  have hA : ∀ q : Nat, s.heap.size ≤ q → A q := fun q h => by rw [← hAe]; exact Or.inr h
  have hS : va_S A s.heap s.heap [] := va_S.rf
  have hP : va_P D vwC [(t0, .inr (1, [.int i0, .int i1, .ref c2, .int i3, .ref c4, .int i5, .int i6])), (c2, .inl (dA 0, 1200, .inl m2))] s.heap := hP
  have hl := lv_entry ([.ref t0, .int a0]) (n := 2) (Nat.le_of_ble_eq_true rfl)
  rw [lg_entry_eq]
  generalize (lg_sl ([.ref t0, .int a0]) ++ List.replicate (2 - (lg_sl ([.ref t0, .int a0])).length) Slot.unset).toArray = ls at hl ⊢
  have hl : lv_has ls 2 [(0, .ref t0), (1, .int a0)] := hl
  refine lv_aload_n hx hb dX1_begin_0 rfl (lv_at hl 0 rfl) ?_
  refine lv_iconst (v := 1) hx hb dX1_begin_1 (by decide) ?_
  refine g_put (w' := [(t0, .inr (1, [.int 1, .int i1, .ref c2, .int i3, .ref c4, .int i5, .int i6])), (c2, .inl (dA 0, 1200, .inl m2))]) hx hb hg hown hK hP hD hS 0 rfl rfl inX1 tyX1_ok nmX1 0 (by decide) q511 rfl rfl rfl (Nat.le_of_ble_eq_true rfl) rfl dX1_begin_2 (fun H locs hP hD hS => ?_)
  refine lv_aload_n hx hb dX1_begin_5 rfl (lv_at hl 0 rfl) ?_
  refine lv_iload_n hx hb dX1_begin_6 rfl (lv_at hl 1 rfl) ?_
  refine g_put (w' := [(t0, .inr (1, [.int 1, .int a0, .ref c2, .int i3, .ref c4, .int i5, .int i6])), (c2, .inl (dA 0, 1200, .inl m2))]) hx hb hg hown hK hP hD hS 0 rfl rfl inX1 tyX1_ok nmX1 1 (by decide) q513 rfl rfl rfl (Nat.le_of_ble_eq_true rfl) rfl dX1_begin_7 (fun H locs hP hD hS => ?_)
  refine lv_aload_n hx hb dX1_begin_10 rfl (lv_at hl 0 rfl) ?_
  refine lv_iconst (v := 0) hx hb dX1_begin_11 (by decide) ?_
  refine g_put (w' := [(t0, .inr (1, [.int 1, .int a0, .ref c2, .int 0, .ref c4, .int i5, .int i6])), (c2, .inl (dA 0, 1200, .inl m2))]) hx hb hg hown hK hP hD hS 0 rfl rfl inX1 tyX1_ok nmX1 3 (by decide) q520 rfl rfl rfl (Nat.le_of_ble_eq_true rfl) rfl dX1_begin_12 (fun H locs hP hD hS => ?_)
  refine lv_aload_n hx hb dX1_begin_15 rfl (lv_at hl 0 rfl) ?_
  refine g_get hx hb hg hown hK hP 0 rfl rfl inX1 2 (by decide) q516 rfl dX1_begin_16 ?_
  refine lv_iconst (v := 0) hx hb dX1_begin_19 (by decide) ?_
  refine g_Sv (n := 2) (As := [.ref c2, .int 0]) (rest := []) (wr := [(t0, .inr (1, [.int 1, .int a0, .ref c2, .int 0, .ref c4, .int i5, .int i6]))]) hx hb hml hg hown hK hP hD hS hA (s_fill_1200 l D dA c2 (0) m2 (by decide) p2 _) [1] [0] rfl (by decide) rfl (by decide) (by decide) q1164 q177 q1337 q1163 (by decide +kernel) ⟨(Nat.le_of_ble_eq_true rfl), (Nat.le_of_ble_eq_true rfl)⟩ rfl hl.1 rfl (Nat.le_of_ble_eq_true rfl) dX1_begin_20 ⟨(Nat.le_of_ble_eq_true rfl), (Nat.le_of_ble_eq_true rfl)⟩ (fun u1 H locs w3 hP hD hS => ?_)
  refine W.widen (k := 0) (n := 0) (Nat.le_of_ble_eq_true rfl) (Nat.le_of_ble_eq_true rfl) ?_
  obtain ⟨f4, rfl⟩ : ∃ z, z = u1 := ⟨_, rfl⟩
  have hP : va_P D vwC [(t0, .inr (1, [.int 1, .int a0, .ref c2, .int 0, .ref c4, .int i5, .int i6])), (c2, .inl (dA 0, 1200, .inl f4))] H := hP
  have hD : va_D A [(t0, .inr (1, [.int 1, .int a0, .ref c2, .int 0, .ref c4, .int i5, .int i6])), (c2, .inl (dA 0, 1200, .inl f4))] := hD
  have g5 := w3
  have g5 : ∀ j : Nat, 0 ≤ (f4 j).toInt ∧ (f4 j).toInt ≤ 255 := g5
  exact g_vret hx hb hr hlocks hK (1, a0, 0, f4) hP hD hS ⟨(show 0 ≤ ((1 : Int32)).toInt ∧ ((1 : Int32)).toInt ≤ 1 from by decide), (show 0 ≤ ((0 : Int32)).toInt ∧ ((0 : Int32)).toInt ≤ 600 from by decide), g5⟩ (Nat.le_of_ble_eq_true rfl) (Nat.le_of_ble_eq_true rfl) dX1_begin_23
set_option maxHeartbeats 4000000 in
set_option maxRecDepth 100000 in
theorem s_X1_addRelocation (l : Launch) (D : va_G) (dA : Nat → ClassId) (t0 : Nat) (a0 : Int32) (i0 : Int32) (i1 : Int32) (c2 : Nat) (i3 : Int32) (c4 : Nat) (i5 : Int32) (i6 : Int32) (m4 : Nat → Int32) (p0 : 0 ≤ i0.toInt ∧ i0.toInt ≤ 1) (p1 : 0 ≤ i3.toInt ∧ i3.toInt ≤ 600) (sz : Nat) : Met l yX1_addRelocation (gws yX1_addRelocation cX1_addRelocation 2 none) (gR 1 0 0) (gPre D dA [.ref t0, .int a0] [(t0, .inr (1, [.int i0, .int i1, .ref c2, .int i3, .ref c4, .int i5, .int i6])), (c4, .inl (dA 0, 600, .inl m4))] sz) (va_Qv (fun u : Int32 × (Nat → Int32) => (0 ≤ u.1.toInt ∧ u.1.toInt ≤ 600)) (gAt D dA (va_A [(t0, .inr (1, [.int i0, .int i1, .ref c2, .int i3, .ref c4, .int i5, .int i6])), (c4, .inl (dA 0, 600, .inl m4))] sz) (fun u : Int32 × (Nat → Int32) => [(t0, .inr (1, [.int i0, .int i1, .ref c2, .int u.1, .ref c4, .int i5, .int i6])), (c4, .inl (dA 0, 600, .inl (u.2)))])) (va_A [(t0, .inr (1, [.int i0, .int i1, .ref c2, .int i3, .ref c4, .int i5, .int i6])), (c4, .inl (dA 0, 600, .inl m4))] sz)) 0 0 (va_A [(t0, .inr (1, [.int i0, .int i1, .ref c2, .int i3, .ref c4, .int i5, .int i6])), (c4, .inl (dA 0, 600, .inl m4))] sz) := by
  refine Met.ofW (cc := cX1_addRelocation) (maxL := 2) (ret := none) (by decide) rfl ?_
  intro p e s m args below meth c s₁ B hml hv
  obtain ⟨rfl, hsz, hP, hK, hD0⟩ := hv
  have hx := B.exec
  have hb := B.bytes
  have hr := B.returns
  have hts := atoms_spec (ws := gws yX1_addRelocation cX1_addRelocation 2 none) B.pre
  have hg : ∀ w ∈ gw, w.before _ s = true := fun w h => hts w (List.mem_cons_of_mem _ h)
  have hown : s.vm.findClass RX1 = some m.cls := findClass_of_methodNamed B.named
  have hlocks := B.notSynchronized
  subst hsz
  have hD := hD0.self (sz := s.heap.size)
  generalize hAe : va_A [(t0, .inr (1, [.int i0, .int i1, .ref c2, .int i3, .ref c4, .int i5, .int i6])), (c4, .inl (dA 0, 600, .inl m4))] s.heap.size = A at hD ⊢
  have hA : ∀ q : Nat, s.heap.size ≤ q → A q := fun q h => by rw [← hAe]; exact Or.inr h
  have hS : va_S A s.heap s.heap [] := va_S.rf
  have hP : va_P D vwC [(t0, .inr (1, [.int i0, .int i1, .ref c2, .int i3, .ref c4, .int i5, .int i6])), (c4, .inl (dA 0, 600, .inl m4))] s.heap := hP
  have hl := lv_entry ([.ref t0, .int a0]) (n := 2) (Nat.le_of_ble_eq_true rfl)
  rw [lg_entry_eq]
  generalize (lg_sl ([.ref t0, .int a0]) ++ List.replicate (2 - (lg_sl ([.ref t0, .int a0])).length) Slot.unset).toArray = ls at hl ⊢
  have hl : lv_has ls 2 [(0, .ref t0), (1, .int a0)] := hl
  refine lv_aload_n hx hb dX1_addRelocation_0 rfl (lv_at hl 0 rfl) ?_
  refine g_get hx hb hg hown hK hP 0 rfl rfl inX1 3 (by decide) q520 rfl dX1_addRelocation_1 ?_
  refine lv_sipush (v := 600) hx hb dX1_addRelocation_4 (by decide) ?_
  refine lv_icmp_ge (tgt := 30) hx hb dX1_addRelocation_7 (by decide) (fun k1 => ?_) (fun k1 => ?_)
  · have g2 : 600 ≤ i3.toInt := gi_le (by decide : (600 : Int32).toInt = 600) (rfl : i3.toInt = i3.toInt) k1
    exact g_vret hx hb hr hlocks hK (i3, m4) hP hD hS (show 0 ≤ i3.toInt ∧ i3.toInt ≤ 600 from by omega) (Nat.le_of_ble_eq_true rfl) (Nat.le_of_ble_eq_true rfl) dX1_addRelocation_30
  · have g3 : 600 > i3.toInt := gi_nle (by decide : (600 : Int32).toInt = 600) (rfl : i3.toInt = i3.toInt) k1
    refine lv_aload_n hx hb dX1_addRelocation_10 rfl (lv_at hl 0 rfl) ?_
    refine g_get hx hb hg hown hK hP 0 rfl rfl inX1 4 (by decide) q523 rfl dX1_addRelocation_11 ?_
    refine lv_aload_n hx hb dX1_addRelocation_14 rfl (lv_at hl 0 rfl) ?_
    refine g_get hx hb hg hown hK hP 0 rfl rfl inX1 3 (by decide) q520 rfl dX1_addRelocation_15 ?_
    refine lv_iload_n hx hb dX1_addRelocation_18 rfl (lv_at hl 1 rfl) ?_
    refine va_iast hx hb hK hP hD hS 1 0 rfl rfl (by rw [vp_in_iff]; omega) dX1_addRelocation_19 (fun H locs hP hD hS => ?_)
    have hP : va_P D vwC [(t0, .inr (1, [.int i0, .int i1, .ref c2, .int i3, .ref c4, .int i5, .int i6])), (c4, .inl (dA 0, 600, .inl (upd m4 (i3 : Int32).toNatClampNeg a0)))] H := hP
    have hD : va_D A [(t0, .inr (1, [.int i0, .int i1, .ref c2, .int i3, .ref c4, .int i5, .int i6])), (c4, .inl (dA 0, 600, .inl (upd m4 (i3 : Int32).toNatClampNeg a0)))] := hD
    obtain ⟨f4, ef4⟩ : ∃ f : Nat → Int32, f = (upd m4 (i3 : Int32).toNatClampNeg a0) := ⟨_, rfl⟩
    rw [← ef4] at hP hD
    refine lv_aload_n hx hb dX1_addRelocation_20 rfl (lv_at hl 0 rfl) ?_
    refine lv_dup hx hb dX1_addRelocation_21 rfl ?_
    refine g_get hx hb hg hown hK hP 0 rfl rfl inX1 3 (by decide) q520 rfl dX1_addRelocation_22 ?_
    refine lv_iconst (v := 1) hx hb dX1_addRelocation_25 (by decide) ?_
    refine lv_iadd hx hb dX1_addRelocation_26 ?_
    refine lv_topi (fun x5 e6 => ?_)
    have g7 : x5.toInt = i3.toInt + 1 := g_add e6 rfl (by decide) (by omega) (by omega)
    refine g_put (w' := [(t0, .inr (1, [.int i0, .int i1, .ref c2, .int x5, .ref c4, .int i5, .int i6])), (c4, .inl (dA 0, 600, .inl f4))]) hx hb hg hown hK hP hD hS 0 rfl rfl inX1 tyX1_ok nmX1 3 (by decide) q520 rfl rfl rfl (Nat.le_of_ble_eq_true rfl) rfl dX1_addRelocation_27 (fun H locs hP hD hS => ?_)
    exact g_vret hx hb hr hlocks hK (x5, f4) hP hD hS (show 0 ≤ x5.toInt ∧ x5.toInt ≤ 600 from by omega) (Nat.le_of_ble_eq_true rfl) (Nat.le_of_ble_eq_true rfl) dX1_addRelocation_30
set_option maxHeartbeats 4000000 in
set_option maxRecDepth 100000 in
theorem s_X1_addWord (l : Launch) (D : va_G) (dA : Nat → ClassId) (t0 : Nat) (a0 : Int32) (a1 : Int32) (i0 : Int32) (i1 : Int32) (c2 : Nat) (i3 : Int32) (c4 : Nat) (i5 : Int32) (i6 : Int32) (m2 : Nat → Int32) (p0 : -1000000 ≤ a0.toInt ∧ a0.toInt ≤ 1000000) (p1 : 0 ≤ i0.toInt ∧ i0.toInt ≤ 1) (p2 : 0 ≤ i3.toInt ∧ i3.toInt ≤ 600) (p3 : ∀ j : Nat, 0 ≤ (m2 j).toInt ∧ (m2 j).toInt ≤ 255) (sz : Nat) : Met l yX1_addWord (gws yX1_addWord cX1_addWord 4 none) (gR 1 0 0) (gPre D dA [.ref t0, .int a0, .int a1] [(t0, .inr (1, [.int i0, .int i1, .ref c2, .int i3, .ref c4, .int i5, .int i6])), (c2, .inl (dA 0, 1200, .inl m2))] sz) (va_Qv (fun u : (Nat → Int32) => (∀ j : Nat, 0 ≤ (u j).toInt ∧ (u j).toInt ≤ 255)) (gAt D dA (va_A [(t0, .inr (1, [.int i0, .int i1, .ref c2, .int i3, .ref c4, .int i5, .int i6])), (c2, .inl (dA 0, 1200, .inl m2))] sz) (fun u : (Nat → Int32) => [(t0, .inr (1, [.int i0, .int i1, .ref c2, .int i3, .ref c4, .int i5, .int i6])), (c2, .inl (dA 0, 1200, .inl u))])) (va_A [(t0, .inr (1, [.int i0, .int i1, .ref c2, .int i3, .ref c4, .int i5, .int i6])), (c2, .inl (dA 0, 1200, .inl m2))] sz)) 0 0 (va_A [(t0, .inr (1, [.int i0, .int i1, .ref c2, .int i3, .ref c4, .int i5, .int i6])), (c2, .inl (dA 0, 1200, .inl m2))] sz) := by
  refine Met.ofW (cc := cX1_addWord) (maxL := 4) (ret := none) (by decide) rfl ?_
  intro p e s m args below meth c s₁ B hml hv
  obtain ⟨rfl, hsz, hP, hK, hD0⟩ := hv
  have hx := B.exec
  have hb := B.bytes
  have hr := B.returns
  have hts := atoms_spec (ws := gws yX1_addWord cX1_addWord 4 none) B.pre
  have hg : ∀ w ∈ gw, w.before _ s = true := fun w h => hts w (List.mem_cons_of_mem _ h)
  have hown : s.vm.findClass RX1 = some m.cls := findClass_of_methodNamed B.named
  have hlocks := B.notSynchronized
  subst hsz
  have hD := hD0.self (sz := s.heap.size)
  generalize hAe : va_A [(t0, .inr (1, [.int i0, .int i1, .ref c2, .int i3, .ref c4, .int i5, .int i6])), (c2, .inl (dA 0, 1200, .inl m2))] s.heap.size = A at hD ⊢
  have hA : ∀ q : Nat, s.heap.size ≤ q → A q := fun q h => by rw [← hAe]; exact Or.inr h
  have hS : va_S A s.heap s.heap [] := va_S.rf
  have hP : va_P D vwC [(t0, .inr (1, [.int i0, .int i1, .ref c2, .int i3, .ref c4, .int i5, .int i6])), (c2, .inl (dA 0, 1200, .inl m2))] s.heap := hP
  have hl := lv_entry ([.ref t0, .int a0, .int a1]) (n := 4) (Nat.le_of_ble_eq_true rfl)
  rw [lg_entry_eq]
  generalize (lg_sl ([.ref t0, .int a0, .int a1]) ++ List.replicate (4 - (lg_sl ([.ref t0, .int a0, .int a1])).length) Slot.unset).toArray = ls at hl ⊢
  have hl : lv_has ls 4 [(0, .ref t0), (1, .int a0), (2, .int a1)] := hl
  refine lv_iload_n hx hb dX1_addWord_0 rfl (lv_at hl 1 rfl) ?_
  refine lv_if_lt (tgt := 62) hx hb dX1_addWord_1 (by decide) (fun k1 => ?_) (fun k1 => ?_)
  · have g2 : a0.toInt < 0 := gi_lt (rfl : a0.toInt = a0.toInt) (by decide : (0 : Int32).toInt = 0) k1
    exact g_vret hx hb hr hlocks hK m2 hP hD hS p3 (Nat.le_of_ble_eq_true rfl) (Nat.le_of_ble_eq_true rfl) dX1_addWord_62
  · have g3 : a0.toInt ≥ 0 := gi_nlt (rfl : a0.toInt = a0.toInt) (by decide : (0 : Int32).toInt = 0) k1
    refine lv_iload_n hx hb dX1_addWord_4 rfl (lv_at hl 1 rfl) ?_
    refine lv_iconst (v := 1) hx hb dX1_addWord_5 (by decide) ?_
    refine lv_iadd hx hb dX1_addWord_6 ?_
    refine lv_topi (fun x4 e5 => ?_)
    have g6 : x4.toInt = a0.toInt + 1 := g_add e5 rfl (by decide) (by omega) (by omega)
    refine lv_sipush (v := 1200) hx hb dX1_addWord_7 (by decide) ?_
    refine lv_icmp_ge (tgt := 62) hx hb dX1_addWord_10 (by decide) (fun k7 => ?_) (fun k7 => ?_)
    · have g8 : 1200 ≤ x4.toInt := gi_le (by decide : (1200 : Int32).toInt = 1200) (rfl : x4.toInt = x4.toInt) k7
      exact g_vret hx hb hr hlocks hK m2 hP hD hS p3 (Nat.le_of_ble_eq_true rfl) (Nat.le_of_ble_eq_true rfl) dX1_addWord_62
    · have g9 : 1200 > x4.toInt := gi_nle (by decide : (1200 : Int32).toInt = 1200) (rfl : x4.toInt = x4.toInt) k7
      refine lv_aload_n hx hb dX1_addWord_13 rfl (lv_at hl 0 rfl) ?_
      refine g_get hx hb hg hown hK hP 0 rfl rfl inX1 2 (by decide) q516 rfl dX1_addWord_14 ?_
      refine lv_iload_n hx hb dX1_addWord_17 rfl (lv_at hl 1 rfl) ?_
      refine va_iald hx hb hK hP 1 0 rfl rfl (by rw [vp_in_iff]; omega) dX1_addWord_18 ?_
      refine lv_topi (fun x10 e11 => ?_)
      have g12 : 0 ≤ x10.toInt ∧ x10.toInt ≤ 255 := by rw [e11]; exact p3 _
      refine lv_sipush (v := 256) hx hb dX1_addWord_19 (by decide) ?_
      refine lv_aload_n hx hb dX1_addWord_22 rfl (lv_at hl 0 rfl) ?_
      refine g_get hx hb hg hown hK hP 0 rfl rfl inX1 2 (by decide) q516 rfl dX1_addWord_23 ?_
      refine lv_iload_n hx hb dX1_addWord_26 rfl (lv_at hl 1 rfl) ?_
      refine lv_iconst (v := 1) hx hb dX1_addWord_27 (by decide) ?_
      refine lv_iadd hx hb dX1_addWord_28 ?_
      refine lv_topi (fun x13 e14 => ?_)
      have g15 : x13.toInt = a0.toInt + 1 := g_add e14 rfl (by decide) (by omega) (by omega)
      refine va_iald hx hb hK hP 1 0 rfl rfl (by rw [vp_in_iff]; omega) dX1_addWord_29 ?_
      refine lv_topi (fun x16 e17 => ?_)
      have g18 : 0 ≤ x16.toInt ∧ x16.toInt ≤ 255 := by rw [e17]; exact p3 _
      refine lv_imul hx hb dX1_addWord_30 ?_
      refine lv_topi (fun x19 e20 => ?_)
      have g21 : x19.toInt = 256 * x16.toInt := g_mul e20 (by decide) rfl (by omega) (by omega)
      refine lv_iadd hx hb dX1_addWord_31 ?_
      refine lv_topi (fun x22 e23 => ?_)
      have g24 : x22.toInt = x10.toInt + x19.toInt := g_add e23 rfl rfl (by omega) (by omega)
      refine lv_iload_n hx hb dX1_addWord_32 rfl (lv_at hl 2 rfl) ?_
      refine lv_iadd hx hb dX1_addWord_33 ?_
      have g25 := g_i32 a1
      refine lv_topi (fun x26 e27 => ?_)
      refine lv_istore_n (lv' := [(3, .int x26), (0, .ref t0), (1, .int a0), (2, .int a1)]) hx hb dX1_addWord_34 rfl hl (by decide) rfl (fun ls hl => ?_)
      refine lv_aload_n hx hb dX1_addWord_35 rfl (lv_at hl 1 rfl) ?_
      refine g_get hx hb hg hown hK hP 0 rfl rfl inX1 2 (by decide) q516 rfl dX1_addWord_36 ?_
      refine lv_iload_n hx hb dX1_addWord_39 rfl (lv_at hl 2 rfl) ?_
      refine lv_iload_n hx hb dX1_addWord_40 rfl (lv_at hl 0 rfl) ?_
      refine lv_sipush (v := 255) hx hb dX1_addWord_41 (by decide) ?_
      refine lv_iand hx hb dX1_addWord_44 ?_
      refine lv_topi (fun x28 e29 => ?_)
      have g30 : 0 ≤ x28.toInt ∧ x28.toInt ≤ 255 := g_msk e29 8 (by decide) (by decide) (by decide)
      refine va_iast hx hb hK hP hD hS 1 0 rfl rfl (by rw [vp_in_iff]; omega) dX1_addWord_45 (fun H locs hP hD hS => ?_)
      have hP : va_P D vwC [(t0, .inr (1, [.int i0, .int i1, .ref c2, .int i3, .ref c4, .int i5, .int i6])), (c2, .inl (dA 0, 1200, .inl (upd m2 (a0 : Int32).toNatClampNeg x28)))] H := hP
      have hD : va_D A [(t0, .inr (1, [.int i0, .int i1, .ref c2, .int i3, .ref c4, .int i5, .int i6])), (c2, .inl (dA 0, 1200, .inl (upd m2 (a0 : Int32).toNatClampNeg x28)))] := hD
      obtain ⟨f31, ef31⟩ : ∃ f : Nat → Int32, f = (upd m2 (a0 : Int32).toNatClampNeg x28) := ⟨_, rfl⟩
      rw [← ef31] at hP hD
      have hf31 : ∀ j : Nat, 0 ≤ (f31 j).toInt ∧ (f31 j).toInt ≤ 255 := by rw [ef31]; exact g_updB p3 (by omega) (by omega)
      refine lv_aload_n hx hb dX1_addWord_46 rfl (lv_at hl 1 rfl) ?_
      refine g_get hx hb hg hown hK hP 0 rfl rfl inX1 2 (by decide) q516 rfl dX1_addWord_47 ?_
      refine lv_iload_n hx hb dX1_addWord_50 rfl (lv_at hl 2 rfl) ?_
      refine lv_iconst (v := 1) hx hb dX1_addWord_51 (by decide) ?_
      refine lv_iadd hx hb dX1_addWord_52 ?_
      refine lv_topi (fun x32 e33 => ?_)
      have g34 : x32.toInt = a0.toInt + 1 := g_add e33 rfl (by decide) (by omega) (by omega)
      refine lv_iload_n hx hb dX1_addWord_53 rfl (lv_at hl 0 rfl) ?_
      refine lv_bipush (v := 8) hx hb dX1_addWord_54 (by decide) ?_
      refine lv_ishr hx hb dX1_addWord_56 ?_
      refine lv_topi (fun x35 e36 => ?_)
      have g37 : x35.toInt * 256 ≤ x26.toInt ∧ x26.toInt < x35.toInt * 256 + 256 := g_shr e36 8 (by decide) (by decide) (by decide)
      refine lv_sipush (v := 255) hx hb dX1_addWord_57 (by decide) ?_
      refine lv_iand hx hb dX1_addWord_60 ?_
      refine lv_topi (fun x38 e39 => ?_)
      have g40 : 0 ≤ x38.toInt ∧ x38.toInt ≤ 255 := g_msk e39 8 (by decide) (by decide) (by decide)
      refine va_iast hx hb hK hP hD hS 1 0 rfl rfl (by rw [vp_in_iff]; omega) dX1_addWord_61 (fun H locs hP hD hS => ?_)
      have hP : va_P D vwC [(t0, .inr (1, [.int i0, .int i1, .ref c2, .int i3, .ref c4, .int i5, .int i6])), (c2, .inl (dA 0, 1200, .inl (upd f31 (x32 : Int32).toNatClampNeg x38)))] H := hP
      have hD : va_D A [(t0, .inr (1, [.int i0, .int i1, .ref c2, .int i3, .ref c4, .int i5, .int i6])), (c2, .inl (dA 0, 1200, .inl (upd f31 (x32 : Int32).toNatClampNeg x38)))] := hD
      obtain ⟨f41, ef41⟩ : ∃ f : Nat → Int32, f = (upd f31 (x32 : Int32).toNatClampNeg x38) := ⟨_, rfl⟩
      rw [← ef41] at hP hD
      have hf41 : ∀ j : Nat, 0 ≤ (f41 j).toInt ∧ (f41 j).toInt ≤ 255 := by rw [ef41]; exact g_updB hf31 (by omega) (by omega)
      exact g_vret hx hb hr hlocks hK f41 hP hD hS hf41 (Nat.le_of_ble_eq_true rfl) (Nat.le_of_ble_eq_true rfl) dX1_addWord_62
set_option maxHeartbeats 4000000 in
set_option maxRecDepth 100000 in
theorem s_X6_clear (l : Launch) (D : va_G) (dA : Nat → ClassId) (t0 : Nat) (i0 : Int32) (i1 : Int32) (c2 : Nat) (c3 : Nat) (c4 : Nat) (c5 : Nat) (c6 : Nat) (i7 : Int32) (c8 : Nat) (c9 : Nat) (c10 : Nat) (c11 : Nat) (c12 : Nat) (i13 : Int32) (c14 : Nat) (c15 : Nat) (c16 : Nat) (m6 : Nat → Int32) (p0 : 0 ≤ i0.toInt ∧ i0.toInt ≤ 1) (p1 : 0 ≤ i1.toInt ∧ i1.toInt ≤ 24) (p2 : 0 ≤ i7.toInt ∧ i7.toInt ≤ 200) (p3 : 0 ≤ i13.toInt ∧ i13.toInt ≤ 24) (p4 : ∀ j : Nat, 0 ≤ (m6 j).toInt ∧ (m6 j).toInt ≤ 255) (sz : Nat) : Met l yX6_clear (gws yX6_clear cX6_clear 1 none) (gR 2 0 0) (gPre D dA [.ref t0] [(t0, .inr (6, [.int i0, .int i1, .ref c2, .ref c3, .ref c4, .ref c5, .ref c6, .int i7, .ref c8, .ref c9, .ref c10, .ref c11, .ref c12, .int i13, .ref c14, .ref c15, .ref c16])), (c6, .inl (dA 0, 400, .inl m6))] sz) (va_Qv (fun u : Int32 × Int32 × Int32 × Int32 × (Nat → Int32) => (0 ≤ u.1.toInt ∧ u.1.toInt ≤ 1) ∧ (0 ≤ u.2.1.toInt ∧ u.2.1.toInt ≤ 24) ∧ (0 ≤ u.2.2.1.toInt ∧ u.2.2.1.toInt ≤ 200) ∧ (0 ≤ u.2.2.2.1.toInt ∧ u.2.2.2.1.toInt ≤ 24) ∧ (∀ j : Nat, 0 ≤ (u.2.2.2.2 j).toInt ∧ (u.2.2.2.2 j).toInt ≤ 255)) (gAt D dA (va_A [(t0, .inr (6, [.int i0, .int i1, .ref c2, .ref c3, .ref c4, .ref c5, .ref c6, .int i7, .ref c8, .ref c9, .ref c10, .ref c11, .ref c12, .int i13, .ref c14, .ref c15, .ref c16])), (c6, .inl (dA 0, 400, .inl m6))] sz) (fun u : Int32 × Int32 × Int32 × Int32 × (Nat → Int32) => [(t0, .inr (6, [.int u.1, .int u.2.1, .ref c2, .ref c3, .ref c4, .ref c5, .ref c6, .int u.2.2.1, .ref c8, .ref c9, .ref c10, .ref c11, .ref c12, .int u.2.2.2.1, .ref c14, .ref c15, .ref c16])), (c6, .inl (dA 0, 400, .inl (u.2.2.2.2)))])) (va_A [(t0, .inr (6, [.int i0, .int i1, .ref c2, .ref c3, .ref c4, .ref c5, .ref c6, .int i7, .ref c8, .ref c9, .ref c10, .ref c11, .ref c12, .int i13, .ref c14, .ref c15, .ref c16])), (c6, .inl (dA 0, 400, .inl m6))] sz)) 0 0 (va_A [(t0, .inr (6, [.int i0, .int i1, .ref c2, .ref c3, .ref c4, .ref c5, .ref c6, .int i7, .ref c8, .ref c9, .ref c10, .ref c11, .ref c12, .int i13, .ref c14, .ref c15, .ref c16])), (c6, .inl (dA 0, 400, .inl m6))] sz) := by
  refine Met.ofW (cc := cX6_clear) (maxL := 1) (ret := none) (by decide) rfl ?_
  intro p e s m args below meth c s₁ B hml hv
  obtain ⟨rfl, hsz, hP, hK, hD0⟩ := hv
  have hx := B.exec
  have hb := B.bytes
  have hr := B.returns
  have hts := atoms_spec (ws := gws yX6_clear cX6_clear 1 none) B.pre
  have hg : ∀ w ∈ gw, w.before _ s = true := fun w h => hts w (List.mem_cons_of_mem _ h)
  have hown : s.vm.findClass RX6 = some m.cls := findClass_of_methodNamed B.named
  have hlocks := B.notSynchronized
  subst hsz
  have hD := hD0.self (sz := s.heap.size)
  generalize hAe : va_A [(t0, .inr (6, [.int i0, .int i1, .ref c2, .ref c3, .ref c4, .ref c5, .ref c6, .int i7, .ref c8, .ref c9, .ref c10, .ref c11, .ref c12, .int i13, .ref c14, .ref c15, .ref c16])), (c6, .inl (dA 0, 400, .inl m6))] s.heap.size = A at hD ⊢
  have hA : ∀ q : Nat, s.heap.size ≤ q → A q := fun q h => by rw [← hAe]; exact Or.inr h
  have hS : va_S A s.heap s.heap [] := va_S.rf
  have hP : va_P D vwC [(t0, .inr (6, [.int i0, .int i1, .ref c2, .ref c3, .ref c4, .ref c5, .ref c6, .int i7, .ref c8, .ref c9, .ref c10, .ref c11, .ref c12, .int i13, .ref c14, .ref c15, .ref c16])), (c6, .inl (dA 0, 400, .inl m6))] s.heap := hP
  have hl := lv_entry ([.ref t0]) (n := 1) (Nat.le_of_ble_eq_true rfl)
  rw [lg_entry_eq]
  generalize (lg_sl ([.ref t0]) ++ List.replicate (1 - (lg_sl ([.ref t0])).length) Slot.unset).toArray = ls at hl ⊢
  have hl : lv_has ls 1 [(0, .ref t0)] := hl
  refine lv_aload_n hx hb dX6_clear_0 rfl (lv_at hl 0 rfl) ?_
  refine lv_iconst (v := 0) hx hb dX6_clear_1 (by decide) ?_
  refine g_put (w' := [(t0, .inr (6, [.int 0, .int i1, .ref c2, .ref c3, .ref c4, .ref c5, .ref c6, .int i7, .ref c8, .ref c9, .ref c10, .ref c11, .ref c12, .int i13, .ref c14, .ref c15, .ref c16])), (c6, .inl (dA 0, 400, .inl m6))]) hx hb hg hown hK hP hD hS 0 rfl rfl inX6 tyX6_ok nmX6 0 (by decide) q397 rfl rfl rfl (Nat.le_of_ble_eq_true rfl) rfl dX6_clear_2 (fun H locs hP hD hS => ?_)
  refine lv_aload_n hx hb dX6_clear_5 rfl (lv_at hl 0 rfl) ?_
  refine lv_iconst (v := 0) hx hb dX6_clear_6 (by decide) ?_
  refine g_put (w' := [(t0, .inr (6, [.int 0, .int 0, .ref c2, .ref c3, .ref c4, .ref c5, .ref c6, .int i7, .ref c8, .ref c9, .ref c10, .ref c11, .ref c12, .int i13, .ref c14, .ref c15, .ref c16])), (c6, .inl (dA 0, 400, .inl m6))]) hx hb hg hown hK hP hD hS 0 rfl rfl inX6 tyX6_ok nmX6 1 (by decide) q401 rfl rfl rfl (Nat.le_of_ble_eq_true rfl) rfl dX6_clear_7 (fun H locs hP hD hS => ?_)
  refine lv_aload_n hx hb dX6_clear_10 rfl (lv_at hl 0 rfl) ?_
  refine lv_iconst (v := 0) hx hb dX6_clear_11 (by decide) ?_
  refine g_put (w' := [(t0, .inr (6, [.int 0, .int 0, .ref c2, .ref c3, .ref c4, .ref c5, .ref c6, .int 0, .ref c8, .ref c9, .ref c10, .ref c11, .ref c12, .int i13, .ref c14, .ref c15, .ref c16])), (c6, .inl (dA 0, 400, .inl m6))]) hx hb hg hown hK hP hD hS 0 rfl rfl inX6 tyX6_ok nmX6 7 (by decide) q417 rfl rfl rfl (Nat.le_of_ble_eq_true rfl) rfl dX6_clear_12 (fun H locs hP hD hS => ?_)
  refine lv_aload_n hx hb dX6_clear_15 rfl (lv_at hl 0 rfl) ?_
  refine lv_iconst (v := 0) hx hb dX6_clear_16 (by decide) ?_
  refine g_put (w' := [(t0, .inr (6, [.int 0, .int 0, .ref c2, .ref c3, .ref c4, .ref c5, .ref c6, .int 0, .ref c8, .ref c9, .ref c10, .ref c11, .ref c12, .int 0, .ref c14, .ref c15, .ref c16])), (c6, .inl (dA 0, 400, .inl m6))]) hx hb hg hown hK hP hD hS 0 rfl rfl inX6 tyX6_ok nmX6 13 (by decide) q434 rfl rfl rfl (Nat.le_of_ble_eq_true rfl) rfl dX6_clear_17 (fun H locs hP hD hS => ?_)
  refine lv_aload_n hx hb dX6_clear_20 rfl (lv_at hl 0 rfl) ?_
  refine g_get hx hb hg hown hK hP 0 rfl rfl inX6 6 (by decide) q414 rfl dX6_clear_21 ?_
  refine lv_iconst (v := 0) hx hb dX6_clear_24 (by decide) ?_
  refine g_Sv (n := 2) (As := [.ref c6, .int 0]) (rest := []) (wr := [(t0, .inr (6, [.int 0, .int 0, .ref c2, .ref c3, .ref c4, .ref c5, .ref c6, .int 0, .ref c8, .ref c9, .ref c10, .ref c11, .ref c12, .int 0, .ref c14, .ref c15, .ref c16]))]) hx hb hml hg hown hK hP hD hS hA (s_fill_400 l D dA c6 (0) m6 (by decide) p4 _) [1] [0] rfl (by decide) rfl (by decide) (by decide) q1164 q177 q1198 q1163 (by decide +kernel) ⟨(Nat.le_of_ble_eq_true rfl), (Nat.le_of_ble_eq_true rfl)⟩ rfl hl.1 rfl (Nat.le_of_ble_eq_true rfl) dX6_clear_25 ⟨(Nat.le_of_ble_eq_true rfl), (Nat.le_of_ble_eq_true rfl)⟩ (fun u1 H locs w3 hP hD hS => ?_)
  refine W.widen (k := 0) (n := 0) (Nat.le_of_ble_eq_true rfl) (Nat.le_of_ble_eq_true rfl) ?_
  obtain ⟨f4, rfl⟩ : ∃ z, z = u1 := ⟨_, rfl⟩
  have hP : va_P D vwC [(t0, .inr (6, [.int 0, .int 0, .ref c2, .ref c3, .ref c4, .ref c5, .ref c6, .int 0, .ref c8, .ref c9, .ref c10, .ref c11, .ref c12, .int 0, .ref c14, .ref c15, .ref c16])), (c6, .inl (dA 0, 400, .inl f4))] H := hP
  have hD : va_D A [(t0, .inr (6, [.int 0, .int 0, .ref c2, .ref c3, .ref c4, .ref c5, .ref c6, .int 0, .ref c8, .ref c9, .ref c10, .ref c11, .ref c12, .int 0, .ref c14, .ref c15, .ref c16])), (c6, .inl (dA 0, 400, .inl f4))] := hD
  have g5 := w3
  have g5 : ∀ j : Nat, 0 ≤ (f4 j).toInt ∧ (f4 j).toInt ≤ 255 := g5
  exact g_vret hx hb hr hlocks hK (0, 0, 0, 0, f4) hP hD hS ⟨(show 0 ≤ ((0 : Int32)).toInt ∧ ((0 : Int32)).toInt ≤ 1 from by decide), (show 0 ≤ ((0 : Int32)).toInt ∧ ((0 : Int32)).toInt ≤ 24 from by decide), (show 0 ≤ ((0 : Int32)).toInt ∧ ((0 : Int32)).toInt ≤ 200 from by decide), (show 0 ≤ ((0 : Int32)).toInt ∧ ((0 : Int32)).toInt ≤ 24 from by decide), g5⟩ (Nat.le_of_ble_eq_true rfl) (Nat.le_of_ble_eq_true rfl) dX6_clear_28
set_option maxHeartbeats 4000000 in
set_option maxRecDepth 100000 in
theorem s_X6_addFixup (l : Launch) (D : va_G) (dA : Nat → ClassId) (t0 : Nat) (a0 : Int32) (a1 : Int32) (a2 : Int32) (a3 : Int32) (a4 : Int64) (i0 : Int32) (i1 : Int32) (c2 : Nat) (c3 : Nat) (c4 : Nat) (c5 : Nat) (c6 : Nat) (i7 : Int32) (c8 : Nat) (c9 : Nat) (c10 : Nat) (c11 : Nat) (c12 : Nat) (i13 : Int32) (c14 : Nat) (c15 : Nat) (c16 : Nat) (m8 : Nat → Int32) (m9 : Nat → Int32) (m10 : Nat → Int32) (m11 : Nat → Int32) (m12 : Nat → Int64) (p0 : 0 ≤ i0.toInt ∧ i0.toInt ≤ 1) (p1 : 0 ≤ i1.toInt ∧ i1.toInt ≤ 24) (p2 : 0 ≤ i7.toInt ∧ i7.toInt ≤ 200) (p3 : 0 ≤ i13.toInt ∧ i13.toInt ≤ 24) (sz : Nat) : Met l yX6_addFixup (gws yX6_addFixup cX6_addFixup 7 none) (gR 1 0 0) (gPre D dA [.ref t0, .int a0, .int a1, .int a2, .int a3, .long a4] [(t0, .inr (6, [.int i0, .int i1, .ref c2, .ref c3, .ref c4, .ref c5, .ref c6, .int i7, .ref c8, .ref c9, .ref c10, .ref c11, .ref c12, .int i13, .ref c14, .ref c15, .ref c16])), (c8, .inl (dA 0, 200, .inl m8)), (c9, .inl (dA 0, 200, .inl m9)), (c10, .inl (dA 0, 200, .inl m10)), (c11, .inl (dA 0, 200, .inl m11)), (c12, .inl (dA 1, 200, .inr (.inl m12)))] sz) (va_Qv (fun u : Int32 × (Nat → Int32) × (Nat → Int32) × (Nat → Int32) × (Nat → Int32) × (Nat → Int64) => (0 ≤ u.1.toInt ∧ u.1.toInt ≤ 200)) (gAt D dA (va_A [(t0, .inr (6, [.int i0, .int i1, .ref c2, .ref c3, .ref c4, .ref c5, .ref c6, .int i7, .ref c8, .ref c9, .ref c10, .ref c11, .ref c12, .int i13, .ref c14, .ref c15, .ref c16])), (c8, .inl (dA 0, 200, .inl m8)), (c9, .inl (dA 0, 200, .inl m9)), (c10, .inl (dA 0, 200, .inl m10)), (c11, .inl (dA 0, 200, .inl m11)), (c12, .inl (dA 1, 200, .inr (.inl m12)))] sz) (fun u : Int32 × (Nat → Int32) × (Nat → Int32) × (Nat → Int32) × (Nat → Int32) × (Nat → Int64) => [(t0, .inr (6, [.int i0, .int i1, .ref c2, .ref c3, .ref c4, .ref c5, .ref c6, .int u.1, .ref c8, .ref c9, .ref c10, .ref c11, .ref c12, .int i13, .ref c14, .ref c15, .ref c16])), (c8, .inl (dA 0, 200, .inl (u.2.1))), (c9, .inl (dA 0, 200, .inl (u.2.2.1))), (c10, .inl (dA 0, 200, .inl (u.2.2.2.1))), (c11, .inl (dA 0, 200, .inl (u.2.2.2.2.1))), (c12, .inl (dA 1, 200, .inr (.inl (u.2.2.2.2.2))))])) (va_A [(t0, .inr (6, [.int i0, .int i1, .ref c2, .ref c3, .ref c4, .ref c5, .ref c6, .int i7, .ref c8, .ref c9, .ref c10, .ref c11, .ref c12, .int i13, .ref c14, .ref c15, .ref c16])), (c8, .inl (dA 0, 200, .inl m8)), (c9, .inl (dA 0, 200, .inl m9)), (c10, .inl (dA 0, 200, .inl m10)), (c11, .inl (dA 0, 200, .inl m11)), (c12, .inl (dA 1, 200, .inr (.inl m12)))] sz)) 0 0 (va_A [(t0, .inr (6, [.int i0, .int i1, .ref c2, .ref c3, .ref c4, .ref c5, .ref c6, .int i7, .ref c8, .ref c9, .ref c10, .ref c11, .ref c12, .int i13, .ref c14, .ref c15, .ref c16])), (c8, .inl (dA 0, 200, .inl m8)), (c9, .inl (dA 0, 200, .inl m9)), (c10, .inl (dA 0, 200, .inl m10)), (c11, .inl (dA 0, 200, .inl m11)), (c12, .inl (dA 1, 200, .inr (.inl m12)))] sz) := by
  refine Met.ofW (cc := cX6_addFixup) (maxL := 7) (ret := none) (by decide) rfl ?_
  intro p e s m args below meth c s₁ B hml hv
  obtain ⟨rfl, hsz, hP, hK, hD0⟩ := hv
  have hx := B.exec
  have hb := B.bytes
  have hr := B.returns
  have hts := atoms_spec (ws := gws yX6_addFixup cX6_addFixup 7 none) B.pre
  have hg : ∀ w ∈ gw, w.before _ s = true := fun w h => hts w (List.mem_cons_of_mem _ h)
  have hown : s.vm.findClass RX6 = some m.cls := findClass_of_methodNamed B.named
  have hlocks := B.notSynchronized
  subst hsz
  have hD := hD0.self (sz := s.heap.size)
  generalize hAe : va_A [(t0, .inr (6, [.int i0, .int i1, .ref c2, .ref c3, .ref c4, .ref c5, .ref c6, .int i7, .ref c8, .ref c9, .ref c10, .ref c11, .ref c12, .int i13, .ref c14, .ref c15, .ref c16])), (c8, .inl (dA 0, 200, .inl m8)), (c9, .inl (dA 0, 200, .inl m9)), (c10, .inl (dA 0, 200, .inl m10)), (c11, .inl (dA 0, 200, .inl m11)), (c12, .inl (dA 1, 200, .inr (.inl m12)))] s.heap.size = A at hD ⊢
  have hA : ∀ q : Nat, s.heap.size ≤ q → A q := fun q h => by rw [← hAe]; exact Or.inr h
  have hS : va_S A s.heap s.heap [] := va_S.rf
  have hP : va_P D vwC [(t0, .inr (6, [.int i0, .int i1, .ref c2, .ref c3, .ref c4, .ref c5, .ref c6, .int i7, .ref c8, .ref c9, .ref c10, .ref c11, .ref c12, .int i13, .ref c14, .ref c15, .ref c16])), (c8, .inl (dA 0, 200, .inl m8)), (c9, .inl (dA 0, 200, .inl m9)), (c10, .inl (dA 0, 200, .inl m10)), (c11, .inl (dA 0, 200, .inl m11)), (c12, .inl (dA 1, 200, .inr (.inl m12)))] s.heap := hP
  have hl := lv_entry ([.ref t0, .int a0, .int a1, .int a2, .int a3, .long a4]) (n := 7) (Nat.le_of_ble_eq_true rfl)
  rw [lg_entry_eq]
  generalize (lg_sl ([.ref t0, .int a0, .int a1, .int a2, .int a3, .long a4]) ++ List.replicate (7 - (lg_sl ([.ref t0, .int a0, .int a1, .int a2, .int a3, .long a4])).length) Slot.unset).toArray = ls at hl ⊢
  have hl : lv_has ls 7 [(0, .ref t0), (1, .int a0), (2, .int a1), (3, .int a2), (4, .int a3), (5, .long a4)] := hl
  refine lv_aload_n hx hb dX6_addFixup_0 rfl (lv_at hl 0 rfl) ?_
  refine g_get hx hb hg hown hK hP 0 rfl rfl inX6 7 (by decide) q417 rfl dX6_addFixup_1 ?_
  refine lv_sipush (v := 200) hx hb dX6_addFixup_4 (by decide) ?_
  refine lv_icmp_ge (tgt := 72) hx hb dX6_addFixup_7 (by decide) (fun k1 => ?_) (fun k1 => ?_)
  · have g2 : 200 ≤ i7.toInt := gi_le (by decide : (200 : Int32).toInt = 200) (rfl : i7.toInt = i7.toInt) k1
    exact g_vret hx hb hr hlocks hK (i7, m8, m9, m10, m11, m12) hP hD hS (show 0 ≤ i7.toInt ∧ i7.toInt ≤ 200 from by omega) (Nat.le_of_ble_eq_true rfl) (Nat.le_of_ble_eq_true rfl) dX6_addFixup_72
  · have g3 : 200 > i7.toInt := gi_nle (by decide : (200 : Int32).toInt = 200) (rfl : i7.toInt = i7.toInt) k1
    refine lv_aload_n hx hb dX6_addFixup_10 rfl (lv_at hl 0 rfl) ?_
    refine g_get hx hb hg hown hK hP 0 rfl rfl inX6 8 (by decide) q420 rfl dX6_addFixup_11 ?_
    refine lv_aload_n hx hb dX6_addFixup_14 rfl (lv_at hl 0 rfl) ?_
    refine g_get hx hb hg hown hK hP 0 rfl rfl inX6 7 (by decide) q417 rfl dX6_addFixup_15 ?_
    refine lv_iload_n hx hb dX6_addFixup_18 rfl (lv_at hl 1 rfl) ?_
    refine va_iast hx hb hK hP hD hS 1 0 rfl rfl (by rw [vp_in_iff]; omega) dX6_addFixup_19 (fun H locs hP hD hS => ?_)
    have hP : va_P D vwC [(t0, .inr (6, [.int i0, .int i1, .ref c2, .ref c3, .ref c4, .ref c5, .ref c6, .int i7, .ref c8, .ref c9, .ref c10, .ref c11, .ref c12, .int i13, .ref c14, .ref c15, .ref c16])), (c8, .inl (dA 0, 200, .inl (upd m8 (i7 : Int32).toNatClampNeg a0))), (c9, .inl (dA 0, 200, .inl m9)), (c10, .inl (dA 0, 200, .inl m10)), (c11, .inl (dA 0, 200, .inl m11)), (c12, .inl (dA 1, 200, .inr (.inl m12)))] H := hP
    have hD : va_D A [(t0, .inr (6, [.int i0, .int i1, .ref c2, .ref c3, .ref c4, .ref c5, .ref c6, .int i7, .ref c8, .ref c9, .ref c10, .ref c11, .ref c12, .int i13, .ref c14, .ref c15, .ref c16])), (c8, .inl (dA 0, 200, .inl (upd m8 (i7 : Int32).toNatClampNeg a0))), (c9, .inl (dA 0, 200, .inl m9)), (c10, .inl (dA 0, 200, .inl m10)), (c11, .inl (dA 0, 200, .inl m11)), (c12, .inl (dA 1, 200, .inr (.inl m12)))] := hD
    obtain ⟨f4, ef4⟩ : ∃ f : Nat → Int32, f = (upd m8 (i7 : Int32).toNatClampNeg a0) := ⟨_, rfl⟩
    rw [← ef4] at hP hD
    refine lv_aload_n hx hb dX6_addFixup_20 rfl (lv_at hl 0 rfl) ?_
    refine g_get hx hb hg hown hK hP 0 rfl rfl inX6 9 (by decide) q423 rfl dX6_addFixup_21 ?_
    refine lv_aload_n hx hb dX6_addFixup_24 rfl (lv_at hl 0 rfl) ?_
    refine g_get hx hb hg hown hK hP 0 rfl rfl inX6 7 (by decide) q417 rfl dX6_addFixup_25 ?_
    refine lv_iload_n hx hb dX6_addFixup_28 rfl (lv_at hl 2 rfl) ?_
    refine va_iast hx hb hK hP hD hS 2 0 rfl rfl (by rw [vp_in_iff]; omega) dX6_addFixup_29 (fun H locs hP hD hS => ?_)
    have hP : va_P D vwC [(t0, .inr (6, [.int i0, .int i1, .ref c2, .ref c3, .ref c4, .ref c5, .ref c6, .int i7, .ref c8, .ref c9, .ref c10, .ref c11, .ref c12, .int i13, .ref c14, .ref c15, .ref c16])), (c8, .inl (dA 0, 200, .inl f4)), (c9, .inl (dA 0, 200, .inl (upd m9 (i7 : Int32).toNatClampNeg a1))), (c10, .inl (dA 0, 200, .inl m10)), (c11, .inl (dA 0, 200, .inl m11)), (c12, .inl (dA 1, 200, .inr (.inl m12)))] H := hP
    have hD : va_D A [(t0, .inr (6, [.int i0, .int i1, .ref c2, .ref c3, .ref c4, .ref c5, .ref c6, .int i7, .ref c8, .ref c9, .ref c10, .ref c11, .ref c12, .int i13, .ref c14, .ref c15, .ref c16])), (c8, .inl (dA 0, 200, .inl f4)), (c9, .inl (dA 0, 200, .inl (upd m9 (i7 : Int32).toNatClampNeg a1))), (c10, .inl (dA 0, 200, .inl m10)), (c11, .inl (dA 0, 200, .inl m11)), (c12, .inl (dA 1, 200, .inr (.inl m12)))] := hD
    obtain ⟨f5, ef5⟩ : ∃ f : Nat → Int32, f = (upd m9 (i7 : Int32).toNatClampNeg a1) := ⟨_, rfl⟩
    rw [← ef5] at hP hD
    refine lv_aload_n hx hb dX6_addFixup_30 rfl (lv_at hl 0 rfl) ?_
    refine g_get hx hb hg hown hK hP 0 rfl rfl inX6 10 (by decide) q426 rfl dX6_addFixup_31 ?_
    refine lv_aload_n hx hb dX6_addFixup_34 rfl (lv_at hl 0 rfl) ?_
    refine g_get hx hb hg hown hK hP 0 rfl rfl inX6 7 (by decide) q417 rfl dX6_addFixup_35 ?_
    refine lv_iload_n hx hb dX6_addFixup_38 rfl (lv_at hl 3 rfl) ?_
    refine va_iast hx hb hK hP hD hS 3 0 rfl rfl (by rw [vp_in_iff]; omega) dX6_addFixup_39 (fun H locs hP hD hS => ?_)
    have hP : va_P D vwC [(t0, .inr (6, [.int i0, .int i1, .ref c2, .ref c3, .ref c4, .ref c5, .ref c6, .int i7, .ref c8, .ref c9, .ref c10, .ref c11, .ref c12, .int i13, .ref c14, .ref c15, .ref c16])), (c8, .inl (dA 0, 200, .inl f4)), (c9, .inl (dA 0, 200, .inl f5)), (c10, .inl (dA 0, 200, .inl (upd m10 (i7 : Int32).toNatClampNeg a2))), (c11, .inl (dA 0, 200, .inl m11)), (c12, .inl (dA 1, 200, .inr (.inl m12)))] H := hP
    have hD : va_D A [(t0, .inr (6, [.int i0, .int i1, .ref c2, .ref c3, .ref c4, .ref c5, .ref c6, .int i7, .ref c8, .ref c9, .ref c10, .ref c11, .ref c12, .int i13, .ref c14, .ref c15, .ref c16])), (c8, .inl (dA 0, 200, .inl f4)), (c9, .inl (dA 0, 200, .inl f5)), (c10, .inl (dA 0, 200, .inl (upd m10 (i7 : Int32).toNatClampNeg a2))), (c11, .inl (dA 0, 200, .inl m11)), (c12, .inl (dA 1, 200, .inr (.inl m12)))] := hD
    obtain ⟨f6, ef6⟩ : ∃ f : Nat → Int32, f = (upd m10 (i7 : Int32).toNatClampNeg a2) := ⟨_, rfl⟩
    rw [← ef6] at hP hD
    refine lv_aload_n hx hb dX6_addFixup_40 rfl (lv_at hl 0 rfl) ?_
    refine g_get hx hb hg hown hK hP 0 rfl rfl inX6 11 (by decide) q429 rfl dX6_addFixup_41 ?_
    refine lv_aload_n hx hb dX6_addFixup_44 rfl (lv_at hl 0 rfl) ?_
    refine g_get hx hb hg hown hK hP 0 rfl rfl inX6 7 (by decide) q417 rfl dX6_addFixup_45 ?_
    refine lv_iload hx hb dX6_addFixup_48 (lv_at hl 4 rfl) ?_
    refine va_iast hx hb hK hP hD hS 4 0 rfl rfl (by rw [vp_in_iff]; omega) dX6_addFixup_50 (fun H locs hP hD hS => ?_)
    have hP : va_P D vwC [(t0, .inr (6, [.int i0, .int i1, .ref c2, .ref c3, .ref c4, .ref c5, .ref c6, .int i7, .ref c8, .ref c9, .ref c10, .ref c11, .ref c12, .int i13, .ref c14, .ref c15, .ref c16])), (c8, .inl (dA 0, 200, .inl f4)), (c9, .inl (dA 0, 200, .inl f5)), (c10, .inl (dA 0, 200, .inl f6)), (c11, .inl (dA 0, 200, .inl (upd m11 (i7 : Int32).toNatClampNeg a3))), (c12, .inl (dA 1, 200, .inr (.inl m12)))] H := hP
    have hD : va_D A [(t0, .inr (6, [.int i0, .int i1, .ref c2, .ref c3, .ref c4, .ref c5, .ref c6, .int i7, .ref c8, .ref c9, .ref c10, .ref c11, .ref c12, .int i13, .ref c14, .ref c15, .ref c16])), (c8, .inl (dA 0, 200, .inl f4)), (c9, .inl (dA 0, 200, .inl f5)), (c10, .inl (dA 0, 200, .inl f6)), (c11, .inl (dA 0, 200, .inl (upd m11 (i7 : Int32).toNatClampNeg a3))), (c12, .inl (dA 1, 200, .inr (.inl m12)))] := hD
    obtain ⟨f7, ef7⟩ : ∃ f : Nat → Int32, f = (upd m11 (i7 : Int32).toNatClampNeg a3) := ⟨_, rfl⟩
    rw [← ef7] at hP hD
    refine lv_aload_n hx hb dX6_addFixup_51 rfl (lv_at hl 0 rfl) ?_
    refine g_get hx hb hg hown hK hP 0 rfl rfl inX6 12 (by decide) q432 rfl dX6_addFixup_52 ?_
    refine lv_aload_n hx hb dX6_addFixup_55 rfl (lv_at hl 0 rfl) ?_
    refine g_get hx hb hg hown hK hP 0 rfl rfl inX6 7 (by decide) q417 rfl dX6_addFixup_56 ?_
    refine lv_lload hx hb dX6_addFixup_59 (lv_at hl 5 rfl) ?_
    refine va_last hx hb hK hP hD hS 5 1 rfl rfl (by rw [vp_in_iff]; omega) dX6_addFixup_61 (fun H locs hP hD hS => ?_)
    have hP : va_P D vwC [(t0, .inr (6, [.int i0, .int i1, .ref c2, .ref c3, .ref c4, .ref c5, .ref c6, .int i7, .ref c8, .ref c9, .ref c10, .ref c11, .ref c12, .int i13, .ref c14, .ref c15, .ref c16])), (c8, .inl (dA 0, 200, .inl f4)), (c9, .inl (dA 0, 200, .inl f5)), (c10, .inl (dA 0, 200, .inl f6)), (c11, .inl (dA 0, 200, .inl f7)), (c12, .inl (dA 1, 200, .inr (.inl (vp_updL m12 (i7 : Int32).toNatClampNeg a4))))] H := hP
    have hD : va_D A [(t0, .inr (6, [.int i0, .int i1, .ref c2, .ref c3, .ref c4, .ref c5, .ref c6, .int i7, .ref c8, .ref c9, .ref c10, .ref c11, .ref c12, .int i13, .ref c14, .ref c15, .ref c16])), (c8, .inl (dA 0, 200, .inl f4)), (c9, .inl (dA 0, 200, .inl f5)), (c10, .inl (dA 0, 200, .inl f6)), (c11, .inl (dA 0, 200, .inl f7)), (c12, .inl (dA 1, 200, .inr (.inl (vp_updL m12 (i7 : Int32).toNatClampNeg a4))))] := hD
    obtain ⟨f8, ef8⟩ : ∃ f : Nat → Int64, f = (vp_updL m12 (i7 : Int32).toNatClampNeg a4) := ⟨_, rfl⟩
    rw [← ef8] at hP hD
    refine lv_aload_n hx hb dX6_addFixup_62 rfl (lv_at hl 0 rfl) ?_
    refine lv_dup hx hb dX6_addFixup_63 rfl ?_
    refine g_get hx hb hg hown hK hP 0 rfl rfl inX6 7 (by decide) q417 rfl dX6_addFixup_64 ?_
    refine lv_iconst (v := 1) hx hb dX6_addFixup_67 (by decide) ?_
    refine lv_iadd hx hb dX6_addFixup_68 ?_
    refine lv_topi (fun x9 e10 => ?_)
    have g11 : x9.toInt = i7.toInt + 1 := g_add e10 rfl (by decide) (by omega) (by omega)
    refine g_put (w' := [(t0, .inr (6, [.int i0, .int i1, .ref c2, .ref c3, .ref c4, .ref c5, .ref c6, .int x9, .ref c8, .ref c9, .ref c10, .ref c11, .ref c12, .int i13, .ref c14, .ref c15, .ref c16])), (c8, .inl (dA 0, 200, .inl f4)), (c9, .inl (dA 0, 200, .inl f5)), (c10, .inl (dA 0, 200, .inl f6)), (c11, .inl (dA 0, 200, .inl f7)), (c12, .inl (dA 1, 200, .inr (.inl f8)))]) hx hb hg hown hK hP hD hS 0 rfl rfl inX6 tyX6_ok nmX6 7 (by decide) q417 rfl rfl rfl (Nat.le_of_ble_eq_true rfl) rfl dX6_addFixup_69 (fun H locs hP hD hS => ?_)
    exact g_vret hx hb hr hlocks hK (x9, f4, f5, f6, f7, f8) hP hD hS (show 0 ≤ x9.toInt ∧ x9.toInt ≤ 200 from by omega) (Nat.le_of_ble_eq_true rfl) (Nat.le_of_ble_eq_true rfl) dX6_addFixup_72
set_option maxHeartbeats 4000000 in
set_option maxRecDepth 100000 in
theorem s_X5_clear (l : Launch) (D : va_G) (dA : Nat → ClassId) (t0 : Nat) (c0 : Nat) (c1 : Nat) (c2 : Nat) (c3 : Nat) (c4 : Nat) (i5 : Int32) (i6 : Int32) (p0 : 0 ≤ i5.toInt ∧ i5.toInt ≤ 240) (sz : Nat) : Met l yX5_clear (gws yX5_clear cX5_clear 1 none) (gR 1 0 0) (gPre D dA [.ref t0] [(t0, .inr (5, [.ref c0, .ref c1, .ref c2, .ref c3, .ref c4, .int i5, .int i6]))] sz) (va_Qv (fun u : Int32 × Int32 => (0 ≤ u.1.toInt ∧ u.1.toInt ≤ 240)) (gAt D dA (va_A [(t0, .inr (5, [.ref c0, .ref c1, .ref c2, .ref c3, .ref c4, .int i5, .int i6]))] sz) (fun u : Int32 × Int32 => [(t0, .inr (5, [.ref c0, .ref c1, .ref c2, .ref c3, .ref c4, .int u.1, .int u.2]))])) (va_A [(t0, .inr (5, [.ref c0, .ref c1, .ref c2, .ref c3, .ref c4, .int i5, .int i6]))] sz)) 0 0 (va_A [(t0, .inr (5, [.ref c0, .ref c1, .ref c2, .ref c3, .ref c4, .int i5, .int i6]))] sz) := by
  refine Met.ofW (cc := cX5_clear) (maxL := 1) (ret := none) (by decide) rfl ?_
  intro p e s m args below meth c s₁ B hml hv
  obtain ⟨rfl, hsz, hP, hK, hD0⟩ := hv
  have hx := B.exec
  have hb := B.bytes
  have hr := B.returns
  have hts := atoms_spec (ws := gws yX5_clear cX5_clear 1 none) B.pre
  have hg : ∀ w ∈ gw, w.before _ s = true := fun w h => hts w (List.mem_cons_of_mem _ h)
  have hown : s.vm.findClass RX5 = some m.cls := findClass_of_methodNamed B.named
  have hlocks := B.notSynchronized
  subst hsz
  have hD := hD0.self (sz := s.heap.size)
  generalize hAe : va_A [(t0, .inr (5, [.ref c0, .ref c1, .ref c2, .ref c3, .ref c4, .int i5, .int i6]))] s.heap.size = A at hD ⊢
  have hA : ∀ q : Nat, s.heap.size ≤ q → A q := fun q h => by rw [← hAe]; exact Or.inr h
  have hS : va_S A s.heap s.heap [] := va_S.rf
  have hP : va_P D vwC [(t0, .inr (5, [.ref c0, .ref c1, .ref c2, .ref c3, .ref c4, .int i5, .int i6]))] s.heap := hP
  have hl := lv_entry ([.ref t0]) (n := 1) (Nat.le_of_ble_eq_true rfl)
  rw [lg_entry_eq]
  generalize (lg_sl ([.ref t0]) ++ List.replicate (1 - (lg_sl ([.ref t0])).length) Slot.unset).toArray = ls at hl ⊢
  have hl : lv_has ls 1 [(0, .ref t0)] := hl
  refine lv_aload_n hx hb dX5_clear_0 rfl (lv_at hl 0 rfl) ?_
  refine lv_iconst (v := 0) hx hb dX5_clear_1 (by decide) ?_
  refine g_put (w' := [(t0, .inr (5, [.ref c0, .ref c1, .ref c2, .ref c3, .ref c4, .int 0, .int i6]))]) hx hb hg hown hK hP hD hS 0 rfl rfl inX5 tyX5_ok nmX5 5 (by decide) q204 rfl rfl rfl (Nat.le_of_ble_eq_true rfl) rfl dX5_clear_2 (fun H locs hP hD hS => ?_)
  refine lv_aload_n hx hb dX5_clear_5 rfl (lv_at hl 0 rfl) ?_
  refine lv_iconst (v := (-1)) hx hb dX5_clear_6 (by decide) ?_
  refine g_put (w' := [(t0, .inr (5, [.ref c0, .ref c1, .ref c2, .ref c3, .ref c4, .int 0, .int (-1)]))]) hx hb hg hown hK hP hD hS 0 rfl rfl inX5 tyX5_ok nmX5 6 (by decide) q205 rfl rfl rfl (Nat.le_of_ble_eq_true rfl) rfl dX5_clear_7 (fun H locs hP hD hS => ?_)
  exact g_vret hx hb hr hlocks hK (0, (-1)) hP hD hS (show 0 ≤ ((0 : Int32)).toInt ∧ ((0 : Int32)).toInt ≤ 240 from by decide) (Nat.le_of_ble_eq_true rfl) (Nat.le_of_ble_eq_true rfl) dX5_clear_10
set_option maxHeartbeats 4000000 in
set_option maxRecDepth 100000 in
theorem s_X5_make (l : Launch) (D : va_G) (dA : Nat → ClassId) (t0 : Nat) (a0 : Int32) (a1 : Int32) (a2 : Int32) (c0 : Nat) (c1 : Nat) (c2 : Nat) (c3 : Nat) (c4 : Nat) (i5 : Int32) (i6 : Int32) (m1 : Nat → Int32) (m2 : Nat → Int32) (p0 : 0 ≤ a0.toInt ∧ a0.toInt ≤ 239) (p1 : 0 ≤ i5.toInt ∧ i5.toInt ≤ 240) (sz : Nat) : Met l yX5_make (gws yX5_make cX5_make 4 none) (gR 1 0 0) (gPre D dA [.ref t0, .int a0, .int a1, .int a2] [(t0, .inr (5, [.ref c0, .ref c1, .ref c2, .ref c3, .ref c4, .int i5, .int i6])), (c1, .inl (dA 0, 240, .inl m1)), (c2, .inl (dA 0, 240, .inl m2))] sz) (va_Qv (fun u : (Nat → Int32) × (Nat → Int32) => True) (gAt D dA (va_A [(t0, .inr (5, [.ref c0, .ref c1, .ref c2, .ref c3, .ref c4, .int i5, .int i6])), (c1, .inl (dA 0, 240, .inl m1)), (c2, .inl (dA 0, 240, .inl m2))] sz) (fun u : (Nat → Int32) × (Nat → Int32) => [(t0, .inr (5, [.ref c0, .ref c1, .ref c2, .ref c3, .ref c4, .int i5, .int i6])), (c1, .inl (dA 0, 240, .inl (u.1))), (c2, .inl (dA 0, 240, .inl (u.2)))])) (va_A [(t0, .inr (5, [.ref c0, .ref c1, .ref c2, .ref c3, .ref c4, .int i5, .int i6])), (c1, .inl (dA 0, 240, .inl m1)), (c2, .inl (dA 0, 240, .inl m2))] sz)) 0 0 (va_A [(t0, .inr (5, [.ref c0, .ref c1, .ref c2, .ref c3, .ref c4, .int i5, .int i6])), (c1, .inl (dA 0, 240, .inl m1)), (c2, .inl (dA 0, 240, .inl m2))] sz) := by
  refine Met.ofW (cc := cX5_make) (maxL := 4) (ret := none) (by decide) rfl ?_
  intro p e s m args below meth c s₁ B hml hv
  obtain ⟨rfl, hsz, hP, hK, hD0⟩ := hv
  have hx := B.exec
  have hb := B.bytes
  have hr := B.returns
  have hts := atoms_spec (ws := gws yX5_make cX5_make 4 none) B.pre
  have hg : ∀ w ∈ gw, w.before _ s = true := fun w h => hts w (List.mem_cons_of_mem _ h)
  have hown : s.vm.findClass RX5 = some m.cls := findClass_of_methodNamed B.named
  have hlocks := B.notSynchronized
  subst hsz
  have hD := hD0.self (sz := s.heap.size)
  generalize hAe : va_A [(t0, .inr (5, [.ref c0, .ref c1, .ref c2, .ref c3, .ref c4, .int i5, .int i6])), (c1, .inl (dA 0, 240, .inl m1)), (c2, .inl (dA 0, 240, .inl m2))] s.heap.size = A at hD ⊢
  have hA : ∀ q : Nat, s.heap.size ≤ q → A q := fun q h => by rw [← hAe]; exact Or.inr h
  have hS : va_S A s.heap s.heap [] := va_S.rf
  have hP : va_P D vwC [(t0, .inr (5, [.ref c0, .ref c1, .ref c2, .ref c3, .ref c4, .int i5, .int i6])), (c1, .inl (dA 0, 240, .inl m1)), (c2, .inl (dA 0, 240, .inl m2))] s.heap := hP
  have hl := lv_entry ([.ref t0, .int a0, .int a1, .int a2]) (n := 4) (Nat.le_of_ble_eq_true rfl)
  rw [lg_entry_eq]
  generalize (lg_sl ([.ref t0, .int a0, .int a1, .int a2]) ++ List.replicate (4 - (lg_sl ([.ref t0, .int a0, .int a1, .int a2])).length) Slot.unset).toArray = ls at hl ⊢
  have hl : lv_has ls 4 [(0, .ref t0), (1, .int a0), (2, .int a1), (3, .int a2)] := hl
  refine lv_aload_n hx hb dX5_make_0 rfl (lv_at hl 0 rfl) ?_
  refine g_get hx hb hg hown hK hP 0 rfl rfl inX5 1 (by decide) q196 rfl dX5_make_1 ?_
  refine lv_iload_n hx hb dX5_make_4 rfl (lv_at hl 1 rfl) ?_
  refine lv_iload_n hx hb dX5_make_5 rfl (lv_at hl 2 rfl) ?_
  refine va_iast hx hb hK hP hD hS 1 0 rfl rfl (by rw [vp_in_iff]; omega) dX5_make_6 (fun H locs hP hD hS => ?_)
  have hP : va_P D vwC [(t0, .inr (5, [.ref c0, .ref c1, .ref c2, .ref c3, .ref c4, .int i5, .int i6])), (c1, .inl (dA 0, 240, .inl (upd m1 (a0 : Int32).toNatClampNeg a1))), (c2, .inl (dA 0, 240, .inl m2))] H := hP
  have hD : va_D A [(t0, .inr (5, [.ref c0, .ref c1, .ref c2, .ref c3, .ref c4, .int i5, .int i6])), (c1, .inl (dA 0, 240, .inl (upd m1 (a0 : Int32).toNatClampNeg a1))), (c2, .inl (dA 0, 240, .inl m2))] := hD
  obtain ⟨f1, ef1⟩ : ∃ f : Nat → Int32, f = (upd m1 (a0 : Int32).toNatClampNeg a1) := ⟨_, rfl⟩
  rw [← ef1] at hP hD
  refine lv_aload_n hx hb dX5_make_7 rfl (lv_at hl 0 rfl) ?_
  refine g_get hx hb hg hown hK hP 0 rfl rfl inX5 2 (by decide) q198 rfl dX5_make_8 ?_
  refine lv_iload_n hx hb dX5_make_11 rfl (lv_at hl 1 rfl) ?_
  refine lv_iload_n hx hb dX5_make_12 rfl (lv_at hl 3 rfl) ?_
  refine va_iast hx hb hK hP hD hS 2 0 rfl rfl (by rw [vp_in_iff]; omega) dX5_make_13 (fun H locs hP hD hS => ?_)
  have hP : va_P D vwC [(t0, .inr (5, [.ref c0, .ref c1, .ref c2, .ref c3, .ref c4, .int i5, .int i6])), (c1, .inl (dA 0, 240, .inl f1)), (c2, .inl (dA 0, 240, .inl (upd m2 (a0 : Int32).toNatClampNeg a2)))] H := hP
  have hD : va_D A [(t0, .inr (5, [.ref c0, .ref c1, .ref c2, .ref c3, .ref c4, .int i5, .int i6])), (c1, .inl (dA 0, 240, .inl f1)), (c2, .inl (dA 0, 240, .inl (upd m2 (a0 : Int32).toNatClampNeg a2)))] := hD
  obtain ⟨f2, ef2⟩ : ∃ f : Nat → Int32, f = (upd m2 (a0 : Int32).toNatClampNeg a2) := ⟨_, rfl⟩
  rw [← ef2] at hP hD
  exact g_vret hx hb hr hlocks hK (f1, f2) hP hD hS trivial (Nat.le_of_ble_eq_true rfl) (Nat.le_of_ble_eq_true rfl) dX5_make_14
set_option maxHeartbeats 4000000 in
set_option maxRecDepth 100000 in
theorem s_X0_add (l : Launch) (D : va_G) (dA : Nat → ClassId) (t0 : Nat) (a0 : Int32) (a1 : Int32) (a2 : Int32) (a3 : Int32) (a4 : Int32) (c0 : Nat) (c1 : Nat) (c2 : Nat) (c3 : Nat) (c4 : Nat) (c5 : Nat) (c6 : Nat) (i7 : Int32) (m0 : Nat → Int32) (m1 : Nat → Int32) (m2 : Nat → Int32) (m3 : Nat → Int32) (m4 : Nat → Int32) (m5 : Nat → Int32) (m6 : Nat → Int32) (p0 : 0 ≤ i7.toInt ∧ i7.toInt ≤ 248) (sz : Nat) : Met l yX0_add (gws yX0_add cX0_add 6 none) (gR 1 0 0) (gPre D dA [.ref t0, .int a0, .int a1, .int a2, .int a3, .int a4] [(t0, .inr (0, [.ref c0, .ref c1, .ref c2, .ref c3, .ref c4, .ref c5, .ref c6, .int i7])), (c0, .inl (dA 0, 248, .inl m0)), (c1, .inl (dA 0, 248, .inl m1)), (c2, .inl (dA 0, 248, .inl m2)), (c3, .inl (dA 0, 248, .inl m3)), (c4, .inl (dA 0, 248, .inl m4)), (c5, .inl (dA 0, 248, .inl m5)), (c6, .inl (dA 0, 248, .inl m6))] sz) (va_Qv (fun u : Int32 × (Nat → Int32) × (Nat → Int32) × (Nat → Int32) × (Nat → Int32) × (Nat → Int32) × (Nat → Int32) × (Nat → Int32) => (0 ≤ u.1.toInt ∧ u.1.toInt ≤ 248)) (gAt D dA (va_A [(t0, .inr (0, [.ref c0, .ref c1, .ref c2, .ref c3, .ref c4, .ref c5, .ref c6, .int i7])), (c0, .inl (dA 0, 248, .inl m0)), (c1, .inl (dA 0, 248, .inl m1)), (c2, .inl (dA 0, 248, .inl m2)), (c3, .inl (dA 0, 248, .inl m3)), (c4, .inl (dA 0, 248, .inl m4)), (c5, .inl (dA 0, 248, .inl m5)), (c6, .inl (dA 0, 248, .inl m6))] sz) (fun u : Int32 × (Nat → Int32) × (Nat → Int32) × (Nat → Int32) × (Nat → Int32) × (Nat → Int32) × (Nat → Int32) × (Nat → Int32) => [(t0, .inr (0, [.ref c0, .ref c1, .ref c2, .ref c3, .ref c4, .ref c5, .ref c6, .int u.1])), (c0, .inl (dA 0, 248, .inl (u.2.1))), (c1, .inl (dA 0, 248, .inl (u.2.2.1))), (c2, .inl (dA 0, 248, .inl (u.2.2.2.1))), (c3, .inl (dA 0, 248, .inl (u.2.2.2.2.1))), (c4, .inl (dA 0, 248, .inl (u.2.2.2.2.2.1))), (c5, .inl (dA 0, 248, .inl (u.2.2.2.2.2.2.1))), (c6, .inl (dA 0, 248, .inl (u.2.2.2.2.2.2.2)))])) (va_A [(t0, .inr (0, [.ref c0, .ref c1, .ref c2, .ref c3, .ref c4, .ref c5, .ref c6, .int i7])), (c0, .inl (dA 0, 248, .inl m0)), (c1, .inl (dA 0, 248, .inl m1)), (c2, .inl (dA 0, 248, .inl m2)), (c3, .inl (dA 0, 248, .inl m3)), (c4, .inl (dA 0, 248, .inl m4)), (c5, .inl (dA 0, 248, .inl m5)), (c6, .inl (dA 0, 248, .inl m6))] sz)) 0 0 (va_A [(t0, .inr (0, [.ref c0, .ref c1, .ref c2, .ref c3, .ref c4, .ref c5, .ref c6, .int i7])), (c0, .inl (dA 0, 248, .inl m0)), (c1, .inl (dA 0, 248, .inl m1)), (c2, .inl (dA 0, 248, .inl m2)), (c3, .inl (dA 0, 248, .inl m3)), (c4, .inl (dA 0, 248, .inl m4)), (c5, .inl (dA 0, 248, .inl m5)), (c6, .inl (dA 0, 248, .inl m6))] sz) := by
  refine Met.ofW (cc := cX0_add) (maxL := 6) (ret := none) (by decide) rfl ?_
  intro p e s m args below meth c s₁ B hml hv
  obtain ⟨rfl, hsz, hP, hK, hD0⟩ := hv
  have hx := B.exec
  have hb := B.bytes
  have hr := B.returns
  have hts := atoms_spec (ws := gws yX0_add cX0_add 6 none) B.pre
  have hg : ∀ w ∈ gw, w.before _ s = true := fun w h => hts w (List.mem_cons_of_mem _ h)
  have hown : s.vm.findClass RX0 = some m.cls := findClass_of_methodNamed B.named
  have hlocks := B.notSynchronized
  subst hsz
  have hD := hD0.self (sz := s.heap.size)
  generalize hAe : va_A [(t0, .inr (0, [.ref c0, .ref c1, .ref c2, .ref c3, .ref c4, .ref c5, .ref c6, .int i7])), (c0, .inl (dA 0, 248, .inl m0)), (c1, .inl (dA 0, 248, .inl m1)), (c2, .inl (dA 0, 248, .inl m2)), (c3, .inl (dA 0, 248, .inl m3)), (c4, .inl (dA 0, 248, .inl m4)), (c5, .inl (dA 0, 248, .inl m5)), (c6, .inl (dA 0, 248, .inl m6))] s.heap.size = A at hD ⊢
  have hA : ∀ q : Nat, s.heap.size ≤ q → A q := fun q h => by rw [← hAe]; exact Or.inr h
  have hS : va_S A s.heap s.heap [] := va_S.rf
  have hP : va_P D vwC [(t0, .inr (0, [.ref c0, .ref c1, .ref c2, .ref c3, .ref c4, .ref c5, .ref c6, .int i7])), (c0, .inl (dA 0, 248, .inl m0)), (c1, .inl (dA 0, 248, .inl m1)), (c2, .inl (dA 0, 248, .inl m2)), (c3, .inl (dA 0, 248, .inl m3)), (c4, .inl (dA 0, 248, .inl m4)), (c5, .inl (dA 0, 248, .inl m5)), (c6, .inl (dA 0, 248, .inl m6))] s.heap := hP
  have hl := lv_entry ([.ref t0, .int a0, .int a1, .int a2, .int a3, .int a4]) (n := 6) (Nat.le_of_ble_eq_true rfl)
  rw [lg_entry_eq]
  generalize (lg_sl ([.ref t0, .int a0, .int a1, .int a2, .int a3, .int a4]) ++ List.replicate (6 - (lg_sl ([.ref t0, .int a0, .int a1, .int a2, .int a3, .int a4])).length) Slot.unset).toArray = ls at hl ⊢
  have hl : lv_has ls 6 [(0, .ref t0), (1, .int a0), (2, .int a1), (3, .int a2), (4, .int a3), (5, .int a4)] := hl
  refine lv_aload_n hx hb dX0_add_0 rfl (lv_at hl 0 rfl) ?_
  refine g_get hx hb hg hown hK hP 0 rfl rfl inX0 7 (by decide) q271 rfl dX0_add_1 ?_
  refine lv_sipush (v := 248) hx hb dX0_add_4 (by decide) ?_
  refine lv_icmp_ge (tgt := 92) hx hb dX0_add_7 (by decide) (fun k1 => ?_) (fun k1 => ?_)
  · have g2 : 248 ≤ i7.toInt := gi_le (by decide : (248 : Int32).toInt = 248) (rfl : i7.toInt = i7.toInt) k1
    exact g_vret hx hb hr hlocks hK (i7, m0, m1, m2, m3, m4, m5, m6) hP hD hS (show 0 ≤ i7.toInt ∧ i7.toInt ≤ 248 from by omega) (Nat.le_of_ble_eq_true rfl) (Nat.le_of_ble_eq_true rfl) dX0_add_92
  · have g3 : 248 > i7.toInt := gi_nle (by decide : (248 : Int32).toInt = 248) (rfl : i7.toInt = i7.toInt) k1
    refine lv_aload_n hx hb dX0_add_10 rfl (lv_at hl 0 rfl) ?_
    refine g_get hx hb hg hown hK hP 0 rfl rfl inX0 0 (by decide) q257 rfl dX0_add_11 ?_
    refine lv_aload_n hx hb dX0_add_14 rfl (lv_at hl 0 rfl) ?_
    refine g_get hx hb hg hown hK hP 0 rfl rfl inX0 7 (by decide) q271 rfl dX0_add_15 ?_
    refine lv_iload_n hx hb dX0_add_18 rfl (lv_at hl 1 rfl) ?_
    refine va_iast hx hb hK hP hD hS 1 0 rfl rfl (by rw [vp_in_iff]; omega) dX0_add_19 (fun H locs hP hD hS => ?_)
    have hP : va_P D vwC [(t0, .inr (0, [.ref c0, .ref c1, .ref c2, .ref c3, .ref c4, .ref c5, .ref c6, .int i7])), (c0, .inl (dA 0, 248, .inl (upd m0 (i7 : Int32).toNatClampNeg a0))), (c1, .inl (dA 0, 248, .inl m1)), (c2, .inl (dA 0, 248, .inl m2)), (c3, .inl (dA 0, 248, .inl m3)), (c4, .inl (dA 0, 248, .inl m4)), (c5, .inl (dA 0, 248, .inl m5)), (c6, .inl (dA 0, 248, .inl m6))] H := hP
    have hD : va_D A [(t0, .inr (0, [.ref c0, .ref c1, .ref c2, .ref c3, .ref c4, .ref c5, .ref c6, .int i7])), (c0, .inl (dA 0, 248, .inl (upd m0 (i7 : Int32).toNatClampNeg a0))), (c1, .inl (dA 0, 248, .inl m1)), (c2, .inl (dA 0, 248, .inl m2)), (c3, .inl (dA 0, 248, .inl m3)), (c4, .inl (dA 0, 248, .inl m4)), (c5, .inl (dA 0, 248, .inl m5)), (c6, .inl (dA 0, 248, .inl m6))] := hD
    obtain ⟨f4, ef4⟩ : ∃ f : Nat → Int32, f = (upd m0 (i7 : Int32).toNatClampNeg a0) := ⟨_, rfl⟩
    rw [← ef4] at hP hD
    refine lv_aload_n hx hb dX0_add_20 rfl (lv_at hl 0 rfl) ?_
    refine g_get hx hb hg hown hK hP 0 rfl rfl inX0 1 (by decide) q259 rfl dX0_add_21 ?_
    refine lv_aload_n hx hb dX0_add_24 rfl (lv_at hl 0 rfl) ?_
    refine g_get hx hb hg hown hK hP 0 rfl rfl inX0 7 (by decide) q271 rfl dX0_add_25 ?_
    refine lv_iload_n hx hb dX0_add_28 rfl (lv_at hl 2 rfl) ?_
    refine va_iast hx hb hK hP hD hS 2 0 rfl rfl (by rw [vp_in_iff]; omega) dX0_add_29 (fun H locs hP hD hS => ?_)
    have hP : va_P D vwC [(t0, .inr (0, [.ref c0, .ref c1, .ref c2, .ref c3, .ref c4, .ref c5, .ref c6, .int i7])), (c0, .inl (dA 0, 248, .inl f4)), (c1, .inl (dA 0, 248, .inl (upd m1 (i7 : Int32).toNatClampNeg a1))), (c2, .inl (dA 0, 248, .inl m2)), (c3, .inl (dA 0, 248, .inl m3)), (c4, .inl (dA 0, 248, .inl m4)), (c5, .inl (dA 0, 248, .inl m5)), (c6, .inl (dA 0, 248, .inl m6))] H := hP
    have hD : va_D A [(t0, .inr (0, [.ref c0, .ref c1, .ref c2, .ref c3, .ref c4, .ref c5, .ref c6, .int i7])), (c0, .inl (dA 0, 248, .inl f4)), (c1, .inl (dA 0, 248, .inl (upd m1 (i7 : Int32).toNatClampNeg a1))), (c2, .inl (dA 0, 248, .inl m2)), (c3, .inl (dA 0, 248, .inl m3)), (c4, .inl (dA 0, 248, .inl m4)), (c5, .inl (dA 0, 248, .inl m5)), (c6, .inl (dA 0, 248, .inl m6))] := hD
    obtain ⟨f5, ef5⟩ : ∃ f : Nat → Int32, f = (upd m1 (i7 : Int32).toNatClampNeg a1) := ⟨_, rfl⟩
    rw [← ef5] at hP hD
    refine lv_aload_n hx hb dX0_add_30 rfl (lv_at hl 0 rfl) ?_
    refine g_get hx hb hg hown hK hP 0 rfl rfl inX0 2 (by decide) q261 rfl dX0_add_31 ?_
    refine lv_aload_n hx hb dX0_add_34 rfl (lv_at hl 0 rfl) ?_
    refine g_get hx hb hg hown hK hP 0 rfl rfl inX0 7 (by decide) q271 rfl dX0_add_35 ?_
    refine lv_iload_n hx hb dX0_add_38 rfl (lv_at hl 3 rfl) ?_
    refine va_iast hx hb hK hP hD hS 3 0 rfl rfl (by rw [vp_in_iff]; omega) dX0_add_39 (fun H locs hP hD hS => ?_)
    have hP : va_P D vwC [(t0, .inr (0, [.ref c0, .ref c1, .ref c2, .ref c3, .ref c4, .ref c5, .ref c6, .int i7])), (c0, .inl (dA 0, 248, .inl f4)), (c1, .inl (dA 0, 248, .inl f5)), (c2, .inl (dA 0, 248, .inl (upd m2 (i7 : Int32).toNatClampNeg a2))), (c3, .inl (dA 0, 248, .inl m3)), (c4, .inl (dA 0, 248, .inl m4)), (c5, .inl (dA 0, 248, .inl m5)), (c6, .inl (dA 0, 248, .inl m6))] H := hP
    have hD : va_D A [(t0, .inr (0, [.ref c0, .ref c1, .ref c2, .ref c3, .ref c4, .ref c5, .ref c6, .int i7])), (c0, .inl (dA 0, 248, .inl f4)), (c1, .inl (dA 0, 248, .inl f5)), (c2, .inl (dA 0, 248, .inl (upd m2 (i7 : Int32).toNatClampNeg a2))), (c3, .inl (dA 0, 248, .inl m3)), (c4, .inl (dA 0, 248, .inl m4)), (c5, .inl (dA 0, 248, .inl m5)), (c6, .inl (dA 0, 248, .inl m6))] := hD
    obtain ⟨f6, ef6⟩ : ∃ f : Nat → Int32, f = (upd m2 (i7 : Int32).toNatClampNeg a2) := ⟨_, rfl⟩
    rw [← ef6] at hP hD
    refine lv_aload_n hx hb dX0_add_40 rfl (lv_at hl 0 rfl) ?_
    refine g_get hx hb hg hown hK hP 0 rfl rfl inX0 3 (by decide) q263 rfl dX0_add_41 ?_
    refine lv_aload_n hx hb dX0_add_44 rfl (lv_at hl 0 rfl) ?_
    refine g_get hx hb hg hown hK hP 0 rfl rfl inX0 7 (by decide) q271 rfl dX0_add_45 ?_
    refine lv_iload hx hb dX0_add_48 (lv_at hl 4 rfl) ?_
    refine va_iast hx hb hK hP hD hS 4 0 rfl rfl (by rw [vp_in_iff]; omega) dX0_add_50 (fun H locs hP hD hS => ?_)
    have hP : va_P D vwC [(t0, .inr (0, [.ref c0, .ref c1, .ref c2, .ref c3, .ref c4, .ref c5, .ref c6, .int i7])), (c0, .inl (dA 0, 248, .inl f4)), (c1, .inl (dA 0, 248, .inl f5)), (c2, .inl (dA 0, 248, .inl f6)), (c3, .inl (dA 0, 248, .inl (upd m3 (i7 : Int32).toNatClampNeg a3))), (c4, .inl (dA 0, 248, .inl m4)), (c5, .inl (dA 0, 248, .inl m5)), (c6, .inl (dA 0, 248, .inl m6))] H := hP
    have hD : va_D A [(t0, .inr (0, [.ref c0, .ref c1, .ref c2, .ref c3, .ref c4, .ref c5, .ref c6, .int i7])), (c0, .inl (dA 0, 248, .inl f4)), (c1, .inl (dA 0, 248, .inl f5)), (c2, .inl (dA 0, 248, .inl f6)), (c3, .inl (dA 0, 248, .inl (upd m3 (i7 : Int32).toNatClampNeg a3))), (c4, .inl (dA 0, 248, .inl m4)), (c5, .inl (dA 0, 248, .inl m5)), (c6, .inl (dA 0, 248, .inl m6))] := hD
    obtain ⟨f7, ef7⟩ : ∃ f : Nat → Int32, f = (upd m3 (i7 : Int32).toNatClampNeg a3) := ⟨_, rfl⟩
    rw [← ef7] at hP hD
    refine lv_aload_n hx hb dX0_add_51 rfl (lv_at hl 0 rfl) ?_
    refine g_get hx hb hg hown hK hP 0 rfl rfl inX0 4 (by decide) q265 rfl dX0_add_52 ?_
    refine lv_aload_n hx hb dX0_add_55 rfl (lv_at hl 0 rfl) ?_
    refine g_get hx hb hg hown hK hP 0 rfl rfl inX0 7 (by decide) q271 rfl dX0_add_56 ?_
    refine lv_iload hx hb dX0_add_59 (lv_at hl 5 rfl) ?_
    refine va_iast hx hb hK hP hD hS 5 0 rfl rfl (by rw [vp_in_iff]; omega) dX0_add_61 (fun H locs hP hD hS => ?_)
    have hP : va_P D vwC [(t0, .inr (0, [.ref c0, .ref c1, .ref c2, .ref c3, .ref c4, .ref c5, .ref c6, .int i7])), (c0, .inl (dA 0, 248, .inl f4)), (c1, .inl (dA 0, 248, .inl f5)), (c2, .inl (dA 0, 248, .inl f6)), (c3, .inl (dA 0, 248, .inl f7)), (c4, .inl (dA 0, 248, .inl (upd m4 (i7 : Int32).toNatClampNeg a4))), (c5, .inl (dA 0, 248, .inl m5)), (c6, .inl (dA 0, 248, .inl m6))] H := hP
    have hD : va_D A [(t0, .inr (0, [.ref c0, .ref c1, .ref c2, .ref c3, .ref c4, .ref c5, .ref c6, .int i7])), (c0, .inl (dA 0, 248, .inl f4)), (c1, .inl (dA 0, 248, .inl f5)), (c2, .inl (dA 0, 248, .inl f6)), (c3, .inl (dA 0, 248, .inl f7)), (c4, .inl (dA 0, 248, .inl (upd m4 (i7 : Int32).toNatClampNeg a4))), (c5, .inl (dA 0, 248, .inl m5)), (c6, .inl (dA 0, 248, .inl m6))] := hD
    obtain ⟨f8, ef8⟩ : ∃ f : Nat → Int32, f = (upd m4 (i7 : Int32).toNatClampNeg a4) := ⟨_, rfl⟩
    rw [← ef8] at hP hD
    refine lv_aload_n hx hb dX0_add_62 rfl (lv_at hl 0 rfl) ?_
    refine g_get hx hb hg hown hK hP 0 rfl rfl inX0 5 (by decide) q267 rfl dX0_add_63 ?_
    refine lv_aload_n hx hb dX0_add_66 rfl (lv_at hl 0 rfl) ?_
    refine g_get hx hb hg hown hK hP 0 rfl rfl inX0 7 (by decide) q271 rfl dX0_add_67 ?_
    refine lv_iconst (v := (-1)) hx hb dX0_add_70 (by decide) ?_
    refine va_iast hx hb hK hP hD hS 6 0 rfl rfl (by rw [vp_in_iff]; omega) dX0_add_71 (fun H locs hP hD hS => ?_)
    have hP : va_P D vwC [(t0, .inr (0, [.ref c0, .ref c1, .ref c2, .ref c3, .ref c4, .ref c5, .ref c6, .int i7])), (c0, .inl (dA 0, 248, .inl f4)), (c1, .inl (dA 0, 248, .inl f5)), (c2, .inl (dA 0, 248, .inl f6)), (c3, .inl (dA 0, 248, .inl f7)), (c4, .inl (dA 0, 248, .inl f8)), (c5, .inl (dA 0, 248, .inl (upd m5 (i7 : Int32).toNatClampNeg (-1)))), (c6, .inl (dA 0, 248, .inl m6))] H := hP
    have hD : va_D A [(t0, .inr (0, [.ref c0, .ref c1, .ref c2, .ref c3, .ref c4, .ref c5, .ref c6, .int i7])), (c0, .inl (dA 0, 248, .inl f4)), (c1, .inl (dA 0, 248, .inl f5)), (c2, .inl (dA 0, 248, .inl f6)), (c3, .inl (dA 0, 248, .inl f7)), (c4, .inl (dA 0, 248, .inl f8)), (c5, .inl (dA 0, 248, .inl (upd m5 (i7 : Int32).toNatClampNeg (-1)))), (c6, .inl (dA 0, 248, .inl m6))] := hD
    obtain ⟨f9, ef9⟩ : ∃ f : Nat → Int32, f = (upd m5 (i7 : Int32).toNatClampNeg (-1)) := ⟨_, rfl⟩
    rw [← ef9] at hP hD
    refine lv_aload_n hx hb dX0_add_72 rfl (lv_at hl 0 rfl) ?_
    refine g_get hx hb hg hown hK hP 0 rfl rfl inX0 6 (by decide) q269 rfl dX0_add_73 ?_
    refine lv_aload_n hx hb dX0_add_76 rfl (lv_at hl 0 rfl) ?_
    refine g_get hx hb hg hown hK hP 0 rfl rfl inX0 7 (by decide) q271 rfl dX0_add_77 ?_
    refine lv_iconst (v := 0) hx hb dX0_add_80 (by decide) ?_
    refine va_iast hx hb hK hP hD hS 7 0 rfl rfl (by rw [vp_in_iff]; omega) dX0_add_81 (fun H locs hP hD hS => ?_)
    have hP : va_P D vwC [(t0, .inr (0, [.ref c0, .ref c1, .ref c2, .ref c3, .ref c4, .ref c5, .ref c6, .int i7])), (c0, .inl (dA 0, 248, .inl f4)), (c1, .inl (dA 0, 248, .inl f5)), (c2, .inl (dA 0, 248, .inl f6)), (c3, .inl (dA 0, 248, .inl f7)), (c4, .inl (dA 0, 248, .inl f8)), (c5, .inl (dA 0, 248, .inl f9)), (c6, .inl (dA 0, 248, .inl (upd m6 (i7 : Int32).toNatClampNeg 0)))] H := hP
    have hD : va_D A [(t0, .inr (0, [.ref c0, .ref c1, .ref c2, .ref c3, .ref c4, .ref c5, .ref c6, .int i7])), (c0, .inl (dA 0, 248, .inl f4)), (c1, .inl (dA 0, 248, .inl f5)), (c2, .inl (dA 0, 248, .inl f6)), (c3, .inl (dA 0, 248, .inl f7)), (c4, .inl (dA 0, 248, .inl f8)), (c5, .inl (dA 0, 248, .inl f9)), (c6, .inl (dA 0, 248, .inl (upd m6 (i7 : Int32).toNatClampNeg 0)))] := hD
    obtain ⟨f10, ef10⟩ : ∃ f : Nat → Int32, f = (upd m6 (i7 : Int32).toNatClampNeg 0) := ⟨_, rfl⟩
    rw [← ef10] at hP hD
    refine lv_aload_n hx hb dX0_add_82 rfl (lv_at hl 0 rfl) ?_
    refine lv_dup hx hb dX0_add_83 rfl ?_
    refine g_get hx hb hg hown hK hP 0 rfl rfl inX0 7 (by decide) q271 rfl dX0_add_84 ?_
    refine lv_iconst (v := 1) hx hb dX0_add_87 (by decide) ?_
    refine lv_iadd hx hb dX0_add_88 ?_
    refine lv_topi (fun x11 e12 => ?_)
    have g13 : x11.toInt = i7.toInt + 1 := g_add e12 rfl (by decide) (by omega) (by omega)
    refine g_put (w' := [(t0, .inr (0, [.ref c0, .ref c1, .ref c2, .ref c3, .ref c4, .ref c5, .ref c6, .int x11])), (c0, .inl (dA 0, 248, .inl f4)), (c1, .inl (dA 0, 248, .inl f5)), (c2, .inl (dA 0, 248, .inl f6)), (c3, .inl (dA 0, 248, .inl f7)), (c4, .inl (dA 0, 248, .inl f8)), (c5, .inl (dA 0, 248, .inl f9)), (c6, .inl (dA 0, 248, .inl f10))]) hx hb hg hown hK hP hD hS 0 rfl rfl inX0 tyX0_ok nmX0 7 (by decide) q271 rfl rfl rfl (Nat.le_of_ble_eq_true rfl) rfl dX0_add_89 (fun H locs hP hD hS => ?_)
    exact g_vret hx hb hr hlocks hK (x11, f4, f5, f6, f7, f8, f9, f10) hP hD hS (show 0 ≤ x11.toInt ∧ x11.toInt ≤ 248 from by omega) (Nat.le_of_ble_eq_true rfl) (Nat.le_of_ble_eq_true rfl) dX0_add_92
set_option maxHeartbeats 4000000 in
set_option maxRecDepth 100000 in
theorem s_X0_addByte (l : Launch) (D : va_G) (dA : Nat → ClassId) (t0 : Nat) (a0 : Int32) (c0 : Nat) (c1 : Nat) (c2 : Nat) (c3 : Nat) (c4 : Nat) (c5 : Nat) (c6 : Nat) (i7 : Int32) (m0 : Nat → Int32) (m1 : Nat → Int32) (m2 : Nat → Int32) (m3 : Nat → Int32) (m4 : Nat → Int32) (m5 : Nat → Int32) (m6 : Nat → Int32) (p0 : 0 ≤ i7.toInt ∧ i7.toInt ≤ 248) (sz : Nat) : Met l yX0_addByte (gws yX0_addByte cX0_addByte 2 none) (gR 2 0 0) (gPre D dA [.ref t0, .int a0] [(t0, .inr (0, [.ref c0, .ref c1, .ref c2, .ref c3, .ref c4, .ref c5, .ref c6, .int i7])), (c0, .inl (dA 0, 248, .inl m0)), (c1, .inl (dA 0, 248, .inl m1)), (c2, .inl (dA 0, 248, .inl m2)), (c3, .inl (dA 0, 248, .inl m3)), (c4, .inl (dA 0, 248, .inl m4)), (c5, .inl (dA 0, 248, .inl m5)), (c6, .inl (dA 0, 248, .inl m6))] sz) (va_Qv (fun u : Int32 × (Nat → Int32) × (Nat → Int32) × (Nat → Int32) × (Nat → Int32) × (Nat → Int32) × (Nat → Int32) × (Nat → Int32) => (0 ≤ u.1.toInt ∧ u.1.toInt ≤ 248)) (gAt D dA (va_A [(t0, .inr (0, [.ref c0, .ref c1, .ref c2, .ref c3, .ref c4, .ref c5, .ref c6, .int i7])), (c0, .inl (dA 0, 248, .inl m0)), (c1, .inl (dA 0, 248, .inl m1)), (c2, .inl (dA 0, 248, .inl m2)), (c3, .inl (dA 0, 248, .inl m3)), (c4, .inl (dA 0, 248, .inl m4)), (c5, .inl (dA 0, 248, .inl m5)), (c6, .inl (dA 0, 248, .inl m6))] sz) (fun u : Int32 × (Nat → Int32) × (Nat → Int32) × (Nat → Int32) × (Nat → Int32) × (Nat → Int32) × (Nat → Int32) × (Nat → Int32) => [(t0, .inr (0, [.ref c0, .ref c1, .ref c2, .ref c3, .ref c4, .ref c5, .ref c6, .int u.1])), (c0, .inl (dA 0, 248, .inl (u.2.1))), (c1, .inl (dA 0, 248, .inl (u.2.2.1))), (c2, .inl (dA 0, 248, .inl (u.2.2.2.1))), (c3, .inl (dA 0, 248, .inl (u.2.2.2.2.1))), (c4, .inl (dA 0, 248, .inl (u.2.2.2.2.2.1))), (c5, .inl (dA 0, 248, .inl (u.2.2.2.2.2.2.1))), (c6, .inl (dA 0, 248, .inl (u.2.2.2.2.2.2.2)))])) (va_A [(t0, .inr (0, [.ref c0, .ref c1, .ref c2, .ref c3, .ref c4, .ref c5, .ref c6, .int i7])), (c0, .inl (dA 0, 248, .inl m0)), (c1, .inl (dA 0, 248, .inl m1)), (c2, .inl (dA 0, 248, .inl m2)), (c3, .inl (dA 0, 248, .inl m3)), (c4, .inl (dA 0, 248, .inl m4)), (c5, .inl (dA 0, 248, .inl m5)), (c6, .inl (dA 0, 248, .inl m6))] sz)) 0 0 (va_A [(t0, .inr (0, [.ref c0, .ref c1, .ref c2, .ref c3, .ref c4, .ref c5, .ref c6, .int i7])), (c0, .inl (dA 0, 248, .inl m0)), (c1, .inl (dA 0, 248, .inl m1)), (c2, .inl (dA 0, 248, .inl m2)), (c3, .inl (dA 0, 248, .inl m3)), (c4, .inl (dA 0, 248, .inl m4)), (c5, .inl (dA 0, 248, .inl m5)), (c6, .inl (dA 0, 248, .inl m6))] sz) := by
  refine Met.ofW (cc := cX0_addByte) (maxL := 2) (ret := none) (by decide) rfl ?_
  intro p e s m args below meth c s₁ B hml hv
  obtain ⟨rfl, hsz, hP, hK, hD0⟩ := hv
  have hx := B.exec
  have hb := B.bytes
  have hr := B.returns
  have hts := atoms_spec (ws := gws yX0_addByte cX0_addByte 2 none) B.pre
  have hg : ∀ w ∈ gw, w.before _ s = true := fun w h => hts w (List.mem_cons_of_mem _ h)
  have hown : s.vm.findClass RX0 = some m.cls := findClass_of_methodNamed B.named
  have hlocks := B.notSynchronized
  subst hsz
  have hD := hD0.self (sz := s.heap.size)
  generalize hAe : va_A [(t0, .inr (0, [.ref c0, .ref c1, .ref c2, .ref c3, .ref c4, .ref c5, .ref c6, .int i7])), (c0, .inl (dA 0, 248, .inl m0)), (c1, .inl (dA 0, 248, .inl m1)), (c2, .inl (dA 0, 248, .inl m2)), (c3, .inl (dA 0, 248, .inl m3)), (c4, .inl (dA 0, 248, .inl m4)), (c5, .inl (dA 0, 248, .inl m5)), (c6, .inl (dA 0, 248, .inl m6))] s.heap.size = A at hD ⊢
  have hA : ∀ q : Nat, s.heap.size ≤ q → A q := fun q h => by rw [← hAe]; exact Or.inr h
  have hS : va_S A s.heap s.heap [] := va_S.rf
  have hP : va_P D vwC [(t0, .inr (0, [.ref c0, .ref c1, .ref c2, .ref c3, .ref c4, .ref c5, .ref c6, .int i7])), (c0, .inl (dA 0, 248, .inl m0)), (c1, .inl (dA 0, 248, .inl m1)), (c2, .inl (dA 0, 248, .inl m2)), (c3, .inl (dA 0, 248, .inl m3)), (c4, .inl (dA 0, 248, .inl m4)), (c5, .inl (dA 0, 248, .inl m5)), (c6, .inl (dA 0, 248, .inl m6))] s.heap := hP
  have hl := lv_entry ([.ref t0, .int a0]) (n := 2) (Nat.le_of_ble_eq_true rfl)
  rw [lg_entry_eq]
  generalize (lg_sl ([.ref t0, .int a0]) ++ List.replicate (2 - (lg_sl ([.ref t0, .int a0])).length) Slot.unset).toArray = ls at hl ⊢
  have hl : lv_has ls 2 [(0, .ref t0), (1, .int a0)] := hl
  refine lv_aload_n hx hb dX0_addByte_0 rfl (lv_at hl 0 rfl) ?_
  refine lv_iconst (v := 4) hx hb dX0_addByte_1 (by decide) ?_
  refine lv_iload_n hx hb dX0_addByte_2 rfl (lv_at hl 1 rfl) ?_
  refine lv_sipush (v := 255) hx hb dX0_addByte_3 (by decide) ?_
  refine lv_iand hx hb dX0_addByte_6 ?_
  refine lv_topi (fun x1 e2 => ?_)
  have g3 : 0 ≤ x1.toInt ∧ x1.toInt ≤ 255 := g_msk e2 8 (by decide) (by decide) (by decide)
  refine lv_iconst (v := (-1)) hx hb dX0_addByte_7 (by decide) ?_
  refine lv_iconst (v := (-1)) hx hb dX0_addByte_8 (by decide) ?_
  refine lv_iconst (v := (-1)) hx hb dX0_addByte_9 (by decide) ?_
  refine g_Vv (n := 5) (As := [.int 4, .int x1, .int (-1), .int (-1), .int (-1)]) (rest := []) (wr := []) hx hb hml hg hown hK hP hD hS hA (s_X0_add l D dA t0 (4) x1 (-1) (-1) (-1) c0 c1 c2 c3 c4 c5 c6 i7 m0 m1 m2 m3 m4 m5 m6 (by omega) _) [0, 1, 2, 3, 4, 5, 6, 7] [] rfl (by decide) rfl (by decide) (by decide) 0 rfl rfl q962 q152 q1024 q960 q961 (by decide +kernel) ⟨(Nat.le_of_ble_eq_true rfl), (Nat.le_of_ble_eq_true rfl)⟩ rfl hl.1 rfl (Nat.le_of_ble_eq_true rfl) dX0_addByte_10 ⟨(Nat.le_of_ble_eq_true rfl), (Nat.le_of_ble_eq_true rfl)⟩ (fun u4 H locs w6 hP hD hS => ?_)
  refine W.widen (k := 0) (n := 0) (Nat.le_of_ble_eq_true rfl) (Nat.le_of_ble_eq_true rfl) ?_
  obtain ⟨x7, f8, f9, f10, f11, f12, f13, f14⟩ := u4
  have hP : va_P D vwC [(t0, .inr (0, [.ref c0, .ref c1, .ref c2, .ref c3, .ref c4, .ref c5, .ref c6, .int x7])), (c0, .inl (dA 0, 248, .inl f8)), (c1, .inl (dA 0, 248, .inl f9)), (c2, .inl (dA 0, 248, .inl f10)), (c3, .inl (dA 0, 248, .inl f11)), (c4, .inl (dA 0, 248, .inl f12)), (c5, .inl (dA 0, 248, .inl f13)), (c6, .inl (dA 0, 248, .inl f14))] H := hP
  have hD : va_D A [(t0, .inr (0, [.ref c0, .ref c1, .ref c2, .ref c3, .ref c4, .ref c5, .ref c6, .int x7])), (c0, .inl (dA 0, 248, .inl f8)), (c1, .inl (dA 0, 248, .inl f9)), (c2, .inl (dA 0, 248, .inl f10)), (c3, .inl (dA 0, 248, .inl f11)), (c4, .inl (dA 0, 248, .inl f12)), (c5, .inl (dA 0, 248, .inl f13)), (c6, .inl (dA 0, 248, .inl f14))] := hD
  have g15 := w6
  have g15 : 0 ≤ x7.toInt ∧ x7.toInt ≤ 248 := g15
  exact g_vret hx hb hr hlocks hK (x7, f8, f9, f10, f11, f12, f13, f14) hP hD hS (show 0 ≤ x7.toInt ∧ x7.toInt ≤ 248 from by omega) (Nat.le_of_ble_eq_true rfl) (Nat.le_of_ble_eq_true rfl) dX0_addByte_13
