theorem q85 : Cond.selects RX11 yX11_wrongAt yX11_wrongAt ∈ gw := gw_in (i := 85) (by decide +kernel) rfl
theorem q130 : Cond.selects RX11 yX11_where yX11_where ∈ gw := gw_in (i := 130) (by decide +kernel) rfl
theorem q160 : Cond.initialized RX11 ∈ gw := gw_in (i := 160) (by decide +kernel) rfl
theorem q1615 : Cond.fieldLink RX11 263 "SegmentBenchModel" "thrown" "I" ∈ gw := gw_in (i := 1615) (by decide +kernel) rfl
theorem q1616 : Cond.fieldLink RX11 7 "SegmentBenchModel" "text" "[I" ∈ gw := gw_in (i := 1616) (by decide +kernel) rfl
theorem q1617 : Cond.fieldLink RX11 266 "SegmentBenchModel" "length" "I" ∈ gw := gw_in (i := 1617) (by decide +kernel) rfl
theorem q1621 : Cond.fieldLink RX11 276 "SegmentBenchModel" "start" "I" ∈ gw := gw_in (i := 1621) (by decide +kernel) rfl
theorem q1623 : Cond.fieldLink RX11 286 "SegmentBenchModel" "word" "J" ∈ gw := gw_in (i := 1623) (by decide +kernel) rfl
theorem q1627 : Cond.fieldLink RX11 120 "SegmentBenchModel" "names" "[J" ∈ gw := gw_in (i := 1627) (by decide +kernel) rfl
theorem q1628 : Cond.fieldLink RX11 123 "SegmentBenchModel" "sort" "[I" ∈ gw := gw_in (i := 1628) (by decide +kernel) rfl
theorem q1632 : Cond.fieldLink RX11 311 "SegmentBenchModel" "nameCount" "I" ∈ gw := gw_in (i := 1632) (by decide +kernel) rfl
theorem q1633 : Cond.fieldLink RX11 308 "SegmentBenchModel" "wrong" "I" ∈ gw := gw_in (i := 1633) (by decide +kernel) rfl
theorem q1689 : Cond.fieldLink RX11 250 "SegmentBenchModel" "memory" "[I" ∈ gw := gw_in (i := 1689) (by decide +kernel) rfl
theorem q1690 : Cond.fieldLink RX11 253 "SegmentBenchModel" "\x72" "[I" ∈ gw := gw_in (i := 1690) (by decide +kernel) rfl
theorem q1695 : Cond.fieldLink RX11 536 "SegmentBenchModel" "ip" "I" ∈ gw := gw_in (i := 1695) (by decide +kernel) rfl
theorem q1907 : Cond.constant RX11 300 (65535) ∈ gw := gw_in (i := 1907) (by decide +kernel) rfl
theorem q1924 : Cond.methodLink RX11 314 yX11_wrongAt ∈ gw := gw_in (i := 1924) (by decide +kernel) rfl
theorem q1926 : Cond.instanceMethod yX11_wrongAt ∈ gw := gw_in (i := 1926) (by decide +kernel) rfl
theorem q1927 : Cond.code yX11_wrongAt cX11_wrongAt 2 none ∈ gw := gw_in (i := 1927) (by decide +kernel) rfl
theorem q2127 : Cond.methodLink RX11 533 yX11_where ∈ gw := gw_in (i := 2127) (by decide +kernel) rfl
theorem q2129 : Cond.instanceMethod yX11_where ∈ gw := gw_in (i := 2129) (by decide +kernel) rfl
theorem q2130 : Cond.code yX11_where cX11_where 3 (some .int) ∈ gw := gw_in (i := 2130) (by decide +kernel) rfl
theorem dX11_thrown_0 : decode cX11_thrown 0 = .ok (.aload_n 0, 1) := by decide +kernel
theorem dX11_thrown_1 : decode cX11_thrown 1 = .ok (.getfield 263, 3) := by decide +kernel
theorem dX11_thrown_4 : decode cX11_thrown 4 = .ok (.ireturn, 1) := by decide +kernel
theorem dX11_raise_0 : decode cX11_raise 0 = .ok (.aload_n 0, 1) := by decide +kernel
theorem dX11_raise_1 : decode cX11_raise 1 = .ok (.iload_n 1, 1) := by decide +kernel
theorem dX11_raise_2 : decode cX11_raise 2 = .ok (.putfield 263, 3) := by decide +kernel
theorem dX11_raise_5 : decode cX11_raise 5 = .ok (.iconst 0, 1) := by decide +kernel
theorem dX11_raise_6 : decode cX11_raise 6 = .ok (.ireturn, 1) := by decide +kernel
theorem dX11_letter_0 : decode cX11_letter 0 = .ok (.iload_n 0, 1) := by decide +kernel
theorem dX11_letter_1 : decode cX11_letter 1 = .ok (.bipush 97, 2) := by decide +kernel
theorem dX11_letter_3 : decode cX11_letter 3 = .ok (.if_icmp .lt 13, 3) := by decide +kernel
theorem dX11_letter_6 : decode cX11_letter 6 = .ok (.iload_n 0, 1) := by decide +kernel
theorem dX11_letter_7 : decode cX11_letter 7 = .ok (.bipush 122, 2) := by decide +kernel
theorem dX11_letter_9 : decode cX11_letter 9 = .ok (.if_icmp .gt 7, 3) := by decide +kernel
theorem dX11_letter_12 : decode cX11_letter 12 = .ok (.iconst 1, 1) := by decide +kernel
theorem dX11_letter_13 : decode cX11_letter 13 = .ok (.goto 4, 3) := by decide +kernel
theorem dX11_letter_16 : decode cX11_letter 16 = .ok (.iconst 0, 1) := by decide +kernel
theorem dX11_letter_17 : decode cX11_letter 17 = .ok (.ireturn, 1) := by decide +kernel
theorem dX11_digit_0 : decode cX11_digit 0 = .ok (.iload_n 0, 1) := by decide +kernel
theorem dX11_digit_1 : decode cX11_digit 1 = .ok (.bipush 48, 2) := by decide +kernel
theorem dX11_digit_3 : decode cX11_digit 3 = .ok (.if_icmp .lt 13, 3) := by decide +kernel
theorem dX11_digit_6 : decode cX11_digit 6 = .ok (.iload_n 0, 1) := by decide +kernel
theorem dX11_digit_7 : decode cX11_digit 7 = .ok (.bipush 57, 2) := by decide +kernel
theorem dX11_digit_9 : decode cX11_digit 9 = .ok (.if_icmp .gt 7, 3) := by decide +kernel
theorem dX11_digit_12 : decode cX11_digit 12 = .ok (.iconst 1, 1) := by decide +kernel
theorem dX11_digit_13 : decode cX11_digit 13 = .ok (.goto 4, 3) := by decide +kernel
theorem dX11_digit_16 : decode cX11_digit 16 = .ok (.iconst 0, 1) := by decide +kernel
theorem dX11_digit_17 : decode cX11_digit 17 = .ok (.ireturn, 1) := by decide +kernel
theorem dX11_charAt_0 : decode cX11_charAt 0 = .ok (.iload_n 1, 1) := by decide +kernel
theorem dX11_charAt_1 : decode cX11_charAt 1 = .ok (.aload_n 0, 1) := by decide +kernel
theorem dX11_charAt_2 : decode cX11_charAt 2 = .ok (.getfield 266, 3) := by decide +kernel
theorem dX11_charAt_5 : decode cX11_charAt 5 = .ok (.if_icmp .ge 12, 3) := by decide +kernel
theorem dX11_charAt_17 : decode cX11_charAt 17 = .ok (.iconst 0, 1) := by decide +kernel
theorem dX11_charAt_8 : decode cX11_charAt 8 = .ok (.aload_n 0, 1) := by decide +kernel
theorem dX11_charAt_9 : decode cX11_charAt 9 = .ok (.getfield 7, 3) := by decide +kernel
theorem dX11_charAt_12 : decode cX11_charAt 12 = .ok (.iload_n 1, 1) := by decide +kernel
theorem dX11_charAt_13 : decode cX11_charAt 13 = .ok (.iaload, 1) := by decide +kernel
theorem dX11_charAt_14 : decode cX11_charAt 14 = .ok (.goto 4, 3) := by decide +kernel
theorem dX11_charAt_18 : decode cX11_charAt 18 = .ok (.ireturn, 1) := by decide +kernel
theorem dX11_wrongAt_0 : decode cX11_wrongAt 0 = .ok (.aload_n 0, 1) := by decide +kernel
theorem dX11_wrongAt_1 : decode cX11_wrongAt 1 = .ok (.getfield 308, 3) := by decide +kernel
theorem dX11_wrongAt_4 : decode cX11_wrongAt 4 = .ok (.ifCond .lt 11, 3) := by decide +kernel
theorem dX11_wrongAt_7 : decode cX11_wrongAt 7 = .ok (.iload_n 1, 1) := by decide +kernel
theorem dX11_wrongAt_8 : decode cX11_wrongAt 8 = .ok (.aload_n 0, 1) := by decide +kernel
theorem dX11_wrongAt_9 : decode cX11_wrongAt 9 = .ok (.getfield 308, 3) := by decide +kernel
theorem dX11_wrongAt_12 : decode cX11_wrongAt 12 = .ok (.if_icmp .ge 8, 3) := by decide +kernel
theorem dX11_wrongAt_15 : decode cX11_wrongAt 15 = .ok (.aload_n 0, 1) := by decide +kernel
theorem dX11_wrongAt_16 : decode cX11_wrongAt 16 = .ok (.iload_n 1, 1) := by decide +kernel
theorem dX11_wrongAt_17 : decode cX11_wrongAt 17 = .ok (.putfield 308, 3) := by decide +kernel
theorem dX11_wrongAt_20 : decode cX11_wrongAt 20 = .ok (.return_, 1) := by decide +kernel
theorem dX11_name_0 : decode cX11_name 0 = .ok (.iconst 0, 1) := by decide +kernel
theorem dX11_name_1 : decode cX11_name 1 = .ok (.istore_n 1, 1) := by decide +kernel
theorem dX11_name_2 : decode cX11_name 2 = .ok (.iload_n 1, 1) := by decide +kernel
theorem dX11_name_3 : decode cX11_name 3 = .ok (.aload_n 0, 1) := by decide +kernel
theorem dX11_name_4 : decode cX11_name 4 = .ok (.getfield 311, 3) := by decide +kernel
theorem dX11_name_7 : decode cX11_name 7 = .ok (.if_icmp .ge 23, 3) := by decide +kernel
theorem dX11_name_10 : decode cX11_name 10 = .ok (.aload_n 0, 1) := by decide +kernel
theorem dX11_name_11 : decode cX11_name 11 = .ok (.getfield 120, 3) := by decide +kernel
theorem dX11_name_14 : decode cX11_name 14 = .ok (.iload_n 1, 1) := by decide +kernel
theorem dX11_name_15 : decode cX11_name 15 = .ok (.laload, 1) := by decide +kernel
theorem dX11_name_16 : decode cX11_name 16 = .ok (.aload_n 0, 1) := by decide +kernel
theorem dX11_name_17 : decode cX11_name 17 = .ok (.getfield 286, 3) := by decide +kernel
theorem dX11_name_20 : decode cX11_name 20 = .ok (.lcmp, 1) := by decide +kernel
theorem dX11_name_21 : decode cX11_name 21 = .ok (.ifCond .eq 9, 3) := by decide +kernel
theorem dX11_name_24 : decode cX11_name 24 = .ok (.iinc 1 1, 3) := by decide +kernel
theorem dX11_name_27 : decode cX11_name 27 = .ok (.goto (-25), 3) := by decide +kernel
theorem dX11_name_30 : decode cX11_name 30 = .ok (.iload_n 1, 1) := by decide +kernel
theorem dX11_name_31 : decode cX11_name 31 = .ok (.aload_n 0, 1) := by decide +kernel
theorem dX11_name_32 : decode cX11_name 32 = .ok (.getfield 311, 3) := by decide +kernel
theorem dX11_name_35 : decode cX11_name 35 = .ok (.if_icmp .ne 47, 3) := by decide +kernel
theorem dX11_name_38 : decode cX11_name 38 = .ok (.aload_n 0, 1) := by decide +kernel
theorem dX11_name_39 : decode cX11_name 39 = .ok (.getfield 120, 3) := by decide +kernel
theorem dX11_name_42 : decode cX11_name 42 = .ok (.iload_n 1, 1) := by decide +kernel
theorem dX11_name_43 : decode cX11_name 43 = .ok (.aload_n 0, 1) := by decide +kernel
theorem dX11_name_44 : decode cX11_name 44 = .ok (.getfield 286, 3) := by decide +kernel
theorem dX11_name_47 : decode cX11_name 47 = .ok (.lastore, 1) := by decide +kernel
theorem dX11_name_48 : decode cX11_name 48 = .ok (.aload_n 0, 1) := by decide +kernel
theorem dX11_name_49 : decode cX11_name 49 = .ok (.getfield 123, 3) := by decide +kernel
theorem dX11_name_52 : decode cX11_name 52 = .ok (.iload_n 1, 1) := by decide +kernel
theorem dX11_name_53 : decode cX11_name 53 = .ok (.iconst 0, 1) := by decide +kernel
theorem dX11_name_54 : decode cX11_name 54 = .ok (.iastore, 1) := by decide +kernel
theorem dX11_name_55 : decode cX11_name 55 = .ok (.aload_n 0, 1) := by decide +kernel
theorem dX11_name_56 : decode cX11_name 56 = .ok (.dup, 1) := by decide +kernel
theorem dX11_name_57 : decode cX11_name 57 = .ok (.getfield 311, 3) := by decide +kernel
theorem dX11_name_60 : decode cX11_name 60 = .ok (.iconst 1, 1) := by decide +kernel
theorem dX11_name_61 : decode cX11_name 61 = .ok (.iadd, 1) := by decide +kernel
theorem dX11_name_62 : decode cX11_name 62 = .ok (.putfield 311, 3) := by decide +kernel
theorem dX11_name_65 : decode cX11_name 65 = .ok (.aload_n 0, 1) := by decide +kernel
theorem dX11_name_66 : decode cX11_name 66 = .ok (.getfield 311, 3) := by decide +kernel
theorem dX11_name_69 : decode cX11_name 69 = .ok (.bipush 24, 2) := by decide +kernel
theorem dX11_name_71 : decode cX11_name 71 = .ok (.if_icmp .le 11, 3) := by decide +kernel
theorem dX11_name_74 : decode cX11_name 74 = .ok (.aload_n 0, 1) := by decide +kernel
theorem dX11_name_75 : decode cX11_name 75 = .ok (.aload_n 0, 1) := by decide +kernel
theorem dX11_name_76 : decode cX11_name 76 = .ok (.getfield 276, 3) := by decide +kernel
theorem dX11_name_79 : decode cX11_name 79 = .ok (.invokevirtual 314, 3) := by decide +kernel
theorem dX11_name_82 : decode cX11_name 82 = .ok (.iload_n 1, 1) := by decide +kernel
theorem dX11_name_83 : decode cX11_name 83 = .ok (.ireturn, 1) := by decide +kernel
theorem dX11_where_0 : decode cX11_where 0 = .ok (.bipush 16, 2) := by decide +kernel
theorem dX11_where_2 : decode cX11_where 2 = .ok (.iload_n 1, 1) := by decide +kernel
theorem dX11_where_3 : decode cX11_where 3 = .ok (.imul, 1) := by decide +kernel
theorem dX11_where_4 : decode cX11_where 4 = .ok (.iload_n 2, 1) := by decide +kernel
theorem dX11_where_5 : decode cX11_where 5 = .ok (.ldc_w 300, 3) := by decide +kernel
theorem dX11_where_8 : decode cX11_where 8 = .ok (.iand, 1) := by decide +kernel
theorem dX11_where_9 : decode cX11_where 9 = .ok (.iadd, 1) := by decide +kernel
theorem dX11_where_10 : decode cX11_where 10 = .ok (.sipush 4095, 3) := by decide +kernel
theorem dX11_where_13 : decode cX11_where 13 = .ok (.iand, 1) := by decide +kernel
theorem dX11_where_14 : decode cX11_where 14 = .ok (.ireturn, 1) := by decide +kernel
theorem dX11_get_0 : decode cX11_get 0 = .ok (.aload_n 0, 1) := by decide +kernel
theorem dX11_get_1 : decode cX11_get 1 = .ok (.getfield 250, 3) := by decide +kernel
theorem dX11_get_4 : decode cX11_get 4 = .ok (.aload_n 0, 1) := by decide +kernel
theorem dX11_get_5 : decode cX11_get 5 = .ok (.iload_n 1, 1) := by decide +kernel
theorem dX11_get_6 : decode cX11_get 6 = .ok (.iload_n 2, 1) := by decide +kernel
theorem dX11_get_7 : decode cX11_get 7 = .ok (.invokevirtual 533, 3) := by decide +kernel
theorem dX11_get_10 : decode cX11_get 10 = .ok (.iaload, 1) := by decide +kernel
theorem dX11_get_11 : decode cX11_get 11 = .ok (.aload_n 0, 1) := by decide +kernel
theorem dX11_get_12 : decode cX11_get 12 = .ok (.getfield 250, 3) := by decide +kernel
theorem dX11_get_15 : decode cX11_get 15 = .ok (.aload_n 0, 1) := by decide +kernel
theorem dX11_get_16 : decode cX11_get 16 = .ok (.iload_n 1, 1) := by decide +kernel
theorem dX11_get_17 : decode cX11_get 17 = .ok (.iload_n 2, 1) := by decide +kernel
theorem dX11_get_18 : decode cX11_get 18 = .ok (.iconst 1, 1) := by decide +kernel
theorem dX11_get_19 : decode cX11_get 19 = .ok (.iadd, 1) := by decide +kernel
theorem dX11_get_20 : decode cX11_get 20 = .ok (.invokevirtual 533, 3) := by decide +kernel
theorem dX11_get_23 : decode cX11_get 23 = .ok (.iaload, 1) := by decide +kernel
theorem dX11_get_24 : decode cX11_get 24 = .ok (.bipush 8, 2) := by decide +kernel
theorem dX11_get_26 : decode cX11_get 26 = .ok (.ishl, 1) := by decide +kernel
theorem dX11_get_27 : decode cX11_get 27 = .ok (.ior, 1) := by decide +kernel
theorem dX11_get_28 : decode cX11_get 28 = .ok (.ireturn, 1) := by decide +kernel
theorem dX11_store_0 : decode cX11_store 0 = .ok (.aload_n 0, 1) := by decide +kernel
theorem dX11_store_1 : decode cX11_store 1 = .ok (.getfield 250, 3) := by decide +kernel
theorem dX11_store_4 : decode cX11_store 4 = .ok (.aload_n 0, 1) := by decide +kernel
theorem dX11_store_5 : decode cX11_store 5 = .ok (.iload_n 1, 1) := by decide +kernel
theorem dX11_store_6 : decode cX11_store 6 = .ok (.iload_n 2, 1) := by decide +kernel
theorem dX11_store_7 : decode cX11_store 7 = .ok (.invokevirtual 533, 3) := by decide +kernel
theorem dX11_store_10 : decode cX11_store 10 = .ok (.iload_n 3, 1) := by decide +kernel
theorem dX11_store_11 : decode cX11_store 11 = .ok (.sipush 255, 3) := by decide +kernel
theorem dX11_store_14 : decode cX11_store 14 = .ok (.iand, 1) := by decide +kernel
theorem dX11_store_15 : decode cX11_store 15 = .ok (.iastore, 1) := by decide +kernel
theorem dX11_store_16 : decode cX11_store 16 = .ok (.aload_n 0, 1) := by decide +kernel
theorem dX11_store_17 : decode cX11_store 17 = .ok (.getfield 250, 3) := by decide +kernel
theorem dX11_store_20 : decode cX11_store 20 = .ok (.aload_n 0, 1) := by decide +kernel
theorem dX11_store_21 : decode cX11_store 21 = .ok (.iload_n 1, 1) := by decide +kernel
theorem dX11_store_22 : decode cX11_store 22 = .ok (.iload_n 2, 1) := by decide +kernel
theorem dX11_store_23 : decode cX11_store 23 = .ok (.iconst 1, 1) := by decide +kernel
theorem dX11_store_24 : decode cX11_store 24 = .ok (.iadd, 1) := by decide +kernel
theorem dX11_store_25 : decode cX11_store 25 = .ok (.invokevirtual 533, 3) := by decide +kernel
theorem dX11_store_28 : decode cX11_store 28 = .ok (.iload_n 3, 1) := by decide +kernel
theorem dX11_store_29 : decode cX11_store 29 = .ok (.bipush 8, 2) := by decide +kernel
theorem dX11_store_31 : decode cX11_store 31 = .ok (.ishr, 1) := by decide +kernel
theorem dX11_store_32 : decode cX11_store 32 = .ok (.sipush 255, 3) := by decide +kernel
theorem dX11_store_35 : decode cX11_store 35 = .ok (.iand, 1) := by decide +kernel
theorem dX11_store_36 : decode cX11_store 36 = .ok (.iastore, 1) := by decide +kernel
theorem dX11_store_37 : decode cX11_store 37 = .ok (.return_, 1) := by decide +kernel
theorem dX11_fetch_0 : decode cX11_fetch 0 = .ok (.aload_n 0, 1) := by decide +kernel
theorem dX11_fetch_1 : decode cX11_fetch 1 = .ok (.getfield 250, 3) := by decide +kernel
theorem dX11_fetch_4 : decode cX11_fetch 4 = .ok (.aload_n 0, 1) := by decide +kernel
theorem dX11_fetch_5 : decode cX11_fetch 5 = .ok (.aload_n 0, 1) := by decide +kernel
theorem dX11_fetch_6 : decode cX11_fetch 6 = .ok (.getfield 253, 3) := by decide +kernel
theorem dX11_fetch_9 : decode cX11_fetch 9 = .ok (.bipush 9, 2) := by decide +kernel
theorem dX11_fetch_11 : decode cX11_fetch 11 = .ok (.iaload, 1) := by decide +kernel
theorem dX11_fetch_12 : decode cX11_fetch 12 = .ok (.aload_n 0, 1) := by decide +kernel
theorem dX11_fetch_13 : decode cX11_fetch 13 = .ok (.getfield 536, 3) := by decide +kernel
theorem dX11_fetch_16 : decode cX11_fetch 16 = .ok (.invokevirtual 533, 3) := by decide +kernel
theorem dX11_fetch_19 : decode cX11_fetch 19 = .ok (.iaload, 1) := by decide +kernel
theorem dX11_fetch_20 : decode cX11_fetch 20 = .ok (.istore_n 1, 1) := by decide +kernel
theorem dX11_fetch_21 : decode cX11_fetch 21 = .ok (.aload_n 0, 1) := by decide +kernel
theorem dX11_fetch_22 : decode cX11_fetch 22 = .ok (.aload_n 0, 1) := by decide +kernel
theorem dX11_fetch_23 : decode cX11_fetch 23 = .ok (.getfield 536, 3) := by decide +kernel
theorem dX11_fetch_26 : decode cX11_fetch 26 = .ok (.iconst 1, 1) := by decide +kernel
theorem dX11_fetch_27 : decode cX11_fetch 27 = .ok (.iadd, 1) := by decide +kernel
theorem dX11_fetch_28 : decode cX11_fetch 28 = .ok (.ldc_w 300, 3) := by decide +kernel
theorem dX11_fetch_31 : decode cX11_fetch 31 = .ok (.iand, 1) := by decide +kernel
theorem dX11_fetch_32 : decode cX11_fetch 32 = .ok (.putfield 536, 3) := by decide +kernel
theorem dX11_fetch_35 : decode cX11_fetch 35 = .ok (.iload_n 1, 1) := by decide +kernel
theorem dX11_fetch_36 : decode cX11_fetch 36 = .ok (.ireturn, 1) := by decide +kernel
def wpX11_thrown (σ : ZS) (Q : Int → ZS → Prop) : Prop := Q (zI σ 0 0) σ
set_option maxHeartbeats 4000000 in
set_option maxRecDepth 100000 in
theorem kX11_thrown (l : Launch) (D : va_G) (dA : Nat → ClassId) (ad : Int → Nat → Nat) (σ : ZS) (Q : Int → ZS → Prop) (sz : Nat) (hw : wpX11_thrown σ Q) : Met l yX11_thrown (gws yX11_thrown cX11_thrown 1 (some .int)) (gR 1 0 0) (gPre D dA [.ref (ad 0 1000)] (zR dA ad σ) sz) (va_Qi (zQi Q) (gAt D dA (va_A (zR dA ad σ) sz) (zR dA ad)) (va_A (zR dA ad σ) sz)) 0 0 (va_A (zR dA ad σ) sz) := by
  refine Met.ofW (cc := cX11_thrown) (maxL := 1) (ret := (some .int)) (by decide) rfl ?_
  intro p e s m args below meth c s₁ B hml hv
  obtain ⟨rfl, hsz, hP, hK, hD0⟩ := hv
  have hx := B.exec
  have hb := B.bytes
  have hr := B.returns
  have hts := atoms_spec (ws := gws yX11_thrown cX11_thrown 1 (some .int)) B.pre
  have hg : ∀ w ∈ gw, w.before _ s = true := fun w h => hts w (List.mem_cons_of_mem _ h)
  have hown : s.vm.findClass RX11 = some m.cls := findClass_of_methodNamed B.named
  have hlocks := B.notSynchronized
  subst hsz
  have hD := hD0.self (sz := s.heap.size)
  generalize hAe : va_A (zR dA ad σ) s.heap.size = A at hD ⊢
  have hA : ∀ q : Nat, s.heap.size ≤ q → A q := fun q h => by rw [← hAe]; exact Or.inr h
  have hS : va_S A s.heap s.heap [] := va_S.rf
  have hl := lv_entry ([.ref (ad 0 1000)]) (n := 1) (Nat.le_of_ble_eq_true rfl)
  rw [lg_entry_eq]
  generalize (lg_sl ([.ref (ad 0 1000)]) ++ List.replicate (1 - (lg_sl ([.ref (ad 0 1000)])).length) Slot.unset).toArray = ls at hl ⊢
  have hl : lv_has ls 1 [(0, .ref (ad 0 1000))] := hl
  have hret : ∀ (v : Int) (σ : ZS) (H : Heap) (locs : List Loc) (ls : Array Slot) (pc : Nat), Q v σ → va_P D vwC (zR dA ad σ) H → va_D A (zR dA ad σ) → va_S A s.heap H locs → decode cX11_thrown pc = .ok (.ireturn, 1) → W p l e (gR 1 0 0) s m #[.ref (ad 0 1000)] below meth c H locs 0 0 (MQ below (va_Qi (zQi Q) (gAt D dA A (zR dA ad)) A) #[.ref (ad 0 1000)] s 0 0 A) (F0 m pc ls [.int (Int32.ofInt v)]) := fun v σ H locs ls pc hw hP hD hS hd => g_iret hx hb hr rfl hlocks hK σ hP hD hS ⟨v, rfl, hw⟩ (Nat.le_of_ble_eq_true rfl) (Nat.le_of_ble_eq_true rfl) hd
  generalize MQ below (va_Qi (zQi Q) (gAt D dA A (zR dA ad)) A) #[.ref (ad 0 1000)] s 0 0 A = QQ at hret ⊢
  unfold wpX11_thrown at hw
  refine lv_aload_n hx hb dX11_thrown_0 rfl (lv_at hl 0 rfl) ?_
  refine zgR0_0 hx hb hg hown hK hP q1615 dX11_thrown_1 ?_
  exact hret (zI σ 0 0) σ _ _ _ _ hw hP hD hS dX11_thrown_4
def wpX11_raise (a1 : Int) (σ : ZS) (Q : Int → ZS → Prop) : Prop := Q 0 (zsI σ 0 0 a1)
set_option maxHeartbeats 4000000 in
set_option maxRecDepth 100000 in
theorem kX11_raise (l : Launch) (D : va_G) (dA : Nat → ClassId) (ad : Int → Nat → Nat) (a1 : Int) (σ : ZS) (Q : Int → ZS → Prop) (sz : Nat) (hw : wpX11_raise a1 σ Q) : Met l yX11_raise (gws yX11_raise cX11_raise 2 (some .int)) (gR 1 0 0) (gPre D dA [.ref (ad 0 1000), .int (Int32.ofInt a1)] (zR dA ad σ) sz) (va_Qi (zQi Q) (gAt D dA (va_A (zR dA ad σ) sz) (zR dA ad)) (va_A (zR dA ad σ) sz)) 0 0 (va_A (zR dA ad σ) sz) := by
  refine Met.ofW (cc := cX11_raise) (maxL := 2) (ret := (some .int)) (by decide) rfl ?_
  intro p e s m args below meth c s₁ B hml hv
  obtain ⟨rfl, hsz, hP, hK, hD0⟩ := hv
  have hx := B.exec
  have hb := B.bytes
  have hr := B.returns
  have hts := atoms_spec (ws := gws yX11_raise cX11_raise 2 (some .int)) B.pre
  have hg : ∀ w ∈ gw, w.before _ s = true := fun w h => hts w (List.mem_cons_of_mem _ h)
  have hown : s.vm.findClass RX11 = some m.cls := findClass_of_methodNamed B.named
  have hlocks := B.notSynchronized
  subst hsz
  have hD := hD0.self (sz := s.heap.size)
  generalize hAe : va_A (zR dA ad σ) s.heap.size = A at hD ⊢
  have hA : ∀ q : Nat, s.heap.size ≤ q → A q := fun q h => by rw [← hAe]; exact Or.inr h
  have hS : va_S A s.heap s.heap [] := va_S.rf
  have hl := lv_entry ([.ref (ad 0 1000), .int (Int32.ofInt a1)]) (n := 2) (Nat.le_of_ble_eq_true rfl)
  rw [lg_entry_eq]
  generalize (lg_sl ([.ref (ad 0 1000), .int (Int32.ofInt a1)]) ++ List.replicate (2 - (lg_sl ([.ref (ad 0 1000), .int (Int32.ofInt a1)])).length) Slot.unset).toArray = ls at hl ⊢
  have hl : lv_has ls 2 [(0, .ref (ad 0 1000)), (1, .int (Int32.ofInt a1))] := hl
  have hret : ∀ (v : Int) (σ : ZS) (H : Heap) (locs : List Loc) (ls : Array Slot) (pc : Nat), Q v σ → va_P D vwC (zR dA ad σ) H → va_D A (zR dA ad σ) → va_S A s.heap H locs → decode cX11_raise pc = .ok (.ireturn, 1) → W p l e (gR 1 0 0) s m #[.ref (ad 0 1000), .int (Int32.ofInt a1)] below meth c H locs 0 0 (MQ below (va_Qi (zQi Q) (gAt D dA A (zR dA ad)) A) #[.ref (ad 0 1000), .int (Int32.ofInt a1)] s 0 0 A) (F0 m pc ls [.int (Int32.ofInt v)]) := fun v σ H locs ls pc hw hP hD hS hd => g_iret hx hb hr rfl hlocks hK σ hP hD hS ⟨v, rfl, hw⟩ (Nat.le_of_ble_eq_true rfl) (Nat.le_of_ble_eq_true rfl) hd
  generalize MQ below (va_Qi (zQi Q) (gAt D dA A (zR dA ad)) A) #[.ref (ad 0 1000), .int (Int32.ofInt a1)] s 0 0 A = QQ at hret ⊢
  unfold wpX11_raise at hw
  refine lv_aload_n hx hb dX11_raise_0 rfl (lv_at hl 0 rfl) ?_
  refine lv_iload_n hx hb dX11_raise_1 rfl (lv_at hl 1 rfl) ?_
  refine zpR0_0 (v := a1) hx hb hg hown hK hP hD hS q1615 dX11_raise_2 (fun H locs hP hD hS => ?_)
  refine lv_iconst (v := Int32.ofInt 0) hx hb dX11_raise_5 (by decide) ?_
  exact hret 0 (zsI σ 0 0 a1) _ _ _ _ hw hP hD hS dX11_raise_6
def wpX11_letter_17 (s0 : Int) (σ : ZS) (Q : Int → ZS → Prop) : Prop := (0 ≤ s0 ∧ s0 ≤ 1) ∧ Q s0 σ
def wpX11_letter_16 (σ : ZS) (Q : Int → ZS → Prop) : Prop := wpX11_letter_17 0 σ Q
def wpX11_letter (a0 : Int) (σ : ZS) (Q : Int → ZS → Prop) : Prop := (-2147483648 ≤ a0 ∧ a0 ≤ 2147483647) ∧ (a0 < 97 → wpX11_letter_16 σ Q) ∧ (¬ a0 < 97 → (122 < a0 → wpX11_letter_16 σ Q) ∧ (¬ 122 < a0 → wpX11_letter_17 1 σ Q))
set_option maxHeartbeats 4000000 in
set_option maxRecDepth 100000 in
theorem kX11_letter (l : Launch) (D : va_G) (dA : Nat → ClassId) (ad : Int → Nat → Nat) (a0 : Int) (σ : ZS) (Q : Int → ZS → Prop) (sz : Nat) (hw : wpX11_letter a0 σ Q) : Met l yX11_letter (gws yX11_letter cX11_letter 1 (some .boolean)) (gR 1 0 0) (gPre D dA [.int (Int32.ofInt a0)] (zR dA ad σ) sz) (va_Qi (zQi Q) (gAt D dA (va_A (zR dA ad σ) sz) (zR dA ad)) (va_A (zR dA ad σ) sz)) 0 0 (va_A (zR dA ad σ) sz) := by
  refine Met.ofW (cc := cX11_letter) (maxL := 1) (ret := (some .boolean)) (by decide) rfl ?_
  intro p e s m args below meth c s₁ B hml hv
  obtain ⟨rfl, hsz, hP, hK, hD0⟩ := hv
  have hx := B.exec
  have hb := B.bytes
  have hr := B.returns
  have hts := atoms_spec (ws := gws yX11_letter cX11_letter 1 (some .boolean)) B.pre
  have hg : ∀ w ∈ gw, w.before _ s = true := fun w h => hts w (List.mem_cons_of_mem _ h)
  have hown : s.vm.findClass RX11 = some m.cls := findClass_of_methodNamed B.named
  have hlocks := B.notSynchronized
  subst hsz
  have hD := hD0.self (sz := s.heap.size)
  generalize hAe : va_A (zR dA ad σ) s.heap.size = A at hD ⊢
  have hA : ∀ q : Nat, s.heap.size ≤ q → A q := fun q h => by rw [← hAe]; exact Or.inr h
  have hS : va_S A s.heap s.heap [] := va_S.rf
  have hl := lv_entry ([.int (Int32.ofInt a0)]) (n := 1) (Nat.le_of_ble_eq_true rfl)
  rw [lg_entry_eq]
  generalize (lg_sl ([.int (Int32.ofInt a0)]) ++ List.replicate (1 - (lg_sl ([.int (Int32.ofInt a0)])).length) Slot.unset).toArray = ls at hl ⊢
  have hl : lv_has ls 1 [(0, .int (Int32.ofInt a0))] := hl
  have hret : ∀ (v : Int) (σ : ZS) (H : Heap) (locs : List Loc) (ls : Array Slot) (pc : Nat), (0 ≤ v ∧ v ≤ 1) → Q v σ → va_P D vwC (zR dA ad σ) H → va_D A (zR dA ad σ) → va_S A s.heap H locs → decode cX11_letter pc = .ok (.ireturn, 1) → W p l e (gR 1 0 0) s m #[.int (Int32.ofInt a0)] below meth c H locs 0 0 (MQ below (va_Qi (zQi Q) (gAt D dA A (zR dA ad)) A) #[.int (Int32.ofInt a0)] s 0 0 A) (F0 m pc ls [.int (Int32.ofInt v)]) := fun v σ H locs ls pc hv hw hP hD hS hd => g_iret hx hb hr (z_nb hv) hlocks hK σ hP hD hS ⟨v, rfl, hw⟩ (Nat.le_of_ble_eq_true rfl) (Nat.le_of_ble_eq_true rfl) hd
  generalize MQ below (va_Qi (zQi Q) (gAt D dA A (zR dA ad)) A) #[.int (Int32.ofInt a0)] s 0 0 A = QQ at hret ⊢
  have j17 : ∀ (s0 : Int) (σ : ZS), ∀ (H : Heap) (locs : List Loc) (ls : Array Slot), va_P D vwC (zR dA ad σ) H → va_D A (zR dA ad σ) → va_S A s.heap H locs → lv_has ls 1 [] → wpX11_letter_17 s0 σ Q → W p l e (gR 1 0 0) s m #[.int (Int32.ofInt a0)] below meth c H locs 0 0 QQ (F0 m 17 ls [.int (Int32.ofInt s0)]) := by
    intro s0 σ H locs ls hP hD hS hl hw
    unfold wpX11_letter_17 at hw
    obtain ⟨o1, hw⟩ := hw
    exact hret s0 σ _ _ _ _ o1 hw hP hD hS dX11_letter_17
  have j16 : ∀ (σ : ZS), ∀ (H : Heap) (locs : List Loc) (ls : Array Slot), va_P D vwC (zR dA ad σ) H → va_D A (zR dA ad σ) → va_S A s.heap H locs → lv_has ls 1 [] → wpX11_letter_16 σ Q → W p l e (gR 1 0 0) s m #[.int (Int32.ofInt a0)] below meth c H locs 0 0 QQ (F0 m 16 ls []) := by
    intro σ H locs ls hP hD hS hl hw
    unfold wpX11_letter_16 at hw
    refine lv_iconst (v := Int32.ofInt 0) hx hb dX11_letter_16 (by decide) ?_
    exact j17 0 σ _ _ _ hP hD hS (lv_sub hl [] rfl) hw
  unfold wpX11_letter at hw
  refine lv_iload_n hx hb dX11_letter_0 rfl (lv_at hl 0 rfl) ?_
  refine lv_bipush (v := Int32.ofInt 97) hx hb dX11_letter_1 (by decide) ?_
  obtain ⟨o2, hw⟩ := hw
  refine z_icmp_lt (tgt := 16) hx hb o2 (by decide) dX11_letter_3 (by decide) (fun k3 => ?_) (fun k3 => ?_)
  · replace hw := hw.1 k3
    exact j16 σ _ _ _ hP hD hS (lv_sub hl [] rfl) hw
  · replace hw := hw.2 k3
    refine lv_iload_n hx hb dX11_letter_6 rfl (lv_at hl 0 rfl) ?_
    refine lv_bipush (v := Int32.ofInt 122) hx hb dX11_letter_7 (by decide) ?_
    refine z_icmp_gt (tgt := 16) hx hb o2 (by decide) dX11_letter_9 (by decide) (fun k4 => ?_) (fun k4 => ?_)
    · replace hw := hw.1 k4
      exact j16 σ _ _ _ hP hD hS (lv_sub hl [] rfl) hw
    · replace hw := hw.2 k4
      refine lv_iconst (v := Int32.ofInt 1) hx hb dX11_letter_12 (by decide) ?_
      refine lv_goto (tgt := 17) hx hb dX11_letter_13 (by decide) ?_
      exact j17 1 σ _ _ _ hP hD hS (lv_sub hl [] rfl) hw
def wpX11_digit_17 (s0 : Int) (σ : ZS) (Q : Int → ZS → Prop) : Prop := (0 ≤ s0 ∧ s0 ≤ 1) ∧ Q s0 σ
def wpX11_digit_16 (σ : ZS) (Q : Int → ZS → Prop) : Prop := wpX11_digit_17 0 σ Q
def wpX11_digit (a0 : Int) (σ : ZS) (Q : Int → ZS → Prop) : Prop := (-2147483648 ≤ a0 ∧ a0 ≤ 2147483647) ∧ (a0 < 48 → wpX11_digit_16 σ Q) ∧ (¬ a0 < 48 → (57 < a0 → wpX11_digit_16 σ Q) ∧ (¬ 57 < a0 → wpX11_digit_17 1 σ Q))
set_option maxHeartbeats 4000000 in
set_option maxRecDepth 100000 in
theorem kX11_digit (l : Launch) (D : va_G) (dA : Nat → ClassId) (ad : Int → Nat → Nat) (a0 : Int) (σ : ZS) (Q : Int → ZS → Prop) (sz : Nat) (hw : wpX11_digit a0 σ Q) : Met l yX11_digit (gws yX11_digit cX11_digit 1 (some .boolean)) (gR 1 0 0) (gPre D dA [.int (Int32.ofInt a0)] (zR dA ad σ) sz) (va_Qi (zQi Q) (gAt D dA (va_A (zR dA ad σ) sz) (zR dA ad)) (va_A (zR dA ad σ) sz)) 0 0 (va_A (zR dA ad σ) sz) := by
  refine Met.ofW (cc := cX11_digit) (maxL := 1) (ret := (some .boolean)) (by decide) rfl ?_
  intro p e s m args below meth c s₁ B hml hv
  obtain ⟨rfl, hsz, hP, hK, hD0⟩ := hv
  have hx := B.exec
  have hb := B.bytes
  have hr := B.returns
  have hts := atoms_spec (ws := gws yX11_digit cX11_digit 1 (some .boolean)) B.pre
  have hg : ∀ w ∈ gw, w.before _ s = true := fun w h => hts w (List.mem_cons_of_mem _ h)
  have hown : s.vm.findClass RX11 = some m.cls := findClass_of_methodNamed B.named
  have hlocks := B.notSynchronized
  subst hsz
  have hD := hD0.self (sz := s.heap.size)
  generalize hAe : va_A (zR dA ad σ) s.heap.size = A at hD ⊢
  have hA : ∀ q : Nat, s.heap.size ≤ q → A q := fun q h => by rw [← hAe]; exact Or.inr h
  have hS : va_S A s.heap s.heap [] := va_S.rf
  have hl := lv_entry ([.int (Int32.ofInt a0)]) (n := 1) (Nat.le_of_ble_eq_true rfl)
  rw [lg_entry_eq]
  generalize (lg_sl ([.int (Int32.ofInt a0)]) ++ List.replicate (1 - (lg_sl ([.int (Int32.ofInt a0)])).length) Slot.unset).toArray = ls at hl ⊢
  have hl : lv_has ls 1 [(0, .int (Int32.ofInt a0))] := hl
  have hret : ∀ (v : Int) (σ : ZS) (H : Heap) (locs : List Loc) (ls : Array Slot) (pc : Nat), (0 ≤ v ∧ v ≤ 1) → Q v σ → va_P D vwC (zR dA ad σ) H → va_D A (zR dA ad σ) → va_S A s.heap H locs → decode cX11_digit pc = .ok (.ireturn, 1) → W p l e (gR 1 0 0) s m #[.int (Int32.ofInt a0)] below meth c H locs 0 0 (MQ below (va_Qi (zQi Q) (gAt D dA A (zR dA ad)) A) #[.int (Int32.ofInt a0)] s 0 0 A) (F0 m pc ls [.int (Int32.ofInt v)]) := fun v σ H locs ls pc hv hw hP hD hS hd => g_iret hx hb hr (z_nb hv) hlocks hK σ hP hD hS ⟨v, rfl, hw⟩ (Nat.le_of_ble_eq_true rfl) (Nat.le_of_ble_eq_true rfl) hd
  generalize MQ below (va_Qi (zQi Q) (gAt D dA A (zR dA ad)) A) #[.int (Int32.ofInt a0)] s 0 0 A = QQ at hret ⊢
  have j17 : ∀ (s0 : Int) (σ : ZS), ∀ (H : Heap) (locs : List Loc) (ls : Array Slot), va_P D vwC (zR dA ad σ) H → va_D A (zR dA ad σ) → va_S A s.heap H locs → lv_has ls 1 [] → wpX11_digit_17 s0 σ Q → W p l e (gR 1 0 0) s m #[.int (Int32.ofInt a0)] below meth c H locs 0 0 QQ (F0 m 17 ls [.int (Int32.ofInt s0)]) := by
    intro s0 σ H locs ls hP hD hS hl hw
    unfold wpX11_digit_17 at hw
    obtain ⟨o1, hw⟩ := hw
    exact hret s0 σ _ _ _ _ o1 hw hP hD hS dX11_digit_17
  have j16 : ∀ (σ : ZS), ∀ (H : Heap) (locs : List Loc) (ls : Array Slot), va_P D vwC (zR dA ad σ) H → va_D A (zR dA ad σ) → va_S A s.heap H locs → lv_has ls 1 [] → wpX11_digit_16 σ Q → W p l e (gR 1 0 0) s m #[.int (Int32.ofInt a0)] below meth c H locs 0 0 QQ (F0 m 16 ls []) := by
    intro σ H locs ls hP hD hS hl hw
    unfold wpX11_digit_16 at hw
    refine lv_iconst (v := Int32.ofInt 0) hx hb dX11_digit_16 (by decide) ?_
    exact j17 0 σ _ _ _ hP hD hS (lv_sub hl [] rfl) hw
  unfold wpX11_digit at hw
  refine lv_iload_n hx hb dX11_digit_0 rfl (lv_at hl 0 rfl) ?_
  refine lv_bipush (v := Int32.ofInt 48) hx hb dX11_digit_1 (by decide) ?_
  obtain ⟨o2, hw⟩ := hw
  refine z_icmp_lt (tgt := 16) hx hb o2 (by decide) dX11_digit_3 (by decide) (fun k3 => ?_) (fun k3 => ?_)
  · replace hw := hw.1 k3
    exact j16 σ _ _ _ hP hD hS (lv_sub hl [] rfl) hw
  · replace hw := hw.2 k3
    refine lv_iload_n hx hb dX11_digit_6 rfl (lv_at hl 0 rfl) ?_
    refine lv_bipush (v := Int32.ofInt 57) hx hb dX11_digit_7 (by decide) ?_
    refine z_icmp_gt (tgt := 16) hx hb o2 (by decide) dX11_digit_9 (by decide) (fun k4 => ?_) (fun k4 => ?_)
    · replace hw := hw.1 k4
      exact j16 σ _ _ _ hP hD hS (lv_sub hl [] rfl) hw
    · replace hw := hw.2 k4
      refine lv_iconst (v := Int32.ofInt 1) hx hb dX11_digit_12 (by decide) ?_
      refine lv_goto (tgt := 17) hx hb dX11_digit_13 (by decide) ?_
      exact j17 1 σ _ _ _ hP hD hS (lv_sub hl [] rfl) hw
def wpX11_charAt_18 (s0 : Int) (σ : ZS) (Q : Int → ZS → Prop) : Prop := Q s0 σ
def wpX11_charAt (a1 : Int) (σ : ZS) (Q : Int → ZS → Prop) : Prop := (-2147483648 ≤ a1 ∧ a1 ≤ 2147483647) ∧ (-2147483648 ≤ (zI σ 0 2) ∧ (zI σ 0 2) ≤ 2147483647) ∧ ((zI σ 0 2) ≤ a1 → wpX11_charAt_18 0 σ Q) ∧ (¬ (zI σ 0 2) ≤ a1 → (0 ≤ a1 ∧ a1 < 480) ∧ wpX11_charAt_18 (zA σ 0 1 a1) σ Q)
set_option maxHeartbeats 4000000 in
set_option maxRecDepth 100000 in
theorem kX11_charAt (l : Launch) (D : va_G) (dA : Nat → ClassId) (ad : Int → Nat → Nat) (a1 : Int) (σ : ZS) (Q : Int → ZS → Prop) (sz : Nat) (hw : wpX11_charAt a1 σ Q) : Met l yX11_charAt (gws yX11_charAt cX11_charAt 2 (some .int)) (gR 1 0 0) (gPre D dA [.ref (ad 0 1000), .int (Int32.ofInt a1)] (zR dA ad σ) sz) (va_Qi (zQi Q) (gAt D dA (va_A (zR dA ad σ) sz) (zR dA ad)) (va_A (zR dA ad σ) sz)) 0 0 (va_A (zR dA ad σ) sz) := by
  refine Met.ofW (cc := cX11_charAt) (maxL := 2) (ret := (some .int)) (by decide) rfl ?_
  intro p e s m args below meth c s₁ B hml hv
  obtain ⟨rfl, hsz, hP, hK, hD0⟩ := hv
  have hx := B.exec
  have hb := B.bytes
  have hr := B.returns
  have hts := atoms_spec (ws := gws yX11_charAt cX11_charAt 2 (some .int)) B.pre
  have hg : ∀ w ∈ gw, w.before _ s = true := fun w h => hts w (List.mem_cons_of_mem _ h)
  have hown : s.vm.findClass RX11 = some m.cls := findClass_of_methodNamed B.named
  have hlocks := B.notSynchronized
  subst hsz
  have hD := hD0.self (sz := s.heap.size)
  generalize hAe : va_A (zR dA ad σ) s.heap.size = A at hD ⊢
  have hA : ∀ q : Nat, s.heap.size ≤ q → A q := fun q h => by rw [← hAe]; exact Or.inr h
  have hS : va_S A s.heap s.heap [] := va_S.rf
  have hl := lv_entry ([.ref (ad 0 1000), .int (Int32.ofInt a1)]) (n := 2) (Nat.le_of_ble_eq_true rfl)
  rw [lg_entry_eq]
  generalize (lg_sl ([.ref (ad 0 1000), .int (Int32.ofInt a1)]) ++ List.replicate (2 - (lg_sl ([.ref (ad 0 1000), .int (Int32.ofInt a1)])).length) Slot.unset).toArray = ls at hl ⊢
  have hl : lv_has ls 2 [(0, .ref (ad 0 1000)), (1, .int (Int32.ofInt a1))] := hl
  have hret : ∀ (v : Int) (σ : ZS) (H : Heap) (locs : List Loc) (ls : Array Slot) (pc : Nat), Q v σ → va_P D vwC (zR dA ad σ) H → va_D A (zR dA ad σ) → va_S A s.heap H locs → decode cX11_charAt pc = .ok (.ireturn, 1) → W p l e (gR 1 0 0) s m #[.ref (ad 0 1000), .int (Int32.ofInt a1)] below meth c H locs 0 0 (MQ below (va_Qi (zQi Q) (gAt D dA A (zR dA ad)) A) #[.ref (ad 0 1000), .int (Int32.ofInt a1)] s 0 0 A) (F0 m pc ls [.int (Int32.ofInt v)]) := fun v σ H locs ls pc hw hP hD hS hd => g_iret hx hb hr rfl hlocks hK σ hP hD hS ⟨v, rfl, hw⟩ (Nat.le_of_ble_eq_true rfl) (Nat.le_of_ble_eq_true rfl) hd
  generalize MQ below (va_Qi (zQi Q) (gAt D dA A (zR dA ad)) A) #[.ref (ad 0 1000), .int (Int32.ofInt a1)] s 0 0 A = QQ at hret ⊢
  have j18 : ∀ (s0 : Int) (σ : ZS), ∀ (H : Heap) (locs : List Loc) (ls : Array Slot), va_P D vwC (zR dA ad σ) H → va_D A (zR dA ad σ) → va_S A s.heap H locs → lv_has ls 2 [] → wpX11_charAt_18 s0 σ Q → W p l e (gR 1 0 0) s m #[.ref (ad 0 1000), .int (Int32.ofInt a1)] below meth c H locs 0 0 QQ (F0 m 18 ls [.int (Int32.ofInt s0)]) := by
    intro s0 σ H locs ls hP hD hS hl hw
    unfold wpX11_charAt_18 at hw
    exact hret s0 σ _ _ _ _ hw hP hD hS dX11_charAt_18
  unfold wpX11_charAt at hw
  refine lv_iload_n hx hb dX11_charAt_0 rfl (lv_at hl 1 rfl) ?_
  refine lv_aload_n hx hb dX11_charAt_1 rfl (lv_at hl 0 rfl) ?_
  refine zgR0_2 hx hb hg hown hK hP q1617 dX11_charAt_2 ?_
  obtain ⟨o1, hw⟩ := hw
  obtain ⟨o2, hw⟩ := hw
  refine z_icmp_ge (tgt := 17) hx hb o1 o2 dX11_charAt_5 (by decide) (fun k3 => ?_) (fun k3 => ?_)
  · replace hw := hw.1 k3
    refine lv_iconst (v := Int32.ofInt 0) hx hb dX11_charAt_17 (by decide) ?_
    exact j18 0 σ _ _ _ hP hD hS (lv_sub hl [] rfl) hw
  · replace hw := hw.2 k3
    refine lv_aload_n hx hb dX11_charAt_8 rfl (lv_at hl 0 rfl) ?_
    refine zgR0_1 hx hb hg hown hK hP q1616 dX11_charAt_9 ?_
    refine lv_iload_n hx hb dX11_charAt_12 rfl (lv_at hl 1 rfl) ?_
    obtain ⟨o4, hw⟩ := hw
    refine zlR0_1 hx hb o4 hK hP dX11_charAt_13 ?_
    refine lv_goto (tgt := 18) hx hb dX11_charAt_14 (by decide) ?_
    exact j18 (zA σ 0 1 a1) σ _ _ _ hP hD hS (lv_sub hl [] rfl) hw
def wpX11_wrongAt_20 (σ : ZS) (Q : ZS → Prop) : Prop := Q σ
def wpX11_wrongAt_15 (v1 : Int) (σ : ZS) (Q : ZS → Prop) : Prop := wpX11_wrongAt_20 (zsI σ 0 18 v1) Q
def wpX11_wrongAt (a1 : Int) (σ : ZS) (Q : ZS → Prop) : Prop := (-2147483648 ≤ (zI σ 0 18) ∧ (zI σ 0 18) ≤ 2147483647) ∧ ((zI σ 0 18) < 0 → wpX11_wrongAt_15 a1 σ Q) ∧ (¬ (zI σ 0 18) < 0 → (-2147483648 ≤ a1 ∧ a1 ≤ 2147483647) ∧ ((zI σ 0 18) ≤ a1 → wpX11_wrongAt_20 σ Q) ∧ (¬ (zI σ 0 18) ≤ a1 → wpX11_wrongAt_15 a1 σ Q))
set_option maxHeartbeats 4000000 in
set_option maxRecDepth 100000 in
theorem kX11_wrongAt (l : Launch) (D : va_G) (dA : Nat → ClassId) (ad : Int → Nat → Nat) (a1 : Int) (σ : ZS) (Q : ZS → Prop) (sz : Nat) (hw : wpX11_wrongAt a1 σ Q) : Met l yX11_wrongAt (gws yX11_wrongAt cX11_wrongAt 2 none) (gR 1 0 0) (gPre D dA [.ref (ad 0 1000), .int (Int32.ofInt a1)] (zR dA ad σ) sz) (va_Qv Q (gAt D dA (va_A (zR dA ad σ) sz) (zR dA ad)) (va_A (zR dA ad σ) sz)) 0 0 (va_A (zR dA ad σ) sz) := by
  refine Met.ofW (cc := cX11_wrongAt) (maxL := 2) (ret := none) (by decide) rfl ?_
  intro p e s m args below meth c s₁ B hml hv
  obtain ⟨rfl, hsz, hP, hK, hD0⟩ := hv
  have hx := B.exec
  have hb := B.bytes
  have hr := B.returns
  have hts := atoms_spec (ws := gws yX11_wrongAt cX11_wrongAt 2 none) B.pre
  have hg : ∀ w ∈ gw, w.before _ s = true := fun w h => hts w (List.mem_cons_of_mem _ h)
  have hown : s.vm.findClass RX11 = some m.cls := findClass_of_methodNamed B.named
  have hlocks := B.notSynchronized
  subst hsz
  have hD := hD0.self (sz := s.heap.size)
  generalize hAe : va_A (zR dA ad σ) s.heap.size = A at hD ⊢
  have hA : ∀ q : Nat, s.heap.size ≤ q → A q := fun q h => by rw [← hAe]; exact Or.inr h
  have hS : va_S A s.heap s.heap [] := va_S.rf
  have hl := lv_entry ([.ref (ad 0 1000), .int (Int32.ofInt a1)]) (n := 2) (Nat.le_of_ble_eq_true rfl)
  rw [lg_entry_eq]
  generalize (lg_sl ([.ref (ad 0 1000), .int (Int32.ofInt a1)]) ++ List.replicate (2 - (lg_sl ([.ref (ad 0 1000), .int (Int32.ofInt a1)])).length) Slot.unset).toArray = ls at hl ⊢
  have hl : lv_has ls 2 [(0, .ref (ad 0 1000)), (1, .int (Int32.ofInt a1))] := hl
  have hret : ∀ (σ : ZS) (H : Heap) (locs : List Loc) (ls : Array Slot) (pc : Nat), Q σ → va_P D vwC (zR dA ad σ) H → va_D A (zR dA ad σ) → va_S A s.heap H locs → decode cX11_wrongAt pc = .ok (.return_, 1) → W p l e (gR 1 0 0) s m #[.ref (ad 0 1000), .int (Int32.ofInt a1)] below meth c H locs 0 0 (MQ below (va_Qv Q (gAt D dA A (zR dA ad)) A) #[.ref (ad 0 1000), .int (Int32.ofInt a1)] s 0 0 A) (F0 m pc ls []) := fun σ H locs ls pc hw hP hD hS hd => g_vret hx hb hr hlocks hK σ hP hD hS hw (Nat.le_of_ble_eq_true rfl) (Nat.le_of_ble_eq_true rfl) hd
  generalize MQ below (va_Qv Q (gAt D dA A (zR dA ad)) A) #[.ref (ad 0 1000), .int (Int32.ofInt a1)] s 0 0 A = QQ at hret ⊢
  have j20 : ∀ (σ : ZS), ∀ (H : Heap) (locs : List Loc) (ls : Array Slot), va_P D vwC (zR dA ad σ) H → va_D A (zR dA ad σ) → va_S A s.heap H locs → lv_has ls 2 [] → wpX11_wrongAt_20 σ Q → W p l e (gR 1 0 0) s m #[.ref (ad 0 1000), .int (Int32.ofInt a1)] below meth c H locs 0 0 QQ (F0 m 20 ls []) := by
    intro σ H locs ls hP hD hS hl hw
    unfold wpX11_wrongAt_20 at hw
    exact hret σ _ _ _ _ hw hP hD hS dX11_wrongAt_20
  have j15 : ∀ (v1 : Int) (σ : ZS), ∀ (H : Heap) (locs : List Loc) (ls : Array Slot), va_P D vwC (zR dA ad σ) H → va_D A (zR dA ad σ) → va_S A s.heap H locs → lv_has ls 2 [(0, .ref (ad 0 1000)), (1, .int (Int32.ofInt v1))] → wpX11_wrongAt_15 v1 σ Q → W p l e (gR 1 0 0) s m #[.ref (ad 0 1000), .int (Int32.ofInt a1)] below meth c H locs 0 0 QQ (F0 m 15 ls []) := by
    intro v1 σ H locs ls hP hD hS hl hw
    unfold wpX11_wrongAt_15 at hw
    refine lv_aload_n hx hb dX11_wrongAt_15 rfl (lv_at hl 0 rfl) ?_
    refine lv_iload_n hx hb dX11_wrongAt_16 rfl (lv_at hl 1 rfl) ?_
    refine zpR0_18 (v := v1) hx hb hg hown hK hP hD hS q1633 dX11_wrongAt_17 (fun H locs hP hD hS => ?_)
    exact j20 (zsI σ 0 18 v1) _ _ _ hP hD hS (lv_sub hl [] rfl) hw
  unfold wpX11_wrongAt at hw
  refine lv_aload_n hx hb dX11_wrongAt_0 rfl (lv_at hl 0 rfl) ?_
  refine zgR0_18 hx hb hg hown hK hP q1633 dX11_wrongAt_1 ?_
  obtain ⟨o1, hw⟩ := hw
  refine z_if_lt (tgt := 15) hx hb o1 dX11_wrongAt_4 (by decide) (fun k2 => ?_) (fun k2 => ?_)
  · replace hw := hw.1 k2
    exact j15 a1 σ _ _ _ hP hD hS (lv_sub hl [0, 1] rfl) hw
  · replace hw := hw.2 k2
    refine lv_iload_n hx hb dX11_wrongAt_7 rfl (lv_at hl 1 rfl) ?_
    refine lv_aload_n hx hb dX11_wrongAt_8 rfl (lv_at hl 0 rfl) ?_
    refine zgR0_18 hx hb hg hown hK hP q1633 dX11_wrongAt_9 ?_
    obtain ⟨o3, hw⟩ := hw
    refine z_icmp_ge (tgt := 20) hx hb o3 o1 dX11_wrongAt_12 (by decide) (fun k4 => ?_) (fun k4 => ?_)
    · replace hw := hw.1 k4
      exact j20 σ _ _ _ hP hD hS (lv_sub hl [] rfl) hw
    · replace hw := hw.2 k4
      exact j15 a1 σ _ _ _ hP hD hS (lv_sub hl [0, 1] rfl) hw
def wpX11_name_82 (v1 : Int) (σ : ZS) (Q : Int → ZS → Prop) : Prop := Q v1 σ
def wpX11_name_30 (v1 : Int) (σ : ZS) (Q : Int → ZS → Prop) : Prop := (-2147483648 ≤ v1 ∧ v1 ≤ 2147483647) ∧ (-2147483648 ≤ (zI σ 0 17) ∧ (zI σ 0 17) ≤ 2147483647) ∧ (¬ v1 = (zI σ 0 17) → wpX11_name_82 v1 σ Q) ∧ (v1 = (zI σ 0 17) → (0 ≤ v1 ∧ v1 < 240) ∧ (-2147483648 ≤ ((zI σ 0 17) + 1) ∧ ((zI σ 0 17) + 1) ≤ 2147483647) ∧ (((zI σ 0 17) + 1) ≤ 24 → wpX11_name_82 v1 (zsI (zsA (zsA σ 0 12 v1 (zI σ 0 8)) 0 13 v1 0) 0 17 ((zI σ 0 17) + 1)) Q) ∧ (¬ ((zI σ 0 17) + 1) ≤ 24 → wpX11_wrongAt (zI σ 0 6) (zsI (zsA (zsA σ 0 12 v1 (zI σ 0 8)) 0 13 v1 0) 0 17 ((zI σ 0 17) + 1)) (fun (σ8 : ZS) => wpX11_name_82 v1 σ8 Q)))
def wpbX11_name_2 (K2 : Int → ZS → Prop) (v1 : Int) (σ : ZS) (Q : Int → ZS → Prop) : Prop := (-2147483648 ≤ v1 ∧ v1 ≤ 2147483647) ∧ (-2147483648 ≤ (zI σ 0 17) ∧ (zI σ 0 17) ≤ 2147483647) ∧ ((zI σ 0 17) ≤ v1 → wpX11_name_30 v1 σ Q) ∧ (¬ (zI σ 0 17) ≤ v1 → (0 ≤ v1 ∧ v1 < 240) ∧ (-9223372036854775808 ≤ (zA σ 0 12 v1) ∧ (zA σ 0 12 v1) ≤ 9223372036854775807) ∧ (-9223372036854775808 ≤ (zI σ 0 8) ∧ (zI σ 0 8) ≤ 9223372036854775807) ∧ ((zA σ 0 12 v1) = (zI σ 0 8) → wpX11_name_30 v1 σ Q) ∧ (¬ (zA σ 0 12 v1) = (zI σ 0 8) → K2 (v1 + 1) σ))
def wpX11_name_2 (v1 : Int) (σ : ZS) (Q : Int → ZS → Prop) : Prop := lfp1 (fun K2 v1 σ => wpbX11_name_2 K2 v1 σ Q) v1 σ
def wpX11_name (σ : ZS) (Q : Int → ZS → Prop) : Prop := wpX11_name_2 0 σ Q
set_option maxHeartbeats 4000000 in
set_option maxRecDepth 100000 in
theorem kX11_name (l : Launch) (D : va_G) (dA : Nat → ClassId) (ad : Int → Nat → Nat) (σ : ZS) (Q : Int → ZS → Prop) (sz : Nat) (hw : wpX11_name σ Q) : Met l yX11_name (gws yX11_name cX11_name 2 (some .int)) (gR 2 0 0) (gPre D dA [.ref (ad 0 1000)] (zR dA ad σ) sz) (va_Qi (zQi Q) (gAt D dA (va_A (zR dA ad σ) sz) (zR dA ad)) (va_A (zR dA ad σ) sz)) 0 0 (va_A (zR dA ad σ) sz) := by
  refine Met.ofW (cc := cX11_name) (maxL := 2) (ret := (some .int)) (by decide) rfl ?_
  intro p e s m args below meth c s₁ B hml hv
  obtain ⟨rfl, hsz, hP, hK, hD0⟩ := hv
  have hx := B.exec
  have hb := B.bytes
  have hr := B.returns
  have hts := atoms_spec (ws := gws yX11_name cX11_name 2 (some .int)) B.pre
  have hg : ∀ w ∈ gw, w.before _ s = true := fun w h => hts w (List.mem_cons_of_mem _ h)
  have hown : s.vm.findClass RX11 = some m.cls := findClass_of_methodNamed B.named
  have hlocks := B.notSynchronized
  subst hsz
  have hD := hD0.self (sz := s.heap.size)
  generalize hAe : va_A (zR dA ad σ) s.heap.size = A at hD ⊢
  have hA : ∀ q : Nat, s.heap.size ≤ q → A q := fun q h => by rw [← hAe]; exact Or.inr h
  have hS : va_S A s.heap s.heap [] := va_S.rf
  have hl := lv_entry ([.ref (ad 0 1000)]) (n := 2) (Nat.le_of_ble_eq_true rfl)
  rw [lg_entry_eq]
  generalize (lg_sl ([.ref (ad 0 1000)]) ++ List.replicate (2 - (lg_sl ([.ref (ad 0 1000)])).length) Slot.unset).toArray = ls at hl ⊢
  have hl : lv_has ls 2 [(0, .ref (ad 0 1000))] := hl
  have hret : ∀ (v : Int) (σ : ZS) (H : Heap) (locs : List Loc) (ls : Array Slot) (pc : Nat), Q v σ → va_P D vwC (zR dA ad σ) H → va_D A (zR dA ad σ) → va_S A s.heap H locs → decode cX11_name pc = .ok (.ireturn, 1) → W p l e (gR 2 0 0) s m #[.ref (ad 0 1000)] below meth c H locs 0 0 (MQ below (va_Qi (zQi Q) (gAt D dA A (zR dA ad)) A) #[.ref (ad 0 1000)] s 0 0 A) (F0 m pc ls [.int (Int32.ofInt v)]) := fun v σ H locs ls pc hw hP hD hS hd => g_iret hx hb hr rfl hlocks hK σ hP hD hS ⟨v, rfl, hw⟩ (Nat.le_of_ble_eq_true rfl) (Nat.le_of_ble_eq_true rfl) hd
  generalize MQ below (va_Qi (zQi Q) (gAt D dA A (zR dA ad)) A) #[.ref (ad 0 1000)] s 0 0 A = QQ at hret ⊢
  have j82 : ∀ (v1 : Int) (σ : ZS), ∀ (H : Heap) (locs : List Loc) (ls : Array Slot), va_P D vwC (zR dA ad σ) H → va_D A (zR dA ad σ) → va_S A s.heap H locs → lv_has ls 2 [(1, .int (Int32.ofInt v1))] → wpX11_name_82 v1 σ Q → W p l e (gR 2 0 0) s m #[.ref (ad 0 1000)] below meth c H locs 0 0 QQ (F0 m 82 ls []) := by
    intro v1 σ H locs ls hP hD hS hl hw
    unfold wpX11_name_82 at hw
    refine lv_iload_n hx hb dX11_name_82 rfl (lv_at hl 0 rfl) ?_
    exact hret v1 σ _ _ _ _ hw hP hD hS dX11_name_83
  have j30 : ∀ (v1 : Int) (σ : ZS), ∀ (H : Heap) (locs : List Loc) (ls : Array Slot), va_P D vwC (zR dA ad σ) H → va_D A (zR dA ad σ) → va_S A s.heap H locs → lv_has ls 2 [(0, .ref (ad 0 1000)), (1, .int (Int32.ofInt v1))] → wpX11_name_30 v1 σ Q → W p l e (gR 2 0 0) s m #[.ref (ad 0 1000)] below meth c H locs 0 0 QQ (F0 m 30 ls []) := by
    intro v1 σ H locs ls hP hD hS hl hw
    unfold wpX11_name_30 at hw
    refine lv_iload_n hx hb dX11_name_30 rfl (lv_at hl 1 rfl) ?_
    refine lv_aload_n hx hb dX11_name_31 rfl (lv_at hl 0 rfl) ?_
    refine zgR0_17 hx hb hg hown hK hP q1632 dX11_name_32 ?_
    obtain ⟨o1, hw⟩ := hw
    obtain ⟨o2, hw⟩ := hw
    refine z_icmp_ne (tgt := 82) hx hb o1 o2 dX11_name_35 (by decide) (fun k3 => ?_) (fun k3 => ?_)
    · replace hw := hw.1 k3
      exact j82 v1 σ _ _ _ hP hD hS (lv_sub hl [1] rfl) hw
    · replace hw := hw.2 k3
      refine lv_aload_n hx hb dX11_name_38 rfl (lv_at hl 0 rfl) ?_
      refine zgR0_12 hx hb hg hown hK hP q1627 dX11_name_39 ?_
      refine lv_iload_n hx hb dX11_name_42 rfl (lv_at hl 1 rfl) ?_
      refine lv_aload_n hx hb dX11_name_43 rfl (lv_at hl 0 rfl) ?_
      refine zgR0_8 hx hb hg hown hK hP q1623 dX11_name_44 ?_
      obtain ⟨o4, hw⟩ := hw
      refine zsR0_12 (v := (zI σ 0 8)) hx hb o4 hK hP hD hS dX11_name_47 (fun H locs hP hD hS => ?_)
      refine lv_aload_n hx hb dX11_name_48 rfl (lv_at hl 0 rfl) ?_
      refine zgR0_13 hx hb hg hown hK hP q1628 dX11_name_49 ?_
      refine lv_iload_n hx hb dX11_name_52 rfl (lv_at hl 1 rfl) ?_
      refine lv_iconst (v := Int32.ofInt 0) hx hb dX11_name_53 (by decide) ?_
      refine zsR0_13 (v := 0) hx hb o4 hK hP hD hS dX11_name_54 (fun H locs hP hD hS => ?_)
      refine lv_aload_n hx hb dX11_name_55 rfl (lv_at hl 0 rfl) ?_
      refine lv_dup hx hb dX11_name_56 rfl ?_
      refine zgR0_17 hx hb hg hown hK hP q1632 dX11_name_57 ?_
      refine g_nrm (y := Int32.ofInt (zI σ 0 17)) rfl ?_
      refine lv_iconst (v := Int32.ofInt 1) hx hb dX11_name_60 (by decide) ?_
      refine z_iadd hx hb dX11_name_61 ?_
      refine zpR0_17 (v := ((zI σ 0 17) + 1)) hx hb hg hown hK hP hD hS q1632 dX11_name_62 (fun H locs hP hD hS => ?_)
      refine lv_aload_n hx hb dX11_name_65 rfl (lv_at hl 0 rfl) ?_
      refine zgR0_17 hx hb hg hown hK hP q1632 dX11_name_66 ?_
      refine g_nrm (y := Int32.ofInt ((zI σ 0 17) + 1)) rfl ?_
      refine lv_bipush (v := Int32.ofInt 24) hx hb dX11_name_69 (by decide) ?_
      obtain ⟨o5, hw⟩ := hw
      refine z_icmp_le (tgt := 82) hx hb o5 (by decide) dX11_name_71 (by decide) (fun k6 => ?_) (fun k6 => ?_)
      · replace hw := hw.1 k6
        exact j82 v1 (zsI (zsA (zsA σ 0 12 v1 (zI σ 0 8)) 0 13 v1 0) 0 17 ((zI σ 0 17) + 1)) _ _ _ hP hD hS (lv_sub hl [1] rfl) hw
      · replace hw := hw.2 k6
        refine lv_aload_n hx hb dX11_name_74 rfl (lv_at hl 0 rfl) ?_
        refine lv_aload_n hx hb dX11_name_75 rfl (lv_at hl 0 rfl) ?_
        refine zgR0_6 hx hb hg hown hK hP q1621 dX11_name_76 ?_
        refine g_nrm (y := Int32.ofInt (zI σ 0 6)) rfl ?_
        refine z_Vv (n := 1) (As := [.int (Int32.ofInt (zI σ 0 6))]) (rest := []) hx hb hml hg hown hK hP hD hS hA (kX11_wrongAt l D dA ad (zI σ 0 6) (zsI (zsA (zsA σ 0 12 v1 (zI σ 0 8)) 0 13 v1 0) 0 17 ((zI σ 0 17) + 1)) _ _ hw) (zoR0) rfl q1927 q160 q1924 q1926 q85 (by decide +kernel) ⟨(Nat.le_of_ble_eq_true rfl), (Nat.le_of_ble_eq_true rfl)⟩ rfl hl.1 rfl (Nat.le_of_ble_eq_true rfl) dX11_name_79 ⟨(Nat.le_of_ble_eq_true rfl), (Nat.le_of_ble_eq_true rfl)⟩ (fun σ8 H locs hw hP hD hS => ?_)
        exact j82 v1 σ8 _ _ _ hP hD hS (lv_sub hl [1] rfl) hw
  have b2 : ∀ (K2 : Int → ZS → Prop), (∀ (v1 : Int) (σ : ZS), K2 v1 σ → ∀ (H : Heap) (locs : List Loc) (ls : Array Slot), va_P D vwC (zR dA ad σ) H → va_D A (zR dA ad σ) → va_S A s.heap H locs → lv_has ls 2 [(0, .ref (ad 0 1000)), (1, .int (Int32.ofInt v1))] → W p l e (gR 2 0 0) s m #[.ref (ad 0 1000)] below meth c H locs 0 0 QQ (F0 m 2 ls [])) → ∀ (v1 : Int) (σ : ZS), wpbX11_name_2 K2 v1 σ Q → ∀ (H : Heap) (locs : List Loc) (ls : Array Slot), va_P D vwC (zR dA ad σ) H → va_D A (zR dA ad σ) → va_S A s.heap H locs → lv_has ls 2 [(0, .ref (ad 0 1000)), (1, .int (Int32.ofInt v1))] → W p l e (gR 2 0 0) s m #[.ref (ad 0 1000)] below meth c H locs 0 0 QQ (F0 m 2 ls []) := by
    intro K2 hK2
    intro v1 σ hw H locs ls hP hD hS hl
    unfold wpbX11_name_2 at hw
    refine lv_iload_n hx hb dX11_name_2 rfl (lv_at hl 1 rfl) ?_
    refine lv_aload_n hx hb dX11_name_3 rfl (lv_at hl 0 rfl) ?_
    refine zgR0_17 hx hb hg hown hK hP q1632 dX11_name_4 ?_
    obtain ⟨o9, hw⟩ := hw
    obtain ⟨o10, hw⟩ := hw
    refine z_icmp_ge (tgt := 30) hx hb o9 o10 dX11_name_7 (by decide) (fun k11 => ?_) (fun k11 => ?_)
    · replace hw := hw.1 k11
      exact j30 v1 σ _ _ _ hP hD hS (lv_sub hl [0, 1] rfl) hw
    · replace hw := hw.2 k11
      refine lv_aload_n hx hb dX11_name_10 rfl (lv_at hl 0 rfl) ?_
      refine zgR0_12 hx hb hg hown hK hP q1627 dX11_name_11 ?_
      refine lv_iload_n hx hb dX11_name_14 rfl (lv_at hl 1 rfl) ?_
      obtain ⟨o12, hw⟩ := hw
      refine zlR0_12 hx hb o12 hK hP dX11_name_15 ?_
      refine lv_aload_n hx hb dX11_name_16 rfl (lv_at hl 0 rfl) ?_
      refine zgR0_8 hx hb hg hown hK hP q1623 dX11_name_17 ?_
      obtain ⟨o13, hw⟩ := hw
      obtain ⟨o14, hw⟩ := hw
      refine z_lc_eq (tgt := 30) hx hb o13 o14 dX11_name_20 dX11_name_21 (by decide) (fun k15 => ?_) (fun k15 => ?_)
      · replace hw := hw.1 k15
        exact j30 v1 σ _ _ _ hP hD hS (lv_sub hl [0, 1] rfl) hw
      · replace hw := hw.2 k15
        refine lv_iinc (v := Int32.ofInt (v1 + 1)) (lv' := [(1, .int (Int32.ofInt (v1 + 1))), (0, .ref (ad 0 1000))]) hx hb dX11_name_24 hl (k := 1) rfl (Int32.ofInt_add _ _).symm (by decide) rfl (fun ls hl => ?_)
        refine lv_goto (tgt := 2) hx hb dX11_name_27 (by decide) ?_
        exact hK2 (v1 + 1) σ hw _ _ _ hP hD hS (lv_sub hl [1, 0] rfl)
  have j2 : ∀ (v1 : Int) (σ : ZS), ∀ (H : Heap) (locs : List Loc) (ls : Array Slot), va_P D vwC (zR dA ad σ) H → va_D A (zR dA ad σ) → va_S A s.heap H locs → lv_has ls 2 [(0, .ref (ad 0 1000)), (1, .int (Int32.ofInt v1))] → wpX11_name_2 v1 σ Q → W p l e (gR 2 0 0) s m #[.ref (ad 0 1000)] below meth c H locs 0 0 QQ (F0 m 2 ls []) := by
    intro v1 σ H locs ls hP hD hS hl hw
    exact hw (fun v1 σ => ∀ (H : Heap) (locs : List Loc) (ls : Array Slot), va_P D vwC (zR dA ad σ) H → va_D A (zR dA ad σ) → va_S A s.heap H locs → lv_has ls 2 [(0, .ref (ad 0 1000)), (1, .int (Int32.ofInt v1))] → W p l e (gR 2 0 0) s m #[.ref (ad 0 1000)] below meth c H locs 0 0 QQ (F0 m 2 ls [])) (b2 (fun v1 σ => ∀ (H : Heap) (locs : List Loc) (ls : Array Slot), va_P D vwC (zR dA ad σ) H → va_D A (zR dA ad σ) → va_S A s.heap H locs → lv_has ls 2 [(0, .ref (ad 0 1000)), (1, .int (Int32.ofInt v1))] → W p l e (gR 2 0 0) s m #[.ref (ad 0 1000)] below meth c H locs 0 0 QQ (F0 m 2 ls [])) (fun v1 σ h => h)) _ _ _ hP hD hS hl
  unfold wpX11_name at hw
  refine lv_iconst (v := Int32.ofInt 0) hx hb dX11_name_0 (by decide) ?_
  refine lv_istore_n (lv' := [(1, .int (Int32.ofInt 0)), (0, .ref (ad 0 1000))]) hx hb dX11_name_1 rfl hl (by decide) rfl (fun ls hl => ?_)
  exact j2 0 σ _ _ _ hP hD hS (lv_sub hl [1, 0] rfl) hw
def wpX11_where (a1 a2 : Int) (σ : ZS) (Q : Int → ZS → Prop) : Prop := Q (((16 * a1) + (a2 % 65536)) % 4096) σ
set_option maxHeartbeats 4000000 in
set_option maxRecDepth 100000 in
theorem kX11_where (l : Launch) (D : va_G) (dA : Nat → ClassId) (ad : Int → Nat → Nat) (a1 a2 : Int) (σ : ZS) (Q : Int → ZS → Prop) (sz : Nat) (hw : wpX11_where a1 a2 σ Q) : Met l yX11_where (gws yX11_where cX11_where 3 (some .int)) (gR 1 0 0) (gPre D dA [.ref (ad 0 1000), .int (Int32.ofInt a1), .int (Int32.ofInt a2)] (zR dA ad σ) sz) (va_Qi (zQi Q) (gAt D dA (va_A (zR dA ad σ) sz) (zR dA ad)) (va_A (zR dA ad σ) sz)) 0 0 (va_A (zR dA ad σ) sz) := by
  refine Met.ofW (cc := cX11_where) (maxL := 3) (ret := (some .int)) (by decide) rfl ?_
  intro p e s m args below meth c s₁ B hml hv
  obtain ⟨rfl, hsz, hP, hK, hD0⟩ := hv
  have hx := B.exec
  have hb := B.bytes
  have hr := B.returns
  have hts := atoms_spec (ws := gws yX11_where cX11_where 3 (some .int)) B.pre
  have hg : ∀ w ∈ gw, w.before _ s = true := fun w h => hts w (List.mem_cons_of_mem _ h)
  have hown : s.vm.findClass RX11 = some m.cls := findClass_of_methodNamed B.named
  have hlocks := B.notSynchronized
  subst hsz
  have hD := hD0.self (sz := s.heap.size)
  generalize hAe : va_A (zR dA ad σ) s.heap.size = A at hD ⊢
  have hA : ∀ q : Nat, s.heap.size ≤ q → A q := fun q h => by rw [← hAe]; exact Or.inr h
  have hS : va_S A s.heap s.heap [] := va_S.rf
  have hl := lv_entry ([.ref (ad 0 1000), .int (Int32.ofInt a1), .int (Int32.ofInt a2)]) (n := 3) (Nat.le_of_ble_eq_true rfl)
  rw [lg_entry_eq]
  generalize (lg_sl ([.ref (ad 0 1000), .int (Int32.ofInt a1), .int (Int32.ofInt a2)]) ++ List.replicate (3 - (lg_sl ([.ref (ad 0 1000), .int (Int32.ofInt a1), .int (Int32.ofInt a2)])).length) Slot.unset).toArray = ls at hl ⊢
  have hl : lv_has ls 3 [(0, .ref (ad 0 1000)), (1, .int (Int32.ofInt a1)), (2, .int (Int32.ofInt a2))] := hl
  have hret : ∀ (v : Int) (σ : ZS) (H : Heap) (locs : List Loc) (ls : Array Slot) (pc : Nat), Q v σ → va_P D vwC (zR dA ad σ) H → va_D A (zR dA ad σ) → va_S A s.heap H locs → decode cX11_where pc = .ok (.ireturn, 1) → W p l e (gR 1 0 0) s m #[.ref (ad 0 1000), .int (Int32.ofInt a1), .int (Int32.ofInt a2)] below meth c H locs 0 0 (MQ below (va_Qi (zQi Q) (gAt D dA A (zR dA ad)) A) #[.ref (ad 0 1000), .int (Int32.ofInt a1), .int (Int32.ofInt a2)] s 0 0 A) (F0 m pc ls [.int (Int32.ofInt v)]) := fun v σ H locs ls pc hw hP hD hS hd => g_iret hx hb hr rfl hlocks hK σ hP hD hS ⟨v, rfl, hw⟩ (Nat.le_of_ble_eq_true rfl) (Nat.le_of_ble_eq_true rfl) hd
  generalize MQ below (va_Qi (zQi Q) (gAt D dA A (zR dA ad)) A) #[.ref (ad 0 1000), .int (Int32.ofInt a1), .int (Int32.ofInt a2)] s 0 0 A = QQ at hret ⊢
  unfold wpX11_where at hw
  refine lv_bipush (v := Int32.ofInt 16) hx hb dX11_where_0 (by decide) ?_
  refine lv_iload_n hx hb dX11_where_2 rfl (lv_at hl 1 rfl) ?_
  refine z_imul hx hb dX11_where_3 ?_
  refine lv_iload_n hx hb dX11_where_4 rfl (lv_at hl 2 rfl) ?_
  refine lv_ldcw hx hb hown (hg _ q1907) dX11_where_5 ?_
  refine g_nrm (y := Int32.ofInt 65535) (by decide) ?_
  refine z_iandK (M := 65536) hx hb 16 (by decide) (by decide) (by decide) dX11_where_8 ?_
  refine z_iadd hx hb dX11_where_9 ?_
  refine lv_sipush (v := Int32.ofInt 4095) hx hb dX11_where_10 (by decide) ?_
  refine z_iandK (M := 4096) hx hb 12 (by decide) (by decide) (by decide) dX11_where_13 ?_
  exact hret (((16 * a1) + (a2 % 65536)) % 4096) σ _ _ _ _ hw hP hD hS dX11_where_14
def wpX11_get (a1 a2 : Int) (σ : ZS) (Q : Int → ZS → Prop) : Prop := wpX11_where a1 a2 σ (fun (x1 : Int) (σ2 : ZS) => (0 ≤ x1 ∧ x1 < 4096) ∧ wpX11_where a1 (a2 + 1) σ2 (fun (x4 : Int) (σ5 : ZS) => (0 ≤ x4 ∧ x4 < 4096) ∧ Q (zor (zA σ2 0 74 x1) ((zA σ5 0 74 x4) * 256)) σ5))
set_option maxHeartbeats 4000000 in
set_option maxRecDepth 100000 in
theorem kX11_get (l : Launch) (D : va_G) (dA : Nat → ClassId) (ad : Int → Nat → Nat) (a1 a2 : Int) (σ : ZS) (Q : Int → ZS → Prop) (sz : Nat) (hw : wpX11_get a1 a2 σ Q) : Met l yX11_get (gws yX11_get cX11_get 3 (some .int)) (gR 2 0 0) (gPre D dA [.ref (ad 0 1000), .int (Int32.ofInt a1), .int (Int32.ofInt a2)] (zR dA ad σ) sz) (va_Qi (zQi Q) (gAt D dA (va_A (zR dA ad σ) sz) (zR dA ad)) (va_A (zR dA ad σ) sz)) 0 0 (va_A (zR dA ad σ) sz) := by
  refine Met.ofW (cc := cX11_get) (maxL := 3) (ret := (some .int)) (by decide) rfl ?_
  intro p e s m args below meth c s₁ B hml hv
  obtain ⟨rfl, hsz, hP, hK, hD0⟩ := hv
  have hx := B.exec
  have hb := B.bytes
  have hr := B.returns
  have hts := atoms_spec (ws := gws yX11_get cX11_get 3 (some .int)) B.pre
  have hg : ∀ w ∈ gw, w.before _ s = true := fun w h => hts w (List.mem_cons_of_mem _ h)
  have hown : s.vm.findClass RX11 = some m.cls := findClass_of_methodNamed B.named
  have hlocks := B.notSynchronized
  subst hsz
  have hD := hD0.self (sz := s.heap.size)
  generalize hAe : va_A (zR dA ad σ) s.heap.size = A at hD ⊢
  have hA : ∀ q : Nat, s.heap.size ≤ q → A q := fun q h => by rw [← hAe]; exact Or.inr h
  have hS : va_S A s.heap s.heap [] := va_S.rf
  have hl := lv_entry ([.ref (ad 0 1000), .int (Int32.ofInt a1), .int (Int32.ofInt a2)]) (n := 3) (Nat.le_of_ble_eq_true rfl)
  rw [lg_entry_eq]
  generalize (lg_sl ([.ref (ad 0 1000), .int (Int32.ofInt a1), .int (Int32.ofInt a2)]) ++ List.replicate (3 - (lg_sl ([.ref (ad 0 1000), .int (Int32.ofInt a1), .int (Int32.ofInt a2)])).length) Slot.unset).toArray = ls at hl ⊢
  have hl : lv_has ls 3 [(0, .ref (ad 0 1000)), (1, .int (Int32.ofInt a1)), (2, .int (Int32.ofInt a2))] := hl
  have hret : ∀ (v : Int) (σ : ZS) (H : Heap) (locs : List Loc) (ls : Array Slot) (pc : Nat), Q v σ → va_P D vwC (zR dA ad σ) H → va_D A (zR dA ad σ) → va_S A s.heap H locs → decode cX11_get pc = .ok (.ireturn, 1) → W p l e (gR 2 0 0) s m #[.ref (ad 0 1000), .int (Int32.ofInt a1), .int (Int32.ofInt a2)] below meth c H locs 0 0 (MQ below (va_Qi (zQi Q) (gAt D dA A (zR dA ad)) A) #[.ref (ad 0 1000), .int (Int32.ofInt a1), .int (Int32.ofInt a2)] s 0 0 A) (F0 m pc ls [.int (Int32.ofInt v)]) := fun v σ H locs ls pc hw hP hD hS hd => g_iret hx hb hr rfl hlocks hK σ hP hD hS ⟨v, rfl, hw⟩ (Nat.le_of_ble_eq_true rfl) (Nat.le_of_ble_eq_true rfl) hd
  generalize MQ below (va_Qi (zQi Q) (gAt D dA A (zR dA ad)) A) #[.ref (ad 0 1000), .int (Int32.ofInt a1), .int (Int32.ofInt a2)] s 0 0 A = QQ at hret ⊢
  unfold wpX11_get at hw
  refine lv_aload_n hx hb dX11_get_0 rfl (lv_at hl 0 rfl) ?_
  refine zgR0_74 hx hb hg hown hK hP q1689 dX11_get_1 ?_
  refine lv_aload_n hx hb dX11_get_4 rfl (lv_at hl 0 rfl) ?_
  refine lv_iload_n hx hb dX11_get_5 rfl (lv_at hl 1 rfl) ?_
  refine lv_iload_n hx hb dX11_get_6 rfl (lv_at hl 2 rfl) ?_
  refine z_Vi (n := 2) (As := [.int (Int32.ofInt a1), .int (Int32.ofInt a2)]) (rest := [.ref (ad 0 74)]) hx hb hml hg hown hK hP hD hS hA (kX11_where l D dA ad a1 a2 σ _ _ hw) (zoR0) rfl q2130 q160 q2127 q2129 q130 (by decide +kernel) ⟨(Nat.le_of_ble_eq_true rfl), (Nat.le_of_ble_eq_true rfl)⟩ rfl hl.1 rfl (Nat.le_of_ble_eq_true rfl) dX11_get_7 ⟨(Nat.le_of_ble_eq_true rfl), (Nat.le_of_ble_eq_true rfl)⟩ (fun x1 σ2 H locs hw hP hD hS => ?_)
  obtain ⟨o3, hw⟩ := hw
  refine zlR0_74 hx hb o3 hK hP dX11_get_10 ?_
  refine lv_aload_n hx hb dX11_get_11 rfl (lv_at hl 0 rfl) ?_
  refine zgR0_74 hx hb hg hown hK hP q1689 dX11_get_12 ?_
  refine lv_aload_n hx hb dX11_get_15 rfl (lv_at hl 0 rfl) ?_
  refine lv_iload_n hx hb dX11_get_16 rfl (lv_at hl 1 rfl) ?_
  refine lv_iload_n hx hb dX11_get_17 rfl (lv_at hl 2 rfl) ?_
  refine lv_iconst (v := Int32.ofInt 1) hx hb dX11_get_18 (by decide) ?_
  refine z_iadd hx hb dX11_get_19 ?_
  refine z_Vi (n := 2) (As := [.int (Int32.ofInt a1), .int (Int32.ofInt (a2 + 1))]) (rest := [.ref (ad 0 74), .int (Int32.ofInt (zA σ2 0 74 x1))]) hx hb hml hg hown hK hP hD hS hA (kX11_where l D dA ad a1 (a2 + 1) σ2 _ _ hw) (zoR0) rfl q2130 q160 q2127 q2129 q130 (by decide +kernel) ⟨(Nat.le_of_ble_eq_true rfl), (Nat.le_of_ble_eq_true rfl)⟩ rfl hl.1 rfl (Nat.le_of_ble_eq_true rfl) dX11_get_20 ⟨(Nat.le_of_ble_eq_true rfl), (Nat.le_of_ble_eq_true rfl)⟩ (fun x4 σ5 H locs hw hP hD hS => ?_)
  obtain ⟨o6, hw⟩ := hw
  refine zlR0_74 hx hb o6 hK hP dX11_get_23 ?_
  refine lv_bipush (v := Int32.ofInt 8) hx hb dX11_get_24 (by decide) ?_
  refine z_ishlK (M := 256) hx hb 8 (by decide) (by decide) dX11_get_26 ?_
  refine z_ior hx hb dX11_get_27 ?_
  exact hret (zor (zA σ2 0 74 x1) ((zA σ5 0 74 x4) * 256)) σ5 _ _ _ _ hw hP hD hS dX11_get_28
def wpX11_store (a1 a2 a3 : Int) (σ : ZS) (Q : ZS → Prop) : Prop := wpX11_where a1 a2 σ (fun (x1 : Int) (σ2 : ZS) => (0 ≤ x1 ∧ x1 < 4096) ∧ wpX11_where a1 (a2 + 1) (zsA σ2 0 74 x1 (a3 % 256)) (fun (x4 : Int) (σ5 : ZS) => (-2147483648 ≤ a3 ∧ a3 ≤ 2147483647) ∧ (0 ≤ x4 ∧ x4 < 4096) ∧ Q (zsA σ5 0 74 x4 ((a3 / 256) % 256))))
set_option maxHeartbeats 4000000 in
set_option maxRecDepth 100000 in
theorem kX11_store (l : Launch) (D : va_G) (dA : Nat → ClassId) (ad : Int → Nat → Nat) (a1 a2 a3 : Int) (σ : ZS) (Q : ZS → Prop) (sz : Nat) (hw : wpX11_store a1 a2 a3 σ Q) : Met l yX11_store (gws yX11_store cX11_store 4 none) (gR 2 0 0) (gPre D dA [.ref (ad 0 1000), .int (Int32.ofInt a1), .int (Int32.ofInt a2), .int (Int32.ofInt a3)] (zR dA ad σ) sz) (va_Qv Q (gAt D dA (va_A (zR dA ad σ) sz) (zR dA ad)) (va_A (zR dA ad σ) sz)) 0 0 (va_A (zR dA ad σ) sz) := by
  refine Met.ofW (cc := cX11_store) (maxL := 4) (ret := none) (by decide) rfl ?_
  intro p e s m args below meth c s₁ B hml hv
  obtain ⟨rfl, hsz, hP, hK, hD0⟩ := hv
  have hx := B.exec
  have hb := B.bytes
  have hr := B.returns
  have hts := atoms_spec (ws := gws yX11_store cX11_store 4 none) B.pre
  have hg : ∀ w ∈ gw, w.before _ s = true := fun w h => hts w (List.mem_cons_of_mem _ h)
  have hown : s.vm.findClass RX11 = some m.cls := findClass_of_methodNamed B.named
  have hlocks := B.notSynchronized
  subst hsz
  have hD := hD0.self (sz := s.heap.size)
  generalize hAe : va_A (zR dA ad σ) s.heap.size = A at hD ⊢
  have hA : ∀ q : Nat, s.heap.size ≤ q → A q := fun q h => by rw [← hAe]; exact Or.inr h
  have hS : va_S A s.heap s.heap [] := va_S.rf
  have hl := lv_entry ([.ref (ad 0 1000), .int (Int32.ofInt a1), .int (Int32.ofInt a2), .int (Int32.ofInt a3)]) (n := 4) (Nat.le_of_ble_eq_true rfl)
  rw [lg_entry_eq]
  generalize (lg_sl ([.ref (ad 0 1000), .int (Int32.ofInt a1), .int (Int32.ofInt a2), .int (Int32.ofInt a3)]) ++ List.replicate (4 - (lg_sl ([.ref (ad 0 1000), .int (Int32.ofInt a1), .int (Int32.ofInt a2), .int (Int32.ofInt a3)])).length) Slot.unset).toArray = ls at hl ⊢
  have hl : lv_has ls 4 [(0, .ref (ad 0 1000)), (1, .int (Int32.ofInt a1)), (2, .int (Int32.ofInt a2)), (3, .int (Int32.ofInt a3))] := hl
  have hret : ∀ (σ : ZS) (H : Heap) (locs : List Loc) (ls : Array Slot) (pc : Nat), Q σ → va_P D vwC (zR dA ad σ) H → va_D A (zR dA ad σ) → va_S A s.heap H locs → decode cX11_store pc = .ok (.return_, 1) → W p l e (gR 2 0 0) s m #[.ref (ad 0 1000), .int (Int32.ofInt a1), .int (Int32.ofInt a2), .int (Int32.ofInt a3)] below meth c H locs 0 0 (MQ below (va_Qv Q (gAt D dA A (zR dA ad)) A) #[.ref (ad 0 1000), .int (Int32.ofInt a1), .int (Int32.ofInt a2), .int (Int32.ofInt a3)] s 0 0 A) (F0 m pc ls []) := fun σ H locs ls pc hw hP hD hS hd => g_vret hx hb hr hlocks hK σ hP hD hS hw (Nat.le_of_ble_eq_true rfl) (Nat.le_of_ble_eq_true rfl) hd
  generalize MQ below (va_Qv Q (gAt D dA A (zR dA ad)) A) #[.ref (ad 0 1000), .int (Int32.ofInt a1), .int (Int32.ofInt a2), .int (Int32.ofInt a3)] s 0 0 A = QQ at hret ⊢
  unfold wpX11_store at hw
  refine lv_aload_n hx hb dX11_store_0 rfl (lv_at hl 0 rfl) ?_
  refine zgR0_74 hx hb hg hown hK hP q1689 dX11_store_1 ?_
  refine lv_aload_n hx hb dX11_store_4 rfl (lv_at hl 0 rfl) ?_
  refine lv_iload_n hx hb dX11_store_5 rfl (lv_at hl 1 rfl) ?_
  refine lv_iload_n hx hb dX11_store_6 rfl (lv_at hl 2 rfl) ?_
  refine z_Vi (n := 2) (As := [.int (Int32.ofInt a1), .int (Int32.ofInt a2)]) (rest := [.ref (ad 0 74)]) hx hb hml hg hown hK hP hD hS hA (kX11_where l D dA ad a1 a2 σ _ _ hw) (zoR0) rfl q2130 q160 q2127 q2129 q130 (by decide +kernel) ⟨(Nat.le_of_ble_eq_true rfl), (Nat.le_of_ble_eq_true rfl)⟩ rfl hl.1 rfl (Nat.le_of_ble_eq_true rfl) dX11_store_7 ⟨(Nat.le_of_ble_eq_true rfl), (Nat.le_of_ble_eq_true rfl)⟩ (fun x1 σ2 H locs hw hP hD hS => ?_)
  refine lv_iload_n hx hb dX11_store_10 rfl (lv_at hl 3 rfl) ?_
  refine lv_sipush (v := Int32.ofInt 255) hx hb dX11_store_11 (by decide) ?_
  refine z_iandK (M := 256) hx hb 8 (by decide) (by decide) (by decide) dX11_store_14 ?_
  obtain ⟨o3, hw⟩ := hw
  refine zsR0_74 (v := (a3 % 256)) hx hb o3 hK hP hD hS dX11_store_15 (fun H locs hP hD hS => ?_)
  refine lv_aload_n hx hb dX11_store_16 rfl (lv_at hl 0 rfl) ?_
  refine zgR0_74 hx hb hg hown hK hP q1689 dX11_store_17 ?_
  refine lv_aload_n hx hb dX11_store_20 rfl (lv_at hl 0 rfl) ?_
  refine lv_iload_n hx hb dX11_store_21 rfl (lv_at hl 1 rfl) ?_
  refine lv_iload_n hx hb dX11_store_22 rfl (lv_at hl 2 rfl) ?_
  refine lv_iconst (v := Int32.ofInt 1) hx hb dX11_store_23 (by decide) ?_
  refine z_iadd hx hb dX11_store_24 ?_
  refine z_Vi (n := 2) (As := [.int (Int32.ofInt a1), .int (Int32.ofInt (a2 + 1))]) (rest := [.ref (ad 0 74)]) hx hb hml hg hown hK hP hD hS hA (kX11_where l D dA ad a1 (a2 + 1) (zsA σ2 0 74 x1 (a3 % 256)) _ _ hw) (zoR0) rfl q2130 q160 q2127 q2129 q130 (by decide +kernel) ⟨(Nat.le_of_ble_eq_true rfl), (Nat.le_of_ble_eq_true rfl)⟩ rfl hl.1 rfl (Nat.le_of_ble_eq_true rfl) dX11_store_25 ⟨(Nat.le_of_ble_eq_true rfl), (Nat.le_of_ble_eq_true rfl)⟩ (fun x4 σ5 H locs hw hP hD hS => ?_)
  refine lv_iload_n hx hb dX11_store_28 rfl (lv_at hl 3 rfl) ?_
  refine lv_bipush (v := Int32.ofInt 8) hx hb dX11_store_29 (by decide) ?_
  obtain ⟨o6, hw⟩ := hw
  refine z_ishrK (M := 256) hx hb 8 (by decide) (by decide) (by decide) o6 dX11_store_31 ?_
  refine lv_sipush (v := Int32.ofInt 255) hx hb dX11_store_32 (by decide) ?_
  refine z_iandK (M := 256) hx hb 8 (by decide) (by decide) (by decide) dX11_store_35 ?_
  obtain ⟨o7, hw⟩ := hw
  refine zsR0_74 (v := ((a3 / 256) % 256)) hx hb o7 hK hP hD hS dX11_store_36 (fun H locs hP hD hS => ?_)
  exact hret (zsA σ5 0 74 x4 ((a3 / 256) % 256)) _ _ _ _ hw hP hD hS dX11_store_37
def wpX11_fetch (σ : ZS) (Q : Int → ZS → Prop) : Prop := wpX11_where (zA σ 0 75 9) (zI σ 0 80) σ (fun (x1 : Int) (σ2 : ZS) => (0 ≤ x1 ∧ x1 < 4096) ∧ Q (zA σ2 0 74 x1) (zsI σ2 0 80 (((zI σ2 0 80) + 1) % 65536)))
set_option maxHeartbeats 4000000 in
set_option maxRecDepth 100000 in
theorem kX11_fetch (l : Launch) (D : va_G) (dA : Nat → ClassId) (ad : Int → Nat → Nat) (σ : ZS) (Q : Int → ZS → Prop) (sz : Nat) (hw : wpX11_fetch σ Q) : Met l yX11_fetch (gws yX11_fetch cX11_fetch 2 (some .int)) (gR 2 0 0) (gPre D dA [.ref (ad 0 1000)] (zR dA ad σ) sz) (va_Qi (zQi Q) (gAt D dA (va_A (zR dA ad σ) sz) (zR dA ad)) (va_A (zR dA ad σ) sz)) 0 0 (va_A (zR dA ad σ) sz) := by
  refine Met.ofW (cc := cX11_fetch) (maxL := 2) (ret := (some .int)) (by decide) rfl ?_
  intro p e s m args below meth c s₁ B hml hv
  obtain ⟨rfl, hsz, hP, hK, hD0⟩ := hv
  have hx := B.exec
  have hb := B.bytes
  have hr := B.returns
  have hts := atoms_spec (ws := gws yX11_fetch cX11_fetch 2 (some .int)) B.pre
  have hg : ∀ w ∈ gw, w.before _ s = true := fun w h => hts w (List.mem_cons_of_mem _ h)
  have hown : s.vm.findClass RX11 = some m.cls := findClass_of_methodNamed B.named
  have hlocks := B.notSynchronized
  subst hsz
  have hD := hD0.self (sz := s.heap.size)
  generalize hAe : va_A (zR dA ad σ) s.heap.size = A at hD ⊢
  have hA : ∀ q : Nat, s.heap.size ≤ q → A q := fun q h => by rw [← hAe]; exact Or.inr h
  have hS : va_S A s.heap s.heap [] := va_S.rf
  have hl := lv_entry ([.ref (ad 0 1000)]) (n := 2) (Nat.le_of_ble_eq_true rfl)
  rw [lg_entry_eq]
  generalize (lg_sl ([.ref (ad 0 1000)]) ++ List.replicate (2 - (lg_sl ([.ref (ad 0 1000)])).length) Slot.unset).toArray = ls at hl ⊢
  have hl : lv_has ls 2 [(0, .ref (ad 0 1000))] := hl
  have hret : ∀ (v : Int) (σ : ZS) (H : Heap) (locs : List Loc) (ls : Array Slot) (pc : Nat), Q v σ → va_P D vwC (zR dA ad σ) H → va_D A (zR dA ad σ) → va_S A s.heap H locs → decode cX11_fetch pc = .ok (.ireturn, 1) → W p l e (gR 2 0 0) s m #[.ref (ad 0 1000)] below meth c H locs 0 0 (MQ below (va_Qi (zQi Q) (gAt D dA A (zR dA ad)) A) #[.ref (ad 0 1000)] s 0 0 A) (F0 m pc ls [.int (Int32.ofInt v)]) := fun v σ H locs ls pc hw hP hD hS hd => g_iret hx hb hr rfl hlocks hK σ hP hD hS ⟨v, rfl, hw⟩ (Nat.le_of_ble_eq_true rfl) (Nat.le_of_ble_eq_true rfl) hd
  generalize MQ below (va_Qi (zQi Q) (gAt D dA A (zR dA ad)) A) #[.ref (ad 0 1000)] s 0 0 A = QQ at hret ⊢
  unfold wpX11_fetch at hw
  refine lv_aload_n hx hb dX11_fetch_0 rfl (lv_at hl 0 rfl) ?_
  refine zgR0_74 hx hb hg hown hK hP q1689 dX11_fetch_1 ?_
  refine lv_aload_n hx hb dX11_fetch_4 rfl (lv_at hl 0 rfl) ?_
  refine lv_aload_n hx hb dX11_fetch_5 rfl (lv_at hl 0 rfl) ?_
  refine zgR0_75 hx hb hg hown hK hP q1690 dX11_fetch_6 ?_
  refine lv_bipush (v := Int32.ofInt 9) hx hb dX11_fetch_9 (by decide) ?_
  refine zlR0_75 hx hb (by decide) hK hP dX11_fetch_11 ?_
  refine lv_aload_n hx hb dX11_fetch_12 rfl (lv_at hl 0 rfl) ?_
  refine zgR0_80 hx hb hg hown hK hP q1695 dX11_fetch_13 ?_
  refine z_Vi (n := 2) (As := [.int (Int32.ofInt (zA σ 0 75 9)), .int (Int32.ofInt (zI σ 0 80))]) (rest := [.ref (ad 0 74)]) hx hb hml hg hown hK hP hD hS hA (kX11_where l D dA ad (zA σ 0 75 9) (zI σ 0 80) σ _ _ hw) (zoR0) rfl q2130 q160 q2127 q2129 q130 (by decide +kernel) ⟨(Nat.le_of_ble_eq_true rfl), (Nat.le_of_ble_eq_true rfl)⟩ rfl hl.1 rfl (Nat.le_of_ble_eq_true rfl) dX11_fetch_16 ⟨(Nat.le_of_ble_eq_true rfl), (Nat.le_of_ble_eq_true rfl)⟩ (fun x1 σ2 H locs hw hP hD hS => ?_)
  obtain ⟨o3, hw⟩ := hw
  refine zlR0_74 hx hb o3 hK hP dX11_fetch_19 ?_
  refine lv_istore_n (lv' := [(1, .int (Int32.ofInt (zA σ2 0 74 x1))), (0, .ref (ad 0 1000))]) hx hb dX11_fetch_20 rfl hl (by decide) rfl (fun ls hl => ?_)
  refine lv_aload_n hx hb dX11_fetch_21 rfl (lv_at hl 1 rfl) ?_
  refine lv_aload_n hx hb dX11_fetch_22 rfl (lv_at hl 1 rfl) ?_
  refine zgR0_80 hx hb hg hown hK hP q1695 dX11_fetch_23 ?_
  refine lv_iconst (v := Int32.ofInt 1) hx hb dX11_fetch_26 (by decide) ?_
  refine z_iadd hx hb dX11_fetch_27 ?_
  refine lv_ldcw hx hb hown (hg _ q1907) dX11_fetch_28 ?_
  refine g_nrm (y := Int32.ofInt 65535) (by decide) ?_
  refine z_iandK (M := 65536) hx hb 16 (by decide) (by decide) (by decide) dX11_fetch_31 ?_
  refine zpR0_80 (v := (((zI σ2 0 80) + 1) % 65536)) hx hb hg hown hK hP hD hS q1695 dX11_fetch_32 (fun H locs hP hD hS => ?_)
  refine lv_iload_n hx hb dX11_fetch_35 rfl (lv_at hl 0 rfl) ?_
  exact hret (zA σ2 0 74 x1) (zsI σ2 0 80 (((zI σ2 0 80) + 1) % 65536)) _ _ _ _ hw hP hD hS dX11_fetch_36
