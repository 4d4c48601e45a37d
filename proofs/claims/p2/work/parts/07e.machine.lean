theorem q55 : Cond.selects RX4 yX4_push yX4_push ∈ gw := gw_in (i := 55) (by decide +kernel) rfl
theorem q56 : Cond.selects RX4 yX4_pop yX4_pop ∈ gw := gw_in (i := 56) (by decide +kernel) rfl
theorem q68 : Cond.selects RX4 yX4_jump yX4_jump ∈ gw := gw_in (i := 68) (by decide +kernel) rfl
theorem q74 : Cond.selects RX4 yX4_loop yX4_loop ∈ gw := gw_in (i := 74) (by decide +kernel) rfl
theorem q75 : Cond.selects RX4 yX4_callFar yX4_callFar ∈ gw := gw_in (i := 75) (by decide +kernel) rfl
theorem q76 : Cond.selects RX4 yX4_tellInt yX4_tellInt ∈ gw := gw_in (i := 76) (by decide +kernel) rfl
theorem q570 : Cond.fieldLink RX4 42 "SegmentBench$Machine" "ints" "I" ∈ gw := gw_in (i := 570) (by decide +kernel) rfl
theorem q572 : Cond.fieldLink RX4 19 "SegmentBench$Machine" "told" "[I" ∈ gw := gw_in (i := 572) (by decide +kernel) rfl
theorem q1409 : Cond.methodLink RX4 118 yX4_push ∈ gw := gw_in (i := 1409) (by decide +kernel) rfl
theorem q1411 : Cond.instanceMethod yX4_push ∈ gw := gw_in (i := 1411) (by decide +kernel) rfl
theorem q1412 : Cond.code yX4_push cX4_push 2 none ∈ gw := gw_in (i := 1412) (by decide +kernel) rfl
theorem q1413 : Cond.methodLink RX4 122 yX4_pop ∈ gw := gw_in (i := 1413) (by decide +kernel) rfl
theorem q1415 : Cond.instanceMethod yX4_pop ∈ gw := gw_in (i := 1415) (by decide +kernel) rfl
theorem q1416 : Cond.code yX4_pop cX4_pop 2 (some .int) ∈ gw := gw_in (i := 1416) (by decide +kernel) rfl
theorem q1464 : Cond.methodLink RX4 145 yX4_jump ∈ gw := gw_in (i := 1464) (by decide +kernel) rfl
theorem q1466 : Cond.instanceMethod yX4_jump ∈ gw := gw_in (i := 1466) (by decide +kernel) rfl
theorem q1467 : Cond.code yX4_jump cX4_jump 2 none ∈ gw := gw_in (i := 1467) (by decide +kernel) rfl
theorem q1490 : Cond.methodLink RX4 157 yX4_loop ∈ gw := gw_in (i := 1490) (by decide +kernel) rfl
theorem q1492 : Cond.instanceMethod yX4_loop ∈ gw := gw_in (i := 1492) (by decide +kernel) rfl
theorem q1493 : Cond.code yX4_loop cX4_loop 2 (some .int) ∈ gw := gw_in (i := 1493) (by decide +kernel) rfl
theorem q1494 : Cond.methodLink RX4 160 yX4_callFar ∈ gw := gw_in (i := 1494) (by decide +kernel) rfl
theorem q1496 : Cond.instanceMethod yX4_callFar ∈ gw := gw_in (i := 1496) (by decide +kernel) rfl
theorem q1497 : Cond.code yX4_callFar cX4_callFar 3 (some .int) ∈ gw := gw_in (i := 1497) (by decide +kernel) rfl
theorem q1498 : Cond.methodLink RX4 163 yX4_tellInt ∈ gw := gw_in (i := 1498) (by decide +kernel) rfl
theorem q1500 : Cond.instanceMethod yX4_tellInt ∈ gw := gw_in (i := 1500) (by decide +kernel) rfl
theorem q1501 : Cond.code yX4_tellInt cX4_tellInt 2 none ∈ gw := gw_in (i := 1501) (by decide +kernel) rfl
theorem q1502 : Cond.constant RX4 166 (65536) ∈ gw := gw_in (i := 1502) (by decide +kernel) rfl
theorem dX4_loop_0 : decode cX4_loop 0 = .ok (.aload_n 0, 1) := by decide +kernel
theorem dX4_loop_1 : decode cX4_loop 1 = .ok (.getfield 13, 3) := by decide +kernel
theorem dX4_loop_4 : decode cX4_loop 4 = .ok (.iconst 1, 1) := by decide +kernel
theorem dX4_loop_5 : decode cX4_loop 5 = .ok (.aload_n 0, 1) := by decide +kernel
theorem dX4_loop_6 : decode cX4_loop 6 = .ok (.getfield 13, 3) := by decide +kernel
theorem dX4_loop_9 : decode cX4_loop 9 = .ok (.iconst 1, 1) := by decide +kernel
theorem dX4_loop_10 : decode cX4_loop 10 = .ok (.iaload, 1) := by decide +kernel
theorem dX4_loop_11 : decode cX4_loop 11 = .ok (.iconst 1, 1) := by decide +kernel
theorem dX4_loop_12 : decode cX4_loop 12 = .ok (.isub, 1) := by decide +kernel
theorem dX4_loop_13 : decode cX4_loop 13 = .ok (.ldc 95, 2) := by decide +kernel
theorem dX4_loop_15 : decode cX4_loop 15 = .ok (.iand, 1) := by decide +kernel
theorem dX4_loop_16 : decode cX4_loop 16 = .ok (.iastore, 1) := by decide +kernel
theorem dX4_loop_17 : decode cX4_loop 17 = .ok (.aload_n 0, 1) := by decide +kernel
theorem dX4_loop_18 : decode cX4_loop 18 = .ok (.getfield 13, 3) := by decide +kernel
theorem dX4_loop_21 : decode cX4_loop 21 = .ok (.iconst 1, 1) := by decide +kernel
theorem dX4_loop_22 : decode cX4_loop 22 = .ok (.iaload, 1) := by decide +kernel
theorem dX4_loop_23 : decode cX4_loop 23 = .ok (.ifCond .eq 8, 3) := by decide +kernel
theorem dX4_loop_31 : decode cX4_loop 31 = .ok (.iconst 3, 1) := by decide +kernel
theorem dX4_loop_32 : decode cX4_loop 32 = .ok (.ireturn, 1) := by decide +kernel
theorem dX4_loop_26 : decode cX4_loop 26 = .ok (.aload_n 0, 1) := by decide +kernel
theorem dX4_loop_27 : decode cX4_loop 27 = .ok (.iload_n 1, 1) := by decide +kernel
theorem dX4_loop_28 : decode cX4_loop 28 = .ok (.invokevirtual 145, 3) := by decide +kernel
theorem dX4_callFar_0 : decode cX4_callFar 0 = .ok (.aload_n 0, 1) := by decide +kernel
theorem dX4_callFar_1 : decode cX4_callFar 1 = .ok (.aload_n 0, 1) := by decide +kernel
theorem dX4_callFar_2 : decode cX4_callFar 2 = .ok (.getfield 16, 3) := by decide +kernel
theorem dX4_callFar_5 : decode cX4_callFar 5 = .ok (.iconst 1, 1) := by decide +kernel
theorem dX4_callFar_6 : decode cX4_callFar 6 = .ok (.iaload, 1) := by decide +kernel
theorem dX4_callFar_7 : decode cX4_callFar 7 = .ok (.invokevirtual 118, 3) := by decide +kernel
theorem dX4_callFar_10 : decode cX4_callFar 10 = .ok (.aload_n 0, 1) := by decide +kernel
theorem dX4_callFar_11 : decode cX4_callFar 11 = .ok (.aload_n 0, 1) := by decide +kernel
theorem dX4_callFar_12 : decode cX4_callFar 12 = .ok (.getfield 26, 3) := by decide +kernel
theorem dX4_callFar_15 : decode cX4_callFar 15 = .ok (.invokevirtual 118, 3) := by decide +kernel
theorem dX4_callFar_18 : decode cX4_callFar 18 = .ok (.aload_n 0, 1) := by decide +kernel
theorem dX4_callFar_19 : decode cX4_callFar 19 = .ok (.iload_n 1, 1) := by decide +kernel
theorem dX4_callFar_20 : decode cX4_callFar 20 = .ok (.putfield 26, 3) := by decide +kernel
theorem dX4_callFar_23 : decode cX4_callFar 23 = .ok (.aload_n 0, 1) := by decide +kernel
theorem dX4_callFar_24 : decode cX4_callFar 24 = .ok (.getfield 16, 3) := by decide +kernel
theorem dX4_callFar_27 : decode cX4_callFar 27 = .ok (.iconst 1, 1) := by decide +kernel
theorem dX4_callFar_28 : decode cX4_callFar 28 = .ok (.iload_n 2, 1) := by decide +kernel
theorem dX4_callFar_29 : decode cX4_callFar 29 = .ok (.iastore, 1) := by decide +kernel
theorem dX4_callFar_30 : decode cX4_callFar 30 = .ok (.iconst 3, 1) := by decide +kernel
theorem dX4_callFar_31 : decode cX4_callFar 31 = .ok (.ireturn, 1) := by decide +kernel
theorem dX4_tellInt_0 : decode cX4_tellInt 0 = .ok (.aload_n 0, 1) := by decide +kernel
theorem dX4_tellInt_1 : decode cX4_tellInt 1 = .ok (.getfield 42, 3) := by decide +kernel
theorem dX4_tellInt_4 : decode cX4_tellInt 4 = .ok (.bipush 30, 2) := by decide +kernel
theorem dX4_tellInt_6 : decode cX4_tellInt 6 = .ok (.if_icmp .ge 23, 3) := by decide +kernel
theorem dX4_tellInt_29 : decode cX4_tellInt 29 = .ok (.aload_n 0, 1) := by decide +kernel
theorem dX4_tellInt_30 : decode cX4_tellInt 30 = .ok (.dup, 1) := by decide +kernel
theorem dX4_tellInt_31 : decode cX4_tellInt 31 = .ok (.getfield 42, 3) := by decide +kernel
theorem dX4_tellInt_34 : decode cX4_tellInt 34 = .ok (.iconst 1, 1) := by decide +kernel
theorem dX4_tellInt_35 : decode cX4_tellInt 35 = .ok (.iadd, 1) := by decide +kernel
theorem dX4_tellInt_36 : decode cX4_tellInt 36 = .ok (.putfield 42, 3) := by decide +kernel
theorem dX4_tellInt_39 : decode cX4_tellInt 39 = .ok (.return_, 1) := by decide +kernel
theorem dX4_tellInt_9 : decode cX4_tellInt 9 = .ok (.aload_n 0, 1) := by decide +kernel
theorem dX4_tellInt_10 : decode cX4_tellInt 10 = .ok (.getfield 19, 3) := by decide +kernel
theorem dX4_tellInt_13 : decode cX4_tellInt 13 = .ok (.aload_n 0, 1) := by decide +kernel
theorem dX4_tellInt_14 : decode cX4_tellInt 14 = .ok (.getfield 42, 3) := by decide +kernel
theorem dX4_tellInt_17 : decode cX4_tellInt 17 = .ok (.ldc 166, 2) := by decide +kernel
theorem dX4_tellInt_19 : decode cX4_tellInt 19 = .ok (.iload_n 1, 1) := by decide +kernel
theorem dX4_tellInt_20 : decode cX4_tellInt 20 = .ok (.imul, 1) := by decide +kernel
theorem dX4_tellInt_21 : decode cX4_tellInt 21 = .ok (.aload_n 0, 1) := by decide +kernel
theorem dX4_tellInt_22 : decode cX4_tellInt 22 = .ok (.getfield 13, 3) := by decide +kernel
theorem dX4_tellInt_25 : decode cX4_tellInt 25 = .ok (.iconst 0, 1) := by decide +kernel
theorem dX4_tellInt_26 : decode cX4_tellInt 26 = .ok (.iaload, 1) := by decide +kernel
theorem dX4_tellInt_27 : decode cX4_tellInt 27 = .ok (.iadd, 1) := by decide +kernel
theorem dX4_tellInt_28 : decode cX4_tellInt 28 = .ok (.iastore, 1) := by decide +kernel
theorem dX4_executeFlow_0 : decode cX4_executeFlow 0 = .ok (.iload_n 1, 1) := by decide +kernel
theorem dX4_executeFlow_1 : decode cX4_executeFlow 1 = .ok (.lookupswitch 187 #[(154, 132), (195, 145), (203, 155), (205, 175), (226, 103), (232, 112), (233, 93), (235, 83), (244, 185)], 83) := by decide +kernel
theorem dX4_executeFlow_133 : decode cX4_executeFlow 133 = .ok (.aload_n 0, 1) := by decide +kernel
theorem dX4_executeFlow_134 : decode cX4_executeFlow 134 = .ok (.aload_n 0, 1) := by decide +kernel
theorem dX4_executeFlow_135 : decode cX4_executeFlow 135 = .ok (.invokevirtual 106, 3) := by decide +kernel
theorem dX4_executeFlow_138 : decode cX4_executeFlow 138 = .ok (.aload_n 0, 1) := by decide +kernel
theorem dX4_executeFlow_139 : decode cX4_executeFlow 139 = .ok (.invokevirtual 106, 3) := by decide +kernel
theorem dX4_executeFlow_142 : decode cX4_executeFlow 142 = .ok (.invokevirtual 160, 3) := by decide +kernel
theorem dX4_executeFlow_145 : decode cX4_executeFlow 145 = .ok (.ireturn, 1) := by decide +kernel
theorem dX4_executeFlow_146 : decode cX4_executeFlow 146 = .ok (.aload_n 0, 1) := by decide +kernel
theorem dX4_executeFlow_147 : decode cX4_executeFlow 147 = .ok (.aload_n 0, 1) := by decide +kernel
theorem dX4_executeFlow_148 : decode cX4_executeFlow 148 = .ok (.invokevirtual 122, 3) := by decide +kernel
theorem dX4_executeFlow_151 : decode cX4_executeFlow 151 = .ok (.putfield 26, 3) := by decide +kernel
theorem dX4_executeFlow_154 : decode cX4_executeFlow 154 = .ok (.iconst 3, 1) := by decide +kernel
theorem dX4_executeFlow_155 : decode cX4_executeFlow 155 = .ok (.ireturn, 1) := by decide +kernel
theorem dX4_executeFlow_156 : decode cX4_executeFlow 156 = .ok (.aload_n 0, 1) := by decide +kernel
theorem dX4_executeFlow_157 : decode cX4_executeFlow 157 = .ok (.aload_n 0, 1) := by decide +kernel
theorem dX4_executeFlow_158 : decode cX4_executeFlow 158 = .ok (.invokevirtual 122, 3) := by decide +kernel
theorem dX4_executeFlow_161 : decode cX4_executeFlow 161 = .ok (.putfield 26, 3) := by decide +kernel
theorem dX4_executeFlow_164 : decode cX4_executeFlow 164 = .ok (.aload_n 0, 1) := by decide +kernel
theorem dX4_executeFlow_165 : decode cX4_executeFlow 165 = .ok (.getfield 16, 3) := by decide +kernel
theorem dX4_executeFlow_168 : decode cX4_executeFlow 168 = .ok (.iconst 1, 1) := by decide +kernel
theorem dX4_executeFlow_169 : decode cX4_executeFlow 169 = .ok (.aload_n 0, 1) := by decide +kernel
theorem dX4_executeFlow_170 : decode cX4_executeFlow 170 = .ok (.invokevirtual 122, 3) := by decide +kernel
theorem dX4_executeFlow_173 : decode cX4_executeFlow 173 = .ok (.iastore, 1) := by decide +kernel
theorem dX4_executeFlow_174 : decode cX4_executeFlow 174 = .ok (.iconst 3, 1) := by decide +kernel
theorem dX4_executeFlow_175 : decode cX4_executeFlow 175 = .ok (.ireturn, 1) := by decide +kernel
theorem dX4_executeFlow_176 : decode cX4_executeFlow 176 = .ok (.aload_n 0, 1) := by decide +kernel
theorem dX4_executeFlow_177 : decode cX4_executeFlow 177 = .ok (.aload_n 0, 1) := by decide +kernel
theorem dX4_executeFlow_178 : decode cX4_executeFlow 178 = .ok (.invokevirtual 88, 3) := by decide +kernel
theorem dX4_executeFlow_181 : decode cX4_executeFlow 181 = .ok (.invokevirtual 163, 3) := by decide +kernel
theorem dX4_executeFlow_184 : decode cX4_executeFlow 184 = .ok (.iconst 3, 1) := by decide +kernel
theorem dX4_executeFlow_185 : decode cX4_executeFlow 185 = .ok (.ireturn, 1) := by decide +kernel
theorem dX4_executeFlow_104 : decode cX4_executeFlow 104 = .ok (.aload_n 0, 1) := by decide +kernel
theorem dX4_executeFlow_105 : decode cX4_executeFlow 105 = .ok (.aload_n 0, 1) := by decide +kernel
theorem dX4_executeFlow_106 : decode cX4_executeFlow 106 = .ok (.invokevirtual 142, 3) := by decide +kernel
theorem dX4_executeFlow_109 : decode cX4_executeFlow 109 = .ok (.invokevirtual 157, 3) := by decide +kernel
theorem dX4_executeFlow_112 : decode cX4_executeFlow 112 = .ok (.ireturn, 1) := by decide +kernel
theorem dX4_executeFlow_113 : decode cX4_executeFlow 113 = .ok (.aload_n 0, 1) := by decide +kernel
theorem dX4_executeFlow_114 : decode cX4_executeFlow 114 = .ok (.invokevirtual 106, 3) := by decide +kernel
theorem dX4_executeFlow_117 : decode cX4_executeFlow 117 = .ok (.istore_n 2, 1) := by decide +kernel
theorem dX4_executeFlow_118 : decode cX4_executeFlow 118 = .ok (.aload_n 0, 1) := by decide +kernel
theorem dX4_executeFlow_119 : decode cX4_executeFlow 119 = .ok (.aload_n 0, 1) := by decide +kernel
theorem dX4_executeFlow_120 : decode cX4_executeFlow 120 = .ok (.getfield 26, 3) := by decide +kernel
theorem dX4_executeFlow_123 : decode cX4_executeFlow 123 = .ok (.invokevirtual 118, 3) := by decide +kernel
theorem dX4_executeFlow_126 : decode cX4_executeFlow 126 = .ok (.aload_n 0, 1) := by decide +kernel
theorem dX4_executeFlow_127 : decode cX4_executeFlow 127 = .ok (.iload_n 2, 1) := by decide +kernel
theorem dX4_executeFlow_128 : decode cX4_executeFlow 128 = .ok (.invokevirtual 145, 3) := by decide +kernel
theorem dX4_executeFlow_131 : decode cX4_executeFlow 131 = .ok (.iconst 3, 1) := by decide +kernel
theorem dX4_executeFlow_132 : decode cX4_executeFlow 132 = .ok (.ireturn, 1) := by decide +kernel
theorem dX4_executeFlow_94 : decode cX4_executeFlow 94 = .ok (.aload_n 0, 1) := by decide +kernel
theorem dX4_executeFlow_95 : decode cX4_executeFlow 95 = .ok (.aload_n 0, 1) := by decide +kernel
theorem dX4_executeFlow_96 : decode cX4_executeFlow 96 = .ok (.invokevirtual 106, 3) := by decide +kernel
theorem dX4_executeFlow_99 : decode cX4_executeFlow 99 = .ok (.invokevirtual 145, 3) := by decide +kernel
theorem dX4_executeFlow_102 : decode cX4_executeFlow 102 = .ok (.iconst 3, 1) := by decide +kernel
theorem dX4_executeFlow_103 : decode cX4_executeFlow 103 = .ok (.ireturn, 1) := by decide +kernel
theorem dX4_executeFlow_84 : decode cX4_executeFlow 84 = .ok (.aload_n 0, 1) := by decide +kernel
theorem dX4_executeFlow_85 : decode cX4_executeFlow 85 = .ok (.aload_n 0, 1) := by decide +kernel
theorem dX4_executeFlow_86 : decode cX4_executeFlow 86 = .ok (.invokevirtual 142, 3) := by decide +kernel
theorem dX4_executeFlow_89 : decode cX4_executeFlow 89 = .ok (.invokevirtual 145, 3) := by decide +kernel
theorem dX4_executeFlow_92 : decode cX4_executeFlow 92 = .ok (.iconst 3, 1) := by decide +kernel
theorem dX4_executeFlow_93 : decode cX4_executeFlow 93 = .ok (.ireturn, 1) := by decide +kernel
theorem dX4_executeFlow_186 : decode cX4_executeFlow 186 = .ok (.iconst 0, 1) := by decide +kernel
theorem dX4_executeFlow_187 : decode cX4_executeFlow 187 = .ok (.ireturn, 1) := by decide +kernel
theorem dX4_executeFlow_188 : decode cX4_executeFlow 188 = .ok (.iconst 2, 1) := by decide +kernel
theorem dX4_executeFlow_189 : decode cX4_executeFlow 189 = .ok (.ireturn, 1) := by decide +kernel
set_option maxHeartbeats 4000000 in
set_option maxRecDepth 100000 in
theorem s_X4_loop (l : Launch) (D : va_G) (dA : Nat → ClassId) (t0 : Nat) (a0 : Int32) (c0 : Nat) (c1 : Nat) (c2 : Nat) (i0 : Int32) (i1 : Int32) (i2 : Int32) (i3 : Int32) (i4 : Int32) (i5 : Int32) (i6 : Int32) (c3 : Nat) (i7 : Int32) (i8 : Int32) (i9 : Int32) (m0 : Nat → Int32) (m1 : Nat → Int32) (m2 : Nat → Int32) (m3 : Nat → Int32) (p0 : 0 ≤ i4.toInt ∧ i4.toInt ≤ 1) (p1 : 0 ≤ i6.toInt ∧ i6.toInt ≤ 1000000) (p2 : 0 ≤ i7.toInt ∧ i7.toInt ≤ 7) (p3 : -1 ≤ i8.toInt ∧ i8.toInt ≤ 7) (p4 : ∀ j : Nat, 0 ≤ (m0 j).toInt ∧ (m0 j).toInt ≤ 255) (sz : Nat) : Met l yX4_loop (gws yX4_loop cX4_loop 2 (some .int)) (gR 2 0 0) (gPre D dA [.ref t0, .int a0] [(t0, .inr (4, [.ref c0, .ref c1, .ref c2, .int i0, .int i1, .int i2, .int i3, .int i4, .int i5, .int i6, .ref c3, .int i7, .int i8, .int i9])), (c0, .inl (dA 0, 4096, .inl m0)), (c1, .inl (dA 0, 8, .inl m1)), (c2, .inl (dA 0, 4, .inl m2)), (c3, .inl (dA 0, 30, .inl m3))] sz) (va_Qi (fun (r : Int32) (u : Int32 × (Nat → Int32)) => (0 ≤ r.toInt ∧ r.toInt ≤ 3)) (gAt D dA (va_A [(t0, .inr (4, [.ref c0, .ref c1, .ref c2, .int i0, .int i1, .int i2, .int i3, .int i4, .int i5, .int i6, .ref c3, .int i7, .int i8, .int i9])), (c0, .inl (dA 0, 4096, .inl m0)), (c1, .inl (dA 0, 8, .inl m1)), (c2, .inl (dA 0, 4, .inl m2)), (c3, .inl (dA 0, 30, .inl m3))] sz) (fun u : Int32 × (Nat → Int32) => [(t0, .inr (4, [.ref c0, .ref c1, .ref c2, .int u.1, .int i1, .int i2, .int i3, .int i4, .int i5, .int i6, .ref c3, .int i7, .int i8, .int i9])), (c0, .inl (dA 0, 4096, .inl m0)), (c1, .inl (dA 0, 8, .inl (u.2))), (c2, .inl (dA 0, 4, .inl m2)), (c3, .inl (dA 0, 30, .inl m3))])) (va_A [(t0, .inr (4, [.ref c0, .ref c1, .ref c2, .int i0, .int i1, .int i2, .int i3, .int i4, .int i5, .int i6, .ref c3, .int i7, .int i8, .int i9])), (c0, .inl (dA 0, 4096, .inl m0)), (c1, .inl (dA 0, 8, .inl m1)), (c2, .inl (dA 0, 4, .inl m2)), (c3, .inl (dA 0, 30, .inl m3))] sz)) 0 0 (va_A [(t0, .inr (4, [.ref c0, .ref c1, .ref c2, .int i0, .int i1, .int i2, .int i3, .int i4, .int i5, .int i6, .ref c3, .int i7, .int i8, .int i9])), (c0, .inl (dA 0, 4096, .inl m0)), (c1, .inl (dA 0, 8, .inl m1)), (c2, .inl (dA 0, 4, .inl m2)), (c3, .inl (dA 0, 30, .inl m3))] sz) := by
  refine Met.ofW (cc := cX4_loop) (maxL := 2) (ret := (some .int)) (by decide) rfl ?_
  intro p e s m args below meth c s₁ B hml hv
  obtain ⟨rfl, hsz, hP, hK, hD0⟩ := hv
  have hx := B.exec
  have hb := B.bytes
  have hr := B.returns
  have hts := atoms_spec (ws := gws yX4_loop cX4_loop 2 (some .int)) B.pre
  have hg : ∀ w ∈ gw, w.before _ s = true := fun w h => hts w (List.mem_cons_of_mem _ h)
  have hown : s.vm.findClass RX4 = some m.cls := findClass_of_methodNamed B.named
  have hlocks := B.notSynchronized
  subst hsz
  have hD := hD0.self (sz := s.heap.size)
  generalize hAe : va_A [(t0, .inr (4, [.ref c0, .ref c1, .ref c2, .int i0, .int i1, .int i2, .int i3, .int i4, .int i5, .int i6, .ref c3, .int i7, .int i8, .int i9])), (c0, .inl (dA 0, 4096, .inl m0)), (c1, .inl (dA 0, 8, .inl m1)), (c2, .inl (dA 0, 4, .inl m2)), (c3, .inl (dA 0, 30, .inl m3))] s.heap.size = A at hD ⊢
  have hA : ∀ q : Nat, s.heap.size ≤ q → A q := fun q h => by rw [← hAe]; exact Or.inr h
  have hS : va_S A s.heap s.heap [] := va_S.rf
  have hP : va_P D vwC [(t0, .inr (4, [.ref c0, .ref c1, .ref c2, .int i0, .int i1, .int i2, .int i3, .int i4, .int i5, .int i6, .ref c3, .int i7, .int i8, .int i9])), (c0, .inl (dA 0, 4096, .inl m0)), (c1, .inl (dA 0, 8, .inl m1)), (c2, .inl (dA 0, 4, .inl m2)), (c3, .inl (dA 0, 30, .inl m3))] s.heap := hP
  have hl := lv_entry ([.ref t0, .int a0]) (n := 2) (Nat.le_of_ble_eq_true rfl)
  rw [lg_entry_eq]
  generalize (lg_sl ([.ref t0, .int a0]) ++ List.replicate (2 - (lg_sl ([.ref t0, .int a0])).length) Slot.unset).toArray = ls at hl ⊢
  have hl : lv_has ls 2 [(0, .ref t0), (1, .int a0)] := hl
  refine lv_aload_n hx hb dX4_loop_0 rfl (lv_at hl 0 rfl) ?_
  refine g_get hx hb hg hown hK hP 0 rfl rfl inX4 1 (by decide) q554 rfl dX4_loop_1 ?_
  refine lv_iconst (v := 1) hx hb dX4_loop_4 (by decide) ?_
  refine lv_aload_n hx hb dX4_loop_5 rfl (lv_at hl 0 rfl) ?_
  refine g_get hx hb hg hown hK hP 0 rfl rfl inX4 1 (by decide) q554 rfl dX4_loop_6 ?_
  refine lv_iconst (v := 1) hx hb dX4_loop_9 (by decide) ?_
  refine va_iald hx hb hK hP 2 0 rfl rfl (by unfold vp_in; decide) dX4_loop_10 ?_
  refine lv_topi (fun x1 e2 => ?_)
  refine lv_iconst (v := 1) hx hb dX4_loop_11 (by decide) ?_
  refine lv_isub hx hb dX4_loop_12 ?_
  have g3 := g_i32 x1
  refine lv_topi (fun x4 e5 => ?_)
  refine lv_ldc hx hb hown (hg _ q1400) dX4_loop_13 ?_
  refine lv_iand hx hb dX4_loop_15 ?_
  refine lv_topi (fun x6 e7 => ?_)
  have g8 : 0 ≤ x6.toInt ∧ x6.toInt ≤ 65535 := g_msk e7 16 (by decide) (by decide) (by decide)
  refine va_iast hx hb hK hP hD hS 2 0 rfl rfl (by unfold vp_in; decide) dX4_loop_16 (fun H locs hP hD hS => ?_)
  have hP : va_P D vwC [(t0, .inr (4, [.ref c0, .ref c1, .ref c2, .int i0, .int i1, .int i2, .int i3, .int i4, .int i5, .int i6, .ref c3, .int i7, .int i8, .int i9])), (c0, .inl (dA 0, 4096, .inl m0)), (c1, .inl (dA 0, 8, .inl (upd m1 (1 : Int32).toNatClampNeg x6))), (c2, .inl (dA 0, 4, .inl m2)), (c3, .inl (dA 0, 30, .inl m3))] H := hP
  have hD : va_D A [(t0, .inr (4, [.ref c0, .ref c1, .ref c2, .int i0, .int i1, .int i2, .int i3, .int i4, .int i5, .int i6, .ref c3, .int i7, .int i8, .int i9])), (c0, .inl (dA 0, 4096, .inl m0)), (c1, .inl (dA 0, 8, .inl (upd m1 (1 : Int32).toNatClampNeg x6))), (c2, .inl (dA 0, 4, .inl m2)), (c3, .inl (dA 0, 30, .inl m3))] := hD
  obtain ⟨f9, ef9⟩ : ∃ f : Nat → Int32, f = (upd m1 (1 : Int32).toNatClampNeg x6) := ⟨_, rfl⟩
  rw [← ef9] at hP hD
  refine lv_aload_n hx hb dX4_loop_17 rfl (lv_at hl 0 rfl) ?_
  refine g_get hx hb hg hown hK hP 0 rfl rfl inX4 1 (by decide) q554 rfl dX4_loop_18 ?_
  refine lv_iconst (v := 1) hx hb dX4_loop_21 (by decide) ?_
  refine va_iald hx hb hK hP 2 0 rfl rfl (by unfold vp_in; decide) dX4_loop_22 ?_
  refine lv_topi (fun x10 e11 => ?_)
  refine lv_if_eq (tgt := 31) hx hb dX4_loop_23 (by decide) (fun k12 => ?_) (fun k12 => ?_)
  · have g13 : x10.toInt = 0 := gi_eq (rfl : x10.toInt = x10.toInt) (by decide : (0 : Int32).toInt = 0) k12
    refine lv_iconst (v := 3) hx hb dX4_loop_31 (by decide) ?_
    exact g_iret hx hb hr rfl hlocks hK (i0, f9) hP hD hS (show 0 ≤ ((3 : Int32)).toInt ∧ ((3 : Int32)).toInt ≤ 3 from by decide) (Nat.le_of_ble_eq_true rfl) (Nat.le_of_ble_eq_true rfl) dX4_loop_32
  · have g14 : x10.toInt ≠ 0 := gi_neq (rfl : x10.toInt = x10.toInt) (by decide : (0 : Int32).toInt = 0) k12
    refine lv_aload_n hx hb dX4_loop_26 rfl (lv_at hl 0 rfl) ?_
    refine lv_iload_n hx hb dX4_loop_27 rfl (lv_at hl 1 rfl) ?_
    refine g_Vv (n := 1) (As := [.int a0]) (rest := []) (wr := []) hx hb hml hg hown hK hP hD hS hA (s_X4_jump l D dA t0 a0 c0 c1 c2 i0 i1 i2 i3 i4 i5 i6 c3 i7 i8 i9 m0 f9 m2 m3 (by omega) (by omega) (by omega) (by omega) p4 _) [0, 1, 2, 3, 4] [] rfl (by decide) rfl (by decide) (by decide) 0 rfl rfl q1467 q159 q1464 q1466 q68 (by decide +kernel) ⟨(Nat.le_of_ble_eq_true rfl), (Nat.le_of_ble_eq_true rfl)⟩ rfl hl.1 rfl (Nat.le_of_ble_eq_true rfl) dX4_loop_28 ⟨(Nat.le_of_ble_eq_true rfl), (Nat.le_of_ble_eq_true rfl)⟩ (fun u15 H locs w17 hP hD hS => ?_)
    refine W.widen (k := 0) (n := 0) (Nat.le_of_ble_eq_true rfl) (Nat.le_of_ble_eq_true rfl) ?_
    obtain ⟨x18, rfl⟩ : ∃ z, z = u15 := ⟨_, rfl⟩
    have hP : va_P D vwC [(t0, .inr (4, [.ref c0, .ref c1, .ref c2, .int x18, .int i1, .int i2, .int i3, .int i4, .int i5, .int i6, .ref c3, .int i7, .int i8, .int i9])), (c0, .inl (dA 0, 4096, .inl m0)), (c1, .inl (dA 0, 8, .inl f9)), (c2, .inl (dA 0, 4, .inl m2)), (c3, .inl (dA 0, 30, .inl m3))] H := hP
    have hD : va_D A [(t0, .inr (4, [.ref c0, .ref c1, .ref c2, .int x18, .int i1, .int i2, .int i3, .int i4, .int i5, .int i6, .ref c3, .int i7, .int i8, .int i9])), (c0, .inl (dA 0, 4096, .inl m0)), (c1, .inl (dA 0, 8, .inl f9)), (c2, .inl (dA 0, 4, .inl m2)), (c3, .inl (dA 0, 30, .inl m3))] := hD
    refine lv_iconst (v := 3) hx hb dX4_loop_31 (by decide) ?_
    exact g_iret hx hb hr rfl hlocks hK (x18, f9) hP hD hS (show 0 ≤ ((3 : Int32)).toInt ∧ ((3 : Int32)).toInt ≤ 3 from by decide) (Nat.le_of_ble_eq_true rfl) (Nat.le_of_ble_eq_true rfl) dX4_loop_32
set_option maxHeartbeats 4000000 in
set_option maxRecDepth 100000 in
theorem s_X4_callFar (l : Launch) (D : va_G) (dA : Nat → ClassId) (t0 : Nat) (a0 : Int32) (a1 : Int32) (c0 : Nat) (c1 : Nat) (c2 : Nat) (i0 : Int32) (i1 : Int32) (i2 : Int32) (i3 : Int32) (i4 : Int32) (i5 : Int32) (i6 : Int32) (c3 : Nat) (i7 : Int32) (i8 : Int32) (i9 : Int32) (m0 : Nat → Int32) (m1 : Nat → Int32) (m2 : Nat → Int32) (m3 : Nat → Int32) (p0 : 0 ≤ i4.toInt ∧ i4.toInt ≤ 1) (p1 : 0 ≤ i6.toInt ∧ i6.toInt ≤ 1000000) (p2 : 0 ≤ i7.toInt ∧ i7.toInt ≤ 7) (p3 : -1 ≤ i8.toInt ∧ i8.toInt ≤ 7) (p4 : ∀ j : Nat, 0 ≤ (m0 j).toInt ∧ (m0 j).toInt ≤ 255) (sz : Nat) : Met l yX4_callFar (gws yX4_callFar cX4_callFar 3 (some .int)) (gR 3 0 0) (gPre D dA [.ref t0, .int a0, .int a1] [(t0, .inr (4, [.ref c0, .ref c1, .ref c2, .int i0, .int i1, .int i2, .int i3, .int i4, .int i5, .int i6, .ref c3, .int i7, .int i8, .int i9])), (c0, .inl (dA 0, 4096, .inl m0)), (c1, .inl (dA 0, 8, .inl m1)), (c2, .inl (dA 0, 4, .inl m2)), (c3, .inl (dA 0, 30, .inl m3))] sz) (va_Qi (fun (r : Int32) (u : Int32 × (Nat → Int32) × (Nat → Int32) × (Nat → Int32)) => (0 ≤ r.toInt ∧ r.toInt ≤ 3) ∧ (∀ j : Nat, 0 ≤ (u.2.1 j).toInt ∧ (u.2.1 j).toInt ≤ 255)) (gAt D dA (va_A [(t0, .inr (4, [.ref c0, .ref c1, .ref c2, .int i0, .int i1, .int i2, .int i3, .int i4, .int i5, .int i6, .ref c3, .int i7, .int i8, .int i9])), (c0, .inl (dA 0, 4096, .inl m0)), (c1, .inl (dA 0, 8, .inl m1)), (c2, .inl (dA 0, 4, .inl m2)), (c3, .inl (dA 0, 30, .inl m3))] sz) (fun u : Int32 × (Nat → Int32) × (Nat → Int32) × (Nat → Int32) => [(t0, .inr (4, [.ref c0, .ref c1, .ref c2, .int u.1, .int i1, .int i2, .int i3, .int i4, .int i5, .int i6, .ref c3, .int i7, .int i8, .int i9])), (c0, .inl (dA 0, 4096, .inl (u.2.1))), (c1, .inl (dA 0, 8, .inl (u.2.2.1))), (c2, .inl (dA 0, 4, .inl (u.2.2.2))), (c3, .inl (dA 0, 30, .inl m3))])) (va_A [(t0, .inr (4, [.ref c0, .ref c1, .ref c2, .int i0, .int i1, .int i2, .int i3, .int i4, .int i5, .int i6, .ref c3, .int i7, .int i8, .int i9])), (c0, .inl (dA 0, 4096, .inl m0)), (c1, .inl (dA 0, 8, .inl m1)), (c2, .inl (dA 0, 4, .inl m2)), (c3, .inl (dA 0, 30, .inl m3))] sz)) 0 0 (va_A [(t0, .inr (4, [.ref c0, .ref c1, .ref c2, .int i0, .int i1, .int i2, .int i3, .int i4, .int i5, .int i6, .ref c3, .int i7, .int i8, .int i9])), (c0, .inl (dA 0, 4096, .inl m0)), (c1, .inl (dA 0, 8, .inl m1)), (c2, .inl (dA 0, 4, .inl m2)), (c3, .inl (dA 0, 30, .inl m3))] sz) := by
  refine Met.ofW (cc := cX4_callFar) (maxL := 3) (ret := (some .int)) (by decide) rfl ?_
  intro p e s m args below meth c s₁ B hml hv
  obtain ⟨rfl, hsz, hP, hK, hD0⟩ := hv
  have hx := B.exec
  have hb := B.bytes
  have hr := B.returns
  have hts := atoms_spec (ws := gws yX4_callFar cX4_callFar 3 (some .int)) B.pre
  have hg : ∀ w ∈ gw, w.before _ s = true := fun w h => hts w (List.mem_cons_of_mem _ h)
  have hown : s.vm.findClass RX4 = some m.cls := findClass_of_methodNamed B.named
  have hlocks := B.notSynchronized
  subst hsz
  have hD := hD0.self (sz := s.heap.size)
  generalize hAe : va_A [(t0, .inr (4, [.ref c0, .ref c1, .ref c2, .int i0, .int i1, .int i2, .int i3, .int i4, .int i5, .int i6, .ref c3, .int i7, .int i8, .int i9])), (c0, .inl (dA 0, 4096, .inl m0)), (c1, .inl (dA 0, 8, .inl m1)), (c2, .inl (dA 0, 4, .inl m2)), (c3, .inl (dA 0, 30, .inl m3))] s.heap.size = A at hD ⊢
  have hA : ∀ q : Nat, s.heap.size ≤ q → A q := fun q h => by rw [← hAe]; exact Or.inr h
  have hS : va_S A s.heap s.heap [] := va_S.rf
  have hP : va_P D vwC [(t0, .inr (4, [.ref c0, .ref c1, .ref c2, .int i0, .int i1, .int i2, .int i3, .int i4, .int i5, .int i6, .ref c3, .int i7, .int i8, .int i9])), (c0, .inl (dA 0, 4096, .inl m0)), (c1, .inl (dA 0, 8, .inl m1)), (c2, .inl (dA 0, 4, .inl m2)), (c3, .inl (dA 0, 30, .inl m3))] s.heap := hP
  have hl := lv_entry ([.ref t0, .int a0, .int a1]) (n := 3) (Nat.le_of_ble_eq_true rfl)
  rw [lg_entry_eq]
  generalize (lg_sl ([.ref t0, .int a0, .int a1]) ++ List.replicate (3 - (lg_sl ([.ref t0, .int a0, .int a1])).length) Slot.unset).toArray = ls at hl ⊢
  have hl : lv_has ls 3 [(0, .ref t0), (1, .int a0), (2, .int a1)] := hl
  refine lv_aload_n hx hb dX4_callFar_0 rfl (lv_at hl 0 rfl) ?_
  refine lv_aload_n hx hb dX4_callFar_1 rfl (lv_at hl 0 rfl) ?_
  refine g_get hx hb hg hown hK hP 0 rfl rfl inX4 2 (by decide) q556 rfl dX4_callFar_2 ?_
  refine lv_iconst (v := 1) hx hb dX4_callFar_5 (by decide) ?_
  refine va_iald hx hb hK hP 3 0 rfl rfl (by unfold vp_in; decide) dX4_callFar_6 ?_
  refine lv_topi (fun x1 e2 => ?_)
  refine g_Vv (n := 1) (As := [.int x1]) (rest := []) (wr := []) hx hb hml hg hown hK hP hD hS hA (s_X4_push l D dA t0 x1 c0 c1 c2 i0 i1 i2 i3 i4 i5 i6 c3 i7 i8 i9 m0 m1 m2 m3 (by omega) (by omega) (by omega) (by omega) p4 _) [0, 1, 2, 3, 4] [] rfl (by decide) rfl (by decide) (by decide) 0 rfl rfl q1412 q159 q1409 q1411 q55 (by decide +kernel) ⟨(Nat.le_of_ble_eq_true rfl), (Nat.le_of_ble_eq_true rfl)⟩ rfl hl.1 rfl (Nat.le_of_ble_eq_true rfl) dX4_callFar_7 ⟨(Nat.le_of_ble_eq_true rfl), (Nat.le_of_ble_eq_true rfl)⟩ (fun u3 H locs w5 hP hD hS => ?_)
  refine W.widen (k := 0) (n := 0) (Nat.le_of_ble_eq_true rfl) (Nat.le_of_ble_eq_true rfl) ?_
  obtain ⟨f6, f7⟩ := u3
  have hP : va_P D vwC [(t0, .inr (4, [.ref c0, .ref c1, .ref c2, .int i0, .int i1, .int i2, .int i3, .int i4, .int i5, .int i6, .ref c3, .int i7, .int i8, .int i9])), (c0, .inl (dA 0, 4096, .inl f6)), (c1, .inl (dA 0, 8, .inl f7)), (c2, .inl (dA 0, 4, .inl m2)), (c3, .inl (dA 0, 30, .inl m3))] H := hP
  have hD : va_D A [(t0, .inr (4, [.ref c0, .ref c1, .ref c2, .int i0, .int i1, .int i2, .int i3, .int i4, .int i5, .int i6, .ref c3, .int i7, .int i8, .int i9])), (c0, .inl (dA 0, 4096, .inl f6)), (c1, .inl (dA 0, 8, .inl f7)), (c2, .inl (dA 0, 4, .inl m2)), (c3, .inl (dA 0, 30, .inl m3))] := hD
  have g8 := w5
  have g8 : ∀ j : Nat, 0 ≤ (f6 j).toInt ∧ (f6 j).toInt ≤ 255 := g8
  refine lv_aload_n hx hb dX4_callFar_10 rfl (lv_at hl 0 rfl) ?_
  refine lv_aload_n hx hb dX4_callFar_11 rfl (lv_at hl 0 rfl) ?_
  refine g_get hx hb hg hown hK hP 0 rfl rfl inX4 3 (by decide) q558 rfl dX4_callFar_12 ?_
  refine g_Vv (n := 1) (As := [.int i0]) (rest := []) (wr := []) hx hb hml hg hown hK hP hD hS hA (s_X4_push l D dA t0 i0 c0 c1 c2 i0 i1 i2 i3 i4 i5 i6 c3 i7 i8 i9 f6 f7 m2 m3 (by omega) (by omega) (by omega) (by omega) g8 _) [0, 1, 2, 3, 4] [] rfl (by decide) rfl (by decide) (by decide) 0 rfl rfl q1412 q159 q1409 q1411 q55 (by decide +kernel) ⟨(Nat.le_of_ble_eq_true rfl), (Nat.le_of_ble_eq_true rfl)⟩ rfl hl.1 rfl (Nat.le_of_ble_eq_true rfl) dX4_callFar_15 ⟨(Nat.le_of_ble_eq_true rfl), (Nat.le_of_ble_eq_true rfl)⟩ (fun u9 H locs w11 hP hD hS => ?_)
  refine W.widen (k := 0) (n := 0) (Nat.le_of_ble_eq_true rfl) (Nat.le_of_ble_eq_true rfl) ?_
  obtain ⟨f12, f13⟩ := u9
  have hP : va_P D vwC [(t0, .inr (4, [.ref c0, .ref c1, .ref c2, .int i0, .int i1, .int i2, .int i3, .int i4, .int i5, .int i6, .ref c3, .int i7, .int i8, .int i9])), (c0, .inl (dA 0, 4096, .inl f12)), (c1, .inl (dA 0, 8, .inl f13)), (c2, .inl (dA 0, 4, .inl m2)), (c3, .inl (dA 0, 30, .inl m3))] H := hP
  have hD : va_D A [(t0, .inr (4, [.ref c0, .ref c1, .ref c2, .int i0, .int i1, .int i2, .int i3, .int i4, .int i5, .int i6, .ref c3, .int i7, .int i8, .int i9])), (c0, .inl (dA 0, 4096, .inl f12)), (c1, .inl (dA 0, 8, .inl f13)), (c2, .inl (dA 0, 4, .inl m2)), (c3, .inl (dA 0, 30, .inl m3))] := hD
  have g14 := w11
  have g14 : ∀ j : Nat, 0 ≤ (f12 j).toInt ∧ (f12 j).toInt ≤ 255 := g14
  refine lv_aload_n hx hb dX4_callFar_18 rfl (lv_at hl 0 rfl) ?_
  refine lv_iload_n hx hb dX4_callFar_19 rfl (lv_at hl 1 rfl) ?_
  refine g_put (w' := [(t0, .inr (4, [.ref c0, .ref c1, .ref c2, .int a0, .int i1, .int i2, .int i3, .int i4, .int i5, .int i6, .ref c3, .int i7, .int i8, .int i9])), (c0, .inl (dA 0, 4096, .inl f12)), (c1, .inl (dA 0, 8, .inl f13)), (c2, .inl (dA 0, 4, .inl m2)), (c3, .inl (dA 0, 30, .inl m3))]) hx hb hg hown hK hP hD hS 0 rfl rfl inX4 tyX4_ok nmX4 3 (by decide) q558 rfl rfl rfl (Nat.le_of_ble_eq_true rfl) rfl dX4_callFar_20 (fun H locs hP hD hS => ?_)
  refine lv_aload_n hx hb dX4_callFar_23 rfl (lv_at hl 0 rfl) ?_
  refine g_get hx hb hg hown hK hP 0 rfl rfl inX4 2 (by decide) q556 rfl dX4_callFar_24 ?_
  refine lv_iconst (v := 1) hx hb dX4_callFar_27 (by decide) ?_
  refine lv_iload_n hx hb dX4_callFar_28 rfl (lv_at hl 2 rfl) ?_
  refine va_iast hx hb hK hP hD hS 3 0 rfl rfl (by unfold vp_in; decide) dX4_callFar_29 (fun H locs hP hD hS => ?_)
  have hP : va_P D vwC [(t0, .inr (4, [.ref c0, .ref c1, .ref c2, .int a0, .int i1, .int i2, .int i3, .int i4, .int i5, .int i6, .ref c3, .int i7, .int i8, .int i9])), (c0, .inl (dA 0, 4096, .inl f12)), (c1, .inl (dA 0, 8, .inl f13)), (c2, .inl (dA 0, 4, .inl (upd m2 (1 : Int32).toNatClampNeg a1))), (c3, .inl (dA 0, 30, .inl m3))] H := hP
  have hD : va_D A [(t0, .inr (4, [.ref c0, .ref c1, .ref c2, .int a0, .int i1, .int i2, .int i3, .int i4, .int i5, .int i6, .ref c3, .int i7, .int i8, .int i9])), (c0, .inl (dA 0, 4096, .inl f12)), (c1, .inl (dA 0, 8, .inl f13)), (c2, .inl (dA 0, 4, .inl (upd m2 (1 : Int32).toNatClampNeg a1))), (c3, .inl (dA 0, 30, .inl m3))] := hD
  obtain ⟨f15, ef15⟩ : ∃ f : Nat → Int32, f = (upd m2 (1 : Int32).toNatClampNeg a1) := ⟨_, rfl⟩
  rw [← ef15] at hP hD
  refine lv_iconst (v := 3) hx hb dX4_callFar_30 (by decide) ?_
  exact g_iret hx hb hr rfl hlocks hK (a0, f12, f13, f15) hP hD hS ⟨(show 0 ≤ ((3 : Int32)).toInt ∧ ((3 : Int32)).toInt ≤ 3 from by decide), g14⟩ (Nat.le_of_ble_eq_true rfl) (Nat.le_of_ble_eq_true rfl) dX4_callFar_31
set_option maxHeartbeats 4000000 in
set_option maxRecDepth 100000 in
theorem s_X4_tellInt (l : Launch) (D : va_G) (dA : Nat → ClassId) (t0 : Nat) (a0 : Int32) (c0 : Nat) (c1 : Nat) (c2 : Nat) (i0 : Int32) (i1 : Int32) (i2 : Int32) (i3 : Int32) (i4 : Int32) (i5 : Int32) (i6 : Int32) (c3 : Nat) (i7 : Int32) (i8 : Int32) (i9 : Int32) (m0 : Nat → Int32) (m1 : Nat → Int32) (m2 : Nat → Int32) (m3 : Nat → Int32) (p0 : 0 ≤ i4.toInt ∧ i4.toInt ≤ 1) (p1 : 0 ≤ i6.toInt ∧ i6.toInt ≤ 1000000) (p2 : 0 ≤ i7.toInt ∧ i7.toInt ≤ 7) (p3 : -1 ≤ i8.toInt ∧ i8.toInt ≤ 7) (p4 : ∀ j : Nat, 0 ≤ (m0 j).toInt ∧ (m0 j).toInt ≤ 255) (sz : Nat) : Met l yX4_tellInt (gws yX4_tellInt cX4_tellInt 2 none) (gR 1 0 0) (gPre D dA [.ref t0, .int a0] [(t0, .inr (4, [.ref c0, .ref c1, .ref c2, .int i0, .int i1, .int i2, .int i3, .int i4, .int i5, .int i6, .ref c3, .int i7, .int i8, .int i9])), (c0, .inl (dA 0, 4096, .inl m0)), (c1, .inl (dA 0, 8, .inl m1)), (c2, .inl (dA 0, 4, .inl m2)), (c3, .inl (dA 0, 30, .inl m3))] sz) (va_Qv (fun u : Int32 × (Nat → Int32) => (i6.toInt ≤ u.1.toInt ∧ u.1.toInt ≤ i6.toInt + 1)) (gAt D dA (va_A [(t0, .inr (4, [.ref c0, .ref c1, .ref c2, .int i0, .int i1, .int i2, .int i3, .int i4, .int i5, .int i6, .ref c3, .int i7, .int i8, .int i9])), (c0, .inl (dA 0, 4096, .inl m0)), (c1, .inl (dA 0, 8, .inl m1)), (c2, .inl (dA 0, 4, .inl m2)), (c3, .inl (dA 0, 30, .inl m3))] sz) (fun u : Int32 × (Nat → Int32) => [(t0, .inr (4, [.ref c0, .ref c1, .ref c2, .int i0, .int i1, .int i2, .int i3, .int i4, .int i5, .int u.1, .ref c3, .int i7, .int i8, .int i9])), (c0, .inl (dA 0, 4096, .inl m0)), (c1, .inl (dA 0, 8, .inl m1)), (c2, .inl (dA 0, 4, .inl m2)), (c3, .inl (dA 0, 30, .inl (u.2)))])) (va_A [(t0, .inr (4, [.ref c0, .ref c1, .ref c2, .int i0, .int i1, .int i2, .int i3, .int i4, .int i5, .int i6, .ref c3, .int i7, .int i8, .int i9])), (c0, .inl (dA 0, 4096, .inl m0)), (c1, .inl (dA 0, 8, .inl m1)), (c2, .inl (dA 0, 4, .inl m2)), (c3, .inl (dA 0, 30, .inl m3))] sz)) 0 0 (va_A [(t0, .inr (4, [.ref c0, .ref c1, .ref c2, .int i0, .int i1, .int i2, .int i3, .int i4, .int i5, .int i6, .ref c3, .int i7, .int i8, .int i9])), (c0, .inl (dA 0, 4096, .inl m0)), (c1, .inl (dA 0, 8, .inl m1)), (c2, .inl (dA 0, 4, .inl m2)), (c3, .inl (dA 0, 30, .inl m3))] sz) := by
  refine Met.ofW (cc := cX4_tellInt) (maxL := 2) (ret := none) (by decide) rfl ?_
  intro p e s m args below meth c s₁ B hml hv
  obtain ⟨rfl, hsz, hP, hK, hD0⟩ := hv
  have hx := B.exec
  have hb := B.bytes
  have hr := B.returns
  have hts := atoms_spec (ws := gws yX4_tellInt cX4_tellInt 2 none) B.pre
  have hg : ∀ w ∈ gw, w.before _ s = true := fun w h => hts w (List.mem_cons_of_mem _ h)
  have hown : s.vm.findClass RX4 = some m.cls := findClass_of_methodNamed B.named
  have hlocks := B.notSynchronized
  subst hsz
  have hD := hD0.self (sz := s.heap.size)
  generalize hAe : va_A [(t0, .inr (4, [.ref c0, .ref c1, .ref c2, .int i0, .int i1, .int i2, .int i3, .int i4, .int i5, .int i6, .ref c3, .int i7, .int i8, .int i9])), (c0, .inl (dA 0, 4096, .inl m0)), (c1, .inl (dA 0, 8, .inl m1)), (c2, .inl (dA 0, 4, .inl m2)), (c3, .inl (dA 0, 30, .inl m3))] s.heap.size = A at hD ⊢
  have hA : ∀ q : Nat, s.heap.size ≤ q → A q := fun q h => by rw [← hAe]; exact Or.inr h
  have hS : va_S A s.heap s.heap [] := va_S.rf
  have hP : va_P D vwC [(t0, .inr (4, [.ref c0, .ref c1, .ref c2, .int i0, .int i1, .int i2, .int i3, .int i4, .int i5, .int i6, .ref c3, .int i7, .int i8, .int i9])), (c0, .inl (dA 0, 4096, .inl m0)), (c1, .inl (dA 0, 8, .inl m1)), (c2, .inl (dA 0, 4, .inl m2)), (c3, .inl (dA 0, 30, .inl m3))] s.heap := hP
  have hl := lv_entry ([.ref t0, .int a0]) (n := 2) (Nat.le_of_ble_eq_true rfl)
  rw [lg_entry_eq]
  generalize (lg_sl ([.ref t0, .int a0]) ++ List.replicate (2 - (lg_sl ([.ref t0, .int a0])).length) Slot.unset).toArray = ls at hl ⊢
  have hl : lv_has ls 2 [(0, .ref t0), (1, .int a0)] := hl
  refine lv_aload_n hx hb dX4_tellInt_0 rfl (lv_at hl 0 rfl) ?_
  refine g_get hx hb hg hown hK hP 0 rfl rfl inX4 9 (by decide) q570 rfl dX4_tellInt_1 ?_
  refine lv_bipush (v := 30) hx hb dX4_tellInt_4 (by decide) ?_
  refine lv_icmp_ge (tgt := 29) hx hb dX4_tellInt_6 (by decide) (fun k1 => ?_) (fun k1 => ?_)
  · have g2 : 30 ≤ i6.toInt := gi_le (by decide : (30 : Int32).toInt = 30) (rfl : i6.toInt = i6.toInt) k1
    refine lv_aload_n hx hb dX4_tellInt_29 rfl (lv_at hl 0 rfl) ?_
    refine lv_dup hx hb dX4_tellInt_30 rfl ?_
    refine g_get hx hb hg hown hK hP 0 rfl rfl inX4 9 (by decide) q570 rfl dX4_tellInt_31 ?_
    refine lv_iconst (v := 1) hx hb dX4_tellInt_34 (by decide) ?_
    refine lv_iadd hx hb dX4_tellInt_35 ?_
    refine lv_topi (fun x3 e4 => ?_)
    have g5 : x3.toInt = i6.toInt + 1 := g_add e4 rfl (by decide) (by omega) (by omega)
    refine g_put (w' := [(t0, .inr (4, [.ref c0, .ref c1, .ref c2, .int i0, .int i1, .int i2, .int i3, .int i4, .int i5, .int x3, .ref c3, .int i7, .int i8, .int i9])), (c0, .inl (dA 0, 4096, .inl m0)), (c1, .inl (dA 0, 8, .inl m1)), (c2, .inl (dA 0, 4, .inl m2)), (c3, .inl (dA 0, 30, .inl m3))]) hx hb hg hown hK hP hD hS 0 rfl rfl inX4 tyX4_ok nmX4 9 (by decide) q570 rfl rfl rfl (Nat.le_of_ble_eq_true rfl) rfl dX4_tellInt_36 (fun H locs hP hD hS => ?_)
    exact g_vret hx hb hr hlocks hK (x3, m3) hP hD hS (show i6.toInt ≤ x3.toInt ∧ x3.toInt ≤ i6.toInt + 1 from by omega) (Nat.le_of_ble_eq_true rfl) (Nat.le_of_ble_eq_true rfl) dX4_tellInt_39
  · have g6 : 30 > i6.toInt := gi_nle (by decide : (30 : Int32).toInt = 30) (rfl : i6.toInt = i6.toInt) k1
    refine lv_aload_n hx hb dX4_tellInt_9 rfl (lv_at hl 0 rfl) ?_
    refine g_get hx hb hg hown hK hP 0 rfl rfl inX4 10 (by decide) q572 rfl dX4_tellInt_10 ?_
    refine lv_aload_n hx hb dX4_tellInt_13 rfl (lv_at hl 0 rfl) ?_
    refine g_get hx hb hg hown hK hP 0 rfl rfl inX4 9 (by decide) q570 rfl dX4_tellInt_14 ?_
    refine lv_ldc hx hb hown (hg _ q1502) dX4_tellInt_17 ?_
    refine lv_iload_n hx hb dX4_tellInt_19 rfl (lv_at hl 1 rfl) ?_
    refine lv_imul hx hb dX4_tellInt_20 ?_
    have g7 := g_i32 a0
    refine lv_topi (fun x8 e9 => ?_)
    refine lv_aload_n hx hb dX4_tellInt_21 rfl (lv_at hl 0 rfl) ?_
    refine g_get hx hb hg hown hK hP 0 rfl rfl inX4 1 (by decide) q554 rfl dX4_tellInt_22 ?_
    refine lv_iconst (v := 0) hx hb dX4_tellInt_25 (by decide) ?_
    refine va_iald hx hb hK hP 2 0 rfl rfl (by unfold vp_in; decide) dX4_tellInt_26 ?_
    refine lv_topi (fun x10 e11 => ?_)
    refine lv_iadd hx hb dX4_tellInt_27 ?_
    have g12 := g_i32 x8
    have g13 := g_i32 x10
    refine lv_topi (fun x14 e15 => ?_)
    refine va_iast hx hb hK hP hD hS 4 0 rfl rfl (by rw [vp_in_iff]; omega) dX4_tellInt_28 (fun H locs hP hD hS => ?_)
    have hP : va_P D vwC [(t0, .inr (4, [.ref c0, .ref c1, .ref c2, .int i0, .int i1, .int i2, .int i3, .int i4, .int i5, .int i6, .ref c3, .int i7, .int i8, .int i9])), (c0, .inl (dA 0, 4096, .inl m0)), (c1, .inl (dA 0, 8, .inl m1)), (c2, .inl (dA 0, 4, .inl m2)), (c3, .inl (dA 0, 30, .inl (upd m3 (i6 : Int32).toNatClampNeg x14)))] H := hP
    have hD : va_D A [(t0, .inr (4, [.ref c0, .ref c1, .ref c2, .int i0, .int i1, .int i2, .int i3, .int i4, .int i5, .int i6, .ref c3, .int i7, .int i8, .int i9])), (c0, .inl (dA 0, 4096, .inl m0)), (c1, .inl (dA 0, 8, .inl m1)), (c2, .inl (dA 0, 4, .inl m2)), (c3, .inl (dA 0, 30, .inl (upd m3 (i6 : Int32).toNatClampNeg x14)))] := hD
    obtain ⟨f16, ef16⟩ : ∃ f : Nat → Int32, f = (upd m3 (i6 : Int32).toNatClampNeg x14) := ⟨_, rfl⟩
    rw [← ef16] at hP hD
    refine lv_aload_n hx hb dX4_tellInt_29 rfl (lv_at hl 0 rfl) ?_
    refine lv_dup hx hb dX4_tellInt_30 rfl ?_
    refine g_get hx hb hg hown hK hP 0 rfl rfl inX4 9 (by decide) q570 rfl dX4_tellInt_31 ?_
    refine lv_iconst (v := 1) hx hb dX4_tellInt_34 (by decide) ?_
    refine lv_iadd hx hb dX4_tellInt_35 ?_
    refine lv_topi (fun x17 e18 => ?_)
    have g19 : x17.toInt = i6.toInt + 1 := g_add e18 rfl (by decide) (by omega) (by omega)
    refine g_put (w' := [(t0, .inr (4, [.ref c0, .ref c1, .ref c2, .int i0, .int i1, .int i2, .int i3, .int i4, .int i5, .int x17, .ref c3, .int i7, .int i8, .int i9])), (c0, .inl (dA 0, 4096, .inl m0)), (c1, .inl (dA 0, 8, .inl m1)), (c2, .inl (dA 0, 4, .inl m2)), (c3, .inl (dA 0, 30, .inl f16))]) hx hb hg hown hK hP hD hS 0 rfl rfl inX4 tyX4_ok nmX4 9 (by decide) q570 rfl rfl rfl (Nat.le_of_ble_eq_true rfl) rfl dX4_tellInt_36 (fun H locs hP hD hS => ?_)
    exact g_vret hx hb hr hlocks hK (x17, f16) hP hD hS (show i6.toInt ≤ x17.toInt ∧ x17.toInt ≤ i6.toInt + 1 from by omega) (Nat.le_of_ble_eq_true rfl) (Nat.le_of_ble_eq_true rfl) dX4_tellInt_39
set_option maxHeartbeats 4000000 in
set_option maxRecDepth 100000 in
theorem s_X4_executeFlow (l : Launch) (D : va_G) (dA : Nat → ClassId) (t0 : Nat) (a0 : Int32) (c0 : Nat) (c1 : Nat) (c2 : Nat) (i0 : Int32) (i1 : Int32) (i2 : Int32) (i3 : Int32) (i4 : Int32) (i5 : Int32) (i6 : Int32) (c3 : Nat) (i7 : Int32) (i8 : Int32) (i9 : Int32) (m0 : Nat → Int32) (m1 : Nat → Int32) (m2 : Nat → Int32) (m3 : Nat → Int32) (p0 : 0 ≤ i4.toInt ∧ i4.toInt ≤ 1) (p1 : 0 ≤ i6.toInt ∧ i6.toInt ≤ 1000000) (p2 : 0 ≤ i7.toInt ∧ i7.toInt ≤ 7) (p3 : -1 ≤ i8.toInt ∧ i8.toInt ≤ 7) (p4 : ∀ j : Nat, 0 ≤ (m0 j).toInt ∧ (m0 j).toInt ≤ 255) (sz : Nat) : Met l yX4_executeFlow (gws yX4_executeFlow cX4_executeFlow 3 (some .int)) (gR 4 0 0) (gPre D dA [.ref t0, .int a0] [(t0, .inr (4, [.ref c0, .ref c1, .ref c2, .int i0, .int i1, .int i2, .int i3, .int i4, .int i5, .int i6, .ref c3, .int i7, .int i8, .int i9])), (c0, .inl (dA 0, 4096, .inl m0)), (c1, .inl (dA 0, 8, .inl m1)), (c2, .inl (dA 0, 4, .inl m2)), (c3, .inl (dA 0, 30, .inl m3))] sz) (va_Qi (fun (r : Int32) (u : Int32 × Int32 × (Nat → Int32) × (Nat → Int32) × (Nat → Int32) × (Nat → Int32)) => (0 ≤ r.toInt ∧ r.toInt ≤ 3) ∧ (i6.toInt ≤ u.2.1.toInt ∧ u.2.1.toInt ≤ i6.toInt + 1) ∧ (∀ j : Nat, 0 ≤ (u.2.2.1 j).toInt ∧ (u.2.2.1 j).toInt ≤ 255)) (gAt D dA (va_A [(t0, .inr (4, [.ref c0, .ref c1, .ref c2, .int i0, .int i1, .int i2, .int i3, .int i4, .int i5, .int i6, .ref c3, .int i7, .int i8, .int i9])), (c0, .inl (dA 0, 4096, .inl m0)), (c1, .inl (dA 0, 8, .inl m1)), (c2, .inl (dA 0, 4, .inl m2)), (c3, .inl (dA 0, 30, .inl m3))] sz) (fun u : Int32 × Int32 × (Nat → Int32) × (Nat → Int32) × (Nat → Int32) × (Nat → Int32) => [(t0, .inr (4, [.ref c0, .ref c1, .ref c2, .int u.1, .int i1, .int i2, .int i3, .int i4, .int i5, .int u.2.1, .ref c3, .int i7, .int i8, .int i9])), (c0, .inl (dA 0, 4096, .inl (u.2.2.1))), (c1, .inl (dA 0, 8, .inl (u.2.2.2.1))), (c2, .inl (dA 0, 4, .inl (u.2.2.2.2.1))), (c3, .inl (dA 0, 30, .inl (u.2.2.2.2.2)))])) (va_A [(t0, .inr (4, [.ref c0, .ref c1, .ref c2, .int i0, .int i1, .int i2, .int i3, .int i4, .int i5, .int i6, .ref c3, .int i7, .int i8, .int i9])), (c0, .inl (dA 0, 4096, .inl m0)), (c1, .inl (dA 0, 8, .inl m1)), (c2, .inl (dA 0, 4, .inl m2)), (c3, .inl (dA 0, 30, .inl m3))] sz)) 0 0 (va_A [(t0, .inr (4, [.ref c0, .ref c1, .ref c2, .int i0, .int i1, .int i2, .int i3, .int i4, .int i5, .int i6, .ref c3, .int i7, .int i8, .int i9])), (c0, .inl (dA 0, 4096, .inl m0)), (c1, .inl (dA 0, 8, .inl m1)), (c2, .inl (dA 0, 4, .inl m2)), (c3, .inl (dA 0, 30, .inl m3))] sz) := by
  refine Met.ofW (cc := cX4_executeFlow) (maxL := 3) (ret := (some .int)) (by decide) rfl ?_
  intro p e s m args below meth c s₁ B hml hv
  obtain ⟨rfl, hsz, hP, hK, hD0⟩ := hv
  have hx := B.exec
  have hb := B.bytes
  have hr := B.returns
  have hts := atoms_spec (ws := gws yX4_executeFlow cX4_executeFlow 3 (some .int)) B.pre
  have hg : ∀ w ∈ gw, w.before _ s = true := fun w h => hts w (List.mem_cons_of_mem _ h)
  have hown : s.vm.findClass RX4 = some m.cls := findClass_of_methodNamed B.named
  have hlocks := B.notSynchronized
  subst hsz
  have hD := hD0.self (sz := s.heap.size)
  generalize hAe : va_A [(t0, .inr (4, [.ref c0, .ref c1, .ref c2, .int i0, .int i1, .int i2, .int i3, .int i4, .int i5, .int i6, .ref c3, .int i7, .int i8, .int i9])), (c0, .inl (dA 0, 4096, .inl m0)), (c1, .inl (dA 0, 8, .inl m1)), (c2, .inl (dA 0, 4, .inl m2)), (c3, .inl (dA 0, 30, .inl m3))] s.heap.size = A at hD ⊢
  have hA : ∀ q : Nat, s.heap.size ≤ q → A q := fun q h => by rw [← hAe]; exact Or.inr h
  have hS : va_S A s.heap s.heap [] := va_S.rf
  have hP : va_P D vwC [(t0, .inr (4, [.ref c0, .ref c1, .ref c2, .int i0, .int i1, .int i2, .int i3, .int i4, .int i5, .int i6, .ref c3, .int i7, .int i8, .int i9])), (c0, .inl (dA 0, 4096, .inl m0)), (c1, .inl (dA 0, 8, .inl m1)), (c2, .inl (dA 0, 4, .inl m2)), (c3, .inl (dA 0, 30, .inl m3))] s.heap := hP
  have hl := lv_entry ([.ref t0, .int a0]) (n := 3) (Nat.le_of_ble_eq_true rfl)
  rw [lg_entry_eq]
  generalize (lg_sl ([.ref t0, .int a0]) ++ List.replicate (3 - (lg_sl ([.ref t0, .int a0])).length) Slot.unset).toArray = ls at hl ⊢
  have hl : lv_has ls 3 [(0, .ref t0), (1, .int a0)] := hl
  refine lv_iload_n hx hb dX4_executeFlow_0 rfl (lv_at hl 1 rfl) ?_
  by_cases s1 : a0 = 154
  · have g2 : a0.toInt = 154 := by rw [s1]; decide
    refine lv_lookup (off := 132) (tgt := 133) hx hb dX4_executeFlow_1 (by decide) (by rw [s1] <;> rfl) (by decide) ?_
    refine lv_aload_n hx hb dX4_executeFlow_133 rfl (lv_at hl 0 rfl) ?_
    refine lv_aload_n hx hb dX4_executeFlow_134 rfl (lv_at hl 0 rfl) ?_
    refine g_Vi (n := 0) (As := []) (rest := [.ref t0]) (wr := []) hx hb hml hg hown hK hP hD hS hA (s_X4_fetchWord l D dA t0 c0 c1 c2 i0 i1 i2 i3 i4 i5 i6 c3 i7 i8 i9 m0 m1 m2 m3 (by omega) (by omega) (by omega) (by omega) p4 _) [0, 1, 2, 3, 4] [] rfl (by decide) rfl (by decide) (by decide) 0 rfl rfl q1431 q159 q1428 q1430 q59 (by decide +kernel) ⟨(Nat.le_of_ble_eq_true rfl), (Nat.le_of_ble_eq_true rfl)⟩ rfl hl.1 rfl (Nat.le_of_ble_eq_true rfl) dX4_executeFlow_135 ⟨(Nat.le_of_ble_eq_true rfl), (Nat.le_of_ble_eq_true rfl)⟩ (fun x4 u3 H locs w5 hP hD hS => ?_)
    refine W.widen (k := 0) (n := 0) (Nat.le_of_ble_eq_true rfl) (Nat.le_of_ble_eq_true rfl) ?_
    obtain ⟨x6, rfl⟩ : ∃ z, z = u3 := ⟨_, rfl⟩
    have hP : va_P D vwC [(t0, .inr (4, [.ref c0, .ref c1, .ref c2, .int x6, .int i1, .int i2, .int i3, .int i4, .int i5, .int i6, .ref c3, .int i7, .int i8, .int i9])), (c0, .inl (dA 0, 4096, .inl m0)), (c1, .inl (dA 0, 8, .inl m1)), (c2, .inl (dA 0, 4, .inl m2)), (c3, .inl (dA 0, 30, .inl m3))] H := hP
    have hD : va_D A [(t0, .inr (4, [.ref c0, .ref c1, .ref c2, .int x6, .int i1, .int i2, .int i3, .int i4, .int i5, .int i6, .ref c3, .int i7, .int i8, .int i9])), (c0, .inl (dA 0, 4096, .inl m0)), (c1, .inl (dA 0, 8, .inl m1)), (c2, .inl (dA 0, 4, .inl m2)), (c3, .inl (dA 0, 30, .inl m3))] := hD
    refine lv_aload_n hx hb dX4_executeFlow_138 rfl (lv_at hl 0 rfl) ?_
    refine g_Vi (n := 0) (As := []) (rest := [.int x4, .ref t0]) (wr := []) hx hb hml hg hown hK hP hD hS hA (s_X4_fetchWord l D dA t0 c0 c1 c2 x6 i1 i2 i3 i4 i5 i6 c3 i7 i8 i9 m0 m1 m2 m3 (by omega) (by omega) (by omega) (by omega) p4 _) [0, 1, 2, 3, 4] [] rfl (by decide) rfl (by decide) (by decide) 0 rfl rfl q1431 q159 q1428 q1430 q59 (by decide +kernel) ⟨(Nat.le_of_ble_eq_true rfl), (Nat.le_of_ble_eq_true rfl)⟩ rfl hl.1 rfl (Nat.le_of_ble_eq_true rfl) dX4_executeFlow_139 ⟨(Nat.le_of_ble_eq_true rfl), (Nat.le_of_ble_eq_true rfl)⟩ (fun x8 u7 H locs w9 hP hD hS => ?_)
    refine W.widen (k := 0) (n := 0) (Nat.le_of_ble_eq_true rfl) (Nat.le_of_ble_eq_true rfl) ?_
    obtain ⟨x10, rfl⟩ : ∃ z, z = u7 := ⟨_, rfl⟩
    have hP : va_P D vwC [(t0, .inr (4, [.ref c0, .ref c1, .ref c2, .int x10, .int i1, .int i2, .int i3, .int i4, .int i5, .int i6, .ref c3, .int i7, .int i8, .int i9])), (c0, .inl (dA 0, 4096, .inl m0)), (c1, .inl (dA 0, 8, .inl m1)), (c2, .inl (dA 0, 4, .inl m2)), (c3, .inl (dA 0, 30, .inl m3))] H := hP
    have hD : va_D A [(t0, .inr (4, [.ref c0, .ref c1, .ref c2, .int x10, .int i1, .int i2, .int i3, .int i4, .int i5, .int i6, .ref c3, .int i7, .int i8, .int i9])), (c0, .inl (dA 0, 4096, .inl m0)), (c1, .inl (dA 0, 8, .inl m1)), (c2, .inl (dA 0, 4, .inl m2)), (c3, .inl (dA 0, 30, .inl m3))] := hD
    refine g_Vi (n := 2) (As := [.int x4, .int x8]) (rest := []) (wr := []) hx hb hml hg hown hK hP hD hS hA (s_X4_callFar l D dA t0 x4 x8 c0 c1 c2 x10 i1 i2 i3 i4 i5 i6 c3 i7 i8 i9 m0 m1 m2 m3 (by omega) (by omega) (by omega) (by omega) p4 _) [0, 1, 2, 3, 4] [] rfl (by decide) rfl (by decide) (by decide) 0 rfl rfl q1497 q159 q1494 q1496 q75 (by decide +kernel) ⟨(Nat.le_of_ble_eq_true rfl), (Nat.le_of_ble_eq_true rfl)⟩ rfl hl.1 rfl (Nat.le_of_ble_eq_true rfl) dX4_executeFlow_142 ⟨(Nat.le_of_ble_eq_true rfl), (Nat.le_of_ble_eq_true rfl)⟩ (fun x12 u11 H locs w13 hP hD hS => ?_)
    refine W.widen (k := 0) (n := 0) (Nat.le_of_ble_eq_true rfl) (Nat.le_of_ble_eq_true rfl) ?_
    obtain ⟨x14, f15, f16, f17⟩ := u11
    have hP : va_P D vwC [(t0, .inr (4, [.ref c0, .ref c1, .ref c2, .int x14, .int i1, .int i2, .int i3, .int i4, .int i5, .int i6, .ref c3, .int i7, .int i8, .int i9])), (c0, .inl (dA 0, 4096, .inl f15)), (c1, .inl (dA 0, 8, .inl f16)), (c2, .inl (dA 0, 4, .inl f17)), (c3, .inl (dA 0, 30, .inl m3))] H := hP
    have hD : va_D A [(t0, .inr (4, [.ref c0, .ref c1, .ref c2, .int x14, .int i1, .int i2, .int i3, .int i4, .int i5, .int i6, .ref c3, .int i7, .int i8, .int i9])), (c0, .inl (dA 0, 4096, .inl f15)), (c1, .inl (dA 0, 8, .inl f16)), (c2, .inl (dA 0, 4, .inl f17)), (c3, .inl (dA 0, 30, .inl m3))] := hD
    obtain ⟨g18, g19⟩ := w13
    have g18 : 0 ≤ x12.toInt ∧ x12.toInt ≤ 3 := g18
    have g19 : ∀ j : Nat, 0 ≤ (f15 j).toInt ∧ (f15 j).toInt ≤ 255 := g19
    exact g_iret hx hb hr rfl hlocks hK (x14, i6, f15, f16, f17, m3) hP hD hS ⟨(show 0 ≤ x12.toInt ∧ x12.toInt ≤ 3 from by omega), (show i6.toInt ≤ i6.toInt ∧ i6.toInt ≤ i6.toInt + 1 from by omega), g19⟩ (Nat.le_of_ble_eq_true rfl) (Nat.le_of_ble_eq_true rfl) dX4_executeFlow_145
  by_cases s20 : a0 = 195
  · have g21 : a0.toInt = 195 := by rw [s20]; decide
    refine lv_lookup (off := 145) (tgt := 146) hx hb dX4_executeFlow_1 (by decide) (by rw [s20] <;> rfl) (by decide) ?_
    refine lv_aload_n hx hb dX4_executeFlow_146 rfl (lv_at hl 0 rfl) ?_
    refine lv_aload_n hx hb dX4_executeFlow_147 rfl (lv_at hl 0 rfl) ?_
    refine g_Vi (n := 0) (As := []) (rest := [.ref t0]) (wr := []) hx hb hml hg hown hK hP hD hS hA (s_X4_pop l D dA t0 c0 c1 c2 i0 i1 i2 i3 i4 i5 i6 c3 i7 i8 i9 m0 m1 m2 m3 (by omega) (by omega) (by omega) (by omega) p4 _) [0, 1, 2, 3, 4] [] rfl (by decide) rfl (by decide) (by decide) 0 rfl rfl q1416 q159 q1413 q1415 q56 (by decide +kernel) ⟨(Nat.le_of_ble_eq_true rfl), (Nat.le_of_ble_eq_true rfl)⟩ rfl hl.1 rfl (Nat.le_of_ble_eq_true rfl) dX4_executeFlow_148 ⟨(Nat.le_of_ble_eq_true rfl), (Nat.le_of_ble_eq_true rfl)⟩ (fun x23 u22 H locs w24 hP hD hS => ?_)
    refine W.widen (k := 0) (n := 0) (Nat.le_of_ble_eq_true rfl) (Nat.le_of_ble_eq_true rfl) ?_
    obtain ⟨f25, rfl⟩ : ∃ z, z = u22 := ⟨_, rfl⟩
    have hP : va_P D vwC [(t0, .inr (4, [.ref c0, .ref c1, .ref c2, .int i0, .int i1, .int i2, .int i3, .int i4, .int i5, .int i6, .ref c3, .int i7, .int i8, .int i9])), (c0, .inl (dA 0, 4096, .inl m0)), (c1, .inl (dA 0, 8, .inl f25)), (c2, .inl (dA 0, 4, .inl m2)), (c3, .inl (dA 0, 30, .inl m3))] H := hP
    have hD : va_D A [(t0, .inr (4, [.ref c0, .ref c1, .ref c2, .int i0, .int i1, .int i2, .int i3, .int i4, .int i5, .int i6, .ref c3, .int i7, .int i8, .int i9])), (c0, .inl (dA 0, 4096, .inl m0)), (c1, .inl (dA 0, 8, .inl f25)), (c2, .inl (dA 0, 4, .inl m2)), (c3, .inl (dA 0, 30, .inl m3))] := hD
    refine g_put (w' := [(t0, .inr (4, [.ref c0, .ref c1, .ref c2, .int x23, .int i1, .int i2, .int i3, .int i4, .int i5, .int i6, .ref c3, .int i7, .int i8, .int i9])), (c0, .inl (dA 0, 4096, .inl m0)), (c1, .inl (dA 0, 8, .inl f25)), (c2, .inl (dA 0, 4, .inl m2)), (c3, .inl (dA 0, 30, .inl m3))]) hx hb hg hown hK hP hD hS 0 rfl rfl inX4 tyX4_ok nmX4 3 (by decide) q558 rfl rfl rfl (Nat.le_of_ble_eq_true rfl) rfl dX4_executeFlow_151 (fun H locs hP hD hS => ?_)
    refine lv_iconst (v := 3) hx hb dX4_executeFlow_154 (by decide) ?_
    exact g_iret hx hb hr rfl hlocks hK (x23, i6, m0, f25, m2, m3) hP hD hS ⟨(show 0 ≤ ((3 : Int32)).toInt ∧ ((3 : Int32)).toInt ≤ 3 from by decide), (show i6.toInt ≤ i6.toInt ∧ i6.toInt ≤ i6.toInt + 1 from by omega), p4⟩ (Nat.le_of_ble_eq_true rfl) (Nat.le_of_ble_eq_true rfl) dX4_executeFlow_155
  by_cases s26 : a0 = 203
  · have g27 : a0.toInt = 203 := by rw [s26]; decide
    refine lv_lookup (off := 155) (tgt := 156) hx hb dX4_executeFlow_1 (by decide) (by rw [s26] <;> rfl) (by decide) ?_
    refine lv_aload_n hx hb dX4_executeFlow_156 rfl (lv_at hl 0 rfl) ?_
    refine lv_aload_n hx hb dX4_executeFlow_157 rfl (lv_at hl 0 rfl) ?_
    refine g_Vi (n := 0) (As := []) (rest := [.ref t0]) (wr := []) hx hb hml hg hown hK hP hD hS hA (s_X4_pop l D dA t0 c0 c1 c2 i0 i1 i2 i3 i4 i5 i6 c3 i7 i8 i9 m0 m1 m2 m3 (by omega) (by omega) (by omega) (by omega) p4 _) [0, 1, 2, 3, 4] [] rfl (by decide) rfl (by decide) (by decide) 0 rfl rfl q1416 q159 q1413 q1415 q56 (by decide +kernel) ⟨(Nat.le_of_ble_eq_true rfl), (Nat.le_of_ble_eq_true rfl)⟩ rfl hl.1 rfl (Nat.le_of_ble_eq_true rfl) dX4_executeFlow_158 ⟨(Nat.le_of_ble_eq_true rfl), (Nat.le_of_ble_eq_true rfl)⟩ (fun x29 u28 H locs w30 hP hD hS => ?_)
    refine W.widen (k := 0) (n := 0) (Nat.le_of_ble_eq_true rfl) (Nat.le_of_ble_eq_true rfl) ?_
    obtain ⟨f31, rfl⟩ : ∃ z, z = u28 := ⟨_, rfl⟩
    have hP : va_P D vwC [(t0, .inr (4, [.ref c0, .ref c1, .ref c2, .int i0, .int i1, .int i2, .int i3, .int i4, .int i5, .int i6, .ref c3, .int i7, .int i8, .int i9])), (c0, .inl (dA 0, 4096, .inl m0)), (c1, .inl (dA 0, 8, .inl f31)), (c2, .inl (dA 0, 4, .inl m2)), (c3, .inl (dA 0, 30, .inl m3))] H := hP
    have hD : va_D A [(t0, .inr (4, [.ref c0, .ref c1, .ref c2, .int i0, .int i1, .int i2, .int i3, .int i4, .int i5, .int i6, .ref c3, .int i7, .int i8, .int i9])), (c0, .inl (dA 0, 4096, .inl m0)), (c1, .inl (dA 0, 8, .inl f31)), (c2, .inl (dA 0, 4, .inl m2)), (c3, .inl (dA 0, 30, .inl m3))] := hD
    refine g_put (w' := [(t0, .inr (4, [.ref c0, .ref c1, .ref c2, .int x29, .int i1, .int i2, .int i3, .int i4, .int i5, .int i6, .ref c3, .int i7, .int i8, .int i9])), (c0, .inl (dA 0, 4096, .inl m0)), (c1, .inl (dA 0, 8, .inl f31)), (c2, .inl (dA 0, 4, .inl m2)), (c3, .inl (dA 0, 30, .inl m3))]) hx hb hg hown hK hP hD hS 0 rfl rfl inX4 tyX4_ok nmX4 3 (by decide) q558 rfl rfl rfl (Nat.le_of_ble_eq_true rfl) rfl dX4_executeFlow_161 (fun H locs hP hD hS => ?_)
    refine lv_aload_n hx hb dX4_executeFlow_164 rfl (lv_at hl 0 rfl) ?_
    refine g_get hx hb hg hown hK hP 0 rfl rfl inX4 2 (by decide) q556 rfl dX4_executeFlow_165 ?_
    refine lv_iconst (v := 1) hx hb dX4_executeFlow_168 (by decide) ?_
    refine lv_aload_n hx hb dX4_executeFlow_169 rfl (lv_at hl 0 rfl) ?_
    refine g_Vi (n := 0) (As := []) (rest := [.int 1, .ref c2]) (wr := []) hx hb hml hg hown hK hP hD hS hA (s_X4_pop l D dA t0 c0 c1 c2 x29 i1 i2 i3 i4 i5 i6 c3 i7 i8 i9 m0 f31 m2 m3 (by omega) (by omega) (by omega) (by omega) p4 _) [0, 1, 2, 3, 4] [] rfl (by decide) rfl (by decide) (by decide) 0 rfl rfl q1416 q159 q1413 q1415 q56 (by decide +kernel) ⟨(Nat.le_of_ble_eq_true rfl), (Nat.le_of_ble_eq_true rfl)⟩ rfl hl.1 rfl (Nat.le_of_ble_eq_true rfl) dX4_executeFlow_170 ⟨(Nat.le_of_ble_eq_true rfl), (Nat.le_of_ble_eq_true rfl)⟩ (fun x33 u32 H locs w34 hP hD hS => ?_)
    refine W.widen (k := 0) (n := 0) (Nat.le_of_ble_eq_true rfl) (Nat.le_of_ble_eq_true rfl) ?_
    obtain ⟨f35, rfl⟩ : ∃ z, z = u32 := ⟨_, rfl⟩
    have hP : va_P D vwC [(t0, .inr (4, [.ref c0, .ref c1, .ref c2, .int x29, .int i1, .int i2, .int i3, .int i4, .int i5, .int i6, .ref c3, .int i7, .int i8, .int i9])), (c0, .inl (dA 0, 4096, .inl m0)), (c1, .inl (dA 0, 8, .inl f35)), (c2, .inl (dA 0, 4, .inl m2)), (c3, .inl (dA 0, 30, .inl m3))] H := hP
    have hD : va_D A [(t0, .inr (4, [.ref c0, .ref c1, .ref c2, .int x29, .int i1, .int i2, .int i3, .int i4, .int i5, .int i6, .ref c3, .int i7, .int i8, .int i9])), (c0, .inl (dA 0, 4096, .inl m0)), (c1, .inl (dA 0, 8, .inl f35)), (c2, .inl (dA 0, 4, .inl m2)), (c3, .inl (dA 0, 30, .inl m3))] := hD
    refine va_iast hx hb hK hP hD hS 3 0 rfl rfl (by unfold vp_in; decide) dX4_executeFlow_173 (fun H locs hP hD hS => ?_)
    have hP : va_P D vwC [(t0, .inr (4, [.ref c0, .ref c1, .ref c2, .int x29, .int i1, .int i2, .int i3, .int i4, .int i5, .int i6, .ref c3, .int i7, .int i8, .int i9])), (c0, .inl (dA 0, 4096, .inl m0)), (c1, .inl (dA 0, 8, .inl f35)), (c2, .inl (dA 0, 4, .inl (upd m2 (1 : Int32).toNatClampNeg x33))), (c3, .inl (dA 0, 30, .inl m3))] H := hP
    have hD : va_D A [(t0, .inr (4, [.ref c0, .ref c1, .ref c2, .int x29, .int i1, .int i2, .int i3, .int i4, .int i5, .int i6, .ref c3, .int i7, .int i8, .int i9])), (c0, .inl (dA 0, 4096, .inl m0)), (c1, .inl (dA 0, 8, .inl f35)), (c2, .inl (dA 0, 4, .inl (upd m2 (1 : Int32).toNatClampNeg x33))), (c3, .inl (dA 0, 30, .inl m3))] := hD
    obtain ⟨f36, ef36⟩ : ∃ f : Nat → Int32, f = (upd m2 (1 : Int32).toNatClampNeg x33) := ⟨_, rfl⟩
    rw [← ef36] at hP hD
    refine lv_iconst (v := 3) hx hb dX4_executeFlow_174 (by decide) ?_
    exact g_iret hx hb hr rfl hlocks hK (x29, i6, m0, f35, f36, m3) hP hD hS ⟨(show 0 ≤ ((3 : Int32)).toInt ∧ ((3 : Int32)).toInt ≤ 3 from by decide), (show i6.toInt ≤ i6.toInt ∧ i6.toInt ≤ i6.toInt + 1 from by omega), p4⟩ (Nat.le_of_ble_eq_true rfl) (Nat.le_of_ble_eq_true rfl) dX4_executeFlow_175
  by_cases s37 : a0 = 205
  · have g38 : a0.toInt = 205 := by rw [s37]; decide
    refine lv_lookup (off := 175) (tgt := 176) hx hb dX4_executeFlow_1 (by decide) (by rw [s37] <;> rfl) (by decide) ?_
    refine lv_aload_n hx hb dX4_executeFlow_176 rfl (lv_at hl 0 rfl) ?_
    refine lv_aload_n hx hb dX4_executeFlow_177 rfl (lv_at hl 0 rfl) ?_
    refine g_Vi (n := 0) (As := []) (rest := [.ref t0]) (wr := []) hx hb hml hg hown hK hP hD hS hA (s_X4_fetch l D dA t0 c0 c1 c2 i0 i1 i2 i3 i4 i5 i6 c3 i7 i8 i9 m0 m1 m2 m3 (by omega) (by omega) (by omega) (by omega) p4 _) [0, 1, 2, 3, 4] [] rfl (by decide) rfl (by decide) (by decide) 0 rfl rfl q1399 q159 q1396 q1398 q52 (by decide +kernel) ⟨(Nat.le_of_ble_eq_true rfl), (Nat.le_of_ble_eq_true rfl)⟩ rfl hl.1 rfl (Nat.le_of_ble_eq_true rfl) dX4_executeFlow_178 ⟨(Nat.le_of_ble_eq_true rfl), (Nat.le_of_ble_eq_true rfl)⟩ (fun x40 u39 H locs w41 hP hD hS => ?_)
    refine W.widen (k := 0) (n := 0) (Nat.le_of_ble_eq_true rfl) (Nat.le_of_ble_eq_true rfl) ?_
    obtain ⟨x42, rfl⟩ : ∃ z, z = u39 := ⟨_, rfl⟩
    have hP : va_P D vwC [(t0, .inr (4, [.ref c0, .ref c1, .ref c2, .int x42, .int i1, .int i2, .int i3, .int i4, .int i5, .int i6, .ref c3, .int i7, .int i8, .int i9])), (c0, .inl (dA 0, 4096, .inl m0)), (c1, .inl (dA 0, 8, .inl m1)), (c2, .inl (dA 0, 4, .inl m2)), (c3, .inl (dA 0, 30, .inl m3))] H := hP
    have hD : va_D A [(t0, .inr (4, [.ref c0, .ref c1, .ref c2, .int x42, .int i1, .int i2, .int i3, .int i4, .int i5, .int i6, .ref c3, .int i7, .int i8, .int i9])), (c0, .inl (dA 0, 4096, .inl m0)), (c1, .inl (dA 0, 8, .inl m1)), (c2, .inl (dA 0, 4, .inl m2)), (c3, .inl (dA 0, 30, .inl m3))] := hD
    have g43 := w41
    have g43 : 0 ≤ x40.toInt ∧ x40.toInt ≤ 255 := g43
    refine g_Vv (n := 1) (As := [.int x40]) (rest := []) (wr := []) hx hb hml hg hown hK hP hD hS hA (s_X4_tellInt l D dA t0 x40 c0 c1 c2 x42 i1 i2 i3 i4 i5 i6 c3 i7 i8 i9 m0 m1 m2 m3 (by omega) (by omega) (by omega) (by omega) p4 _) [0, 1, 2, 3, 4] [] rfl (by decide) rfl (by decide) (by decide) 0 rfl rfl q1501 q159 q1498 q1500 q76 (by decide +kernel) ⟨(Nat.le_of_ble_eq_true rfl), (Nat.le_of_ble_eq_true rfl)⟩ rfl hl.1 rfl (Nat.le_of_ble_eq_true rfl) dX4_executeFlow_181 ⟨(Nat.le_of_ble_eq_true rfl), (Nat.le_of_ble_eq_true rfl)⟩ (fun u44 H locs w46 hP hD hS => ?_)
    refine W.widen (k := 0) (n := 0) (Nat.le_of_ble_eq_true rfl) (Nat.le_of_ble_eq_true rfl) ?_
    obtain ⟨x47, f48⟩ := u44
    have hP : va_P D vwC [(t0, .inr (4, [.ref c0, .ref c1, .ref c2, .int x42, .int i1, .int i2, .int i3, .int i4, .int i5, .int x47, .ref c3, .int i7, .int i8, .int i9])), (c0, .inl (dA 0, 4096, .inl m0)), (c1, .inl (dA 0, 8, .inl m1)), (c2, .inl (dA 0, 4, .inl m2)), (c3, .inl (dA 0, 30, .inl f48))] H := hP
    have hD : va_D A [(t0, .inr (4, [.ref c0, .ref c1, .ref c2, .int x42, .int i1, .int i2, .int i3, .int i4, .int i5, .int x47, .ref c3, .int i7, .int i8, .int i9])), (c0, .inl (dA 0, 4096, .inl m0)), (c1, .inl (dA 0, 8, .inl m1)), (c2, .inl (dA 0, 4, .inl m2)), (c3, .inl (dA 0, 30, .inl f48))] := hD
    have g49 := w46
    have g49 : i6.toInt ≤ x47.toInt ∧ x47.toInt ≤ i6.toInt + 1 := g49
    refine lv_iconst (v := 3) hx hb dX4_executeFlow_184 (by decide) ?_
    exact g_iret hx hb hr rfl hlocks hK (x42, x47, m0, m1, m2, f48) hP hD hS ⟨(show 0 ≤ ((3 : Int32)).toInt ∧ ((3 : Int32)).toInt ≤ 3 from by decide), (show i6.toInt ≤ x47.toInt ∧ x47.toInt ≤ i6.toInt + 1 from by omega), p4⟩ (Nat.le_of_ble_eq_true rfl) (Nat.le_of_ble_eq_true rfl) dX4_executeFlow_185
  by_cases s50 : a0 = 226
  · have g51 : a0.toInt = 226 := by rw [s50]; decide
    refine lv_lookup (off := 103) (tgt := 104) hx hb dX4_executeFlow_1 (by decide) (by rw [s50] <;> rfl) (by decide) ?_
    refine lv_aload_n hx hb dX4_executeFlow_104 rfl (lv_at hl 0 rfl) ?_
    refine lv_aload_n hx hb dX4_executeFlow_105 rfl (lv_at hl 0 rfl) ?_
    refine g_Vi (n := 0) (As := []) (rest := [.ref t0]) (wr := []) hx hb hml hg hown hK hP hD hS hA (s_X4_fetchSigned l D dA t0 c0 c1 c2 i0 i1 i2 i3 i4 i5 i6 c3 i7 i8 i9 m0 m1 m2 m3 (by omega) (by omega) (by omega) (by omega) p4 _) [0, 1, 2, 3, 4] [] rfl (by decide) rfl (by decide) (by decide) 0 rfl rfl q1435 q159 q1432 q1434 q60 (by decide +kernel) ⟨(Nat.le_of_ble_eq_true rfl), (Nat.le_of_ble_eq_true rfl)⟩ rfl hl.1 rfl (Nat.le_of_ble_eq_true rfl) dX4_executeFlow_106 ⟨(Nat.le_of_ble_eq_true rfl), (Nat.le_of_ble_eq_true rfl)⟩ (fun x53 u52 H locs w54 hP hD hS => ?_)
    refine W.widen (k := 0) (n := 0) (Nat.le_of_ble_eq_true rfl) (Nat.le_of_ble_eq_true rfl) ?_
    obtain ⟨x55, rfl⟩ : ∃ z, z = u52 := ⟨_, rfl⟩
    have hP : va_P D vwC [(t0, .inr (4, [.ref c0, .ref c1, .ref c2, .int x55, .int i1, .int i2, .int i3, .int i4, .int i5, .int i6, .ref c3, .int i7, .int i8, .int i9])), (c0, .inl (dA 0, 4096, .inl m0)), (c1, .inl (dA 0, 8, .inl m1)), (c2, .inl (dA 0, 4, .inl m2)), (c3, .inl (dA 0, 30, .inl m3))] H := hP
    have hD : va_D A [(t0, .inr (4, [.ref c0, .ref c1, .ref c2, .int x55, .int i1, .int i2, .int i3, .int i4, .int i5, .int i6, .ref c3, .int i7, .int i8, .int i9])), (c0, .inl (dA 0, 4096, .inl m0)), (c1, .inl (dA 0, 8, .inl m1)), (c2, .inl (dA 0, 4, .inl m2)), (c3, .inl (dA 0, 30, .inl m3))] := hD
    have g56 := w54
    have g56 : -128 ≤ x53.toInt ∧ x53.toInt ≤ 127 := g56
    refine g_Vi (n := 1) (As := [.int x53]) (rest := []) (wr := []) hx hb hml hg hown hK hP hD hS hA (s_X4_loop l D dA t0 x53 c0 c1 c2 x55 i1 i2 i3 i4 i5 i6 c3 i7 i8 i9 m0 m1 m2 m3 (by omega) (by omega) (by omega) (by omega) p4 _) [0, 1, 2, 3, 4] [] rfl (by decide) rfl (by decide) (by decide) 0 rfl rfl q1493 q159 q1490 q1492 q74 (by decide +kernel) ⟨(Nat.le_of_ble_eq_true rfl), (Nat.le_of_ble_eq_true rfl)⟩ rfl hl.1 rfl (Nat.le_of_ble_eq_true rfl) dX4_executeFlow_109 ⟨(Nat.le_of_ble_eq_true rfl), (Nat.le_of_ble_eq_true rfl)⟩ (fun x58 u57 H locs w59 hP hD hS => ?_)
    refine W.widen (k := 0) (n := 0) (Nat.le_of_ble_eq_true rfl) (Nat.le_of_ble_eq_true rfl) ?_
    obtain ⟨x60, f61⟩ := u57
    have hP : va_P D vwC [(t0, .inr (4, [.ref c0, .ref c1, .ref c2, .int x60, .int i1, .int i2, .int i3, .int i4, .int i5, .int i6, .ref c3, .int i7, .int i8, .int i9])), (c0, .inl (dA 0, 4096, .inl m0)), (c1, .inl (dA 0, 8, .inl f61)), (c2, .inl (dA 0, 4, .inl m2)), (c3, .inl (dA 0, 30, .inl m3))] H := hP
    have hD : va_D A [(t0, .inr (4, [.ref c0, .ref c1, .ref c2, .int x60, .int i1, .int i2, .int i3, .int i4, .int i5, .int i6, .ref c3, .int i7, .int i8, .int i9])), (c0, .inl (dA 0, 4096, .inl m0)), (c1, .inl (dA 0, 8, .inl f61)), (c2, .inl (dA 0, 4, .inl m2)), (c3, .inl (dA 0, 30, .inl m3))] := hD
    have g62 := w59
    have g62 : 0 ≤ x58.toInt ∧ x58.toInt ≤ 3 := g62
    exact g_iret hx hb hr rfl hlocks hK (x60, i6, m0, f61, m2, m3) hP hD hS ⟨(show 0 ≤ x58.toInt ∧ x58.toInt ≤ 3 from by omega), (show i6.toInt ≤ i6.toInt ∧ i6.toInt ≤ i6.toInt + 1 from by omega), p4⟩ (Nat.le_of_ble_eq_true rfl) (Nat.le_of_ble_eq_true rfl) dX4_executeFlow_112
  by_cases s63 : a0 = 232
  · have g64 : a0.toInt = 232 := by rw [s63]; decide
    refine lv_lookup (off := 112) (tgt := 113) hx hb dX4_executeFlow_1 (by decide) (by rw [s63] <;> rfl) (by decide) ?_
    refine lv_aload_n hx hb dX4_executeFlow_113 rfl (lv_at hl 0 rfl) ?_
    refine g_Vi (n := 0) (As := []) (rest := []) (wr := []) hx hb hml hg hown hK hP hD hS hA (s_X4_fetchWord l D dA t0 c0 c1 c2 i0 i1 i2 i3 i4 i5 i6 c3 i7 i8 i9 m0 m1 m2 m3 (by omega) (by omega) (by omega) (by omega) p4 _) [0, 1, 2, 3, 4] [] rfl (by decide) rfl (by decide) (by decide) 0 rfl rfl q1431 q159 q1428 q1430 q59 (by decide +kernel) ⟨(Nat.le_of_ble_eq_true rfl), (Nat.le_of_ble_eq_true rfl)⟩ rfl hl.1 rfl (Nat.le_of_ble_eq_true rfl) dX4_executeFlow_114 ⟨(Nat.le_of_ble_eq_true rfl), (Nat.le_of_ble_eq_true rfl)⟩ (fun x66 u65 H locs w67 hP hD hS => ?_)
    refine W.widen (k := 0) (n := 0) (Nat.le_of_ble_eq_true rfl) (Nat.le_of_ble_eq_true rfl) ?_
    obtain ⟨x68, rfl⟩ : ∃ z, z = u65 := ⟨_, rfl⟩
    have hP : va_P D vwC [(t0, .inr (4, [.ref c0, .ref c1, .ref c2, .int x68, .int i1, .int i2, .int i3, .int i4, .int i5, .int i6, .ref c3, .int i7, .int i8, .int i9])), (c0, .inl (dA 0, 4096, .inl m0)), (c1, .inl (dA 0, 8, .inl m1)), (c2, .inl (dA 0, 4, .inl m2)), (c3, .inl (dA 0, 30, .inl m3))] H := hP
    have hD : va_D A [(t0, .inr (4, [.ref c0, .ref c1, .ref c2, .int x68, .int i1, .int i2, .int i3, .int i4, .int i5, .int i6, .ref c3, .int i7, .int i8, .int i9])), (c0, .inl (dA 0, 4096, .inl m0)), (c1, .inl (dA 0, 8, .inl m1)), (c2, .inl (dA 0, 4, .inl m2)), (c3, .inl (dA 0, 30, .inl m3))] := hD
    refine lv_istore_n (lv' := [(2, .int x66), (0, .ref t0), (1, .int a0)]) hx hb dX4_executeFlow_117 rfl hl (by decide) rfl (fun ls hl => ?_)
    refine lv_aload_n hx hb dX4_executeFlow_118 rfl (lv_at hl 1 rfl) ?_
    refine lv_aload_n hx hb dX4_executeFlow_119 rfl (lv_at hl 1 rfl) ?_
    refine g_get hx hb hg hown hK hP 0 rfl rfl inX4 3 (by decide) q558 rfl dX4_executeFlow_120 ?_
    refine g_Vv (n := 1) (As := [.int x68]) (rest := []) (wr := []) hx hb hml hg hown hK hP hD hS hA (s_X4_push l D dA t0 x68 c0 c1 c2 x68 i1 i2 i3 i4 i5 i6 c3 i7 i8 i9 m0 m1 m2 m3 (by omega) (by omega) (by omega) (by omega) p4 _) [0, 1, 2, 3, 4] [] rfl (by decide) rfl (by decide) (by decide) 0 rfl rfl q1412 q159 q1409 q1411 q55 (by decide +kernel) ⟨(Nat.le_of_ble_eq_true rfl), (Nat.le_of_ble_eq_true rfl)⟩ rfl hl.1 rfl (Nat.le_of_ble_eq_true rfl) dX4_executeFlow_123 ⟨(Nat.le_of_ble_eq_true rfl), (Nat.le_of_ble_eq_true rfl)⟩ (fun u69 H locs w71 hP hD hS => ?_)
    refine W.widen (k := 0) (n := 0) (Nat.le_of_ble_eq_true rfl) (Nat.le_of_ble_eq_true rfl) ?_
    obtain ⟨f72, f73⟩ := u69
    have hP : va_P D vwC [(t0, .inr (4, [.ref c0, .ref c1, .ref c2, .int x68, .int i1, .int i2, .int i3, .int i4, .int i5, .int i6, .ref c3, .int i7, .int i8, .int i9])), (c0, .inl (dA 0, 4096, .inl f72)), (c1, .inl (dA 0, 8, .inl f73)), (c2, .inl (dA 0, 4, .inl m2)), (c3, .inl (dA 0, 30, .inl m3))] H := hP
    have hD : va_D A [(t0, .inr (4, [.ref c0, .ref c1, .ref c2, .int x68, .int i1, .int i2, .int i3, .int i4, .int i5, .int i6, .ref c3, .int i7, .int i8, .int i9])), (c0, .inl (dA 0, 4096, .inl f72)), (c1, .inl (dA 0, 8, .inl f73)), (c2, .inl (dA 0, 4, .inl m2)), (c3, .inl (dA 0, 30, .inl m3))] := hD
    have g74 := w71
    have g74 : ∀ j : Nat, 0 ≤ (f72 j).toInt ∧ (f72 j).toInt ≤ 255 := g74
    refine lv_aload_n hx hb dX4_executeFlow_126 rfl (lv_at hl 1 rfl) ?_
    refine lv_iload_n hx hb dX4_executeFlow_127 rfl (lv_at hl 0 rfl) ?_
    refine g_Vv (n := 1) (As := [.int x66]) (rest := []) (wr := []) hx hb hml hg hown hK hP hD hS hA (s_X4_jump l D dA t0 x66 c0 c1 c2 x68 i1 i2 i3 i4 i5 i6 c3 i7 i8 i9 f72 f73 m2 m3 (by omega) (by omega) (by omega) (by omega) g74 _) [0, 1, 2, 3, 4] [] rfl (by decide) rfl (by decide) (by decide) 0 rfl rfl q1467 q159 q1464 q1466 q68 (by decide +kernel) ⟨(Nat.le_of_ble_eq_true rfl), (Nat.le_of_ble_eq_true rfl)⟩ rfl hl.1 rfl (Nat.le_of_ble_eq_true rfl) dX4_executeFlow_128 ⟨(Nat.le_of_ble_eq_true rfl), (Nat.le_of_ble_eq_true rfl)⟩ (fun u75 H locs w77 hP hD hS => ?_)
    refine W.widen (k := 0) (n := 0) (Nat.le_of_ble_eq_true rfl) (Nat.le_of_ble_eq_true rfl) ?_
    obtain ⟨x78, rfl⟩ : ∃ z, z = u75 := ⟨_, rfl⟩
    have hP : va_P D vwC [(t0, .inr (4, [.ref c0, .ref c1, .ref c2, .int x78, .int i1, .int i2, .int i3, .int i4, .int i5, .int i6, .ref c3, .int i7, .int i8, .int i9])), (c0, .inl (dA 0, 4096, .inl f72)), (c1, .inl (dA 0, 8, .inl f73)), (c2, .inl (dA 0, 4, .inl m2)), (c3, .inl (dA 0, 30, .inl m3))] H := hP
    have hD : va_D A [(t0, .inr (4, [.ref c0, .ref c1, .ref c2, .int x78, .int i1, .int i2, .int i3, .int i4, .int i5, .int i6, .ref c3, .int i7, .int i8, .int i9])), (c0, .inl (dA 0, 4096, .inl f72)), (c1, .inl (dA 0, 8, .inl f73)), (c2, .inl (dA 0, 4, .inl m2)), (c3, .inl (dA 0, 30, .inl m3))] := hD
    refine lv_iconst (v := 3) hx hb dX4_executeFlow_131 (by decide) ?_
    exact g_iret hx hb hr rfl hlocks hK (x78, i6, f72, f73, m2, m3) hP hD hS ⟨(show 0 ≤ ((3 : Int32)).toInt ∧ ((3 : Int32)).toInt ≤ 3 from by decide), (show i6.toInt ≤ i6.toInt ∧ i6.toInt ≤ i6.toInt + 1 from by omega), g74⟩ (Nat.le_of_ble_eq_true rfl) (Nat.le_of_ble_eq_true rfl) dX4_executeFlow_132
  by_cases s79 : a0 = 233
  · have g80 : a0.toInt = 233 := by rw [s79]; decide
    refine lv_lookup (off := 93) (tgt := 94) hx hb dX4_executeFlow_1 (by decide) (by rw [s79] <;> rfl) (by decide) ?_
    refine lv_aload_n hx hb dX4_executeFlow_94 rfl (lv_at hl 0 rfl) ?_
    refine lv_aload_n hx hb dX4_executeFlow_95 rfl (lv_at hl 0 rfl) ?_
    refine g_Vi (n := 0) (As := []) (rest := [.ref t0]) (wr := []) hx hb hml hg hown hK hP hD hS hA (s_X4_fetchWord l D dA t0 c0 c1 c2 i0 i1 i2 i3 i4 i5 i6 c3 i7 i8 i9 m0 m1 m2 m3 (by omega) (by omega) (by omega) (by omega) p4 _) [0, 1, 2, 3, 4] [] rfl (by decide) rfl (by decide) (by decide) 0 rfl rfl q1431 q159 q1428 q1430 q59 (by decide +kernel) ⟨(Nat.le_of_ble_eq_true rfl), (Nat.le_of_ble_eq_true rfl)⟩ rfl hl.1 rfl (Nat.le_of_ble_eq_true rfl) dX4_executeFlow_96 ⟨(Nat.le_of_ble_eq_true rfl), (Nat.le_of_ble_eq_true rfl)⟩ (fun x82 u81 H locs w83 hP hD hS => ?_)
    refine W.widen (k := 0) (n := 0) (Nat.le_of_ble_eq_true rfl) (Nat.le_of_ble_eq_true rfl) ?_
    obtain ⟨x84, rfl⟩ : ∃ z, z = u81 := ⟨_, rfl⟩
    have hP : va_P D vwC [(t0, .inr (4, [.ref c0, .ref c1, .ref c2, .int x84, .int i1, .int i2, .int i3, .int i4, .int i5, .int i6, .ref c3, .int i7, .int i8, .int i9])), (c0, .inl (dA 0, 4096, .inl m0)), (c1, .inl (dA 0, 8, .inl m1)), (c2, .inl (dA 0, 4, .inl m2)), (c3, .inl (dA 0, 30, .inl m3))] H := hP
    have hD : va_D A [(t0, .inr (4, [.ref c0, .ref c1, .ref c2, .int x84, .int i1, .int i2, .int i3, .int i4, .int i5, .int i6, .ref c3, .int i7, .int i8, .int i9])), (c0, .inl (dA 0, 4096, .inl m0)), (c1, .inl (dA 0, 8, .inl m1)), (c2, .inl (dA 0, 4, .inl m2)), (c3, .inl (dA 0, 30, .inl m3))] := hD
    refine g_Vv (n := 1) (As := [.int x82]) (rest := []) (wr := []) hx hb hml hg hown hK hP hD hS hA (s_X4_jump l D dA t0 x82 c0 c1 c2 x84 i1 i2 i3 i4 i5 i6 c3 i7 i8 i9 m0 m1 m2 m3 (by omega) (by omega) (by omega) (by omega) p4 _) [0, 1, 2, 3, 4] [] rfl (by decide) rfl (by decide) (by decide) 0 rfl rfl q1467 q159 q1464 q1466 q68 (by decide +kernel) ⟨(Nat.le_of_ble_eq_true rfl), (Nat.le_of_ble_eq_true rfl)⟩ rfl hl.1 rfl (Nat.le_of_ble_eq_true rfl) dX4_executeFlow_99 ⟨(Nat.le_of_ble_eq_true rfl), (Nat.le_of_ble_eq_true rfl)⟩ (fun u85 H locs w87 hP hD hS => ?_)
    refine W.widen (k := 0) (n := 0) (Nat.le_of_ble_eq_true rfl) (Nat.le_of_ble_eq_true rfl) ?_
    obtain ⟨x88, rfl⟩ : ∃ z, z = u85 := ⟨_, rfl⟩
    have hP : va_P D vwC [(t0, .inr (4, [.ref c0, .ref c1, .ref c2, .int x88, .int i1, .int i2, .int i3, .int i4, .int i5, .int i6, .ref c3, .int i7, .int i8, .int i9])), (c0, .inl (dA 0, 4096, .inl m0)), (c1, .inl (dA 0, 8, .inl m1)), (c2, .inl (dA 0, 4, .inl m2)), (c3, .inl (dA 0, 30, .inl m3))] H := hP
    have hD : va_D A [(t0, .inr (4, [.ref c0, .ref c1, .ref c2, .int x88, .int i1, .int i2, .int i3, .int i4, .int i5, .int i6, .ref c3, .int i7, .int i8, .int i9])), (c0, .inl (dA 0, 4096, .inl m0)), (c1, .inl (dA 0, 8, .inl m1)), (c2, .inl (dA 0, 4, .inl m2)), (c3, .inl (dA 0, 30, .inl m3))] := hD
    refine lv_iconst (v := 3) hx hb dX4_executeFlow_102 (by decide) ?_
    exact g_iret hx hb hr rfl hlocks hK (x88, i6, m0, m1, m2, m3) hP hD hS ⟨(show 0 ≤ ((3 : Int32)).toInt ∧ ((3 : Int32)).toInt ≤ 3 from by decide), (show i6.toInt ≤ i6.toInt ∧ i6.toInt ≤ i6.toInt + 1 from by omega), p4⟩ (Nat.le_of_ble_eq_true rfl) (Nat.le_of_ble_eq_true rfl) dX4_executeFlow_103
  by_cases s89 : a0 = 235
  · have g90 : a0.toInt = 235 := by rw [s89]; decide
    refine lv_lookup (off := 83) (tgt := 84) hx hb dX4_executeFlow_1 (by decide) (by rw [s89] <;> rfl) (by decide) ?_
    refine lv_aload_n hx hb dX4_executeFlow_84 rfl (lv_at hl 0 rfl) ?_
    refine lv_aload_n hx hb dX4_executeFlow_85 rfl (lv_at hl 0 rfl) ?_
    refine g_Vi (n := 0) (As := []) (rest := [.ref t0]) (wr := []) hx hb hml hg hown hK hP hD hS hA (s_X4_fetchSigned l D dA t0 c0 c1 c2 i0 i1 i2 i3 i4 i5 i6 c3 i7 i8 i9 m0 m1 m2 m3 (by omega) (by omega) (by omega) (by omega) p4 _) [0, 1, 2, 3, 4] [] rfl (by decide) rfl (by decide) (by decide) 0 rfl rfl q1435 q159 q1432 q1434 q60 (by decide +kernel) ⟨(Nat.le_of_ble_eq_true rfl), (Nat.le_of_ble_eq_true rfl)⟩ rfl hl.1 rfl (Nat.le_of_ble_eq_true rfl) dX4_executeFlow_86 ⟨(Nat.le_of_ble_eq_true rfl), (Nat.le_of_ble_eq_true rfl)⟩ (fun x92 u91 H locs w93 hP hD hS => ?_)
    refine W.widen (k := 0) (n := 0) (Nat.le_of_ble_eq_true rfl) (Nat.le_of_ble_eq_true rfl) ?_
    obtain ⟨x94, rfl⟩ : ∃ z, z = u91 := ⟨_, rfl⟩
    have hP : va_P D vwC [(t0, .inr (4, [.ref c0, .ref c1, .ref c2, .int x94, .int i1, .int i2, .int i3, .int i4, .int i5, .int i6, .ref c3, .int i7, .int i8, .int i9])), (c0, .inl (dA 0, 4096, .inl m0)), (c1, .inl (dA 0, 8, .inl m1)), (c2, .inl (dA 0, 4, .inl m2)), (c3, .inl (dA 0, 30, .inl m3))] H := hP
    have hD : va_D A [(t0, .inr (4, [.ref c0, .ref c1, .ref c2, .int x94, .int i1, .int i2, .int i3, .int i4, .int i5, .int i6, .ref c3, .int i7, .int i8, .int i9])), (c0, .inl (dA 0, 4096, .inl m0)), (c1, .inl (dA 0, 8, .inl m1)), (c2, .inl (dA 0, 4, .inl m2)), (c3, .inl (dA 0, 30, .inl m3))] := hD
    have g95 := w93
    have g95 : -128 ≤ x92.toInt ∧ x92.toInt ≤ 127 := g95
    refine g_Vv (n := 1) (As := [.int x92]) (rest := []) (wr := []) hx hb hml hg hown hK hP hD hS hA (s_X4_jump l D dA t0 x92 c0 c1 c2 x94 i1 i2 i3 i4 i5 i6 c3 i7 i8 i9 m0 m1 m2 m3 (by omega) (by omega) (by omega) (by omega) p4 _) [0, 1, 2, 3, 4] [] rfl (by decide) rfl (by decide) (by decide) 0 rfl rfl q1467 q159 q1464 q1466 q68 (by decide +kernel) ⟨(Nat.le_of_ble_eq_true rfl), (Nat.le_of_ble_eq_true rfl)⟩ rfl hl.1 rfl (Nat.le_of_ble_eq_true rfl) dX4_executeFlow_89 ⟨(Nat.le_of_ble_eq_true rfl), (Nat.le_of_ble_eq_true rfl)⟩ (fun u96 H locs w98 hP hD hS => ?_)
    refine W.widen (k := 0) (n := 0) (Nat.le_of_ble_eq_true rfl) (Nat.le_of_ble_eq_true rfl) ?_
    obtain ⟨x99, rfl⟩ : ∃ z, z = u96 := ⟨_, rfl⟩
    have hP : va_P D vwC [(t0, .inr (4, [.ref c0, .ref c1, .ref c2, .int x99, .int i1, .int i2, .int i3, .int i4, .int i5, .int i6, .ref c3, .int i7, .int i8, .int i9])), (c0, .inl (dA 0, 4096, .inl m0)), (c1, .inl (dA 0, 8, .inl m1)), (c2, .inl (dA 0, 4, .inl m2)), (c3, .inl (dA 0, 30, .inl m3))] H := hP
    have hD : va_D A [(t0, .inr (4, [.ref c0, .ref c1, .ref c2, .int x99, .int i1, .int i2, .int i3, .int i4, .int i5, .int i6, .ref c3, .int i7, .int i8, .int i9])), (c0, .inl (dA 0, 4096, .inl m0)), (c1, .inl (dA 0, 8, .inl m1)), (c2, .inl (dA 0, 4, .inl m2)), (c3, .inl (dA 0, 30, .inl m3))] := hD
    refine lv_iconst (v := 3) hx hb dX4_executeFlow_92 (by decide) ?_
    exact g_iret hx hb hr rfl hlocks hK (x99, i6, m0, m1, m2, m3) hP hD hS ⟨(show 0 ≤ ((3 : Int32)).toInt ∧ ((3 : Int32)).toInt ≤ 3 from by decide), (show i6.toInt ≤ i6.toInt ∧ i6.toInt ≤ i6.toInt + 1 from by omega), p4⟩ (Nat.le_of_ble_eq_true rfl) (Nat.le_of_ble_eq_true rfl) dX4_executeFlow_93
  by_cases s100 : a0 = 244
  · have g101 : a0.toInt = 244 := by rw [s100]; decide
    refine lv_lookup (off := 185) (tgt := 186) hx hb dX4_executeFlow_1 (by decide) (by rw [s100] <;> rfl) (by decide) ?_
    refine lv_iconst (v := 0) hx hb dX4_executeFlow_186 (by decide) ?_
    exact g_iret hx hb hr rfl hlocks hK (i0, i6, m0, m1, m2, m3) hP hD hS ⟨(show 0 ≤ ((0 : Int32)).toInt ∧ ((0 : Int32)).toInt ≤ 3 from by decide), (show i6.toInt ≤ i6.toInt ∧ i6.toInt ≤ i6.toInt + 1 from by omega), p4⟩ (Nat.le_of_ble_eq_true rfl) (Nat.le_of_ble_eq_true rfl) dX4_executeFlow_187
  have g102 : a0.toInt ≠ 154 := lv_neT s1 (by decide)
  have g103 : a0.toInt ≠ 195 := lv_neT s20 (by decide)
  have g104 : a0.toInt ≠ 203 := lv_neT s26 (by decide)
  have g105 : a0.toInt ≠ 205 := lv_neT s37 (by decide)
  have g106 : a0.toInt ≠ 226 := lv_neT s50 (by decide)
  have g107 : a0.toInt ≠ 232 := lv_neT s63 (by decide)
  have g108 : a0.toInt ≠ 233 := lv_neT s79 (by decide)
  have g109 : a0.toInt ≠ 235 := lv_neT s89 (by decide)
  have g110 : a0.toInt ≠ 244 := lv_neT s100 (by decide)
  refine lv_lookup (off := 187) (tgt := 188) hx hb dX4_executeFlow_1 (by decide) (by exact (lv_osw s1 (by decide)).trans ((lv_osw s20 (by decide)).trans ((lv_osw s26 (by decide)).trans ((lv_osw s37 (by decide)).trans ((lv_osw s50 (by decide)).trans ((lv_osw s63 (by decide)).trans ((lv_osw s79 (by decide)).trans ((lv_osw s89 (by decide)).trans ((lv_osw s100 (by decide)).trans (rfl)))))))))) (by decide) ?_
  refine lv_iconst (v := 2) hx hb dX4_executeFlow_188 (by decide) ?_
  exact g_iret hx hb hr rfl hlocks hK (i0, i6, m0, m1, m2, m3) hP hD hS ⟨(show 0 ≤ ((2 : Int32)).toInt ∧ ((2 : Int32)).toInt ≤ 3 from by decide), (show i6.toInt ≤ i6.toInt ∧ i6.toInt ≤ i6.toInt + 1 from by omega), p4⟩ (Nat.le_of_ble_eq_true rfl) (Nat.le_of_ble_eq_true rfl) dX4_executeFlow_189
